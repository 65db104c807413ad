-- PURE: told strokes about one of the people, and laws
theorem upd_u (f : Nat → Int32) (k : Nat) (v w : Int32) : upd (upd f k v) k w = upd f k w := by
  funext j
  by_cases c : j = k
  · rw [c, upd_s, upd_s]
  · rw [upd_n _ c, upd_n _ c, upd_n _ c]
theorem upd_id (f : Nat → Int32) (k : Nat) : upd f k (f k) = f := by
  funext j
  by_cases c : j = k
  · rw [c, upd_s]
  · rw [upd_n _ c]
theorem sM_k {m r : Ob} {p : Int32} (a b a' b' : Int32) (h : sM (stA (stA m 1 p a) 2 p b) r) : sM (stA (stA m 1 p a') 2 p b') (stA (stA r 1 p a') 2 p b') := by
  obtain ⟨x, y, z, w⟩ := h
  have w1 : r.2 1 = upd (m.2 1) p.toNatClampNeg a := w 1 (by decide) (by decide) (by decide) (by decide) (by decide)
  have w2 : r.2 2 = upd (m.2 2) p.toNatClampNeg b := w 2 (by decide) (by decide) (by decide) (by decide) (by decide)
  refine ⟨x, y, z, fun k k3 k4 k30 k31 k32 => ?_⟩
  by_cases e2 : k = 2
  · subst e2
    show upd (r.2 2) p.toNatClampNeg b' = upd (m.2 2) p.toNatClampNeg b'
    rw [w2, upd_u]
  · by_cases e1 : k = 1
    · subst e1
      show upd (r.2 1) p.toNatClampNeg a' = upd (m.2 1) p.toNatClampNeg a'
      rw [w1, upd_u]
    · rw [sA_ne _ _ e2, sA_ne _ _ e1, sA_ne _ _ e2, sA_ne _ _ e1]
      have q := w k k3 k4 k30 k31 k32
      rw [sA_ne _ _ e2, sA_ne _ _ e1] at q
      exact q
theorem sM_k2 {m : Ob} {p : Int32} (a : Int32) : sM (stA m 1 p a) (stA (stA m 1 p a) 2 p ((m.2 2) (Int32.toNatClampNeg p))) := ⟨fun _ _ _ => rfl, fun _ _ => rfl, fun _ _ => rfl, fun k _ _ _ _ _ => by
  by_cases e2 : k = 2
  · subst e2
    show upd (m.2 2) p.toNatClampNeg ((m.2 2) p.toNatClampNeg) = m.2 2
    exact upd_id _ _
  · exact sA_ne _ _ e2⟩
theorem sM_k1 {m : Ob} {p : Int32} (b : Int32) : sM (stA m 2 p b) (stA (stA m 1 p ((m.2 1) (Int32.toNatClampNeg p))) 2 p b) := ⟨fun _ _ _ => rfl, fun _ _ => rfl, fun _ _ => rfl, fun k _ _ _ _ _ => by
  by_cases e2 : k = 2
  · subst e2
    rfl
  · rw [sA_ne _ _ e2, sA_ne _ _ e2]
    by_cases e1 : k = 1
    · subst e1
      show upd (m.2 1) p.toNatClampNeg ((m.2 1) p.toNatClampNeg) = m.2 1
      exact upd_id _ _
    · exact sA_ne _ _ e1⟩
theorem sM_k0 {m : Ob} {p : Int32} : sM m (stA (stA m 1 p ((m.2 1) (Int32.toNatClampNeg p))) 2 p ((m.2 2) (Int32.toNatClampNeg p))) := by
  have h1 : sM m (stA m 1 p ((m.2 1) (Int32.toNatClampNeg p))) := ⟨fun _ _ _ => rfl, fun _ _ => rfl, fun _ _ => rfl, fun k _ _ _ _ _ => by
    by_cases e1 : k = 1
    · subst e1
      show upd (m.2 1) p.toNatClampNeg ((m.2 1) p.toNatClampNeg) = m.2 1
      exact upd_id _ _
    · exact sA_ne _ _ e1⟩
  exact h1.trans (sM_k2 _)
theorem sM_r3 {m r : Ob} {i : Int32} (w v : Int32) (h : sM (stA m 3 i w) r) : sM (stA m 3 i v) (stA r 3 i v) := by
  obtain ⟨a, b, c, d⟩ := h
  refine ⟨a, fun j hj => ?_, c, fun z z1 z2 z3 z4 z5 => (sA_ne _ _ z1).trans ((d z z1 z2 z3 z4 z5).trans ((sA_ne _ _ z1).trans (sA_ne _ _ z1).symm))⟩
  have bj : ∀ j, j < 24 → r.2 3 j = upd (m.2 3) i.toNatClampNeg w j := b
  show upd (r.2 3) i.toNatClampNeg v j = upd (m.2 3) i.toNatClampNeg v j
  by_cases e : j = i.toNatClampNeg
  · rw [e, upd_s, upd_s]
  · rw [upd_n _ e, upd_n _ e, bj j hj, upd_n _ e]
theorem sM_r3r {m : Ob} {i : Int32} : sM (stA m 3 i ((m.2 3) (Int32.toNatClampNeg i))) m := ⟨fun _ _ _ => rfl, fun j _ => by
  show m.2 3 j = upd (m.2 3) i.toNatClampNeg ((m.2 3) i.toNatClampNeg) j
  rw [upd_id], fun _ _ => rfl, fun z z1 _ _ _ _ => (sA_ne _ _ z1).symm⟩
theorem sM_s10 {m r : Ob} (w v : Int32) (h : sM (setS m 10 w) r) : sM (setS m 10 v) (setS r 10 v) := by
  obtain ⟨a, b, c, d⟩ := h
  refine ⟨fun k k1 k2 => ?_, b, c, d⟩
  by_cases e : k = 10
  · subst e
    rfl
  · rw [s_ne _ e, s_ne _ e, a k k1 k2, s_ne _ e]
theorem sM_s10r {m : Ob} : sM (setS m 10 (m.1 10)) m := ⟨fun k _ _ => by
  by_cases e : k = 10
  · subst e
    rfl
  · rw [s_ne _ e], fun _ _ => rfl, fun _ _ => rfl, fun _ _ _ _ _ _ => rfl⟩
theorem TR.law {T m : Ob} {tx : Nat → Ob} (h : TR tx T m) {p : Int32} (h0 : 0 ≤ p.toInt) (h1 : p.toInt ≤ 5) (hX : XR (tx p.toNatClampNeg) m p) : TR tx (F_X4_obey T p.toNatClampNeg p) (setS m 10 p) := by
  obtain ⟨a, b, c, d, e, f, g, i⟩ := h
  exact ⟨a, b, ⟨rfl, nI_tcn h0, h0, h1⟩, hX, e, f, g, i⟩
section CALLS6
variable {bb : Ob} {tx rw : Nat → Ob} {sb : Ob} {tn : Nat → Ob} {m : Ob}
theorem about_eq (h : SR bb tx rw sb tn m) (p q s : Int32) {X : Ob} : F_X5_refusalOfToldAbout rw (va_up tn 1 X) p q s = (if F_X6_sheetWrong m p = 0 then (if F_X6_isOne m q = 0 then -5 else if F_X6_in s 0 1 = 0 then -7 else 0) else F_X6_sheetWrong m p) := by
  unfold F_X5_refusalOfToldAbout
  rw [sheetWrong_eq h.hs, isW]
  have e : F_X4_has ((va_up tn 1 X) 0) q = F_X4_has (tn 0) q := rfl
  rw [e]
  rcases h.1.dec q with ⟨hp, e1, e2⟩ | ⟨hp, e1, e2⟩
  · rw [e1, e2]
  · rw [e1, e2]
theorem s_laws (h : SR bb tx rw sb tn m) (p : Int32) : (F_X5_laws tx rw tn bb p).1 = (F_X6_laws m p).1 ∧ sM m (F_X6_laws m p).2 := by
  unfold F_X5_laws F_X6_laws
  rw [sheetWrong_eq h.hs]
  by_cases c : F_X6_sheetWrong m p = 0
  · rw [if_pos c, if_pos c]
    have hp := sw_in c
    obtain ⟨b1, b2, b3, b4⟩ := h.2.1
    have k : ∀ (n : Nat) (X r : Ob) (w x4 x5 : Int32), sM (setS m 10 w) r → 0 ≤ x5.toInt → x5.toInt ≤ 6 → 6 < x5.toInt + n → (F_X5_laws_l17 n tx rw tn bb X p x4 x5).1 = (F_X6_laws_l23 n r p (m.1 10) x4 x5).1 ∧ sM m (F_X6_laws_l23 n r p (m.1 10) x4 x5).2 := by
      intro n
      induction n with
      | zero => intro X r w x4 x5 hr h0 h1 hn; omega
      | succ n ih =>
        intro X r w x4 x5 hr h0 h1 hn
        unfold F_X5_laws_l17 F_X6_laws_l23
        have e9 : r.1 9 = m.1 9 := hr.1 9 (by decide) (by decide)
        have e6 : (6 : Int32).toInt = 6 := rfl
        rw [b1, e9]
        by_cases d : m.1 9 ≤ x5
        · rw [if_pos d, if_pos d]
          exact ⟨rfl, sM_s10r.symm.trans (sM_s10 w _ hr)⟩
        rw [if_neg d, if_neg d]
        have d2 := i_nle d
        rw [if_neg (show ¬ 6 ≤ x5 from fun z => by have := i_le.mp z; omega)]
        have e1 : (x5 + 1).toInt = x5.toInt + 1 := addL (k := 1) (by decide +kernel) (by omega) (by omega)
        have hr2 := sM_s10 w x5 hr
        have ht : TR tx (F_X4_obey (F_X5_startThought (va_up tn 1 X)) x5.toNatClampNeg x5) (setS r 10 x5) := ((h.1.thought X).law h0 (by omega) (b4 x5 h0 d2)).sM hr2
        have hsr : HSm rw (setS r 10 x5) := (h.hs.same (r := setS m 10 x5) rfl rfl rfl).sM hr2
        obtain ⟨u1, u2⟩ := unlike_eq ht hsr hp
        have hb := hr2.trans u2
        unfold F_X5_laws_c34 F_X5_laws_c50 F_X5_laws_c57 F_X6_laws_c42 F_X5_laws_b71 F_X6_laws_b57
        rw [u1]
        split
        · exact ih _ _ _ _ _ hb (by omega) (by omega) (by omega)
        · rw [Int32.or_zero]
          exact ih _ _ _ _ _ hb (by omega) (by omega) (by omega)
    exact k 7 (tn 1) m _ 0 0 sM_s10r (by decide) (by decide) (by decide)
  · rw [if_neg c, if_neg c]
    exact ⟨rfl, sM.refl⟩
theorem s_nerves (h : SR bb tx rw sb tn m) (p q s : Int32) : (F_X5_nerves tx rw tn p q s).1 = (F_X6_nerves m p q s).1 ∧ sM m (F_X6_nerves m p q s).2 := by
  unfold F_X5_nerves F_X6_nerves
  rw [about_eq h]
  by_cases c : F_X6_sheetWrong m p = 0
  · rw [if_pos c, if_pos c]
    rcases h.1.dec q with ⟨hq, e1, e2⟩ | ⟨hq, e1, e2⟩
    · rw [e2, if_neg n10, if_neg n10]
      by_cases c3 : F_X6_in s 0 1 = 0
      · rw [if_pos c3, if_pos c3, if_neg (show ¬ (-7 : Int32) = 0 by decide)]
        exact ⟨rfl, sM.refl⟩
      rw [if_neg c3, if_neg c3, if_pos z00]
      have hp := sw_in c
      have k : ∀ (n : Nat) (X r : Ob) (w x6 x7 x8 : Int32), sM (stA m 3 (4 * q) w) r → 0 ≤ x8.toInt → x8.toInt ≤ 100 → 100 < x8.toInt + n → (F_X5_nerves_l26 n tx rw tn X p q s x6 x7 x8).1 = (F_X6_nerves_l57 n r p q s ((m.2 3) (Int32.toNatClampNeg (4 * q))) x6 x7 x8).1 ∧ sM m (F_X6_nerves_l57 n r p q s ((m.2 3) (Int32.toNatClampNeg (4 * q))) x6 x7 x8).2 := by
        intro n
        induction n with
        | zero => intro X r w x6 x7 x8 hr h0 h1 hn; omega
        | succ n ih =>
          intro X r w x6 x7 x8 hr h0 h1 hn
          unfold F_X5_nerves_l26 F_X6_nerves_l57
          have e99 : (99 : Int32).toInt = 99 := rfl
          by_cases d : 99 < x8
          · rw [if_pos d, if_pos d]
            have hz := sM_r3r.symm.trans (sM_r3 (i := 4 * q) w ((m.2 3) (Int32.toNatClampNeg (4 * q))) hr)
            by_cases s0 : s = 0
            · rw [if_pos s0, if_pos s0]
              exact ⟨rfl, hz⟩
            · rw [if_neg s0, if_neg s0]
              exact ⟨rfl, hz⟩
          rw [if_neg d, if_neg d]
          have d2 := i_nlt d
          have e1 : (x8 + 1).toInt = x8.toInt + 1 := addL (k := 1) (by decide +kernel) (by omega) (by omega)
          have hr2 := sM_r3 (i := 4 * q) w x8 hr
          have ht : TR tx (stA (F_X5_startThought (va_up tn 1 X)) 2 q x8) (stA r 3 (4 * q) x8) := ((h.1.thought X).up2 hq x8).sM hr2
          have hsr : HSm rw (stA r 3 (4 * q) x8) := (h.hs.same (r := stA m 3 (4 * q) x8) rfl rfl rfl).sM hr2
          obtain ⟨u1, u2⟩ := unlike_eq ht hsr hp
          have hb := hr2.trans u2
          unfold F_X5_nerves_c34 F_X5_nerves_c52 F_X6_nerves_c76 F_X6_nerves_b88 F_X6_nerves_b102 F_X6_nerves_b121 F_X6_nerves_b123 F_X5_nerves_b75 F_X5_nerves_b77
          rw [u1]
          by_cases g : (F_X6_unlike (stA r 3 (4 * q) x8) p).1 = -1
          · rw [if_pos g, if_pos g]
            simp only [if_neg n10]
            by_cases g7 : x7 = -1
            · simp only [if_pos g7]
              exact ih _ _ _ _ _ _ hb (by omega) (by omega) (by omega)
            · simp only [if_neg g7]
              exact ih _ _ _ _ _ _ hb (by omega) (by omega) (by omega)
          · rw [if_neg g, if_neg g]
            simp only [if_true, Int32.add_zero]
            exact ih _ _ _ _ _ _ hb (by omega) (by omega) (by omega)
      exact k 101 (tn 1) m _ 0 (-1) 0 sM_r3r (by decide) (by decide) (by decide)
    · rw [e2, if_pos z00, if_pos z00, if_neg (show ¬ (-5 : Int32) = 0 by decide)]
      exact ⟨rfl, sM.refl⟩
  · rw [if_neg c, if_neg c, if_neg c]
    exact ⟨rfl, sM.refl⟩
theorem s_kinds (h : SR bb tx rw sb tn m) (p q s : Int32) : (F_X5_kinds tx rw tn p q s).1 = (F_X6_kinds m p q s).1 ∧ sM m (F_X6_kinds m p q s).2 := by
  unfold F_X5_kinds F_X6_kinds
  rw [about_eq h]
  by_cases c : F_X6_sheetWrong m p = 0
  · rw [if_pos c, if_pos c]
    rcases h.1.dec q with ⟨hq, e1, e2⟩ | ⟨hq, e1, e2⟩
    · rw [e2, if_neg n10, if_neg n10]
      by_cases c3 : F_X6_in s 0 1 = 0
      · rw [if_pos c3, if_pos c3, if_neg (show ¬ (-7 : Int32) = 0 by decide)]
        exact ⟨rfl, sM.refl⟩
      rw [if_neg c3, if_neg c3, if_pos z00]
      have hp := sw_in c
      have hs01 : s = 0 ∨ s = 1 := by
        have z := in_f c3
        have e0 : (0 : Int32).toInt = 0 := rfl
        have e1 : (1 : Int32).toInt = 1 := rfl
        rcases (show s.toInt = 0 ∨ s.toInt = 1 by omega) with y | y
        · exact Or.inl (eq_of_toInt 0 rfl y)
        · exact Or.inr (eq_of_toInt 1 rfl y)
      have hend : ∀ (a b : Int32) (r : Ob), sM (stA (stA m 1 q a) 2 q b) r → sM m (stA (stA r 1 q ((m.2 1) (Int32.toNatClampNeg q))) 2 q ((m.2 2) (Int32.toNatClampNeg q))) := fun a b r hr => sM_k0.trans (sM_k a b _ _ hr)
      rcases hs01 with rfl | rfl
      · rw [if_pos rfl]
        have k : ∀ (n : Nat) (X r : Ob) (a b x7 x8 : Int32), sM (stA (stA m 1 q a) 2 q b) r → 0 ≤ x8.toInt → x8.toInt ≤ 6 → 10 < x8.toInt + n → (F_X5_kinds_l36 n tx rw tn X p q 0 x7 6 x8).1 = (F_X6_kinds_l60 n r p q 0 ((m.2 1) (Int32.toNatClampNeg q)) ((m.2 2) (Int32.toNatClampNeg q)) x7 x8).1 ∧ sM m (F_X6_kinds_l60 n r p q 0 ((m.2 1) (Int32.toNatClampNeg q)) ((m.2 2) (Int32.toNatClampNeg q)) x7 x8).2 := by
          intro n
          induction n with
          | zero => intro X r a b x7 x8 hr h0 h1 hn; omega
          | succ n ih =>
            intro X r a b x7 x8 hr h0 h1 hn
            unfold F_X5_kinds_l36 F_X6_kinds_l60 F_X6_kinds_b73
            have e6 : (6 : Int32).toInt = 6 := rfl
            rw [if_pos z00]
            by_cases d : 6 ≤ x8
            · rw [if_pos d, if_pos d]
              exact ⟨rfl, hend a b r hr⟩
            rw [if_neg d, if_neg d, if_pos z00]
            have d2 := i_nle d
            have e1 : (x8 + 1).toInt = x8.toInt + 1 := addL (k := 1) (by decide +kernel) (by omega) (by omega)
            unfold F_X5_kinds_c44 F_X6_kinds_b92
            rw [if_pos z00, if_neg (show ¬ (0 : Int32) = 1 by decide)]
            have hr2 := sM_k a b x8 ((m.2 2) (Int32.toNatClampNeg q)) hr
            have ht : TR tx (stA (F_X5_startThought (va_up tn 1 X)) 0 q x8) (stA (stA r 1 q x8) 2 q ((m.2 2) (Int32.toNatClampNeg q))) := (((h.1.thought X).up0 (p := q) x8).sM (sM_k2 x8)).sM hr2
            have hsr : HSm rw (stA (stA r 1 q x8) 2 q ((m.2 2) (Int32.toNatClampNeg q))) := (h.hs.same (r := stA (stA m 1 q x8) 2 q ((m.2 2) (Int32.toNatClampNeg q))) rfl rfl rfl).sM hr2
            obtain ⟨u1, u2⟩ := unlike_eq ht hsr hp
            have hb := hr2.trans u2
            unfold F_X5_kinds_b74 F_X6_kinds_b110 F_X5_kinds_c78 F_X6_kinds_c115 F_X5_kinds_b94 F_X6_kinds_b130
            rw [u1]
            split
            · exact ih _ _ _ _ _ _ hb (by omega) (by omega) (by omega)
            · rw [Int32.or_zero]
              exact ih _ _ _ _ _ _ hb (by omega) (by omega) (by omega)
        exact k 11 (tn 1) m _ _ 0 0 sM_k0.symm (by decide) (by decide) (by decide)
      · rw [if_neg n10]
        have k : ∀ (n : Nat) (X r : Ob) (a b x7 x8 : Int32), sM (stA (stA m 1 q a) 2 q b) r → 0 ≤ x8.toInt → x8.toInt ≤ 10 → 10 < x8.toInt + n → (F_X5_kinds_l36 n tx rw tn X p q 1 x7 10 x8).1 = (F_X6_kinds_l60 n r p q 1 ((m.2 1) (Int32.toNatClampNeg q)) ((m.2 2) (Int32.toNatClampNeg q)) x7 x8).1 ∧ sM m (F_X6_kinds_l60 n r p q 1 ((m.2 1) (Int32.toNatClampNeg q)) ((m.2 2) (Int32.toNatClampNeg q)) x7 x8).2 := by
          intro n
          induction n with
          | zero => intro X r a b x7 x8 hr h0 h1 hn; omega
          | succ n ih =>
            intro X r a b x7 x8 hr h0 h1 hn
            unfold F_X5_kinds_l36 F_X6_kinds_l60 F_X6_kinds_b73
            have e6 : (10 : Int32).toInt = 10 := rfl
            rw [if_neg n10]
            by_cases d : 10 ≤ x8
            · rw [if_pos d, if_pos d]
              exact ⟨rfl, hend a b r hr⟩
            rw [if_neg d, if_neg d, if_neg n10]
            have d2 := i_nle d
            have e1 : (x8 + 1).toInt = x8.toInt + 1 := addL (k := 1) (by decide +kernel) (by omega) (by omega)
            unfold F_X5_kinds_c44 F_X6_kinds_b92
            rw [if_neg n10, if_pos (show (1 : Int32) = 1 from rfl)]
            have hr2 := sM_k a b ((m.2 1) (Int32.toNatClampNeg q)) x8 hr
            have ht : TR tx (stA (F_X5_startThought (va_up tn 1 X)) 1 q x8) (stA (stA r 1 q ((m.2 1) (Int32.toNatClampNeg q))) 2 q x8) := (((h.1.thought X).up1 (p := q) (v := x8) ⟨h0, by omega⟩).sM (sM_k1 x8)).sM hr2
            have hsr : HSm rw (stA (stA r 1 q ((m.2 1) (Int32.toNatClampNeg q))) 2 q x8) := (h.hs.same (r := stA (stA m 1 q ((m.2 1) (Int32.toNatClampNeg q))) 2 q x8) rfl rfl rfl).sM hr2
            obtain ⟨u1, u2⟩ := unlike_eq ht hsr hp
            have hb := hr2.trans u2
            unfold F_X5_kinds_b74 F_X6_kinds_b110 F_X5_kinds_c78 F_X6_kinds_c115 F_X5_kinds_b94 F_X6_kinds_b130
            rw [u1]
            split
            · exact ih _ _ _ _ _ _ hb (by omega) (by omega) (by omega)
            · rw [Int32.or_zero]
              exact ih _ _ _ _ _ _ hb (by omega) (by omega) (by omega)
        exact k 11 (tn 1) m _ _ 0 0 sM_k0.symm (by decide) (by decide) (by decide)
    · rw [e2, if_pos z00, if_pos z00, if_neg (show ¬ (-5 : Int32) = 0 by decide)]
      exact ⟨rfl, sM.refl⟩
  · rw [if_neg c, if_neg c, if_neg c]
    exact ⟨rfl, sM.refl⟩
end CALLS6
