-- PURE: the host's sheets
theorem SR.sheets {bb : Ob} {tx rw rw' : Nat → Ob} {sb : Ob} {tn : Nat → Ob} {m r : Ob} (h : SR bb tx rw sb tn m) (k1 : ∀ k : Nat, k ≠ 29 → k ≠ 33 → r.1 k = m.1 k) (k3 : ∀ j, j < 24 → r.2 3 j = m.2 3 j) (k4 : ∀ j, j < 3 → r.2 4 j = m.2 4 j) (k2 : ∀ k : Nat, k ≠ 3 → k ≠ 4 → k ≠ 14 → k ≠ 15 → k ≠ 16 → k ≠ 30 → r.2 k = m.2 k) (hs : HSm rw' r) : SR bb tx rw' sb tn r := by
  obtain ⟨a, b, c, d, e, f, g, i⟩ := h
  have z := fun q (x1 : q ≠ 3) (x2 : q ≠ 4) (x3 : q ≠ 14) (x4 : q ≠ 15) (x5 : q ≠ 16) (x6 : q ≠ 30) => k2 q x1 x2 x3 x4 x5 x6
  have z1 := z 1 (by decide) (by decide) (by decide) (by decide) (by decide) (by decide)
  have z2 := z 2 (by decide) (by decide) (by decide) (by decide) (by decide) (by decide)
  have z7 := z 7 (by decide) (by decide) (by decide) (by decide) (by decide) (by decide)
  have z8 := z 8 (by decide) (by decide) (by decide) (by decide) (by decide) (by decide)
  have w0 := k1 0 (by decide) (by decide)
  have w6 := k1 6 (by decide) (by decide)
  have w9 := k1 9 (by decide) (by decide)
  have w10 := k1 10 (by decide) (by decide)
  have w11 := k1 11 (by decide) (by decide)
  refine ⟨a.same w0 w10 z1 z2 k3 k4 z7 z8, ?_, ?_, hs, ?_, fun j hj => ?_, ?_, ?_⟩
  · obtain ⟨b1, b2, b3, b4⟩ := b
    unfold XS
    rw [w9, w10]
    exact ⟨b1, b2, b3, fun t t0 t1 => (b4 t t0 t1).same z7 z8⟩
  · exact c.gen rfl w11 (by rw [w0]; exact Int.le_refl _) (by rw [w9]; exact Int.le_refl _) (z 12 (by decide) (by decide) (by decide) (by decide) (by decide) (by decide)) (z 13 (by decide) (by decide) (by decide) (by decide) (by decide) (by decide)) (fun j _ => by rw [z1]) (fun j _ => by rw [z2]) (fun t _ _ hx => hx.same z7 z8)
  · unfold PS
    rw [w6, z 5 (by decide) (by decide) (by decide) (by decide) (by decide) (by decide)]
    exact e
  · rw [z 22 (by decide) (by decide) (by decide) (by decide) (by decide) (by decide)]
    exact f j hj
  · rw [k4 0 (by decide)]
    exact g
  · rw [w0, z1]
    exact i
theorem HSm.up {rw : Nat → Ob} {m r R : Ob} {s : Nat} (h : HSm rw m) (hR : HSk R r s) (a : ∀ t, t ≠ s → r.2 14 t = m.2 14 t) (b : ∀ t, t ≠ s → r.2 15 t = m.2 15 t) (c : ∀ t i, t ≠ s → t < 4 → i < 40 → r.2 16 (40 * t + i) = m.2 16 (40 * t + i)) : HSm (va_up rw s R) r := fun t ht => by
  by_cases e : t = s
  · rw [e, up_same]
    exact hR
  · have eu : va_up rw s R t = rw t := by simp [va_up, e]
    obtain ⟨h1, h2, h3, h4⟩ := h t ht
    rw [eu]
    unfold HSk
    rw [a t e, b t e]
    exact ⟨h1, h2, h3, fun i hi => by rw [c t i e ht hi]; exact h4 i hi⟩
theorem become_row (T : Ob) (a b : Int32) : (F_X1_become T a b).1 1 = a ∧ (F_X1_become T a b).1 2 = b ∧ ∀ i, i < 40 → (F_X1_become T a b).2 0 i = 0 := by
  have k : ∀ (n : Nat) (R : Ob) (x : Int32), 0 ≤ x.toInt → x.toInt ≤ 40 → 40 < x.toInt + n → R.1 1 = a → R.1 2 = b → (∀ i, i < x.toNatClampNeg → R.2 0 i = 0) → (F_X1_become_l12 n R x).1 1 = a ∧ (F_X1_become_l12 n R x).1 2 = b ∧ ∀ i, i < 40 → (F_X1_become_l12 n R x).2 0 i = 0 := by
    intro n
    induction n with
    | zero => intro R x _ _ _; omega
    | succ n ih =>
      intro R x h0 h1 hn r1 r2 r3
      have e40 : (40 : Int32).toInt = 40 := rfl
      unfold F_X1_become_l12
      by_cases c : 40 ≤ x
      · rw [if_pos c]
        have c2 := i_le.mp c
        exact ⟨r1, r2, fun i hi => r3 i (by rw [tcn_i]; omega)⟩
      rw [if_neg c]
      have c2 := i_nle c
      have e1 : (x + 1).toInt = x.toInt + 1 := addL (k := 1) (by decide +kernel) (by omega) (by omega)
      refine ih _ _ (by omega) (by omega) (by omega) r1 r2 (fun i hi => ?_)
      rw [tcn_add h0 (by omega)] at hi
      show upd (R.2 0) x.toNatClampNeg 0 i = 0
      by_cases e : i = x.toNatClampNeg
      · rw [e, upd_s]
      · rw [upd_n _ e]
        exact r3 i (by omega)
  exact k 41 _ 0 (by decide) (by decide) (by decide) rfl rfl (fun i hi => absurd hi (Nat.not_lt_zero i))
theorem sN {p : Int32} (c : ¬ F_X6_in p 0 3 = 0) : (0 ≤ p.toInt ∧ p.toInt < 4) ∧ p.toNatClampNeg < 4 := by
  have k := in_f c
  have e0 : (0 : Int32).toInt = 0 := rfl
  have e3 : (3 : Int32).toInt = 3 := rfl
  exact ⟨by omega, by rw [tcn_i]; omega⟩
theorem sheet_l (s : Int32) (hs : 0 ≤ s.toInt ∧ s.toInt < 4) (m : Ob) : ∀ (n : Nat) (r : Ob) (x : Int32), 0 ≤ x.toInt → x.toInt ≤ 40 → 40 < x.toInt + n → r.1 = m.1 → (∀ k, k ≠ 16 → r.2 k = m.2 k) → (∀ i, i < x.toNatClampNeg → r.2 16 (40 * s.toNatClampNeg + i) = 0) → (∀ t i, t ≠ s.toNatClampNeg → t < 4 → i < 40 → r.2 16 (40 * t + i) = m.2 16 (40 * t + i)) → (F_X6_sheet_l70 n r s x).1 = 1 ∧ (F_X6_sheet_l70 n r s x).2.1 = m.1 ∧ (∀ k, k ≠ 16 → (F_X6_sheet_l70 n r s x).2.2 k = m.2 k) ∧ (∀ i, i < 40 → (F_X6_sheet_l70 n r s x).2.2 16 (40 * s.toNatClampNeg + i) = 0) ∧ (∀ t i, t ≠ s.toNatClampNeg → t < 4 → i < 40 → (F_X6_sheet_l70 n r s x).2.2 16 (40 * t + i) = m.2 16 (40 * t + i)) := by
  intro n
  induction n with
  | zero => intro r x _ _ _; omega
  | succ n ih =>
    intro r x h0 h1 hn r1 r2 r3 r4
    have e40 : (40 : Int32).toInt = 40 := rfl
    unfold F_X6_sheet_l70
    by_cases c : 40 ≤ x
    · rw [if_pos c]
      have c2 := i_le.mp c
      exact ⟨rfl, r1, r2, fun i hi => r3 i (by rw [tcn_i]; omega), r4⟩
    rw [if_neg c]
    have c2 := i_nle c
    have e1 : (x + 1).toInt = x.toInt + 1 := addL (k := 1) (by decide +kernel) (by omega) (by omega)
    have ix := i40 hs.1 hs.2 h0 (by omega)
    have hx : x.toNatClampNeg < 40 := by rw [tcn_i]; omega
    refine ih _ _ (by omega) (by omega) (by omega) r1 (fun k hk => (sA_ne _ _ hk).trans (r2 k hk)) (fun i hi => ?_) (fun t i ht ht4 hi => ?_)
    · rw [tcn_add h0 (by omega)] at hi
      show upd (r.2 16) ((40 * s) + x).toNatClampNeg 0 (40 * s.toNatClampNeg + i) = 0
      rw [ix]
      by_cases e : i = x.toNatClampNeg
      · rw [e, upd_s]
      · rw [upd_n _ (by omega)]
        exact r3 i (by omega)
    · show upd (r.2 16) ((40 * s) + x).toNatClampNeg 0 (40 * t + i) = _
      rw [ix, upd_n _ (by omega)]
      exact r4 t i ht ht4 hi
section CALLSB
variable {bb : Ob} {tx rw : Nat → Ob} {sb : Ob} {tn : Nat → Ob} {m : Ob}
theorem SR.stayR (h : SR bb tx rw sb tn m) (s : Nat) : SR bb tx (va_up rw s (rw s)) sb tn m := by
  rw [up_self]
  exact h
theorem s_sheet (h : SR bb tx rw sb tn m) (s t n : Int32) : (F_X5_sheet rw s t n).1 = (F_X6_sheet m s t n).1 ∧ SR bb tx (va_up rw s.toNatClampNeg (F_X5_sheet rw s t n).2) sb tn (F_X6_sheet m s t n).2 := by
  unfold F_X5_sheet F_X6_sheet F_X5_isSheet
  rw [isW, isW]
  by_cases c1 : F_X6_in s 0 3 = 0
  · rw [if_pos c1, if_pos c1]; exact ⟨rfl, h.stayR _⟩
  rw [if_neg c1, if_neg c1]
  by_cases c2 : F_X6_in t (-1) 2 = 0
  · rw [if_pos c2, if_pos c2]; exact ⟨rfl, h.stayR _⟩
  rw [if_neg c2, if_neg c2]
  obtain ⟨hs, hs4⟩ := sN c1
  have e0 : (0 : Int32).toInt = 0 := rfl
  have e40 : (40 : Int32).toInt = 40 := rfl
  have hgo : ∀ z : Int32, 0 ≤ z.toInt → z.toInt ≤ 40 → (F_X6_sheet_b66 (stA m 14 s t) s s z).1 = 1 ∧ SR bb tx (va_up rw s.toNatClampNeg (F_X1_become (rw s.toNatClampNeg) t z)) sb tn (F_X6_sheet_b66 (stA m 14 s t) s s z).2 := fun z z0 z1 => by
    unfold F_X6_sheet_b66
    obtain ⟨a1, a2, a3, a4, a5⟩ := sheet_l s hs (stA (stA m 14 s t) 15 s z) 41 (stA (stA m 14 s t) 15 s z) 0 (by decide) (by decide) (by decide) rfl (fun k _ => rfl) (fun i hi => absurd hi (Nat.not_lt_zero i)) (fun t i _ _ _ => rfl)
    obtain ⟨b1, b2, b3⟩ := become_row (rw s.toNatClampNeg) t z
    refine ⟨a1, h.sheets (fun k _ _ => congrFun a2 k) (fun j _ => congrFun (a3 3 (by decide)) j) (fun j _ => congrFun (a3 4 (by decide)) j) (fun k k3 k4 k14 k15 k16 k30 => (a3 k k16).trans ((sA_ne _ _ k15).trans (sA_ne _ _ k14))) (h.hs.up ⟨?_, ?_, ?_, fun i hi => ?_⟩ (fun q hq => ?_) (fun q hq => ?_) (fun q i hq hq4 hi => a5 q i hq hq4 hi))⟩
    · rw [a3 14 (by decide), b1]
      exact (upd_s _).symm
    · rw [a3 15 (by decide), b2]
      exact (upd_s _).symm
    · rw [a3 15 (by decide)]
      show 0 ≤ (upd (m.2 15) s.toNatClampNeg z s.toNatClampNeg).toInt ∧ (upd (m.2 15) s.toNatClampNeg z s.toNatClampNeg).toInt ≤ 40
      rw [upd_s]
      exact ⟨z0, z1⟩
    · rw [b3 i hi, a4 i hi]
    · rw [a3 14 (by decide)]
      exact upd_n _ hq
    · rw [a3 15 (by decide)]
      exact upd_n _ hq
  unfold F_X5_sheet_c32 F_X5_sheet_c61 F_X6_sheet_b32 F_X6_sheet_b44
  by_cases c3 : t = -1
  · simp only [if_pos c3]
    obtain ⟨g1, g2⟩ := hgo 0 (by decide) (by decide)
    exact ⟨g1.symm, g2⟩
  simp only [if_neg c3]
  by_cases c4 : n ≤ 40
  · rw [if_pos c4, if_pos c4]
    by_cases c5 : 0 ≤ n
    · rw [if_pos c5, if_pos c5]
      obtain ⟨g1, g2⟩ := hgo n (by have := i_le.mp c5; omega) (by have := i_le.mp c4; omega)
      exact ⟨g1.symm, g2⟩
    · rw [if_neg c5, if_neg c5]; exact ⟨rfl, h.stayR _⟩
  · rw [if_neg c4, if_neg c4]; exact ⟨rfl, h.stayR _⟩
theorem missing_eq (h : SR bb tx rw sb tn m) {s : Int32} (hs4 : s.toNatClampNeg < 4) : F_X1_isMissing (rw s.toNatClampNeg) = (if m.2 14 s.toNatClampNeg = -1 then 1 else 0) := by
  obtain ⟨g1, g2, g3, g4⟩ := h.hs _ hs4
  unfold F_X1_isMissing
  rw [g1]
theorem s_cell (h : SR bb tx rw sb tn m) (s i v : Int32) : (F_X5_cell rw s i v).1 = (F_X6_cell m s i v).1 ∧ SR bb tx (va_up rw s.toNatClampNeg (F_X5_cell rw s i v).2) sb tn (F_X6_cell m s i v).2 := by
  unfold F_X5_cell F_X6_cell F_X5_isSheet
  rw [isW]
  by_cases c1 : F_X6_in s 0 3 = 0
  · rw [if_pos c1, if_pos c1]; exact ⟨rfl, h.stayR _⟩
  rw [if_neg c1, if_neg c1]
  obtain ⟨hs, hs4⟩ := sN c1
  rw [missing_eq h hs4]
  obtain ⟨g1, g2, g3, g4⟩ := h.hs _ hs4
  by_cases c2 : m.2 14 s.toNatClampNeg = -1
  · rw [if_pos c2, if_neg n10, if_pos c2]; exact ⟨rfl, h.stayR _⟩
  rw [if_neg c2, if_pos z00, if_neg c2]
  have e0 : (0 : Int32).toInt = 0 := rfl
  have e1i : (1 : Int32).toInt = 1 := rfl
  have e40 : (40 : Int32).toInt = 40 := rfl
  have es : (m.2 15 s.toNatClampNeg - 1).toInt = (m.2 15 s.toNatClampNeg).toInt - 1 := subL (k := 1) (by decide +kernel) (by omega) (by omega)
  by_cases c3 : 0 ≤ i.toInt ∧ i.toInt < (m.2 15 s.toNatClampNeg).toInt
  · have hin : ¬ F_X6_in i 0 (m.2 15 s.toNatClampNeg - 1) = 0 := by
      unfold F_X6_in
      rw [if_neg (fun z => by have := i_lt.mp z; omega), if_neg (fun z => by have := i_lt.mp z; omega)]
      decide
    have ei : (m.2 15 s.toNatClampNeg - i).toInt = (m.2 15 s.toNatClampNeg).toInt - i.toInt := fb_subI (by omega) (by omega)
    have hh : F_X1_has (rw s.toNatClampNeg) i 1 = 1 := by
      unfold F_X1_has
      rw [g2, if_neg (fun z => by have := i_lt.mp z; omega), if_neg (by decide), if_neg (fun z => by have := i_lt.mp z; omega), if_neg (fun z => by have := i_lt.mp z; omega)]
    rw [hh, if_neg n10, if_neg hin]
    unfold F_X5_cell_c46 F_X1_write F_X1_write_b42 F_X6_cell_b84
    rw [g1, if_neg (fun z => by have := i_lt.mp z; omega), if_pos (show i < 40 from i_lt.mpr (by omega))]
    have ix := i40 hs.1 hs.2 c3.1 (by omega)
    have hx : i.toNatClampNeg < 40 := by rw [tcn_i]; omega
    have hgo : ∀ w : Int32, SR bb tx (va_up rw s.toNatClampNeg (stA (rw s.toNatClampNeg) 0 i w)) sb tn (stA m 16 ((40 * s) + i) w) := fun w => by
      refine h.sheets (fun _ _ _ => rfl) (fun _ _ => rfl) (fun _ _ => rfl) (fun k _ _ _ _ k16 _ => sA_ne _ _ k16) (h.hs.up ⟨g1, g2, g3, fun j hj => ?_⟩ (fun _ _ => rfl) (fun _ _ => rfl) (fun t j ht ht4 hj => ?_))
      · show upd ((rw s.toNatClampNeg).2 0) i.toNatClampNeg w j = upd (m.2 16) ((40 * s) + i).toNatClampNeg w (40 * s.toNatClampNeg + j)
        rw [ix]
        by_cases e : j = i.toNatClampNeg
        · rw [e, upd_s, upd_s]
        · rw [upd_n _ e, upd_n _ (by omega)]
          exact g4 j hj
      · show upd (m.2 16) ((40 * s) + i).toNatClampNeg w (40 * t + j) = _
        rw [ix, upd_n _ (by omega)]
    by_cases d0 : m.2 14 s.toNatClampNeg = 0
    · rw [if_pos d0, if_pos d0]; exact ⟨rfl, hgo _⟩
    rw [if_neg d0, if_neg d0]
    by_cases d1 : m.2 14 s.toNatClampNeg = 1
    · rw [if_pos d1, if_pos d1]; exact ⟨rfl, hgo _⟩
    rw [if_neg d1, if_neg d1]
    exact ⟨rfl, hgo _⟩
  · have hin : F_X6_in i 0 (m.2 15 s.toNatClampNeg - 1) = 0 := by
      unfold F_X6_in
      by_cases z : i < 0
      · rw [if_pos z]
      · have := i_nlt z
        rw [if_neg z, if_pos (i_lt.mpr (by omega))]
    have hh : F_X1_has (rw s.toNatClampNeg) i 1 = 0 := by
      unfold F_X1_has
      rw [g2]
      by_cases z : i < 0
      · rw [if_pos z]
      · have z2 := i_nlt z
        rw [if_neg z, if_neg (by decide)]
        by_cases y : m.2 15 s.toNatClampNeg < i
        · rw [if_pos y]
        · have y2 := i_nlt y
          have ei : (m.2 15 s.toNatClampNeg - i).toInt = (m.2 15 s.toNatClampNeg).toInt - i.toInt := fb_subI (by omega) (by omega)
          rw [if_neg y, if_pos (i_lt.mpr (by omega))]
    rw [hh, if_pos z00, if_pos hin]
    exact ⟨rfl, h.stayR _⟩
end CALLSB
