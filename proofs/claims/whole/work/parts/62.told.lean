-- PURE: told strokes
/-- a sheet is the same in both -/
def HSm (rw : Nat → Ob) (m : Ob) : Prop := ∀ s : Nat, s < 4 → HSk (rw s) m s
theorem HSm.same {rw : Nat → Ob} {m r : Ob} (h : HSm rw m) (a : r.2 14 = m.2 14) (b : r.2 15 = m.2 15) (c : r.2 16 = m.2 16) : HSm rw r := fun s hs => by
  unfold HSk
  rw [a, b, c]
  exact h s hs
theorem HSm.sM {rw : Nat → Ob} {m r : Ob} (h : HSm rw m) (k : sM m r) : HSm rw r := h.same (k.2.2.2 14 (by decide) (by decide) (by decide) (by decide) (by decide)) (k.2.2.2 15 (by decide) (by decide) (by decide) (by decide) (by decide)) (k.2.2.2 16 (by decide) (by decide) (by decide) (by decide) (by decide))
theorem i40 {s x : Int32} (h0 : 0 ≤ s.toInt) (h1 : s.toInt < 4) (h2 : 0 ≤ x.toInt) (h3 : x.toInt < 40) : ((40 * s) + x).toNatClampNeg = 40 * s.toNatClampNeg + x.toNatClampNeg := by
  have e4 : (40 * s).toInt = 40 * s.toInt := mulL (k := 40) (by decide +kernel) (by omega) (by omega)
  have e1 : ((40 * s) + x).toInt = (40 * s).toInt + x.toInt := fb_addI (by omega) (by omega)
  simp only [tcn_i]
  omega
theorem unlike_eq {tx rw : Nat → Ob} {T r : Ob} (h : TR tx T r) (hs : HSm rw r) {s : Int32} (s0 : 0 ≤ s.toInt ∧ s.toInt ≤ 3) : (F_X5_firstOtherwise tx rw T s).1 = (F_X6_unlike r s).1 ∧ sM r (F_X6_unlike r s).2 := by
  have hk := hs s.toNatClampNeg (by rw [tcn_i]; omega)
  obtain ⟨g1, g2, g3, g4⟩ := hk
  have k : ∀ (n : Nat) (T q : Ob) (x : Int32), TR tx T q → hK (F_X6_keeps r) q → 0 ≤ x.toInt → x.toInt ≤ 40 → 40 < x.toInt + n → (F_X5_firstOtherwise_l10 n tx rw T s x).1 = (F_X6_unlike_l8 n q s (-1) x).1 ∧ sM r (F_X6_unlike_l8 n q s (-1) x).2 := by
    intro n
    induction n with
    | zero => intro T q x _ _ _ _ _; omega
    | succ n ih =>
      intro T q x ht hq h0 h1 hn
      have e15 : q.2 15 = r.2 15 := (hq.2 15 (by decide) (by decide) (by decide) (by decide)).trans ((keeps_all r).2.2.2 15 (by decide))
      have e16 : q.2 16 = r.2 16 := (hq.2 16 (by decide) (by decide) (by decide) (by decide)).trans ((keeps_all r).2.2.2 16 (by decide))
      have e40 : (40 : Int32).toInt = 40 := rfl
      unfold F_X5_firstOtherwise_l10 F_X6_unlike_l8
      rw [g2, e15]
      by_cases c : r.2 15 s.toNatClampNeg ≤ x
      · rw [if_pos c, if_pos c]
        exact ⟨rfl, sM_round hq⟩
      have c2 := i_nle c
      rw [if_neg c, if_neg c, if_neg (show ¬ 40 ≤ x from fun z => by have := i_le.mp z; omega), if_pos rfl]
      have e1 : (x + 1).toInt = x.toInt + 1 := addL (k := 1) (by decide +kernel) (by omega) (by omega)
      obtain ⟨u1, u2, _⟩ := hour_eq ht
      have hq2 : hK (F_X6_keeps r) (F_X6_hourOf q).2 := hq.trans (hourOf_hK q)
      have hx : x.toNatClampNeg < 40 := by rw [tcn_i]; omega
      unfold F_X5_firstOtherwise_c31 F_X6_unlike_c35 F_X6_unlike_b46
      rw [u1, e16, i40 s0.1 (by omega) h0 (by omega), g4 _ hx]
      by_cases d : (F_X6_hourOf q).1 = r.2 16 (40 * s.toNatClampNeg + x.toNatClampNeg)
      · rw [if_pos d, if_pos d.symm]
        exact ih _ _ _ u2 hq2 (by omega) (by omega) (by omega)
      · rw [if_neg d, if_neg (fun z => d z.symm)]
        have hne : ¬ x = -1 := fun z => by
          subst z
          exact absurd h0 (by decide)
        obtain ⟨n, rfl⟩ : ∃ z, n = z + 1 := ⟨n - 1, by omega⟩
        have e15' : (F_X6_hourOf q).2.2 15 = r.2 15 := (hq2.2 15 (by decide) (by decide) (by decide) (by decide)).trans ((keeps_all r).2.2.2 15 (by decide))
        have e : F_X6_unlike_l8 (n + 1) (F_X6_hourOf q).2 s x (x + 1) = F_X6_unlike_b53 (F_X6_hourOf q).2 x := by
          unfold F_X6_unlike_l8
          by_cases z : (F_X6_hourOf q).2.2 15 s.toNatClampNeg ≤ x + 1
          · rw [if_pos z]
          · rw [if_neg z, if_neg hne]
        rw [e]
        exact ⟨rfl, sM_round hq2⟩
  exact k 41 T (F_X6_keeps r) 0 h.keeps hK.refl (by decide) (by decide) (by decide)
theorem sheetWrong_eq {rw : Nat → Ob} {m : Ob} (hs : HSm rw m) (p : Int32) : F_X5_refusalOfTold rw p = F_X6_sheetWrong m p := by
  unfold F_X5_refusalOfTold F_X6_sheetWrong F_X5_isSheet
  rw [isW]
  by_cases c : F_X6_in p 0 3 = 0
  · rw [if_pos c, if_pos c]
  have k := in_f c
  have e0 : (0 : Int32).toInt = 0 := rfl
  have e3 : (3 : Int32).toInt = 3 := rfl
  rw [if_neg c, if_neg c]
  obtain ⟨g1, g2, g3, g4⟩ := hs p.toNatClampNeg (by rw [tcn_i]; omega)
  unfold F_X1_isMissing
  rw [g1, g2]
  by_cases d : m.2 14 p.toNatClampNeg = -1
  · rw [if_pos d, if_pos d, if_neg n10]
  · rw [if_neg d, if_neg d, if_pos z00]
section CALLS5
variable {bb : Ob} {tx rw : Nat → Ob} {sb : Ob} {tn : Nat → Ob} {m : Ob}
theorem SR.hs (h : SR bb tx rw sb tn m) : HSm rw m := h.2.2.2.1
theorem sw_in {p : Int32} (h : F_X6_sheetWrong m p = 0) : 0 ≤ p.toInt ∧ p.toInt ≤ 3 := (sheetWrong_f h).1
theorem s_judge (h : SR bb tx rw sb tn m) (p : Int32) : (F_X5_judge tx rw tn p).1 = (F_X6_judge m p).1 ∧ sM m (F_X6_judge m p).2 := by
  unfold F_X5_judge F_X6_judge
  rw [sheetWrong_eq h.hs]
  by_cases c : F_X6_sheetWrong m p = 0
  · rw [if_pos c, if_pos c]
    unfold F_X5_judge_c15 F_X5_judge_c18 F_X6_judge_c12
    exact unlike_eq (h.1.thought _) h.hs (sw_in c)
  · rw [if_neg c, if_neg c]
    exact ⟨rfl, sM.refl⟩
/-- the vow of one turned there and back -/
theorem sM_turned {r q : Ob} {p : Int32} (h0 : 0 ≤ p.toInt) (h1 : p.toInt < 6) (k : sM (stA r 3 ((4 * p) + 3) (1 - (r.2 3) (Int32.toNatClampNeg ((4 * p) + 3)))) q) : sM r (stA q 3 ((4 * p) + 3) (1 - (q.2 3) (Int32.toNatClampNeg ((4 * p) + 3)))) := by
  obtain ⟨j0, j1, j2, j3⟩ := i4 h0 h1
  have hp : p.toNatClampNeg < 6 := by rw [tcn_i]; omega
  obtain ⟨a, b, c, d⟩ := k
  refine ⟨a, fun j hj => ?_, c, fun z z1 z2 z3 z4 z5 => (sA_ne _ _ z1).trans ((d z z1 z2 z3 z4 z5).trans (sA_ne _ _ z1))⟩
  show upd (q.2 3) ((4 * p) + 3).toNatClampNeg (1 - (q.2 3) (Int32.toNatClampNeg ((4 * p) + 3))) j = r.2 3 j
  have bj : ∀ j, j < 24 → q.2 3 j = upd (r.2 3) ((4 * p) + 3).toNatClampNeg (1 - (r.2 3) (Int32.toNatClampNeg ((4 * p) + 3))) j := b
  rw [j3] at bj ⊢
  rw [bj (4 * p.toNatClampNeg + 3) (by omega), upd_s]
  by_cases e : j = 4 * p.toNatClampNeg + 3
  · rw [e, upd_s]
    rw [Int32.sub_eq_add_neg, Int32.sub_eq_add_neg, Int32.neg_add, Int32.sub_eq_add_neg, Int32.neg_neg, ← Int32.add_assoc, Int32.add_right_neg, Int32.zero_add]
  · rw [upd_n _ e, bj j hj, upd_n _ e]
theorem s_turned (h : SR bb tx rw sb tn m) (p : Int32) : (F_X5_turned tx rw tn p).1 = (F_X6_turned m p).1 ∧ sM m (F_X6_turned m p).2 := by
  unfold F_X5_turned F_X6_turned
  rw [sheetWrong_eq h.hs]
  by_cases c : F_X6_sheetWrong m p = 0
  · rw [if_pos c, if_pos c]
    have hp := sw_in c
    have k : ∀ (n : Nat) (X r : Ob) (x3 x4 : Int32), sM m r → 0 ≤ x4.toInt → x4.toInt ≤ 6 → (F_X5_turned_l17 n tx rw tn X p x3 x4).1 = (F_X6_turned_l17 n r p x3 x4).1 ∧ sM m (F_X6_turned_l17 n r p x3 x4).2 := by
      intro n
      induction n with
      | zero => intro X r x3 x4 hr _ _; exact ⟨rfl, hr⟩
      | succ n ih =>
        intro X r x3 x4 hr h0 h1
        unfold F_X5_turned_l17 F_X6_turned_l17
        have e0 : r.1 0 = m.1 0 := hr.1 0 (by decide) (by decide)
        rw [h.1.1.1, e0]
        by_cases d : m.1 0 ≤ x4
        · rw [if_pos d, if_pos d]
          exact ⟨rfl, hr⟩
        rw [if_neg d, if_neg d]
        have d2 := i_nle d
        have h6 := h.1.1.2.2
        have e1 : (x4 + 1).toInt = x4.toInt + 1 := addL (k := 1) (by decide +kernel) (by omega) (by omega)
        have ht : TR tx (F_X5_startThought (va_up tn 1 X)) r := (h.1.thought X).sM hr
        have hin : inP r x4 := ⟨h0, by rw [e0]; exact d2⟩
        unfold F_X5_turned_c30 F_X5_turned_c39 F_X4_turnVow
        rw [if_neg (ht.hasN hin)]
        have ht2 := ht.turn hin
        have hsr : HSm rw (stA r 3 ((4 * x4) + 3) (1 - (r.2 3) (Int32.toNatClampNeg ((4 * x4) + 3)))) := (h.hs.sM hr).same rfl rfl rfl
        obtain ⟨u1, u2⟩ := unlike_eq ht2 hsr hp
        have hb := hr.trans (sM_turned h0 (by omega) u2)
        unfold F_X5_turned_c46 F_X6_turned_c53 F_X5_turned_b60 F_X6_turned_b68
        rw [u1]
        split
        · exact ih _ _ _ _ hb (by omega) (by omega)
        · rw [Int32.or_zero]
          exact ih _ _ _ _ hb (by omega) (by omega)
    exact k 7 _ m 0 0 sM.refl (by decide) (by decide)
  · rw [if_neg c, if_neg c]
    exact ⟨rfl, sM.refl⟩
theorem sM_b0 {m r : Ob} (w v : Int32) (h : sM (stA m 4 0 w) r) : sM (stA m 4 0 v) (stA r 4 0 v) := by
  obtain ⟨a, b, c, d⟩ := h
  refine ⟨a, b, fun j hj => ?_, fun z z1 z2 z3 z4 z5 => (sA_ne _ _ z2).trans ((d z z1 z2 z3 z4 z5).trans ((sA_ne _ _ z2).trans (sA_ne _ _ z2).symm))⟩
  have cj : ∀ j, j < 3 → r.2 4 j = upd (m.2 4) (Int32.toNatClampNeg 0) w j := c
  show upd (r.2 4) (Int32.toNatClampNeg 0) v j = upd (m.2 4) (Int32.toNatClampNeg 0) v j
  by_cases e : j = Int32.toNatClampNeg 0
  · rw [e, upd_s, upd_s]
  · rw [upd_n _ e, upd_n _ e, cj j hj, upd_n _ e]
theorem sM_b0r {m : Ob} : sM (stA m 4 0 ((m.2 4) (Int32.toNatClampNeg 0))) m := ⟨fun _ _ _ => rfl, fun _ _ => rfl, fun j _ => by
  show m.2 4 j = upd (m.2 4) (Int32.toNatClampNeg 0) ((m.2 4) (Int32.toNatClampNeg 0)) j
  by_cases e : j = Int32.toNatClampNeg 0
  · rw [e, upd_s]
  · rw [upd_n _ e], fun z z1 z2 z3 z4 z5 => (sA_ne _ _ z2).symm⟩
theorem sM.symm {m r : Ob} (h : sM m r) : sM r m := ⟨fun k a b => (h.1 k a b).symm, fun j hj => (h.2.1 j hj).symm, fun j hj => (h.2.2.1 j hj).symm, fun k a b c d e => (h.2.2.2 k a b c d e).symm⟩
theorem TR.hour0 {T : Ob} {tx : Nat → Ob} (h : TR tx T m) (v : Int32) : TR tx (setS T 7 v) (stA m 4 0 v) := by
  obtain ⟨a, b, c, d, e, f, g, i⟩ := h
  exact ⟨a, ⟨rfl, b.2.1, b.2.2⟩, c, d, e, f, g, i⟩
theorem s_hours (h : SR bb tx rw sb tn m) (p : Int32) : (F_X5_hours tx rw tn p).1 = (F_X6_hours m p).1 ∧ sM m (F_X6_hours m p).2 := by
  unfold F_X5_hours F_X6_hours
  rw [sheetWrong_eq h.hs]
  by_cases c : F_X6_sheetWrong m p = 0
  · rw [if_pos c, if_pos c]
    have hp := sw_in c
    have k : ∀ (n : Nat) (X r : Ob) (w x4 x5 : Int32), sM (stA m 4 0 w) r → 24 < x5.toInt + n → (F_X5_hours_l17 n tx rw tn X p x4 x5).1 = (F_X6_hours_l25 n r p ((m.2 4) (Int32.toNatClampNeg 0)) x4 x5).1 ∧ (x5.toInt ≤ 24 → sM m (F_X6_hours_l25 n r p ((m.2 4) (Int32.toNatClampNeg 0)) x4 x5).2) := by
      intro n
      induction n with
      | zero => intro X r w x4 x5 hr hn; exact ⟨rfl, fun z => by omega⟩
      | succ n ih =>
        intro X r w x4 x5 hr hn
        unfold F_X5_hours_l17 F_X6_hours_l25
        have e24 : (24 : Int32).toInt = 24 := rfl
        by_cases d : 24 ≤ x5
        · rw [if_pos d, if_pos d]
          exact ⟨rfl, fun _ => sM_b0r.symm.trans (sM_b0 w _ hr)⟩
        rw [if_neg d, if_neg d]
        have d2 := i_nle d
        have hx5 := fb_rng x5
        have e1 : (x5 + 1).toInt = x5.toInt + 1 := addL (k := 1) (by decide +kernel) (by omega) (by omega)
        have hr2 := sM_b0 w x5 hr
        have ht : TR tx (setS (F_X5_startThought (va_up tn 1 X)) 7 x5) (stA r 4 0 x5) := ((h.1.thought X).hour0 x5).sM hr2
        have hsr : HSm rw (stA r 4 0 x5) := (h.hs.same (r := stA m 4 0 x5) rfl rfl rfl).sM hr2
        obtain ⟨u1, u2⟩ := unlike_eq ht hsr hp
        have hb := hr2.trans u2
        unfold F_X5_hours_c25 F_X5_hours_c41 F_X6_hours_c44 F_X5_hours_b55 F_X6_hours_b59
        rw [u1]
        split
        · obtain ⟨v1, v2⟩ := ih (F_X5_firstOtherwise tx rw (setS (F_X5_startThought (va_up tn 1 X)) 7 x5) p).2 _ x5 (x4 ||| (1 <<< (x5 &&& 31))) (x5 + 1) hb (by omega)
          exact ⟨v1, fun _ => v2 (by omega)⟩
        · rw [Int32.or_zero]
          obtain ⟨v1, v2⟩ := ih (F_X5_firstOtherwise tx rw (setS (F_X5_startThought (va_up tn 1 X)) 7 x5) p).2 _ x5 x4 (x5 + 1) hb (by omega)
          exact ⟨v1, fun _ => v2 (by omega)⟩
    obtain ⟨v1, v2⟩ := k 25 (tn 1) m _ 0 0 sM_b0r (by decide)
    exact ⟨v1, v2 (by decide)⟩
  · rw [if_neg c, if_neg c]
    exact ⟨rfl, sM.refl⟩
end CALLS5
