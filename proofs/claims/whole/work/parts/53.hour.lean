-- PURE: what is laid into a town and into the reference's rows
theorem upd_s {f : Nat → Int32} {k : Nat} (v : Int32) : upd f k v k = v := if_pos rfl
theorem upd_n {f : Nat → Int32} {k j : Nat} (v : Int32) (h : j ≠ k) : upd f k v j = f j := if_neg h
theorem TR.up2 {tx : Nat → Ob} {T m : Ob} (h : TR tx T m) {p : Int32} (hp : inP m p) (v : Int32) : TR tx (stA T 2 p v) (stA m 3 (4 * p) v) := by
  obtain ⟨j0, j1, j2, j3⟩ := i4 hp.1 (h.lt hp)
  refine ⟨h.1, h.2.1, h.2.2.1, h.2.2.2.1, fun j hj => ?_, h.2.2.2.2.2.1, h.2.2.2.2.2.2.1, h.2.2.2.2.2.2.2⟩
  obtain ⟨⟨k0, k1, k2, k3, k4, k5⟩, v1, v2⟩ := h.2.2.2.2.1 j hj
  refine ⟨⟨k0, k1, ?_, ?_, ?_, ?_⟩, v1, ?_⟩
  · show upd (T.2 2) p.toNatClampNeg v j = upd (m.2 3) (4 * p).toNatClampNeg v (4 * j)
    rw [j0]
    by_cases c : j = p.toNatClampNeg
    · rw [c, upd_s, upd_s]
    · rw [upd_n _ c, upd_n _ (by omega), k2]
  · show T.2 3 j = upd (m.2 3) (4 * p).toNatClampNeg v (4 * j + 1)
    rw [j0, upd_n _ (by omega), k3]
  · show T.2 4 j = upd (m.2 3) (4 * p).toNatClampNeg v (4 * j + 2)
    rw [j0, upd_n _ (by omega), k4]
  · show vb (T.1 5) j = upd (m.2 3) (4 * p).toNatClampNeg v (4 * j + 3)
    rw [j0, upd_n _ (by omega), k5]
  · show 0 ≤ (upd (m.2 3) (4 * p).toNatClampNeg v (4 * j + 1)).toInt ∧ (upd (m.2 3) (4 * p).toNatClampNeg v (4 * j + 1)).toInt ≤ 9999
    rw [j0, upd_n _ (by omega)]
    exact v2
theorem TR.up3 {tx : Nat → Ob} {T m : Ob} (h : TR tx T m) {p : Int32} (hp : inP m p) {v : Int32} (hv : 0 ≤ v.toInt ∧ v.toInt ≤ 9999) : TR tx (stA T 3 p v) (stA m 3 ((4 * p) + 1) v) := by
  obtain ⟨j0, j1, j2, j3⟩ := i4 hp.1 (h.lt hp)
  refine ⟨h.1, h.2.1, h.2.2.1, h.2.2.2.1, fun j hj => ?_, h.2.2.2.2.2.1, h.2.2.2.2.2.2.1, h.2.2.2.2.2.2.2⟩
  obtain ⟨⟨k0, k1, k2, k3, k4, k5⟩, v1, v2⟩ := h.2.2.2.2.1 j hj
  refine ⟨⟨k0, k1, ?_, ?_, ?_, ?_⟩, v1, ?_⟩
  · show T.2 2 j = upd (m.2 3) ((4 * p) + 1).toNatClampNeg v (4 * j)
    rw [j1, upd_n _ (by omega), k2]
  · show upd (T.2 3) p.toNatClampNeg v j = upd (m.2 3) ((4 * p) + 1).toNatClampNeg v (4 * j + 1)
    rw [j1]
    by_cases c : j = p.toNatClampNeg
    · rw [c, upd_s, upd_s]
    · rw [upd_n _ c, upd_n _ (by omega), k3]
  · show T.2 4 j = upd (m.2 3) ((4 * p) + 1).toNatClampNeg v (4 * j + 2)
    rw [j1, upd_n _ (by omega), k4]
  · show vb (T.1 5) j = upd (m.2 3) ((4 * p) + 1).toNatClampNeg v (4 * j + 3)
    rw [j1, upd_n _ (by omega), k5]
  · show 0 ≤ (upd (m.2 3) ((4 * p) + 1).toNatClampNeg v (4 * j + 1)).toInt ∧ (upd (m.2 3) ((4 * p) + 1).toNatClampNeg v (4 * j + 1)).toInt ≤ 9999
    rw [j1]
    by_cases c : j = p.toNatClampNeg
    · rw [c, upd_s]; exact hv
    · rw [upd_n _ (by omega)]; exact v2
theorem TR.up4 {tx : Nat → Ob} {T m : Ob} (h : TR tx T m) {p : Int32} (hp : inP m p) (v : Int32) : TR tx (stA T 4 p v) (stA m 3 ((4 * p) + 2) v) := by
  obtain ⟨j0, j1, j2, j3⟩ := i4 hp.1 (h.lt hp)
  refine ⟨h.1, h.2.1, h.2.2.1, h.2.2.2.1, fun j hj => ?_, h.2.2.2.2.2.1, h.2.2.2.2.2.2.1, h.2.2.2.2.2.2.2⟩
  obtain ⟨⟨k0, k1, k2, k3, k4, k5⟩, v1, v2⟩ := h.2.2.2.2.1 j hj
  refine ⟨⟨k0, k1, ?_, ?_, ?_, ?_⟩, v1, ?_⟩
  · show T.2 2 j = upd (m.2 3) ((4 * p) + 2).toNatClampNeg v (4 * j)
    rw [j2, upd_n _ (by omega), k2]
  · show T.2 3 j = upd (m.2 3) ((4 * p) + 2).toNatClampNeg v (4 * j + 1)
    rw [j2, upd_n _ (by omega), k3]
  · show upd (T.2 4) p.toNatClampNeg v j = upd (m.2 3) ((4 * p) + 2).toNatClampNeg v (4 * j + 2)
    rw [j2]
    by_cases c : j = p.toNatClampNeg
    · rw [c, upd_s, upd_s]
    · rw [upd_n _ c, upd_n _ (by omega), k4]
  · show vb (T.1 5) j = upd (m.2 3) ((4 * p) + 2).toNatClampNeg v (4 * j + 3)
    rw [j2, upd_n _ (by omega), k5]
  · show 0 ≤ (upd (m.2 3) ((4 * p) + 2).toNatClampNeg v (4 * j + 1)).toInt ∧ (upd (m.2 3) ((4 * p) + 2).toNatClampNeg v (4 * j + 1)).toInt ≤ 9999
    rw [j2, upd_n _ (by omega)]
    exact v2
theorem TR.up0 {tx : Nat → Ob} {T m : Ob} (h : TR tx T m) {p : Int32} (v : Int32) : TR tx (stA T 0 p v) (stA m 1 p v) := by
  refine ⟨h.1, h.2.1, h.2.2.1, h.2.2.2.1, fun j hj => ?_, h.2.2.2.2.2.1, h.2.2.2.2.2.2.1, h.2.2.2.2.2.2.2⟩
  obtain ⟨⟨k0, k1, k2, k3, k4, k5⟩, v1, v2⟩ := h.2.2.2.2.1 j hj
  refine ⟨⟨?_, k1, k2, k3, k4, k5⟩, v1, v2⟩
  show upd (T.2 0) p.toNatClampNeg v j = upd (m.2 1) p.toNatClampNeg v j
  by_cases c : j = p.toNatClampNeg
  · rw [c, upd_s, upd_s]
  · rw [upd_n _ c, upd_n _ c, k0]
theorem TR.up1 {tx : Nat → Ob} {T m : Ob} (h : TR tx T m) {p : Int32} {v : Int32} (hv : 0 ≤ v.toInt ∧ v.toInt ≤ 9) : TR tx (stA T 1 p v) (stA m 2 p v) := by
  refine ⟨h.1, h.2.1, h.2.2.1, h.2.2.2.1, fun j hj => ?_, h.2.2.2.2.2.1, h.2.2.2.2.2.2.1, h.2.2.2.2.2.2.2⟩
  obtain ⟨⟨k0, k1, k2, k3, k4, k5⟩, v1, v2⟩ := h.2.2.2.2.1 j hj
  refine ⟨⟨k0, ?_, k2, k3, k4, k5⟩, ?_, v2⟩
  · show upd (T.2 1) p.toNatClampNeg v j = upd (m.2 2) p.toNatClampNeg v j
    by_cases c : j = p.toNatClampNeg
    · rw [c, upd_s, upd_s]
    · rw [upd_n _ c, upd_n _ c, k1]
  · show 0 ≤ (upd (m.2 2) p.toNatClampNeg v j).toInt ∧ (upd (m.2 2) p.toNatClampNeg v j).toInt ≤ 9
    by_cases c : j = p.toNatClampNeg
    · rw [c, upd_s]; exact hv
    · rw [upd_n _ c]; exact v1
/-- what the reference keeps beside is of no matter to a town -/
theorem TR.same {tx : Nat → Ob} {T m r : Ob} (h : TR tx T m) (h0 : r.1 0 = m.1 0) (h10 : r.1 10 = m.1 10) (h1 : r.2 1 = m.2 1) (h2 : r.2 2 = m.2 2) (h3 : ∀ j, j < 24 → r.2 3 j = m.2 3 j) (h4 : ∀ j, j < 3 → r.2 4 j = m.2 4 j) (h7 : r.2 7 = m.2 7) (h8 : r.2 8 = m.2 8) : TR tx T r := by
  obtain ⟨a, b, c, d, e, f, g, i⟩ := h
  unfold TR
  rw [h0, h10, h4 0 (by decide), h4 1 (by decide), h4 2 (by decide)]
  refine ⟨a, b, c, ?_, fun k hk => ?_, f, g, i⟩
  · unfold XR wfM at d ⊢
    rw [h7, h8]
    exact d
  · obtain ⟨⟨k0, k1, k2, k3, k4, k5⟩, v1, v2⟩ := e k hk
    have hk6 : k < 6 := by have := a.2.2; omega
    unfold TRk VBk
    rw [h1, h2, h3 _ (by omega), h3 _ (by omega), h3 _ (by omega), h3 _ (by omega)]
    exact ⟨⟨k0, k1, k2, k3, k4, k5⟩, v1, v2⟩
-- PURE: an hour
theorem liars_eq {tx : Nat → Ob} {T m : Ob} (h : TR tx T m) : F_X4_liars tx T = F_X6_liars m := by
  have k : ∀ (n : Nat) (x1 x2 : Int32), 0 ≤ x2.toInt → F_X4_liars_l4 n tx T x1 x2 = F_X6_liars_l4 n m x1 x2 := by
    intro n
    induction n with
    | zero => intro x1 x2 _; rfl
    | succ n ih =>
      intro x1 x2 h0
      unfold F_X4_liars_l4 F_X6_liars_l4
      rw [h.1.1]
      by_cases c : m.1 0 ≤ x2
      · rw [if_pos c, if_pos c]
      rw [if_neg c, if_neg c]
      have c2 := i_nle c
      have h6 := h.1.2.2
      have e1 : (x2 + 1).toInt = x2.toInt + 1 := addL (k := 1) (by decide +kernel) (by omega) (by omega)
      rw [lies_eq h ⟨h0, c2⟩]
      unfold F_X4_liars_b26 F_X6_liars_b28
      by_cases l : F_X6_lies m x2 = 0
      · rw [if_pos l, if_pos l, Int32.or_zero]
        exact ih _ _ (by omega)
      · rw [if_neg l, if_neg l]
        exact ih _ _ (by omega)
  exact k 7 0 0 (by decide)
theorem strikes_eq {tx : Nat → Ob} {T m : Ob} (h : TR tx T m) (s : Int32) : F_X4_strikesOf tx T s = F_X6_strikesBy m s := by
  have k : ∀ (n : Nat) (x2 x3 : Int32), 0 ≤ x3.toInt → F_X4_strikesOf_l4 n tx T s x2 x3 = F_X6_strikesBy_l4 n m s x2 x3 := by
    intro n
    induction n with
    | zero => intro x2 x3 _; rfl
    | succ n ih =>
      intro x2 x3 h0
      unfold F_X4_strikesOf_l4 F_X6_strikesBy_l4
      rw [h.1.1]
      by_cases c : m.1 0 ≤ x3
      · rw [if_pos c, if_pos c]
      rw [if_neg c, if_neg c]
      have c2 := i_nle c
      have h6 := h.1.2.2
      have e1 : (x3 + 1).toInt = x3.toInt + 1 := addL (k := 1) (by decide +kernel) (by omega) (by omega)
      rw [strokes_eq h ⟨h0, c2⟩]
      unfold F_X4_strikesOf_b29 F_X6_strikesBy_b29
      split
      · exact ih _ _ (by omega)
      · exact ih _ _ (by omega)
  exact k 7 0 0 (by decide)
theorem jin {lo hi v : Int32} (h : lo.toInt ≤ hi.toInt) : lo.toInt ≤ (F_X6_within v lo hi).toInt ∧ (F_X6_within v lo hi).toInt ≤ hi.toInt := by
  unfold F_X6_within
  simp only [i_le]
  split
  · split
    · omega
    · omega
  · omega
theorem asks_in (m : Ob) (p : Int32) : 0 ≤ (F_X6_asksOf m 2 p).toInt ∧ (F_X6_asksOf m 2 p).toInt ≤ 99 := by
  unfold F_X6_asksOf F_X6_asksOfR F_X6_asksOfR_c82 F_X6_asksOfR_b96
  rw [if_neg (by decide)]
  exact jin (lo := 0) (hi := 99) (by decide)
theorem strokes_in {tx : Nat → Ob} {T m : Ob} (h : TR tx T m) {p : Int32} (hp : inP m p) : 0 ≤ (F_X6_strokesOf m p).toInt ∧ (F_X6_strokesOf m p).toInt ≤ 198 := by
  have ha := asks_in m p
  obtain ⟨_, v1, v2⟩ := h.at hp
  have e0 : (0 : Int32).toInt = 0 := rfl
  have e1 : (F_X6_asksOf m 2 p + (m.2 2) (Int32.toNatClampNeg p)).toInt = (F_X6_asksOf m 2 p).toInt + ((m.2 2) (Int32.toNatClampNeg p)).toInt := fb_addI (by omega) (by omega)
  have e2 : (2 * F_X6_asksOf m 2 p).toInt = 2 * (F_X6_asksOf m 2 p).toInt := mulL (k := 2) (by decide +kernel) (by omega) (by omega)
  unfold F_X6_strokesOf
  repeat' split
  all_goals omega
theorem strikes_in {tx : Nat → Ob} {T m : Ob} (h : TR tx T m) (s : Int32) : 0 ≤ (F_X6_strikesBy m s).toInt ∧ (F_X6_strikesBy m s).toInt ≤ 1188 := by
  have h6 := h.1.2.2
  have k : ∀ (n : Nat) (x2 x3 : Int32), 0 ≤ x3.toInt → x3.toInt ≤ 6 → 0 ≤ x2.toInt → x2.toInt ≤ 198 * x3.toInt → 6 < x3.toInt + n → 0 ≤ (F_X6_strikesBy_l4 n m s x2 x3).toInt ∧ (F_X6_strikesBy_l4 n m s x2 x3).toInt ≤ 1188 := by
    intro n
    induction n with
    | zero => intro x2 x3 _ _ _ _ _; omega
    | succ n ih =>
      intro x2 x3 h0 h1 h2 h3 hn
      unfold F_X6_strikesBy_l4
      by_cases c : m.1 0 ≤ x3
      · rw [if_pos c]; omega
      rw [if_neg c]
      have c2 := i_nle c
      have e1 : (x3 + 1).toInt = x3.toInt + 1 := addL (k := 1) (by decide +kernel) (by omega) (by omega)
      have hs := strokes_in h (p := x3) ⟨h0, c2⟩
      have e2 : (x2 + F_X6_strokesOf m x3).toInt = x2.toInt + (F_X6_strokesOf m x3).toInt := fb_addI (by omega) (by omega)
      unfold F_X6_strikesBy_b29
      split
      · exact ih _ _ (by omega) (by omega) (by omega) (by omega) (by omega)
      · exact ih _ _ (by omega) (by omega) (by omega) (by omega) (by omega)
  exact k 7 0 0 (by decide) (by decide) (by decide) (by decide) (by decide)
theorem within_h {v hi : Int32} (h : 0 ≤ v.toInt) (hh : 0 ≤ hi.toInt) : F_X6_within v 0 hi = jmin hi v := by
  have e0 : (0 : Int32).toInt = 0 := rfl
  unfold F_X6_within jmin
  simp only [i_lt, i_le, e0]
  rw [if_pos h]
  by_cases c : v.toInt < hi.toInt
  · rw [if_pos c, if_pos (by omega)]
  · rw [if_neg c]
    by_cases d : v.toInt ≤ hi.toInt
    · rw [if_pos d]
      exact Int32.toInt_inj.mp (by omega)
    · rw [if_neg d]
/-- the hour is over -/
theorem hour_end {tx : Nat → Ob} {T m : Ob} (h : TR tx T m) {s : Int32} (x1 : Int32) (hs : 0 ≤ s.toInt ∧ s.toInt ≤ 1188) : TR tx (setS (setS (setS T 9 (jmin 99 s)) 8 (jmin 999999 (T.1 8 + s))) 7 (T.1 7 + 1)) (setS (stA (stA (stA m 4 2 (F_X6_within s 0 99)) 4 1 (F_X6_within (m.2 4 1 + s) 0 999999)) 4 0 (m.2 4 0 + 1)) 29 x1) := by
  obtain ⟨a, b, c, d, e, f, g, i⟩ := h
  have e99 : (99 : Int32).toInt = 99 := rfl
  have e0 : (0 : Int32).toInt = 0 := rfl
  have eT : (999999 : Int32).toInt = 999999 := rfl
  have es : (m.2 4 1 + s).toInt = (m.2 4 1).toInt + s.toInt := fb_addI (by omega) (by omega)
  refine ⟨a, ⟨?_, ?_, ?_⟩, c, d, e, ?_, g, i⟩
  · show T.1 7 + 1 = m.2 4 0 + 1
    rw [b.1]
  · show jmin 999999 (T.1 8 + s) = F_X6_within (m.2 4 1 + s) 0 999999
    rw [b.2.1, within_h (by omega) (by omega)]
  · show jmin 99 s = F_X6_within s 0 99
    rw [within_h hs.1 (by omega)]
  · exact jin (lo := 0) (hi := 999999) (by decide)
theorem hour_l {tx : Nat → Ob} {s x1 : Int32} (hs : 0 ≤ s.toInt ∧ s.toInt ≤ 1188) : ∀ (n : Nat) (T m : Ob) (x3 : Int32), TR tx T m → 0 ≤ x3.toInt → x3.toInt ≤ 6 → 6 < x3.toInt + n → (F_X4_passHour_l8 n tx T x1 s x3).1 = s ∧ (F_X6_hourOf_l13 n m x1 s x3).1 = s ∧ TR tx (F_X4_passHour_l8 n tx T x1 s x3).2 (F_X6_hourOf_l13 n m x1 s x3).2 ∧ (F_X6_hourOf_l13 n m x1 s x3).2.1 29 = x1 := by
  intro n
  induction n with
  | zero => intro T m x3 _ _ _ _; omega
  | succ n ih =>
    intro T m x3 h h0 h1 hn
    unfold F_X4_passHour_l8 F_X6_hourOf_l13
    rw [h.1.1]
    by_cases c : m.1 0 ≤ x3
    · rw [if_pos c, if_pos c]
      exact ⟨rfl, rfl, hour_end h x1 hs, rfl⟩
    rw [if_neg c, if_neg c]
    have c2 := i_nle c
    have h6 := h.1.2.2
    have e6 : (6 : Int32).toInt = 6 := rfl
    have e1 : (x3 + 1).toInt = x3.toInt + 1 := addL (k := 1) (by decide +kernel) (by omega) (by omega)
    have hp : inP m x3 := ⟨h0, c2⟩
    rw [if_neg (show ¬ 6 ≤ x3 from fun q => by have := i_le.mp q; omega)]
    unfold F_X4_passHour_b78 F_X6_hourOf_b87
    by_cases l : (x1 >>> (x3 &&& 31)) &&& 1 = 1
    · rw [if_pos l, if_pos l]
      obtain ⟨⟨k0, k1, k2, k3, k4, k5⟩, v1, v2⟩ := h.at hp
      obtain ⟨j0, j1, j2, j3⟩ := i4 hp.1 (h.lt hp)
      have hv : F_X6_within ((m.2 3) (Int32.toNatClampNeg (4 * x3)) - F_X6_costsOf m x3) 0 99 = jmax 0 (jmin 99 ((T.2 2) (Int32.toNatClampNeg x3) - F_X4_costOf tx T x3)) := by
        rw [within_j (by decide), cost_eq h hp, j0, k2]
      rw [hv]
      generalize jmax 0 (jmin 99 ((T.2 2) (Int32.toNatClampNeg x3) - F_X4_costOf tx T x3)) = v
      have hw : (stA m 3 (4 * x3) v).2 3 (Int32.toNatClampNeg ((4 * x3) + 1)) = (stA T 2 x3 v).2 3 (Int32.toNatClampNeg x3) := by
        show upd (m.2 3) (4 * x3).toNatClampNeg v (Int32.toNatClampNeg ((4 * x3) + 1)) = T.2 3 (Int32.toNatClampNeg x3)
        rw [j0, j1, upd_n _ (by omega), k3]
      rw [hw]
      have ht : (stA T 2 x3 v).2 3 (Int32.toNatClampNeg x3) = m.2 3 (4 * x3.toNatClampNeg + 1) := k3
      have et : ((stA T 2 x3 v).2 3 (Int32.toNatClampNeg x3) + 1).toInt = ((stA T 2 x3 v).2 3 (Int32.toNatClampNeg x3)).toInt + 1 := addL (k := 1) (by decide +kernel) (by rw [ht]; omega) (by rw [ht]; omega)
      rw [within_h (v := (stA T 2 x3 v).2 3 (Int32.toNatClampNeg x3) + 1) (hi := 9999) (by rw [et, ht]; omega) (by decide)]
      have hr : 0 ≤ (jmin 9999 ((stA T 2 x3 v).2 3 (Int32.toNatClampNeg x3) + 1)).toInt ∧ (jmin 9999 ((stA T 2 x3 v).2 3 (Int32.toNatClampNeg x3) + 1)).toInt ≤ 9999 := by
        rw [← within_h (v := (stA T 2 x3 v).2 3 (Int32.toNatClampNeg x3) + 1) (hi := 9999) (by rw [et, ht]; omega) (by decide)]
        exact jin (lo := 0) (hi := 9999) (by decide)
      exact ih _ _ _ ((h.up2 hp v).up3 hp hr) (by omega) (by omega) (by omega)
    · rw [if_neg l, if_neg l]
      exact ih _ _ _ h (by omega) (by omega) (by omega)
/-- an hour goes by in both -/
theorem hour_eq {tx : Nat → Ob} {T m : Ob} (h : TR tx T m) : (F_X4_passHour tx T (F_X4_liars tx T)).1 = (F_X6_hourOf m).1 ∧ TR tx (F_X4_passHour tx T (F_X4_liars tx T)).2 (F_X6_hourOf m).2 ∧ (F_X6_hourOf m).2.1 29 = F_X4_liars tx T ∧ (0 ≤ (F_X6_hourOf m).1.toInt ∧ (F_X6_hourOf m).1.toInt ≤ 1188) := by
  unfold F_X4_passHour F_X6_hourOf
  rw [← liars_eq h, strikes_eq h]
  have hs := strikes_in h (F_X4_liars tx T)
  obtain ⟨a, b, c, d⟩ := hour_l (tx := tx) (s := F_X6_strikesBy m (F_X4_liars tx T)) (x1 := F_X4_liars tx T) hs 7 T m 0 h (by decide) (by decide) (by decide)
  exact ⟨a.trans b.symm, c, d, by rw [b]; exact hs⟩
