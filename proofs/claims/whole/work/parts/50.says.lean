-- PURE: THE CLASS AGAINST THE REFERENCE. First: what a text says
/-- a step of the class and a code of the reference that mean the same -/
def trc (s c : Int32) : Prop := (0 ≤ s.toInt ∧ s.toInt ≤ 9999 ∧ c.toInt = 100000 + s.toInt) ∨ (-6 ≤ s.toInt ∧ s.toInt < 0 ∧ c.toInt = -1 - s.toInt) ∨ (-15 ≤ s.toInt ∧ s.toInt ≤ -7 ∧ c.toInt = 4 - s.toInt)
theorem eq_of_toInt {x : Int32} {k : Int} (y : Int32) (hy : y.toInt = k) (h : x.toInt = k) : x = y := Int32.toInt_inj.mp (h.trans hy.symm)
theorem within_j {v lo hi : Int32} (h : lo.toInt ≤ hi.toInt) : F_X6_within v lo hi = jmax lo (jmin hi v) := by
  unfold F_X6_within jmax jmin
  simp only [i_lt, i_le]
  by_cases h1 : v.toInt < hi.toInt
  · simp only [if_pos h1]
    by_cases h2 : lo.toInt < v.toInt
    · rw [if_pos h2, if_pos (by omega), if_pos (by omega)]
    · rw [if_neg h2]
      by_cases h3 : lo.toInt ≤ v.toInt
      · rw [if_pos h3, if_pos (by omega)]
        exact Int32.toInt_inj.mp (by omega)
      · rw [if_neg h3]
  · simp only [if_neg h1]
    rw [if_pos (by omega)]
    by_cases h2 : v.toInt ≤ hi.toInt
    · have e : v = hi := Int32.toInt_inj.mp (by omega)
      subst e
      rw [if_pos h2]
      by_cases h3 : lo.toInt < v.toInt
      · rw [if_pos h3]
      · rw [if_neg h3]
        exact Int32.toInt_inj.mp (by omega)
    · rw [if_neg h2]
      by_cases h3 : lo.toInt < hi.toInt
      · rw [if_pos h3]
      · rw [if_neg h3]
        exact Int32.toInt_inj.mp (by omega)
theorem two_eq {s c : Int32} (a b : Int32) (h : trc s c) (h1 : c.toInt ≠ 13) (h2 : c.toInt ≠ 19) (h3 : 11 ≤ c.toInt) (h4 : c.toInt < 100000) : F_X3_joined s a b = F_X6_two c a b := by
  unfold trc at h
  rcases (show s.toInt = -7 ∨ s.toInt = -8 ∨ s.toInt = -10 ∨ s.toInt = -11 ∨ s.toInt = -12 ∨ s.toInt = -13 ∨ s.toInt = -14 by omega) with q | q | q | q | q | q | q
  · obtain rfl := eq_of_toInt (-7) rfl q
    obtain rfl := eq_of_toInt (x := c) (k := 11) 11 rfl (by omega)
    rfl
  · obtain rfl := eq_of_toInt (-8) rfl q
    obtain rfl := eq_of_toInt (x := c) (k := 12) 12 rfl (by omega)
    rfl
  · obtain rfl := eq_of_toInt (-10) rfl q
    obtain rfl := eq_of_toInt (x := c) (k := 14) 14 rfl (by omega)
    rfl
  · obtain rfl := eq_of_toInt (-11) rfl q
    obtain rfl := eq_of_toInt (x := c) (k := 15) 15 rfl (by omega)
    rfl
  · obtain rfl := eq_of_toInt (-12) rfl q
    obtain rfl := eq_of_toInt (x := c) (k := 16) 16 rfl (by omega)
    rfl
  · obtain rfl := eq_of_toInt (-13) rfl q
    obtain rfl := eq_of_toInt (x := c) (k := 17) 17 rfl (by omega)
    rfl
  · obtain rfl := eq_of_toInt (-14) rfl q
    obtain rfl := eq_of_toInt (x := c) (k := 18) 18 rfl (by omega)
    rfl
theorem says_sim {X T2 mo : Ob} {p1 p3 : Int32} {N : Nat → Int32} {d : Int32 → Int} (hst : 0 ≤ ((mo.2 8) (Int32.toNatClampNeg ((4 * (mo.1 10)) + p1))).toInt) (hen : ((mo.2 8) (Int32.toNatClampNeg (((4 * (mo.1 10)) + p1) + 1))).toInt ≤ 160) (hend : (X.2 2) (Int32.toNatClampNeg p1) = ((mo.2 8) (Int32.toNatClampNeg (((4 * (mo.1 10)) + p1) + 1))))
    (hS : ∀ x3 : Int32, ((mo.2 8) (Int32.toNatClampNeg ((4 * (mo.1 10)) + p1))).toInt ≤ x3.toInt → x3.toInt < ((mo.2 8) (Int32.toNatClampNeg (((4 * (mo.1 10)) + p1) + 1))).toInt → trc ((X.2 0) (Int32.toNatClampNeg x3)) ((mo.2 7) (Int32.toNatClampNeg ((200 * (mo.1 10)) + x3)))) (hN : ∀ c s : Int32, 0 ≤ c.toInt → c.toInt < 6 → s.toInt = -1 - c.toInt → N c.toNatClampNeg = F_X4_named T2 s p3)
    (wd : ∀ k : Int32, ((mo.2 8) (Int32.toNatClampNeg ((4 * (mo.1 10)) + p1))).toInt ≤ k.toInt → k.toInt < ((mo.2 8) (Int32.toNatClampNeg (((4 * (mo.1 10)) + p1) + 1))).toInt → (0 ≤ d k ∧ d k ≤ 199) ∧ okc ((mo.2 7) (Int32.toNatClampNeg ((200 * (mo.1 10)) + k))) (d k) (d (k + 1))) :
    ∀ (n n' : Nat) (S S' : Nat → Int32) (x2 x3 : Int32), ((mo.2 8) (Int32.toNatClampNeg ((4 * (mo.1 10)) + p1))).toInt ≤ x3.toInt → x3.toInt ≤ ((mo.2 8) (Int32.toNatClampNeg (((4 * (mo.1 10)) + p1) + 1))).toInt → x2.toInt = d x3 → x2.toInt ≤ x3.toInt - ((mo.2 8) (Int32.toNatClampNeg ((4 * (mo.1 10)) + p1))).toInt → 0 ≤ x2.toInt → (x3.toInt < ((mo.2 8) (Int32.toNatClampNeg (((4 * (mo.1 10)) + p1) + 1))).toInt ∨ 1 ≤ x2.toInt) → 160 < x3.toInt + n → 200 < x3.toInt + n' → (∀ j, j < x2.toNatClampNeg → S j = S' j) → (F_X3_saysR_l40 n X S T2 p1 p3 x2 x3).1 = jmax (if p1 = 1 then -99 else 0) (jmin 99 (F_X6_saysR_l16 n' mo S' N p1 x2 x3).1) := by
  intro n
  induction n with
  | zero => intro n' S S' x2 x3 h1 h2 _ _ _ _ h7; omega
  | succ n ih =>
    intro n' S S' x2 x3 hk0 hk1 hd hk hx0 hr hn hn' hA
    obtain ⟨n', rfl⟩ : ∃ z, n' = z + 1 := ⟨n' - 1, by omega⟩
    by_cases c1 : ((mo.2 8) (Int32.toNatClampNeg (((4 * (mo.1 10)) + p1) + 1))) ≤ x3
    · have hx : 1 ≤ x2.toInt := by
        have := i_le.mp c1
        omega
      have e : S (Int32.toNatClampNeg 0) = S' (Int32.toNatClampNeg 0) := hA 0 (by rw [tcn_i]; omega)
      simp only [F_X3_saysR_l40, F_X6_saysR_l16]
      rw [hend, if_pos c1, if_pos c1]
      unfold F_X3_saysR_b230 F_X3_saysR_b241
      rw [← e]
      split
      · rfl
      · rfl
    have hlt := i_nle c1
    obtain ⟨wk1, wk2⟩ := wd x3 hk0 hlt
    have htr := hS x3 hk0 hlt
    have e3 : (x3 + 1).toInt = x3.toInt + 1 := addL (k := 1) (by decide +kernel) (by omega) (by omega)
    have c0 : ¬ 160 ≤ x3 := fun q => by
      have := i_le.mp q
      have e : (160 : Int32).toInt = 160 := rfl
      omega
    have hgo : ∀ (A A' : Nat → Int32) (y : Int32), 1 ≤ y.toInt → y.toInt = d (x3 + 1) → y.toInt ≤ x3.toInt + 1 - ((mo.2 8) (Int32.toNatClampNeg ((4 * (mo.1 10)) + p1))).toInt → (∀ j, j < y.toNatClampNeg → A j = A' j) → (F_X3_saysR_b224 (F_X3_saysR_l40 n) X A T2 p1 p3 y x3).1 = jmax (if p1 = 1 then -99 else 0) (jmin 99 (F_X6_saysR_b191 (F_X6_saysR_l16 n') mo A' N p1 y x3).1) := by
      intro A A' y hy hyd hyk hA
      unfold F_X6_saysR_b191 F_X3_saysR_b224
      exact ih n' A A' y (x3 + 1) (by omega) (by omega) hyd (by omega) (by omega) (Or.inr hy) (by omega) (by omega) hA
    unfold okc at wk2
    have e6 : (-6 : Int32).toInt = -6 := rfl
    have e160 : (160 : Int32).toInt = 160 := rfl
    simp only [F_X3_saysR_l40, F_X6_saysR_l16]
    rw [hend, if_neg c1, if_neg c1, if_neg c0]
    have hpush : ∀ v : Int32, d (x3 + 1) = d x3 + 1 → (F_X3_saysR_b108 (F_X3_saysR_l40 n) X S T2 p1 p3 x2 x3 x2 v).1 = jmax (if p1 = 1 then -99 else 0) (jmin 99 (F_X6_saysR_b93 (F_X6_saysR_l16 n') mo S' N p1 x2 x3 x2 v).1) := fun v hb => by
      have e2 : (x2 + 1).toInt = x2.toInt + 1 := addL (k := 1) (by decide +kernel) (by omega) (by omega)
      unfold F_X3_saysR_b108 F_X6_saysR_b93
      refine hgo _ _ (x2 + 1) (by omega) (by omega) (by omega) (agr_upd v fun j hj hne => hA j ?_)
      rw [tcn_add (by omega) (by omega)] at hj
      omega
    have hx160 : x2 < 160 := i_lt.mpr (by omega)
    rcases htr with ⟨t0, t1, t2⟩ | ⟨t0, t1, t2⟩ | ⟨t0, t1, t2⟩
    · -- a number
      rw [if_neg (show ¬ ((X.2 0) (Int32.toNatClampNeg x3)) < -6 from fun q => by have := i_lt.mp q; omega), if_pos hx160, if_neg (show ¬ ((X.2 0) (Int32.toNatClampNeg x3)) < 0 from fun q => by have := i_lt.mp q; have e : (0 : Int32).toInt = 0 := rfl; omega)]
      have e1 : (100000 : Int32).toInt = 100000 := rfl
      have e11 : (11 : Int32).toInt = 11 := rfl
      rw [if_pos (show 100000 ≤ ((mo.2 7) (Int32.toNatClampNeg ((200 * (mo.1 10)) + x3))) from i_le.mpr (by omega))]
      unfold F_X6_saysR_b66
      rw [if_pos (show 11 ≤ ((mo.2 7) (Int32.toNatClampNeg ((200 * (mo.1 10)) + x3))) from i_le.mpr (by omega))]
      have ev : ((mo.2 7) (Int32.toNatClampNeg ((200 * (mo.1 10)) + x3))) - 100000 = ((X.2 0) (Int32.toNatClampNeg x3)) := Int32.toInt_inj.mp (by
        rw [subL (k := 100000) (by decide +kernel) (by omega) (by omega)]
        omega)
      rw [ev]
      exact hpush _ (by omega)
    · -- a name
      rw [if_neg (show ¬ ((X.2 0) (Int32.toNatClampNeg x3)) < -6 from fun q => by have := i_lt.mp q; omega), if_pos hx160, if_pos (show ((X.2 0) (Int32.toNatClampNeg x3)) < 0 from i_lt.mpr (by have e : (0 : Int32).toInt = 0 := rfl; omega))]
      have e1 : (100000 : Int32).toInt = 100000 := rfl
      have e11 : (11 : Int32).toInt = 11 := rfl
      rw [if_neg (show ¬ 100000 ≤ ((mo.2 7) (Int32.toNatClampNeg ((200 * (mo.1 10)) + x3))) from fun q => by have := i_le.mp q; omega), if_neg (show ¬ 11 ≤ ((mo.2 7) (Int32.toNatClampNeg ((200 * (mo.1 10)) + x3))) from fun q => by have := i_le.mp q; omega)]
      unfold F_X6_saysR_b66
      rw [if_neg (show ¬ 11 ≤ ((mo.2 7) (Int32.toNatClampNeg ((200 * (mo.1 10)) + x3))) from fun q => by have := i_le.mp q; omega), hN ((mo.2 7) (Int32.toNatClampNeg ((200 * (mo.1 10)) + x3))) ((X.2 0) (Int32.toNatClampNeg x3)) (by omega) (by omega) (by omega)]
      exact hpush _ (by omega)
    · -- a sign
      have e1 : (100000 : Int32).toInt = 100000 := rfl
      have e11 : (11 : Int32).toInt = 11 := rfl
      have e1i : (1 : Int32).toInt = 1 := rfl
      have e2i : (2 : Int32).toInt = 2 := rfl
      rw [if_pos (show ((X.2 0) (Int32.toNatClampNeg x3)) < -6 from i_lt.mpr (by omega)), if_neg (show ¬ 100000 ≤ ((mo.2 7) (Int32.toNatClampNeg ((200 * (mo.1 10)) + x3))) from fun q => by have := i_le.mp q; omega), if_pos (show 11 ≤ ((mo.2 7) (Int32.toNatClampNeg ((200 * (mo.1 10)) + x3))) from i_le.mpr (by omega))]
      have h1 : 1 ≤ x2.toInt := by omega
      have a1 : S (Int32.toNatClampNeg (x2 - 1)) = S' (Int32.toNatClampNeg (x2 - 1)) := hA _ (by rw [tcn_sub h1, tcn_i]; omega)
      have hun : ∀ v : Int32, d (x3 + 1) = d x3 → (F_X3_saysR_b179 (F_X3_saysR_l40 n) X S T2 p1 p3 x2 x3 (x2 - 1) v).1 = jmax (if p1 = 1 then -99 else 0) (jmin 99 (F_X6_saysR_b191 (F_X6_saysR_l16 n') mo (upd S' (Int32.toNatClampNeg (x2 - 1)) v) N p1 x2 x3).1) := fun v hb => by
        unfold F_X3_saysR_b179
        exact hgo _ _ x2 h1 (by omega) (by omega) (agr_upd v fun j hj hne => hA j hj)
      by_cases c9 : ((X.2 0) (Int32.toNatClampNeg x3)).toInt = -9
      · have es : ((X.2 0) (Int32.toNatClampNeg x3)) = -9 := eq_of_toInt (-9) rfl c9
        have ec : ((mo.2 7) (Int32.toNatClampNeg ((200 * (mo.1 10)) + x3))) = 13 := eq_of_toInt (k := 13) 13 rfl (by omega)
        have hdd : d (x3 + 1) = d x3 := by omega
        rw [if_pos es, es, ec, if_pos rfl]
        unfold F_X3_saysR_b129
        rw [if_pos (show (1 : Int32) ≤ x2 from i_le.mpr (by omega)), if_neg (show ¬ (-9 : Int32) = -15 by decide), a1]
        by_cases c : S' (Int32.toNatClampNeg (x2 - 1)) = 0
        · rw [if_pos c, if_pos c]
          exact hun 1 hdd
        · rw [if_neg c, if_neg c]
          exact hun 0 hdd
      by_cases c15 : ((X.2 0) (Int32.toNatClampNeg x3)).toInt = -15
      · have es : ((X.2 0) (Int32.toNatClampNeg x3)) = -15 := eq_of_toInt (-15) rfl c15
        have ec : ((mo.2 7) (Int32.toNatClampNeg ((200 * (mo.1 10)) + x3))) = 19 := eq_of_toInt (k := 19) 19 rfl (by omega)
        have hdd : d (x3 + 1) = d x3 := by omega
        rw [es, ec, if_neg (show ¬ (-15 : Int32) = -9 by decide), if_pos rfl, if_neg (show ¬ (19 : Int32) = 13 by decide), if_pos rfl]
        unfold F_X3_saysR_b129
        rw [if_pos (show (1 : Int32) ≤ x2 from i_le.mpr (by omega)), if_pos rfl, a1]
        exact hun _ hdd
      · have n9 : ¬ ((X.2 0) (Int32.toNatClampNeg x3)) = -9 := fun q => c9 (by rw [q]; rfl)
        have n15 : ¬ ((X.2 0) (Int32.toNatClampNeg x3)) = -15 := fun q => c15 (by rw [q]; rfl)
        have n13 : ¬ ((mo.2 7) (Int32.toNatClampNeg ((200 * (mo.1 10)) + x3))) = 13 := fun q => by have e : ((mo.2 7) (Int32.toNatClampNeg ((200 * (mo.1 10)) + x3))).toInt = 13 := (by rw [q]; rfl); omega
        have n19 : ¬ ((mo.2 7) (Int32.toNatClampNeg ((200 * (mo.1 10)) + x3))) = 19 := fun q => by have e : ((mo.2 7) (Int32.toNatClampNeg ((200 * (mo.1 10)) + x3))).toInt = 19 := (by rw [q]; rfl); omega
        have hdd : d (x3 + 1) + 1 = d x3 := by omega
        have h2 : 2 ≤ x2.toInt := by omega
        have e1 : (x2 - 1).toInt = x2.toInt - 1 := subL (k := 1) (by decide +kernel) (by omega) (by omega)
        have k1 : (x2 - 1).toNatClampNeg = x2.toNatClampNeg - 1 := tcn_sub (by omega)
        have k2 : (x2 - 1 - 1).toNatClampNeg = x2.toNatClampNeg - 2 := by rw [tcn_sub (by omega), k1]; omega
        have k3 : 2 ≤ x2.toNatClampNeg := by rw [tcn_i]; omega
        have a2 : S (Int32.toNatClampNeg (x2 - 1 - 1)) = S' (Int32.toNatClampNeg (x2 - 1 - 1)) := hA _ (by omega)
        rw [if_neg n9, if_neg n15, if_neg n13, if_neg n19, if_pos (show (2 : Int32) ≤ x2 from i_le.mpr (by omega)), a1, a2, two_eq _ _ (Or.inr (Or.inr ⟨t0, t1, t2⟩)) (fun q => n13 (eq_of_toInt 13 rfl q)) (fun q => n19 (eq_of_toInt 19 rfl q)) (by omega) (by omega)]
        exact hgo _ _ (x2 - 1) (by omega) (by omega) (by omega) (agr_upd _ fun j hj _ => hA j (by omega))
