-- PURE: laws, people, images, bytes
theorem TR.gen {tx tx' : Nat → Ob} {T m r : Ob} (h : TR tx T m) (h0 : r.1 0 = m.1 0) (h10 : r.1 10 = m.1 10) (hX : XR (tx' (m.1 10).toNatClampNeg) r (m.1 10)) (h1 : ∀ j : Nat, (j : Int) < (m.1 0).toInt → r.2 1 j = m.2 1 j) (h2 : ∀ j : Nat, (j : Int) < (m.1 0).toInt → r.2 2 j = m.2 2 j) (h3 : ∀ j, j < 24 → r.2 3 j = m.2 3 j) (h4 : ∀ j, j < 3 → r.2 4 j = m.2 4 j) : TR tx' T r := by
  obtain ⟨a, b, c, d, e, f, g, i⟩ := h
  unfold TR
  rw [h0, h10, h4 0 (by decide), h4 1 (by decide), h4 2 (by decide)]
  refine ⟨a, b, c, hX, fun k hk => ?_, f, g, i⟩
  obtain ⟨⟨k0, k1, k2, k3, k4, k5⟩, v1, v2⟩ := e k hk
  have hk6 : k < 6 := by have := a.2.2; omega
  unfold TRk VBk
  rw [h1 k hk, h2 k hk, h3 _ (by omega), h3 _ (by omega), h3 _ (by omega), h3 _ (by omega)]
  exact ⟨⟨k0, k1, k2, k3, k4, k5⟩, v1, v2⟩
theorem IS.gen {bb bb' : Ob} {tx tx' : Nat → Ob} {K m r : Ob} (h : IS bb tx K m) (hb : bb'.1 8 = bb.1 8) (h11 : r.1 11 = m.1 11) (h0 : (m.1 0).toInt ≤ (r.1 0).toInt) (h9 : (m.1 9).toInt ≤ (r.1 9).toInt) (h12 : r.2 12 = m.2 12) (h13 : r.2 13 = m.2 13) (h1 : ∀ j : Nat, (j : Int) < (m.1 0).toInt → r.2 1 j = m.2 1 j) (h2 : ∀ j : Nat, (j : Int) < (m.1 0).toInt → r.2 2 j = m.2 2 j) (hX : ∀ t : Int32, 0 ≤ t.toInt → t.toInt < (m.1 9).toInt → XR (tx t.toNatClampNeg) m t → XR (tx' t.toNatClampNeg) r t) : IS bb' tx' K r := by
  obtain ⟨c1, c2, c3⟩ := h
  unfold IS
  rw [hb, h11, h12, h13]
  refine ⟨c1, c2, fun q => ?_⟩
  obtain ⟨c4, c5, c6, c7⟩ := c3 q
  have hx4 : XR (tx (m.2 13 1).toNatClampNeg) m (m.2 13 1) := (c4.2.2.2.1 : XR (tx ((imM m).1 10).toNatClampNeg) (imM m) ((imM m).1 10))
  have hr4 : 0 ≤ (m.2 13 1).toInt := c4.2.2.1.2.2.1
  refine ⟨c4.gen ?_ ?_ ?_ (fun j hj => ?_) (fun j hj => ?_) (fun j _ => ?_) (fun j _ => ?_), by omega, by omega, c7⟩
  · show r.2 13 0 = m.2 13 0
    rw [h13]
  · show r.2 13 1 = m.2 13 1
    rw [h13]
  · exact (hX _ hr4 c6 hx4 : XR (tx' (m.2 13 1).toNatClampNeg) r (m.2 13 1))
  · have hj' : (j : Int) < (m.2 13 0).toInt := hj
    exact h1 j (by omega)
  · have hj' : (j : Int) < (m.2 13 0).toInt := hj
    exact h2 j (by omega)
  · show r.2 12 j = m.2 12 j
    rw [h12]
  · show r.2 12 (24 + j) = m.2 12 (24 + j)
    rw [h12]
theorem image_all (m : Ob) : (F_X6_image m).1 = m.1 0 ∧ (∀ j, j < 24 → (F_X6_image m).2.2 12 j = m.2 3 j) ∧ (∀ j, j < 3 → (F_X6_image m).2.2 12 (24 + j) = m.2 4 j) ∧ (F_X6_image m).2.2 13 0 = m.1 0 ∧ (F_X6_image m).2.2 13 1 = m.1 10 ∧ (F_X6_image m).2.1 11 = 1 ∧ (∀ k, k ≠ 11 → (F_X6_image m).2.1 k = m.1 k) ∧ ∀ k, k ≠ 12 → k ≠ 13 → (F_X6_image m).2.2 k = m.2 k := by
  let P : Int32 × Ob → Prop := fun R => R.1 = m.1 0 ∧ (∀ j, j < 24 → R.2.2 12 j = m.2 3 j) ∧ (∀ j, j < 3 → R.2.2 12 (24 + j) = m.2 4 j) ∧ R.2.2 13 0 = m.1 0 ∧ R.2.2 13 1 = m.1 10 ∧ R.2.1 11 = 1 ∧ (∀ k, k ≠ 11 → R.2.1 k = m.1 k) ∧ ∀ k, k ≠ 12 → k ≠ 13 → R.2.2 k = m.2 k
  have k28 : ∀ (n : Nat) (r : Ob) (x : Int32), 0 ≤ x.toInt → x.toInt ≤ 3 → 3 < x.toInt + n → (∀ j, j < 24 → r.2 12 j = m.2 3 j) → (∀ j, j < x.toNatClampNeg → r.2 12 (24 + j) = m.2 4 j) → r.1 11 = 1 → (∀ k, k ≠ 11 → r.1 k = m.1 k) → (∀ k, k ≠ 12 → r.2 k = m.2 k) → P (F_X6_image_l33 n r x) := by
    intro n
    induction n with
    | zero => intro r x h0 h1 h2; omega
    | succ n ih =>
      intro r x h0 h1 h2 hA hB hC hC2 hD
      unfold F_X6_image_l33
      have e3 : (3 : Int32).toInt = 3 := rfl
      by_cases c : (3 : Int32) ≤ x
      · rw [if_pos c]
        have c2 := i_le.mp c
        refine ⟨hC2 0 (by decide), hA, fun j hj => hB j (by rw [tcn_i]; omega), hC2 0 (by decide), ?_, hC, hC2, fun k k1 k2 => ?_⟩
        · show r.1 10 = m.1 10
          exact hC2 10 (by decide)
        · exact (sA_ne _ _ k2).trans ((sA_ne _ _ k2).trans (hD k k1))
      · rw [if_neg c]
        have c2 := i_nle c
        have e1 : (x + 1).toInt = x.toInt + 1 := addL (k := 1) (by decide +kernel) (by omega) (by omega)
        have e24 : (24 + x).toInt = 24 + x.toInt := addLl (k := 24) (by decide +kernel) (by omega) (by omega)
        have t24 : (24 + x).toNatClampNeg = 24 + x.toNatClampNeg := by rw [tcn_i, tcn_i]; omega
        refine ih _ (x + 1) (by omega) (by omega) (by omega) (fun j hj => ?_) (fun j hj => ?_) hC hC2 (fun k hk => (sA_ne _ _ hk).trans (hD k hk))
        · show upd (r.2 12) (24 + x).toNatClampNeg _ j = _
          rw [upd_n _ (by omega)]
          exact hA j hj
        · rw [tcn_add h0 (by omega)] at hj
          show upd (r.2 12) (24 + x).toNatClampNeg (r.2 4 x.toNatClampNeg) (24 + j) = _
          rw [t24]
          by_cases q : j = x.toNatClampNeg
          · rw [q, upd_s, hD 4 (by decide)]
          · rw [upd_n _ (by omega)]
            exact hB j (by omega)
  have k2 : ∀ (n : Nat) (r : Ob) (x : Int32), 0 ≤ x.toInt → x.toInt ≤ 24 → 24 < x.toInt + n → (∀ j, j < x.toNatClampNeg → r.2 12 j = m.2 3 j) → r.1 11 = 1 → (∀ k, k ≠ 11 → r.1 k = m.1 k) → (∀ k, k ≠ 12 → r.2 k = m.2 k) → P (F_X6_image_l7 n r x) := by
    intro n
    induction n with
    | zero => intro r x h0 h1 h2; omega
    | succ n ih =>
      intro r x h0 h1 h2 hA hC hC2 hD
      unfold F_X6_image_l7
      have e24 : (24 : Int32).toInt = 24 := rfl
      by_cases c : (24 : Int32) ≤ x
      · rw [if_pos c]
        have c2 := i_le.mp c
        exact k28 4 r 0 (by decide) (by decide) (by decide) (fun j hj => hA j (by rw [tcn_i]; omega)) (fun j hj => absurd hj (Nat.not_lt_zero j)) hC hC2 hD
      · rw [if_neg c]
        have c2 := i_nle c
        have e1 : (x + 1).toInt = x.toInt + 1 := addL (k := 1) (by decide +kernel) (by omega) (by omega)
        refine ih _ (x + 1) (by omega) (by omega) (by omega) (fun j hj => ?_) hC hC2 (fun k hk => (sA_ne _ _ hk).trans (hD k hk))
        rw [tcn_add h0 (by omega)] at hj
        show upd (r.2 12) x.toNatClampNeg (r.2 3 x.toNatClampNeg) j = _
        by_cases q : j = x.toNatClampNeg
        · rw [q, upd_s, hD 3 (by decide)]
        · rw [upd_n _ q]
          exact hA j (by omega)
  exact k2 25 (setS m 11 1) 0 (by decide) (by decide) (by decide) (fun j hj => absurd hj (Nat.not_lt_zero j)) rfl (fun k hk => s_ne _ hk) (fun k _ => rfl)
theorem back_all (m : Ob) (hi : ¬ m.1 11 = 0) : (F_X6_back m).1 = m.2 13 0 ∧ (∀ j, j < 24 → (F_X6_back m).2.2 3 j = m.2 12 j) ∧ (∀ j, j < 3 → (F_X6_back m).2.2 4 j = m.2 12 (24 + j)) ∧ (F_X6_back m).2.1 0 = m.2 13 0 ∧ (F_X6_back m).2.1 10 = m.2 13 1 ∧ (∀ k, k ≠ 0 → k ≠ 10 → (F_X6_back m).2.1 k = m.1 k) ∧ ∀ k, k ≠ 3 → k ≠ 4 → (F_X6_back m).2.2 k = m.2 k := by
  let P : Int32 × Ob → Prop := fun R => R.1 = m.2 13 0 ∧ (∀ j, j < 24 → R.2.2 3 j = m.2 12 j) ∧ (∀ j, j < 3 → R.2.2 4 j = m.2 12 (24 + j)) ∧ R.2.1 0 = m.2 13 0 ∧ R.2.1 10 = m.2 13 1 ∧ (∀ k, k ≠ 0 → k ≠ 10 → R.2.1 k = m.1 k) ∧ ∀ k, k ≠ 3 → k ≠ 4 → R.2.2 k = m.2 k
  have k28 : ∀ (n : Nat) (r : Ob) (x : Int32), 0 ≤ x.toInt → x.toInt ≤ 3 → 3 < x.toInt + n → (∀ j, j < 24 → r.2 3 j = m.2 12 j) → (∀ j, j < x.toNatClampNeg → r.2 4 j = m.2 12 (24 + j)) → r.1 = m.1 → (∀ k, k ≠ 3 → k ≠ 4 → r.2 k = m.2 k) → P (F_X6_back_l38 n r x) := by
    intro n
    induction n with
    | zero => intro r x h0 h1 h2; omega
    | succ n ih =>
      intro r x h0 h1 h2 hA hB hC hD
      have e13 := hD 13 (by decide) (by decide)
      unfold F_X6_back_l38
      have e3 : (3 : Int32).toInt = 3 := rfl
      by_cases c : (3 : Int32) ≤ x
      · rw [if_pos c]
        have c2 := i_le.mp c
        refine ⟨?_, hA, fun j hj => hB j (by rw [tcn_i]; omega), ?_, ?_, fun k k1 k2 => ?_, hD⟩
        · show r.2 13 0 = _
          rw [e13]
        · show r.2 13 0 = _
          rw [e13]
        · show r.2 13 1 = _
          rw [e13]
        · rw [s_ne _ k2, s_ne _ k1, hC]
      · rw [if_neg c]
        have c2 := i_nle c
        have e1 : (x + 1).toInt = x.toInt + 1 := addL (k := 1) (by decide +kernel) (by omega) (by omega)
        have e24 : (24 + x).toInt = 24 + x.toInt := addLl (k := 24) (by decide +kernel) (by omega) (by omega)
        have t24 : (24 + x).toNatClampNeg = 24 + x.toNatClampNeg := by rw [tcn_i, tcn_i]; omega
        refine ih _ (x + 1) (by omega) (by omega) (by omega) hA (fun j hj => ?_) hC (fun k k1 k2 => (sA_ne _ _ k2).trans (hD k k1 k2))
        rw [tcn_add h0 (by omega)] at hj
        show upd (r.2 4) x.toNatClampNeg (r.2 12 (24 + x).toNatClampNeg) j = _
        by_cases q : j = x.toNatClampNeg
        · rw [q, upd_s, hD 12 (by decide) (by decide), t24]
        · rw [upd_n _ q]
          exact hB j (by omega)
  have k2 : ∀ (n : Nat) (r : Ob) (x : Int32), 0 ≤ x.toInt → x.toInt ≤ 24 → 24 < x.toInt + n → (∀ j, j < x.toNatClampNeg → r.2 3 j = m.2 12 j) → r.1 = m.1 → (∀ k, k ≠ 3 → k ≠ 4 → r.2 k = m.2 k) → P (F_X6_back_l12 n r x) := by
    intro n
    induction n with
    | zero => intro r x h0 h1 h2; omega
    | succ n ih =>
      intro r x h0 h1 h2 hA hC hD
      unfold F_X6_back_l12
      have e24 : (24 : Int32).toInt = 24 := rfl
      by_cases c : (24 : Int32) ≤ x
      · rw [if_pos c]
        have c2 := i_le.mp c
        exact k28 4 r 0 (by decide) (by decide) (by decide) (fun j hj => hA j (by rw [tcn_i]; omega)) (fun j hj => absurd hj (Nat.not_lt_zero j)) hC hD
      · rw [if_neg c]
        have c2 := i_nle c
        have e1 : (x + 1).toInt = x.toInt + 1 := addL (k := 1) (by decide +kernel) (by omega) (by omega)
        refine ih _ (x + 1) (by omega) (by omega) (by omega) (fun j hj => ?_) hC (fun k k1 k2 => (sA_ne _ _ k1).trans (hD k k1 k2))
        rw [tcn_add h0 (by omega)] at hj
        show upd (r.2 3) x.toNatClampNeg (r.2 12 x.toNatClampNeg) j = _
        by_cases q : j = x.toNatClampNeg
        · rw [q, upd_s, hD 12 (by decide) (by decide)]
        · rw [upd_n _ q]
          exact hA j (by omega)
  have e : F_X6_back m = F_X6_back_l12 25 m 0 := if_neg hi
  rw [e]
  exact k2 25 m 0 (by decide) (by decide) (by decide) (fun j hj => absurd hj (Nat.not_lt_zero j)) rfl (fun k _ _ => rfl)
