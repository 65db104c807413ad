-- PURE: the town in thought; what the reference lays aside and back
theorem TR.town {tx : Nat → Ob} {T T' m : Ob} (h : TR tx T m) (hs : ∀ k, 5 ≤ k → k ≤ 11 → T'.1 k = T.1 k) (ha : ∀ j, j < 5 → ∀ k, k < 6 → T'.2 j k = T.2 j k) : TR tx T' m := by
  obtain ⟨a, b, c, d, e, f, g, i⟩ := h
  unfold TR
  rw [hs 5 (by decide) (by decide), hs 6 (by decide) (by decide), hs 7 (by decide) (by decide), hs 8 (by decide) (by decide), hs 9 (by decide) (by decide), hs 10 (by decide) (by decide), hs 11 (by decide) (by decide)]
  refine ⟨a, b, c, d, fun k hk => ?_, f, g, i⟩
  have hk6 : k < 6 := by have := a.2.2; omega
  obtain ⟨⟨k0, k1, k2, k3, k4, k5⟩, v⟩ := e k hk
  unfold TRk
  rw [ha 0 (by decide) k hk6, ha 1 (by decide) k hk6, ha 2 (by decide) k hk6, ha 3 (by decide) k hk6, ha 4 (by decide) k hk6, hs 5 (by decide) (by decide)]
  exact ⟨⟨k0, k1, k2, k3, k4, k5⟩, v⟩
theorem become_all (T2 : Ob) : ∀ (n : Nat) (T : Ob) (x : Int32), 0 ≤ x.toInt → x.toInt ≤ 6 → 6 < x.toInt + n → (∀ j, j < 5 → ∀ k, k < x.toNatClampNeg → T.2 j k = T2.2 j k) → (∀ k, 5 ≤ k → k ≤ 10 → (F_X4_become_l2 n T T2 x).1 k = T2.1 k) ∧ (F_X4_become_l2 n T T2 x).1 11 = nI (T2.1 11).toNatClampNeg ∧ ∀ j, j < 5 → ∀ k, k < 6 → (F_X4_become_l2 n T T2 x).2 j k = T2.2 j k := by
  intro n
  induction n with
  | zero => intro T x h0 h1 h2 _; omega
  | succ n ih =>
    intro T x h0 h1 h2 hA
    unfold F_X4_become_l2
    have e6 : (6 : Int32).toInt = 6 := rfl
    by_cases c : (6 : Int32) ≤ x
    · rw [if_pos c]
      have c2 := i_le.mp c
      refine ⟨fun k k0 k1 => ?_, rfl, fun j hj k hk => hA j hj k (by rw [tcn_i]; omega)⟩
      rcases (show k = 5 ∨ k = 6 ∨ k = 7 ∨ k = 8 ∨ k = 9 ∨ k = 10 by omega) with rfl | rfl | rfl | rfl | rfl | rfl <;> rfl
    · rw [if_neg c]
      have c2 := i_nle c
      have e1 : (x + 1).toInt = x.toInt + 1 := addL (k := 1) (by decide +kernel) (by omega) (by omega)
      refine ih _ (x + 1) (by omega) (by omega) (by omega) (fun j hj k hk => ?_)
      rw [tcn_add h0 (by omega)] at hk
      have hu : ∀ (f : Nat → Int32) (v : Nat → Int32), (∀ k, k < x.toNatClampNeg → f k = v k) → upd f x.toNatClampNeg (v x.toNatClampNeg) k = v k := fun f v hf => by
        by_cases q : k = x.toNatClampNeg
        · rw [q, upd_s]
        · rw [upd_n _ q]; exact hf k (by omega)
      rcases (show j = 0 ∨ j = 1 ∨ j = 2 ∨ j = 3 ∨ j = 4 by omega) with rfl | rfl | rfl | rfl | rfl
      · exact hu (T.2 0) (T2.2 0) (hA 0 (by decide))
      · exact hu (T.2 1) (T2.2 1) (hA 1 (by decide))
      · exact hu (T.2 2) (T2.2 2) (hA 2 (by decide))
      · exact hu (T.2 3) (T2.2 3) (hA 3 (by decide))
      · exact hu (T.2 4) (T2.2 4) (hA 4 (by decide))
theorem TR.become {tx : Nat → Ob} {T2 m : Ob} (h : TR tx T2 m) (T : Ob) : TR tx (F_X4_become T T2) m := by
  obtain ⟨a, b, c⟩ := become_all T2 7 T 0 (by decide) (by decide) (by decide) (fun j _ k hk => absurd hk (Nat.not_lt_zero k))
  refine h.town (fun k k0 k1 => ?_) c
  rcases (show k ≤ 10 ∨ k = 11 by omega) with q | rfl
  · exact a k k0 q
  · exact b.trans (nI_tcn (by rw [h.2.2.1.2.1]; exact h.2.2.1.2.2.1))
theorem TR.thought {tx tn : Nat → Ob} {m : Ob} (h : TR tx (tn 0) m) (X : Ob) : TR tx (F_X5_startThought (va_up tn 1 X)) m := by
  unfold F_X5_startThought F_X5_startThought_c8
  exact TR.become (T2 := va_up tn 1 X 0) h _
/-- hours change the rows and the bells alone -/
def hK (m r : Ob) : Prop := (∀ k : Nat, k ≠ 29 → k ≠ 33 → r.1 k = m.1 k) ∧ ∀ k : Nat, k ≠ 3 → k ≠ 4 → k ≠ 31 → k ≠ 32 → r.2 k = m.2 k
theorem hK.refl {m : Ob} : hK m m := ⟨fun _ _ _ => rfl, fun _ _ _ _ _ => rfl⟩
theorem hK.trans {m r t : Ob} (h : hK m r) (k : hK r t) : hK m t := ⟨fun q h1 h2 => (k.1 q h1 h2).trans (h.1 q h1 h2), fun q h1 h2 h3 h4 => (k.2 q h1 h2 h3 h4).trans (h.2 q h1 h2 h3 h4)⟩
theorem hK.a3 {m r : Ob} (h : hK m r) (i v : Int32) : hK m (stA r 3 i v) := ⟨h.1, fun k k1 k2 k3 k4 => (sA_ne _ _ k1).trans (h.2 k k1 k2 k3 k4)⟩
theorem hK.a4 {m r : Ob} (h : hK m r) (i v : Int32) : hK m (stA r 4 i v) := ⟨h.1, fun k k1 k2 k3 k4 => (sA_ne _ _ k2).trans (h.2 k k1 k2 k3 k4)⟩
theorem hK.a31 {m r : Ob} (h : hK m r) (i v : Int32) : hK m (stA r 31 i v) := ⟨h.1, fun k k1 k2 k3 k4 => (sA_ne _ _ k3).trans (h.2 k k1 k2 k3 k4)⟩
theorem hK.a32 {m r : Ob} (h : hK m r) (i v : Int32) : hK m (stA r 32 i v) := ⟨h.1, fun k k1 k2 k3 k4 => (sA_ne _ _ k4).trans (h.2 k k1 k2 k3 k4)⟩
theorem hK.s29 {m r : Ob} (h : hK m r) (v : Int32) : hK m (setS r 29 v) := ⟨fun k k1 k2 => (s_ne _ k1).trans (h.1 k k1 k2), h.2⟩
theorem hK.s33 {m r : Ob} (h : hK m r) (v : Int32) : hK m (setS r 33 v) := ⟨fun k k1 k2 => (s_ne _ k2).trans (h.1 k k1 k2), h.2⟩
theorem hourOf_hK (m : Ob) : hK m (F_X6_hourOf m).2 := by
  have k : ∀ (n : Nat) (r : Ob) (x1 x2 x3 : Int32), hK m r → hK m (F_X6_hourOf_l13 n r x1 x2 x3).2 := by
    intro n
    induction n with
    | zero => intro r x1 x2 x3 h; exact h
    | succ n ih =>
      intro r x1 x2 x3 h
      unfold F_X6_hourOf_l13
      split
      · exact (((h.a4 _ _).a4 _ _).a4 _ _).s29 _
      · split
        · exact ih _ _ _ _ ((h.a3 _ _).a3 _ _)
        · exact ih _ _ _ _ h
  exact k 7 _ _ _ _ hK.refl
theorem goes_hK (m : Ob) (p : Int32) : hK m (F_X6_goes m p).2 := by
  have k : ∀ (n : Nat) (r : Ob) (x1 x2 x3 : Int32), hK m r → hK m (F_X6_goes_l4 n r x1 x2 x3).2 := by
    intro n
    induction n with
    | zero => intro r x1 x2 x3 h; exact h
    | succ n ih =>
      intro r x1 x2 x3 h
      unfold F_X6_goes_l4
      split
      · exact h
      · exact ih _ _ _ _ (h.trans (hourOf_hK r))
  exact k 49 _ _ _ _ hK.refl
/-- hours go by in both -/
theorem goes_eq {tx : Nat → Ob} {T m : Ob} (h : TR tx T m) {p : Int32} (hp : p.toInt ≤ 48) : (F_X4_passHours tx T p).1 = (F_X6_goes m p).1 ∧ TR tx (F_X4_passHours tx T p).2 (F_X6_goes m p).2 := by
  have k : ∀ (n : Nat) (T m : Ob) (x2 x3 : Int32), TR tx T m → 0 ≤ x3.toInt → x3.toInt ≤ 48 → 48 < x3.toInt + n → (F_X4_passHours_l4 n tx T p x2 x3).1 = (F_X6_goes_l4 n m p x2 x3).1 ∧ TR tx (F_X4_passHours_l4 n tx T p x2 x3).2 (F_X6_goes_l4 n m p x2 x3).2 := by
    intro n
    induction n with
    | zero => intro T m x2 x3 _ _ _ _; omega
    | succ n ih =>
      intro T m x2 x3 h h0 h1 hn
      unfold F_X4_passHours_l4 F_X6_goes_l4
      by_cases c : p ≤ x3
      · rw [if_pos c, if_pos c]; exact ⟨rfl, h⟩
      · rw [if_neg c, if_neg c]
        have c2 := i_nle c
        have e1 : (x3 + 1).toInt = x3.toInt + 1 := addL (k := 1) (by decide +kernel) (by omega) (by omega)
        obtain ⟨u1, u2, _⟩ := hour_eq h
        unfold F_X4_passHours_c15 F_X6_goes_c11
        rw [u1]
        exact ih _ _ _ _ u2 (by omega) (by omega) (by omega)
  exact k 49 T m 0 0 h (by decide) (by decide) (by decide)
theorem keeps_all (m : Ob) : (∀ j, j < 24 → (F_X6_keeps m).2 30 j = m.2 3 j) ∧ (∀ j, j < 3 → (F_X6_keeps m).2 30 (24 + j) = m.2 4 j) ∧ (F_X6_keeps m).1 = m.1 ∧ ∀ k, k ≠ 30 → (F_X6_keeps m).2 k = m.2 k := by
  have k28 : ∀ (n : Nat) (r : Ob) (x : Int32), 0 ≤ x.toInt → x.toInt ≤ 3 → 3 < x.toInt + n → (∀ j, j < 24 → r.2 30 j = m.2 3 j) → (∀ j, j < x.toNatClampNeg → r.2 30 (24 + j) = m.2 4 j) → r.1 = m.1 → (∀ k, k ≠ 30 → r.2 k = m.2 k) → (∀ j, j < 24 → (F_X6_keeps_l28 n r x).2 30 j = m.2 3 j) ∧ (∀ j, j < 3 → (F_X6_keeps_l28 n r x).2 30 (24 + j) = m.2 4 j) ∧ (F_X6_keeps_l28 n r x).1 = m.1 ∧ ∀ k, k ≠ 30 → (F_X6_keeps_l28 n r x).2 k = m.2 k := by
    intro n
    induction n with
    | zero => intro r x h0 h1 h2; omega
    | succ n ih =>
      intro r x h0 h1 h2 hA hB hC hD
      unfold F_X6_keeps_l28
      have e3 : (3 : Int32).toInt = 3 := rfl
      by_cases c : (3 : Int32) ≤ x
      · rw [if_pos c]
        have c2 := i_le.mp c
        exact ⟨hA, fun j hj => hB j (by rw [tcn_i]; omega), hC, hD⟩
      · rw [if_neg c]
        have c2 := i_nle c
        have e1 : (x + 1).toInt = x.toInt + 1 := addL (k := 1) (by decide +kernel) (by omega) (by omega)
        have e24 : (24 + x).toInt = 24 + x.toInt := addLl (k := 24) (by decide +kernel) (by omega) (by omega)
        have t24 : (24 + x).toNatClampNeg = 24 + x.toNatClampNeg := by rw [tcn_i, tcn_i]; omega
        refine ih _ (x + 1) (by omega) (by omega) (by omega) (fun j hj => ?_) (fun j hj => ?_) hC (fun k hk => (sA_ne _ _ hk).trans (hD k hk))
        · show upd (r.2 30) (24 + x).toNatClampNeg _ j = _
          rw [upd_n _ (by omega)]
          exact hA j hj
        · rw [tcn_add h0 (by omega)] at hj
          show upd (r.2 30) (24 + x).toNatClampNeg (r.2 4 x.toNatClampNeg) (24 + j) = _
          rw [t24]
          by_cases q : j = x.toNatClampNeg
          · rw [q, upd_s, hD 4 (by decide)]
          · rw [upd_n _ (by omega)]
            exact hB j (by omega)
  have k2 : ∀ (n : Nat) (r : Ob) (x : Int32), 0 ≤ x.toInt → x.toInt ≤ 24 → 24 < x.toInt + n → (∀ j, j < x.toNatClampNeg → r.2 30 j = m.2 3 j) → r.1 = m.1 → (∀ k, k ≠ 30 → r.2 k = m.2 k) → (∀ j, j < 24 → (F_X6_keeps_l2 n r x).2 30 j = m.2 3 j) ∧ (∀ j, j < 3 → (F_X6_keeps_l2 n r x).2 30 (24 + j) = m.2 4 j) ∧ (F_X6_keeps_l2 n r x).1 = m.1 ∧ ∀ k, k ≠ 30 → (F_X6_keeps_l2 n r x).2 k = m.2 k := by
    intro n
    induction n with
    | zero => intro r x h0 h1 h2; omega
    | succ n ih =>
      intro r x h0 h1 h2 hA hC hD
      unfold F_X6_keeps_l2
      have e24 : (24 : Int32).toInt = 24 := rfl
      by_cases c : (24 : Int32) ≤ x
      · rw [if_pos c]
        have c2 := i_le.mp c
        exact k28 4 r 0 (by decide) (by decide) (by decide) (fun j hj => hA j (by rw [tcn_i]; omega)) (fun j hj => absurd hj (Nat.not_lt_zero j)) hC hD
      · rw [if_neg c]
        have c2 := i_nle c
        have e1 : (x + 1).toInt = x.toInt + 1 := addL (k := 1) (by decide +kernel) (by omega) (by omega)
        refine ih _ (x + 1) (by omega) (by omega) (by omega) (fun j hj => ?_) hC (fun k hk => (sA_ne _ _ hk).trans (hD k hk))
        rw [tcn_add h0 (by omega)] at hj
        show upd (r.2 30) x.toNatClampNeg (r.2 3 x.toNatClampNeg) j = _
        by_cases q : j = x.toNatClampNeg
        · rw [q, upd_s, hD 3 (by decide)]
        · rw [upd_n _ q]
          exact hA j (by omega)
  exact k2 25 m 0 (by decide) (by decide) (by decide) (fun j hj => absurd hj (Nat.not_lt_zero j)) rfl (fun k _ => rfl)
theorem lays_all (m : Ob) : (∀ j, j < 24 → (F_X6_lays m).2 3 j = m.2 30 j) ∧ (∀ j, j < 3 → (F_X6_lays m).2 4 j = m.2 30 (24 + j)) ∧ (F_X6_lays m).1 = m.1 ∧ ∀ k, k ≠ 3 → k ≠ 4 → (F_X6_lays m).2 k = m.2 k := by
  have k28 : ∀ (n : Nat) (r : Ob) (x : Int32), 0 ≤ x.toInt → x.toInt ≤ 3 → 3 < x.toInt + n → (∀ j, j < 24 → r.2 3 j = m.2 30 j) → (∀ j, j < x.toNatClampNeg → r.2 4 j = m.2 30 (24 + j)) → r.1 = m.1 → (∀ k, k ≠ 3 → k ≠ 4 → r.2 k = m.2 k) → (∀ j, j < 24 → (F_X6_lays_l28 n r x).2 3 j = m.2 30 j) ∧ (∀ j, j < 3 → (F_X6_lays_l28 n r x).2 4 j = m.2 30 (24 + j)) ∧ (F_X6_lays_l28 n r x).1 = m.1 ∧ ∀ k, k ≠ 3 → k ≠ 4 → (F_X6_lays_l28 n r x).2 k = m.2 k := by
    intro n
    induction n with
    | zero => intro r x h0 h1 h2; omega
    | succ n ih =>
      intro r x h0 h1 h2 hA hB hC hD
      unfold F_X6_lays_l28
      have e3 : (3 : Int32).toInt = 3 := rfl
      by_cases c : (3 : Int32) ≤ x
      · rw [if_pos c]
        have c2 := i_le.mp c
        exact ⟨hA, fun j hj => hB j (by rw [tcn_i]; omega), hC, hD⟩
      · rw [if_neg c]
        have c2 := i_nle c
        have e1 : (x + 1).toInt = x.toInt + 1 := addL (k := 1) (by decide +kernel) (by omega) (by omega)
        have e24 : (24 + x).toInt = 24 + x.toInt := addLl (k := 24) (by decide +kernel) (by omega) (by omega)
        have t24 : (24 + x).toNatClampNeg = 24 + x.toNatClampNeg := by rw [tcn_i, tcn_i]; omega
        refine ih _ (x + 1) (by omega) (by omega) (by omega) hA (fun j hj => ?_) hC (fun k k1 k2 => (sA_ne _ _ k2).trans (hD k k1 k2))
        rw [tcn_add h0 (by omega)] at hj
        show upd (r.2 4) x.toNatClampNeg (r.2 30 (24 + x).toNatClampNeg) j = _
        by_cases q : j = x.toNatClampNeg
        · rw [q, upd_s, hD 30 (by decide) (by decide), t24]
        · rw [upd_n _ q]
          exact hB j (by omega)
  have k2 : ∀ (n : Nat) (r : Ob) (x : Int32), 0 ≤ x.toInt → x.toInt ≤ 24 → 24 < x.toInt + n → (∀ j, j < x.toNatClampNeg → r.2 3 j = m.2 30 j) → r.1 = m.1 → (∀ k, k ≠ 3 → k ≠ 4 → r.2 k = m.2 k) → (∀ j, j < 24 → (F_X6_lays_l2 n r x).2 3 j = m.2 30 j) ∧ (∀ j, j < 3 → (F_X6_lays_l2 n r x).2 4 j = m.2 30 (24 + j)) ∧ (F_X6_lays_l2 n r x).1 = m.1 ∧ ∀ k, k ≠ 3 → k ≠ 4 → (F_X6_lays_l2 n r x).2 k = m.2 k := by
    intro n
    induction n with
    | zero => intro r x h0 h1 h2; omega
    | succ n ih =>
      intro r x h0 h1 h2 hA hC hD
      unfold F_X6_lays_l2
      have e24 : (24 : Int32).toInt = 24 := rfl
      by_cases c : (24 : Int32) ≤ x
      · rw [if_pos c]
        have c2 := i_le.mp c
        exact k28 4 r 0 (by decide) (by decide) (by decide) (fun j hj => hA j (by rw [tcn_i]; omega)) (fun j hj => absurd hj (Nat.not_lt_zero j)) hC hD
      · rw [if_neg c]
        have c2 := i_nle c
        have e1 : (x + 1).toInt = x.toInt + 1 := addL (k := 1) (by decide +kernel) (by omega) (by omega)
        refine ih _ (x + 1) (by omega) (by omega) (by omega) (fun j hj => ?_) hC (fun k k1 k2 => (sA_ne _ _ k1).trans (hD k k1 k2))
        rw [tcn_add h0 (by omega)] at hj
        show upd (r.2 3) x.toNatClampNeg (r.2 30 x.toNatClampNeg) j = _
        by_cases q : j = x.toNatClampNeg
        · rw [q, upd_s, hD 30 (by decide) (by decide)]
        · rw [upd_n _ q]
          exact hA j (by omega)
  exact k2 25 m 0 (by decide) (by decide) (by decide) (fun j hj => absurd hj (Nat.not_lt_zero j)) rfl (fun k _ _ => rfl)
/-- all that later calls can see is as it was -/
def sM (m r : Ob) : Prop := (∀ k : Nat, k ≠ 29 → k ≠ 33 → r.1 k = m.1 k) ∧ (∀ j, j < 24 → r.2 3 j = m.2 3 j) ∧ (∀ j, j < 3 → r.2 4 j = m.2 4 j) ∧ ∀ k : Nat, k ≠ 3 → k ≠ 4 → k ≠ 30 → k ≠ 31 → k ≠ 32 → r.2 k = m.2 k
theorem sM.refl {m : Ob} : sM m m := ⟨fun _ _ _ => rfl, fun _ _ => rfl, fun _ _ => rfl, fun _ _ _ _ _ _ => rfl⟩
theorem sM.trans {m r t : Ob} (h : sM m r) (k : sM r t) : sM m t := ⟨fun q a b => (k.1 q a b).trans (h.1 q a b), fun j hj => (k.2.1 j hj).trans (h.2.1 j hj), fun j hj => (k.2.2.1 j hj).trans (h.2.2.1 j hj), fun q a b c d e => (k.2.2.2 q a b c d e).trans (h.2.2.2 q a b c d e)⟩
theorem sM_keeps (m : Ob) : sM m (F_X6_keeps m) := by
  obtain ⟨a, b, c, d⟩ := keeps_all m
  exact ⟨fun k _ _ => by rw [c], fun j _ => by rw [d 3 (by decide)], fun j _ => by rw [d 4 (by decide)], fun k _ _ k3 _ _ => d k k3⟩
/-- kept, lived on, laid back -/
theorem sM_lays {m r : Ob} (hk : ∀ j, j < 24 → r.2 30 j = m.2 3 j) (hb : ∀ j, j < 3 → r.2 30 (24 + j) = m.2 4 j) (h1 : ∀ k : Nat, k ≠ 29 → k ≠ 33 → r.1 k = m.1 k) (h2 : ∀ k : Nat, k ≠ 3 → k ≠ 4 → k ≠ 30 → k ≠ 31 → k ≠ 32 → r.2 k = m.2 k) : sM m (F_X6_lays r) := by
  obtain ⟨a, b, c, d⟩ := lays_all r
  exact ⟨fun k k1 k2 => by rw [c]; exact h1 k k1 k2, fun j hj => (a j hj).trans (hk j hj), fun j hj => (b j hj).trans (hb j hj), fun k k1 k2 k3 k4 k5 => (d k k1 k2).trans (h2 k k1 k2 k3 k4 k5)⟩
theorem sM_round {m r : Ob} (h : hK (F_X6_keeps m) r) : sM m (F_X6_lays r) := by
  obtain ⟨a, b, c, d⟩ := keeps_all m
  have e30 := h.2 30 (by decide) (by decide) (by decide) (by decide)
  exact sM_lays (fun j hj => by rw [e30]; exact a j hj) (fun j hj => by rw [e30]; exact b j hj) (fun k k1 k2 => by rw [h.1 k k1 k2, c]) (fun k k1 k2 k3 k4 k5 => by rw [h.2 k k1 k2 k4 k5]; exact d k k3)
theorem TR.sM {tx : Nat → Ob} {T m r : Ob} (h : TR tx T m) (k : sM m r) : TR tx T r := h.same (k.1 0 (by decide) (by decide)) (k.1 10 (by decide) (by decide)) (k.2.2.2 1 (by decide) (by decide) (by decide) (by decide) (by decide)) (k.2.2.2 2 (by decide) (by decide) (by decide) (by decide) (by decide)) k.2.1 k.2.2.1 (k.2.2.2 7 (by decide) (by decide) (by decide) (by decide) (by decide)) (k.2.2.2 8 (by decide) (by decide) (by decide) (by decide) (by decide))
theorem TR.keeps {tx : Nat → Ob} {T m : Ob} (h : TR tx T m) : TR tx T (F_X6_keeps m) := h.sM (sM_keeps m)
