-- Text.says: what lay in the stack before is of no matter
theorem tcn_add {x : Int32} (h0 : 0 ≤ x.toInt) (h1 : x.toInt ≤ 1000000) : (x + 1).toNatClampNeg = x.toNatClampNeg + 1 := by
  have e : (x + 1).toInt = x.toInt + 1 := addL (k := 1) (by decide +kernel) (by omega) (by omega)
  show (x + 1).toInt.toNat = x.toInt.toNat + 1
  omega
theorem tcn_sub {x : Int32} (h0 : 1 ≤ x.toInt) : (x - 1).toNatClampNeg = x.toNatClampNeg - 1 := by
  have hr := fb_rng x
  have e : (x - 1).toInt = x.toInt - 1 := subL (k := 1) (by decide +kernel) (by omega) (by omega)
  show (x - 1).toInt.toNat = x.toInt.toNat - 1
  omega
theorem tcn_i (x : Int32) : x.toNatClampNeg = x.toInt.toNat := rfl
theorem agr_upd {S S' : Nat → Int32} {k n : Nat} (v : Int32) (h : ∀ j, j < n → j ≠ k → S j = S' j) : ∀ j, j < n → upd S k v j = upd S' k v j := by
  intro j hj
  unfold upd
  by_cases q : j = k
  · rw [if_pos q, if_pos q]
  · rw [if_neg q, if_neg q]; exact h j hj q
theorem says_l (T T2 : Ob) (x1 x3 : Int32) : ∀ (n : Nat) (S S' : Nat → Int32) (x4 x5 : Int32), 0 ≤ x4.toInt → x4.toInt ≤ 160 → (∀ j, j < x4.toNatClampNeg → S j = S' j) → (1 ≤ x4.toInt ∨ (¬ (T.2 2) (Int32.toNatClampNeg x1) ≤ x5 ∧ ¬ 160 ≤ x5)) → (F_X3_saysR_l40 n T S T2 x1 x3 x4 x5).1 = (F_X3_saysR_l40 n T S' T2 x1 x3 x4 x5).1 := by
  intro n
  induction n with
  | zero => intro S S' x4 x5 _ _ _ _; rfl
  | succ n ih =>
    intro S S' x4 x5 h0 h1 hS hr
    have hr' := fb_rng x4
    have hfin : 1 ≤ x4.toInt → (F_X3_saysR_b230 T S T2 x1).1 = (F_X3_saysR_b230 T S' T2 x1).1 := by
      intro h
      have e : S (Int32.toNatClampNeg 0) = S' (Int32.toNatClampNeg 0) := hS 0 (by rw [tcn_i]; omega)
      unfold F_X3_saysR_b230 F_X3_saysR_b241
      split
      · show jmax _ (jmin 99 (S (Int32.toNatClampNeg 0))) = jmax _ (jmin 99 (S' (Int32.toNatClampNeg 0))); rw [e]
      · show jmax _ (jmin 99 (S (Int32.toNatClampNeg 0))) = jmax _ (jmin 99 (S' (Int32.toNatClampNeg 0))); rw [e]
    have hgo : ∀ (A A' : Nat → Int32) (y : Int32), 1 ≤ y.toInt → y.toInt ≤ 160 → (∀ j, j < y.toNatClampNeg → A j = A' j) → (F_X3_saysR_b224 (F_X3_saysR_l40 n) T A T2 x1 x3 y x5).1 = (F_X3_saysR_b224 (F_X3_saysR_l40 n) T A' T2 x1 x3 y x5).1 := by
      intro A A' y hy0 hy1 hA
      unfold F_X3_saysR_b224
      exact ih A A' y (x5 + 1) (by omega) hy1 hA (Or.inl hy0)
    have hun : 1 ≤ x4 → ∀ v : Int32, (F_X3_saysR_b179 (F_X3_saysR_l40 n) T S T2 x1 x3 x4 x5 (x4 - 1) v).1 = (F_X3_saysR_b179 (F_X3_saysR_l40 n) T S' T2 x1 x3 x4 x5 (x4 - 1) v).1 := by
      intro h v
      have h' : 1 ≤ x4.toInt := i_le.mp h
      unfold F_X3_saysR_b179
      exact hgo _ _ x4 h' h1 (agr_upd v fun j hj _ => hS j hj)
    have hb129 : (F_X3_saysR_b129 (F_X3_saysR_l40 n) T S T2 x1 x3 x4 x5 ((T.2 0) (Int32.toNatClampNeg x5))).1 = (F_X3_saysR_b129 (F_X3_saysR_l40 n) T S' T2 x1 x3 x4 x5 ((T.2 0) (Int32.toNatClampNeg x5))).1 := by
      unfold F_X3_saysR_b129
      by_cases c : 1 ≤ x4
      · have h' : 1 ≤ x4.toInt := i_le.mp c
        have e : S (Int32.toNatClampNeg (x4 - 1)) = S' (Int32.toNatClampNeg (x4 - 1)) := hS _ (by rw [tcn_sub h', tcn_i]; omega)
        rw [if_pos c, if_pos c, e]
        split
        · exact hun c _
        · split
          · exact hun c _
          · exact hun c _
      · rw [if_neg c, if_neg c]
    have hb108 : ∀ v : Int32, x4 < 160 → (F_X3_saysR_b108 (F_X3_saysR_l40 n) T S T2 x1 x3 x4 x5 x4 v).1 = (F_X3_saysR_b108 (F_X3_saysR_l40 n) T S' T2 x1 x3 x4 x5 x4 v).1 := by
      intro v c
      have h' : x4.toInt < 160 := i_lt.mp c
      have e1 : (x4 + 1).toInt = x4.toInt + 1 := addL (k := 1) (by decide +kernel) (by omega) (by omega)
      unfold F_X3_saysR_b108
      refine hgo _ _ (x4 + 1) (by omega) (by omega) (agr_upd v fun j hj hne => hS j ?_)
      rw [tcn_add h0 (by omega)] at hj
      omega
    simp only [F_X3_saysR_l40]
    by_cases c1 : (T.2 2) (Int32.toNatClampNeg x1) ≤ x5
    · rw [if_pos c1, if_pos c1]
      exact hfin (hr.resolve_right fun q => q.1 c1)
    rw [if_neg c1, if_neg c1]
    by_cases c2 : 160 ≤ x5
    · rw [if_pos c2, if_pos c2]
      exact hfin (hr.resolve_right fun q => q.2 c2)
    rw [if_neg c2, if_neg c2]
    by_cases c3 : (T.2 0) (Int32.toNatClampNeg x5) < -6
    · rw [if_pos c3, if_pos c3]
      by_cases c4 : (T.2 0) (Int32.toNatClampNeg x5) = -9
      · rw [if_pos c4, if_pos c4]; exact hb129
      rw [if_neg c4, if_neg c4]
      by_cases c5 : (T.2 0) (Int32.toNatClampNeg x5) = -15
      · rw [if_pos c5, if_pos c5]; exact hb129
      rw [if_neg c5, if_neg c5]
      by_cases c6 : 2 ≤ x4
      · rw [if_pos c6, if_pos c6]
        have h' : 2 ≤ x4.toInt := i_le.mp c6
        have e1 : (x4 - 1).toInt = x4.toInt - 1 := subL (k := 1) (by decide +kernel) (by omega) (by omega)
        have k1 : (x4 - 1).toNatClampNeg = x4.toNatClampNeg - 1 := tcn_sub (by omega)
        have k2 : (x4 - 1 - 1).toNatClampNeg = x4.toNatClampNeg - 2 := by rw [tcn_sub (by omega), k1]; omega
        have k3 : 2 ≤ x4.toNatClampNeg := by rw [tcn_i]; omega
        have a1 : S (Int32.toNatClampNeg (x4 - 1)) = S' (Int32.toNatClampNeg (x4 - 1)) := hS _ (by omega)
        have a2 : S (Int32.toNatClampNeg (x4 - 1 - 1)) = S' (Int32.toNatClampNeg (x4 - 1 - 1)) := hS _ (by omega)
        rw [a1, a2]
        exact hgo _ _ (x4 - 1) (by omega) (by omega) (agr_upd _ fun j hj _ => hS j (by omega))
      · rw [if_neg c6, if_neg c6]
    rw [if_neg c3, if_neg c3]
    by_cases c7 : x4 < 160
    · rw [if_pos c7, if_pos c7]
      by_cases c8 : (T.2 0) (Int32.toNatClampNeg x5) < 0
      · rw [if_pos c8, if_pos c8]; exact hb108 _ c7
      · rw [if_neg c8, if_neg c8]; exact hb108 _ c7
    · rw [if_neg c7, if_neg c7]
/-- what a part of a text says of one of a town -/
def F_X3_says (T T2 : Ob) (p1 p3 : Int32) : Int32 := (F_X3_saysR T (fun _ => 0) T2 p1 p3).1
theorem xOK_run {X : Ob} (h : xOK X) {p : Int32} (h0 : 0 ≤ p.toInt) (h1 : p.toInt ≤ 2) (hp : ¬ p = 0) : ¬ (X.2 2) (Int32.toNatClampNeg p) ≤ (X.2 2) (Int32.toNatClampNeg (p - 1)) ∧ ¬ 160 ≤ (X.2 2) (Int32.toNatClampNeg (p - 1)) := by
  obtain ⟨a, b, c, d⟩ := h
  have hne : p.toInt ≠ 0 := fun q => hp (Int32.toInt_inj.mp q)
  have k := tcn_sub (x := p) (by omega)
  rw [k, tcn_i]
  rcases (show p.toInt = 1 ∨ p.toInt = 2 by omega) with q | q <;> rw [q]
  · refine ⟨fun z => ?_, fun z => ?_⟩
    · have := i_le.mp z
      have : (X.2 2 1).toInt ≤ (X.2 2 0).toInt := this
      omega
    · have := i_le.mp z
      have : 160 ≤ (X.2 2 0).toInt := this
      omega
  · refine ⟨fun z => ?_, fun z => ?_⟩
    · have := i_le.mp z
      have : (X.2 2 2).toInt ≤ (X.2 2 1).toInt := this
      omega
    · have := i_le.mp z
      have : 160 ≤ (X.2 2 1).toInt := this
      omega
theorem says_S {T T2 : Ob} {p1 p3 : Int32} (h : xOK T) (S : Nat → Int32) : (F_X3_saysR T S T2 p1 p3).1 = F_X3_says T T2 p1 p3 := by
  unfold F_X3_says F_X3_saysR
  by_cases c1 : p1 < 0
  · rw [if_pos c1, if_pos c1]
  rw [if_neg c1, if_neg c1]
  by_cases c2 : 2 < p1
  · rw [if_pos c2, if_pos c2]
  rw [if_neg c2, if_neg c2]
  by_cases c3 : F_X4_has T2 p3 = 0
  · rw [if_pos c3, if_pos c3]
  rw [if_neg c3, if_neg c3]
  have i1 : 0 ≤ p1.toInt := i_nlt c1
  have i2 : p1.toInt ≤ 2 := i_nlt c2
  unfold F_X3_saysR_b38
  by_cases c4 : p1 = 0
  · rw [if_pos c4, if_pos c4]
    subst c4
    refine says_l T T2 0 p3 161 S _ 0 0 (by decide) (by decide) (fun j hj => absurd hj (Nat.not_lt_zero j)) (Or.inr ⟨fun z => ?_, by decide⟩)
    have := i_le.mp z
    have : (T.2 2 0).toInt ≤ 0 := this
    have := h.1
    omega
  · rw [if_neg c4, if_neg c4]
    exact says_l T T2 p1 p3 161 S _ 0 _ (by decide) (by decide) (fun j hj => absurd hj (Nat.not_lt_zero j)) (Or.inr (xOK_run h i1 i2 c4))
theorem c_X3_says {l : Launch} {g : GG} {sz : Nat} {bb : Ob} {tx rw : Nat → Ob} {sb dy : Ob} {tn : Nat → Ob} {mo : Ob} {jk : Nat → Nat → Int32} {o : Nat} (ho : o < 6) {T : Ob} (hT : tx o = T) {o2 : Nat} (ho2 : o2 < 3) {T2 : Ob} (hT2 : tn o2 = T2) (p1 : Int32) (p3 : Int32) (hxo : xOK T) : Met l yX3_says (Cond.code yX3_says cX3_says 8 (some .int) :: TT) (rmL 4) (va_Pc [.ref (gA g (3 + 4 * o)), .int p1, .ref (gA g (40 + 6 * o2)), .int p3] (gB g sz (gW g bb tx rw sb dy tn mo jk))) (va_Qi (fun r (_ : (Nat → Nat → Int32)) => r = (F_X3_says T T2 p1 p3)) (fun u t => gC g (va_A (gW g bb tx rw sb dy tn mo jk) sz) (gW g bb tx rw sb dy tn mo u) t) (va_A (gW g bb tx rw sb dy tn mo jk) sz)) 0 0 (va_A (gW g bb tx rw sb dy tn mo jk) sz) :=
  (c_X3_saysR ho hT (rfl : jk o = jk o) ho2 hT2 p1 p3 hxo).weak (fun a s o' t h => by
    obtain ⟨⟨r, u, h1, h2, h3⟩, h4⟩ := h
    refine ⟨⟨r, va_up jk o u, h1, ?_, h3⟩, h4⟩
    rw [← says_S hxo (jk o), h2])
