-- PURE: an earlier part is well formed at the last state
theorem part_wf2 {tt : Int32} {T T' Tf w : Ob} (k : Ac 0 tt Tf w []) (hf : (T'.1 3).toInt ≤ (Tf.1 3).toInt) (ha : ∀ j : Nat, (j : Int) < (T'.1 3).toInt → Tf.2 0 j = T'.2 0 j) (h : Tc 0 1 T T') : wfP (w.2 7) tt (T.1 3) (T'.1 3) := by
  obtain ⟨_, ⟨b1, b2⟩, ⟨c1, c2⟩, d, f⟩ := k
  obtain ⟨_, h1, _, h2⟩ := h
  obtain ⟨g1, g2⟩ := h2 0 (Int.le_refl 0)
  have hl : (([] : List Int32).length : Int) = 0 := rfl
  have hlt : (T.1 3).toInt < (T'.1 3).toInt := by
    by_cases c : (T.1 3).toInt < (T'.1 3).toInt
    · exact c
    · exfalso
      have e : (T'.1 3).toNatClampNeg - (T.1 3).toNatClampNeg = 0 := by
        simp only [tcn_i]
        omega
      rw [e] at g1
      have g1' : (0 : Int) = 0 + 1 := g1
      omega
  refine ⟨h1.1, hlt, by omega, fun k => Dp (T'.2 0) (T.1 3).toNatClampNeg 0 (k.toInt - (T.1 3).toInt).toNat, ?_, fun k k0 k1 => ?_⟩
  · show Dp (T'.2 0) (T.1 3).toNatClampNeg 0 ((T.1 3).toInt - (T.1 3).toInt).toNat = 0
    rw [Int.sub_self]
    rfl
  · have hT : (T'.1 3).toInt ≤ 160 := by omega
    have z : (k + 1).toInt = k.toInt + 1 := addL (k := 1) (by decide +kernel) (by omega) (by omega)
    have hm : (k.toInt - (T.1 3).toInt).toNat < (T'.1 3).toNatClampNeg - (T.1 3).toNatClampNeg := by
      simp only [tcn_i]
      omega
    obtain ⟨q1, q2⟩ := g2 _ hm
    have hle := Dp_le (T'.2 0) (T.1 3).toNatClampNeg 0 (k.toInt - (T.1 3).toInt).toNat
    have ei : (T.1 3).toNatClampNeg + (k.toInt - (T.1 3).toInt).toNat = k.toNatClampNeg := by
      simp only [tcn_i]
      omega
    rw [ei] at q2
    refine ⟨⟨q1, (show Dp (T'.2 0) (T.1 3).toNatClampNeg 0 (k.toInt - (T.1 3).toInt).toNat ≤ 199 by omega)⟩, ?_⟩
    have e1 : ((k + 1).toInt - (T.1 3).toInt).toNat = (k.toInt - (T.1 3).toInt).toNat + 1 := by omega
    have e2 : Dp (T'.2 0) (T.1 3).toNatClampNeg 0 ((k.toInt - (T.1 3).toInt).toNat + 1) = Dp (T'.2 0) (T.1 3).toNatClampNeg 0 (k.toInt - (T.1 3).toInt).toNat + eff ((T'.2 0) k.toNatClampNeg) := by
      show Dp (T'.2 0) (T.1 3).toNatClampNeg 0 (k.toInt - (T.1 3).toInt).toNat + eff ((T'.2 0) ((T.1 3).toNatClampNeg + (k.toInt - (T.1 3).toInt).toNat)) = _
      rw [ei]
    show okc _ (Dp (T'.2 0) (T.1 3).toNatClampNeg 0 (k.toInt - (T.1 3).toInt).toNat) (Dp (T'.2 0) (T.1 3).toNatClampNeg 0 ((k + 1).toInt - (T.1 3).toInt).toNat)
    rw [e1, e2]
    have ff := f k (by omega) (by omega)
    rw [ha k.toNatClampNeg (by rw [tcn_i]; omega)] at ff
    exact okc_of ff q2
