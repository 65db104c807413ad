-- PURE: bits of sets: all sixty-four of them
theorem ones_all : ∀ s : Fin 64, F_bitCount (Int32.ofNat s.val) = F_X6_onesOf (Int32.ofNat s.val) ∧ 0 ≤ (F_X6_onesOf (Int32.ofNat s.val)).toInt ∧ (F_X6_onesOf (Int32.ofNat s.val)).toInt < 7 := by decide +kernel
theorem low_all : ∀ (s : Fin 64) (P : Fin 7) (j : Fin 6), Int32.ofNat s.val < (1 <<< (Int32.ofNat P.val &&& 31)) → P.val ≤ j.val → vb (Int32.ofNat s.val) j.val = 0 := by decide +kernel
theorem or_all : ∀ (v s : Fin 64) (j : Fin 6), vb (Int32.ofNat v.val) j.val = 0 → vb (Int32.ofNat s.val) j.val = 0 → vb (Int32.ofNat v.val ||| Int32.ofNat s.val) j.val = 0 := by decide +kernel
theorem shl_all : ∀ P : Fin 7, 0 < (1 <<< (Int32.ofNat P.val &&& 31) : Int32).toInt ∧ (1 <<< (Int32.ofNat P.val &&& 31) : Int32).toInt ≤ 64 := by decide +kernel
theorem or1_all : ∀ (v : Fin 64) (k : Fin 6), 0 ≤ (Int32.ofNat v.val ||| (1 <<< (nI k.val &&& 31))).toInt ∧ (Int32.ofNat v.val ||| (1 <<< (nI k.val &&& 31))).toInt < 64 := by decide +kernel
