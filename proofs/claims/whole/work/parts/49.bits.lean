def vb (v : Int32) (k : Nat) : Int32 := (v >>> (nI k &&& 31)) &&& 1
-- bits of vows: all sixty-four of them
theorem vb_xor : ∀ (v : Fin 64) (k j : Fin 6), vb (Int32.ofNat v.val ^^^ (1 <<< (nI k.val &&& 31))) j.val = (if j = k then 1 - vb (Int32.ofNat v.val) j.val else vb (Int32.ofNat v.val) j.val) ∧ 0 ≤ (Int32.ofNat v.val ^^^ (1 <<< (nI k.val &&& 31))).toInt ∧ (Int32.ofNat v.val ^^^ (1 <<< (nI k.val &&& 31))).toInt < 64 ∧ (vb (Int32.ofNat v.val) j.val = 0 ∨ vb (Int32.ofNat v.val) j.val = 1) := by decide +kernel
theorem vb_and : ∀ (v : Fin 64) (k j : Fin 6), vb (Int32.ofNat v.val &&& ((1 <<< (nI k.val &&& 31)) ^^^ (-1))) j.val = (if j = k then 0 else vb (Int32.ofNat v.val) j.val) ∧ 0 ≤ (Int32.ofNat v.val &&& ((1 <<< (nI k.val &&& 31)) ^^^ (-1))).toInt ∧ (Int32.ofNat v.val &&& ((1 <<< (nI k.val &&& 31)) ^^^ (-1))).toInt < 64 := by decide +kernel
theorem vb_or : ∀ (v s : Fin 64), (∀ j : Fin 6, vb (Int32.ofNat v.val ||| Int32.ofNat s.val) j.val = (if ((Int32.ofNat s.val ||| Int32.ofNat v.val) >>> (nI j.val &&& 31)) &&& 1 = 1 then 1 else 0)) ∧ 0 ≤ (Int32.ofNat v.val ||| Int32.ofNat s.val).toInt ∧ (Int32.ofNat v.val ||| Int32.ofNat s.val).toInt < 64 := by decide +kernel
/-- the vows of the reference as bits, loop by loop -/
def vl : Nat → Int32 → Int32 → Int32 → Int32 → Int32
  | 0, _, _, _, _ => 0
  | n + 1, v, P, x1, x2 => if P ≤ x2 then x1 else if vb v x2.toNatClampNeg = 1 then vl n v P (x1 ||| (1 <<< (x2 &&& 31))) (x2 + 1) else vl n v P (x1 ||| 0) (x2 + 1)
theorem vl_all : ∀ (v : Fin 64) (P : Fin 7), (∀ j : Fin 6, P.val ≤ j.val → vb (Int32.ofNat v.val) j.val = 0) → vl 7 (Int32.ofNat v.val) (Int32.ofNat P.val) 0 0 = Int32.ofNat v.val := by decide +kernel
