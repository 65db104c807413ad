-- PURE: the reference's signs held, and the class's steps
/-- the signs held, the newest first -/
def Hd (f : Nat → Int32) : List Int32 → Prop
  | [] => True
  | s :: h => f h.length = s ∧ Hd f h
def isO (s : Int32) : Nat := if s = 0 then 1 else if s = 13 then 1 else if s = 19 then 1 else 0
def cnt : List Int32 → Nat
  | [] => 0
  | s :: h => isO s + cnt h
theorem Hd.up {f : Nat → Int32} {h : List Int32} (k : Hd f h) {j : Nat} (hj : h.length ≤ j) (v : Int32) : Hd (upd f j v) h := by
  induction h with
  | nil => trivial
  | cons s h ih =>
    have e : (s :: h).length = h.length + 1 := List.length_cons
    exact ⟨(upd_n v (by omega)).trans k.1, ih k.2 (by omega)⟩
/-- the class's steps T and the signs h held are what the reference's v has; e bytes are to spare -/
def Ac (e : Int) (tt : Int32) (T v : Ob) (h : List Int32) : Prop :=
  ((v.1 24).toInt = h.length ∧ Hd (v.2 23) h ∧ (v.1 25).toInt = cnt h) ∧ (v.1 26 = T.1 3 ∧ 0 ≤ (T.1 3).toInt) ∧ ((h.length : Int) + (T.1 3).toInt + e ≤ (v.1 18).toInt ∧ (v.1 18).toInt ≤ 160) ∧ (v.1 9 = tt ∧ 0 ≤ tt.toInt ∧ tt.toInt < 6) ∧ ∀ k : Int32, 0 ≤ k.toInt → k.toInt < (T.1 3).toInt → trc (T.2 0 k.toNatClampNeg) (v.2 7 (Int32.toNatClampNeg ((200 * tt) + k)))
theorem i200 {t k : Int32} (t0 : 0 ≤ t.toInt) (t1 : t.toInt < 6) (k0 : 0 ≤ k.toInt) (k1 : k.toInt ≤ 199) : (Int32.toNatClampNeg ((200 * t) + k)) = 200 * t.toNatClampNeg + k.toNatClampNeg := by
  have e4 : (200 * t).toInt = 200 * t.toInt := mulL (k := 200) (by decide +kernel) (by omega) (by omega)
  have e1 : ((200 * t) + k).toInt = (200 * t).toInt + k.toInt := fb_addI (by omega) (by omega)
  simp only [tcn_i]
  omega
/-- one step more: the class's s, the reference's c -/
theorem Ac.put {e : Int} {tt : Int32} {T v : Ob} {h : List Int32} (k : Ac (e + 1) tt T v h) (he : 0 ≤ e) {s c : Int32} (hs : trc s c) : Ac e tt (F_X3_add T s) (F_X6_puts v c) h := by
  obtain ⟨⟨a1, a2, a3⟩, ⟨b1, b2⟩, ⟨c1, c2⟩, ⟨d1, d2, d3⟩, f⟩ := k
  have hl : (0 : Int) ≤ h.length := by omega
  have hT : (T.1 3).toInt < 160 := by omega
  have e160 : (160 : Int32).toInt = 160 := rfl
  have z : (T.1 3 + 1).toInt = (T.1 3).toInt + 1 := addL (k := 1) (by decide +kernel) (by omega) (by omega)
  have ea : F_X3_add T s = setS (stA T 0 (T.1 3) s) 3 (T.1 3 + 1) := if_neg fun q => by
    have := i_le.mp q
    omega
  rw [ea]
  unfold F_X6_puts
  rw [b1, d1]
  refine ⟨⟨a1, a2, a3⟩, ⟨rfl, ?_⟩, ⟨?_, c2⟩, ⟨d1, d2, d3⟩, fun k k0 k1 => ?_⟩
  · show 0 ≤ (T.1 3 + 1).toInt
    omega
  · show (h.length : Int) + (T.1 3 + 1).toInt + e ≤ (v.1 18).toInt
    omega
  · replace k1 : k.toInt < (T.1 3 + 1).toInt := k1
    show trc (upd (T.2 0) (T.1 3).toNatClampNeg s k.toNatClampNeg) (upd (v.2 7) (Int32.toNatClampNeg ((200 * tt) + T.1 3)) c (Int32.toNatClampNeg ((200 * tt) + k)))
    rw [i200 d2 d3 b2 (by omega), i200 d2 d3 k0 (by omega)]
    by_cases t : k.toInt < (T.1 3).toInt
    · have ne : k.toNatClampNeg ≠ (T.1 3).toNatClampNeg := by
        simp only [tcn_i]
        omega
      have ff := f k k0 t
      rw [i200 d2 d3 k0 (by omega)] at ff
      rw [upd_n s ne, upd_n c (by omega)]
      exact ff
    · have ex : k = T.1 3 := Int32.toInt_inj.mp (by omega)
      rw [ex, upd_s, upd_s]
      exact hs
theorem Ac.hold {e : Int} {tt : Int32} {T v : Ob} {h : List Int32} (k : Ac (e + 1) tt T v h) (he : 0 ≤ e) {s : Int32} (hs : isO s = 0) : Ac e tt T (F_X6_holds v s) (s :: h) := by
  obtain ⟨⟨a1, a2, a3⟩, ⟨b1, b2⟩, ⟨c1, c2⟩, d, f⟩ := k
  have z : (v.1 24 + 1).toInt = (v.1 24).toInt + 1 := addL (k := 1) (by decide +kernel) (by omega) (by omega)
  have el : ((s :: h).length : Int) = h.length + 1 := by rw [List.length_cons]; omega
  have en : (v.1 24).toNatClampNeg = h.length := by rw [tcn_i]; omega
  unfold F_X6_holds
  refine ⟨⟨?_, ⟨?_, ?_⟩, ?_⟩, ⟨b1, b2⟩, ⟨?_, c2⟩, d, f⟩
  · show (v.1 24 + 1).toInt = _
    omega
  · show upd (v.2 23) (v.1 24).toNatClampNeg s h.length = s
    rw [en, upd_s]
  · show Hd (upd (v.2 23) (v.1 24).toNatClampNeg s) h
    exact a2.up (by omega) s
  · show (v.1 25).toInt = (isO s + cnt h : Nat)
    rw [hs]
    omega
  · show ((s :: h).length : Int) + (T.1 3).toInt + e ≤ (v.1 18).toInt
    omega
/-- a sign that opens a place: at most five -/
theorem Ac.opn {e : Int} {tt : Int32} {T v : Ob} {h : List Int32} (k : Ac (e + 1) tt T v h) (he : 0 ≤ e) {s : Int32} (hs : isO s = 1) (hc : cnt h < 5) : F_X6_opensOne v s = (1, F_X6_holds (setS v 25 (v.1 25 + 1)) s) ∧ Ac e tt T (F_X6_holds (setS v 25 (v.1 25 + 1)) s) (s :: h) := by
  obtain ⟨⟨a1, a2, a3⟩, ⟨b1, b2⟩, ⟨c1, c2⟩, d, f⟩ := k
  have e5 : (5 : Int32).toInt = 5 := rfl
  have z : (v.1 24 + 1).toInt = (v.1 24).toInt + 1 := addL (k := 1) (by decide +kernel) (by omega) (by omega)
  have z5 : (v.1 25 + 1).toInt = (v.1 25).toInt + 1 := addL (k := 1) (by decide +kernel) (by omega) (by omega)
  have el : ((s :: h).length : Int) = h.length + 1 := by rw [List.length_cons]; omega
  have en : (v.1 24).toNatClampNeg = h.length := by rw [tcn_i]; omega
  refine ⟨if_neg fun q => by rw [q] at a3; omega, ⟨?_, ⟨?_, ?_⟩, ?_⟩, ⟨b1, b2⟩, ⟨?_, c2⟩, d, f⟩
  · show (v.1 24 + 1).toInt = _
    omega
  · show upd (v.2 23) (v.1 24).toNatClampNeg s h.length = s
    rw [en, upd_s]
  · show Hd (upd (v.2 23) (v.1 24).toNatClampNeg s) h
    exact a2.up (by omega) s
  · show (v.1 25 + 1).toInt = (isO s + cnt h : Nat)
    rw [hs]
    omega
  · show ((s :: h).length : Int) + (T.1 3).toInt + e ≤ (v.1 18).toInt
    omega
theorem Ac.full {e : Int} {tt : Int32} {T v : Ob} {h : List Int32} (k : Ac e tt T v h) {s : Int32} (hc : cnt h = 5) : F_X6_opensOne v s = (0, v) := if_pos (eq_of_toInt (k := 5) 5 rfl (by have := k.1.2.2; omega))
/-- the newest sign goes to the steps -/
def popv (v : Ob) (s z : Int32) : Ob := F_X6_puts (setS (setS v 24 (v.1 24 - 1)) 25 (v.1 25 - z)) s
theorem Ac.drop {e : Int} {tt : Int32} {T v : Ob} {h : List Int32} {s : Int32} (k : Ac e tt T v (s :: h)) (he : 0 ≤ e) {z : Int32} (hz : z.toInt = isO s) : Ac (e + 1) tt T (setS (setS v 24 (v.1 24 - 1)) 25 (v.1 25 - z)) h := by
  obtain ⟨⟨a1, a2, a3⟩, ⟨b1, b2⟩, ⟨c1, c2⟩, d, f⟩ := k
  have el : ((s :: h).length : Int) = h.length + 1 := by rw [List.length_cons]; omega
  have hi : isO s ≤ 1 := by
    unfold isO
    split
    · omega
    · split
      · omega
      · split <;> omega
  have ec : cnt (s :: h) = isO s + cnt h := rfl
  have hcl : ∀ l : List Int32, cnt l ≤ l.length := by
    intro l
    induction l with
    | nil => exact Nat.le_refl _
    | cons x l ih =>
      have : cnt (x :: l) = isO x + cnt l := rfl
      have hx : isO x ≤ 1 := by
        unfold isO
        split
        · omega
        · split
          · omega
          · split <;> omega
      have : (x :: l).length = l.length + 1 := List.length_cons
      omega
  have hcl' := hcl h
  clear hcl
  have z4 : (v.1 24 - 1).toInt = (v.1 24).toInt - 1 := subL (k := 1) (by decide +kernel) (by omega) (by omega)
  have z5 : (v.1 25 - z).toInt = (v.1 25).toInt - z.toInt := fb_subI (by omega) (by omega)
  refine ⟨⟨?_, a2.2, ?_⟩, ⟨b1, b2⟩, ⟨?_, c2⟩, d, f⟩
  · show (v.1 24 - 1).toInt = _
    omega
  · show (v.1 25 - z).toInt = _
    omega
  · show (h.length : Int) + (T.1 3).toInt + (e + 1) ≤ (v.1 18).toInt
    omega
