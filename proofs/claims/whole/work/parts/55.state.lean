-- PURE: the whole state, class against reference
def XS (bb : Ob) (tx : Nat → Ob) (m : Ob) : Prop := bb.1 7 = m.1 9 ∧ (1 ≤ (m.1 9).toInt ∧ (m.1 9).toInt ≤ 6) ∧ (m.1 10).toInt < (m.1 9).toInt ∧ ∀ t : Int32, 0 ≤ t.toInt → t.toInt < (m.1 9).toInt → XR (tx t.toNatClampNeg) m t
/-- the image as if it were now -/
def imM (m : Ob) : Ob := (fun k => if k = 0 then m.2 13 0 else if k = 10 then m.2 13 1 else m.1 k, fun k => if k = 3 then m.2 12 else if k = 4 then (fun j => m.2 12 (24 + j)) else m.2 k)
def IS (bb : Ob) (tx : Nat → Ob) (K m : Ob) : Prop := bb.1 8 = m.1 11 ∧ (K.1 11).toNatClampNeg < 6 ∧ (¬ m.1 11 = 0 → TR tx K (imM m) ∧ (m.2 13 0).toInt ≤ (m.1 0).toInt ∧ (m.2 13 1).toInt < (m.1 9).toInt ∧ 0 ≤ (m.2 12 24).toInt ∧ (m.2 12 24).toInt ≤ 9999)
def HSk (R m : Ob) (s : Nat) : Prop := R.1 1 = m.2 14 s ∧ R.1 2 = m.2 15 s ∧ (0 ≤ (m.2 15 s).toInt ∧ (m.2 15 s).toInt ≤ 40) ∧ ∀ i, i < 40 → R.2 0 i = m.2 16 (40 * s + i)
def PS (sb m : Ob) : Prop := sb.1 1 = m.1 6 ∧ (0 ≤ (m.1 6).toInt ∧ (m.1 6).toInt ≤ 160) ∧ ∀ k : Nat, (k : Int) < (m.1 6).toInt → sb.2 0 k = m.2 5 k ∧ 0 ≤ (m.2 5 k).toInt ∧ (m.2 5 k).toInt ≤ 255
def wordsL : List Int32 := [108, 105, 101, 115, 32, 32, 32, 32, 99, 111, 115, 116, 115, 32, 32, 32, 115, 116, 114, 111, 107, 101, 115, 32, 110, 101, 114, 118, 101, 32, 32, 32, 116, 111, 108, 100, 32, 32, 32, 32, 104, 111, 117, 114, 32, 32, 32, 32, 108, 97, 115, 116, 32, 32, 32, 32, 112, 101, 111, 112, 108, 101, 32, 32, 109, 111, 114, 101, 32, 32, 32, 32, 111, 114, 32, 32, 32, 32, 32, 32, 97, 110, 100, 32, 32, 32, 32, 32, 110, 111, 116, 32, 32, 32, 32, 32]
/-- the calls' state: the class's and the reference's -/
def SR (bb : Ob) (tx rw : Nat → Ob) (sb : Ob) (tn : Nat → Ob) (m : Ob) : Prop := TR tx (tn 0) m ∧ XS bb tx m ∧ IS bb tx (tn 2) m ∧ (∀ s : Nat, s < 4 → HSk (rw s) m s) ∧ PS sb m ∧ (∀ j, j < 96 → m.2 22 j = wordsL.getD j 0) ∧ (0 ≤ (m.2 4 0).toInt ∧ (m.2 4 0).toInt ≤ 9999) ∧ ∀ k : Nat, (k : Int) < (m.1 0).toInt → 0 ≤ (m.2 1 k).toInt ∧ (m.2 1 k).toInt ≤ 5
theorem isW (a b c : Int32) : F_X5_isWithin a b c = F_X6_in a b c := rfl
theorem TR.dec {tx : Nat → Ob} {T m : Ob} (h : TR tx T m) (p : Int32) : (inP m p ∧ F_X4_has T p = 1 ∧ F_X6_isOne m p = 1) ∨ (¬ inP m p ∧ F_X4_has T p = 0 ∧ F_X6_isOne m p = 0) := by
  have e0 : (0 : Int32).toInt = 0 := rfl
  have e1 : (m.1 0 - 1).toInt = (m.1 0).toInt - 1 := subL (k := 1) (by decide +kernel) (by have := h.1.2; omega) (by have := h.1.2; omega)
  by_cases hp : inP m p
  · refine Or.inl ⟨hp, h.has hp, ?_⟩
    have h1 := hp.1
    have h2 := hp.2
    unfold F_X6_isOne F_X6_in
    rw [if_neg (fun q => by have := i_lt.mp q; omega), if_neg (fun q => by have := i_lt.mp q; omega)]
  · refine Or.inr ⟨hp, ?_, ?_⟩
    · unfold F_X4_has
      rw [h.1.1]
      by_cases c : p < 0
      · rw [if_pos c]
      · rw [if_neg c, if_pos (i_le.mpr (by have := i_nlt c; have : ¬ (0 ≤ p.toInt ∧ p.toInt < (m.1 0).toInt) := hp; omega))]
    · unfold F_X6_isOne F_X6_in
      by_cases c : p < 0
      · rw [if_pos c]
      · rw [if_neg c, if_pos (i_lt.mpr (by have := i_nlt c; have : ¬ (0 ≤ p.toInt ∧ p.toInt < (m.1 0).toInt) := hp; omega))]
theorem imM_sM {m r : Ob} (k : sM m r) : (imM r).1 0 = (imM m).1 0 ∧ (imM r).1 10 = (imM m).1 10 ∧ (imM r).2 1 = (imM m).2 1 ∧ (imM r).2 2 = (imM m).2 2 ∧ (∀ j, j < 24 → (imM r).2 3 j = (imM m).2 3 j) ∧ (∀ j, j < 3 → (imM r).2 4 j = (imM m).2 4 j) ∧ (imM r).2 7 = (imM m).2 7 ∧ (imM r).2 8 = (imM m).2 8 := by
  have z := fun q (a : q ≠ 3) (b : q ≠ 4) (c : q ≠ 30) (d : q ≠ 31) (e : q ≠ 32) => k.2.2.2 q a b c d e
  have z13 := z 13 (by decide) (by decide) (by decide) (by decide) (by decide)
  have z12 := z 12 (by decide) (by decide) (by decide) (by decide) (by decide)
  refine ⟨?_, ?_, z 1 (by decide) (by decide) (by decide) (by decide) (by decide), z 2 (by decide) (by decide) (by decide) (by decide) (by decide), fun j _ => ?_, fun j _ => ?_, z 7 (by decide) (by decide) (by decide) (by decide) (by decide), z 8 (by decide) (by decide) (by decide) (by decide) (by decide)⟩
  · show r.2 13 0 = m.2 13 0
    rw [z13]
  · show r.2 13 1 = m.2 13 1
    rw [z13]
  · show r.2 12 j = m.2 12 j
    rw [z12]
  · show r.2 12 (24 + j) = m.2 12 (24 + j)
    rw [z12]
theorem XR.same {X m r : Ob} {t : Int32} (h : XR X m t) (h7 : r.2 7 = m.2 7) (h8 : r.2 8 = m.2 8) : XR X r t := by
  unfold XR wfM at h ⊢
  rw [h7, h8]
  exact h
theorem SR.sM {bb : Ob} {tx rw : Nat → Ob} {sb : Ob} {tn : Nat → Ob} {m r : Ob} (h : SR bb tx rw sb tn m) (k : sM m r) : SR bb tx rw sb tn r := by
  obtain ⟨a, b, c, d, e, f, g, i⟩ := h
  have z := fun q (x1 : q ≠ 3) (x2 : q ≠ 4) (x3 : q ≠ 30) (x4 : q ≠ 31) (x5 : q ≠ 32) => k.2.2.2 q x1 x2 x3 x4 x5
  have z7 := z 7 (by decide) (by decide) (by decide) (by decide) (by decide)
  have z8 := z 8 (by decide) (by decide) (by decide) (by decide) (by decide)
  have w0 := k.1 0 (by decide) (by decide)
  have w6 := k.1 6 (by decide) (by decide)
  have w9 := k.1 9 (by decide) (by decide)
  have w10 := k.1 10 (by decide) (by decide)
  have w11 := k.1 11 (by decide) (by decide)
  refine ⟨a.sM k, ?_, ?_, fun s hs => ?_, ?_, fun j hj => ?_, ?_, ?_⟩
  · obtain ⟨b1, b2, b3, b4⟩ := b
    unfold XS
    rw [w9, w10]
    exact ⟨b1, b2, b3, fun t t0 t1 => (b4 t t0 t1).same z7 z8⟩
  · obtain ⟨c1, c2, c3⟩ := c
    unfold IS
    rw [w11, w9, w0, z 13 (by decide) (by decide) (by decide) (by decide) (by decide), z 12 (by decide) (by decide) (by decide) (by decide) (by decide)]
    refine ⟨c1, c2, fun q => ?_⟩
    obtain ⟨c4, c5⟩ := c3 q
    obtain ⟨y1, y2, y3, y4, y5, y6, y7, y8⟩ := imM_sM k
    exact ⟨c4.same y1 y2 y3 y4 y5 y6 y7 y8, c5⟩
  · unfold HSk
    rw [z 14 (by decide) (by decide) (by decide) (by decide) (by decide), z 15 (by decide) (by decide) (by decide) (by decide) (by decide), z 16 (by decide) (by decide) (by decide) (by decide) (by decide)]
    exact d s hs
  · unfold PS
    rw [w6, z 5 (by decide) (by decide) (by decide) (by decide) (by decide)]
    exact e
  · rw [z 22 (by decide) (by decide) (by decide) (by decide) (by decide)]
    exact f j hj
  · rw [k.2.2.1 0 (by decide)]
    exact g
  · rw [w0, z 1 (by decide) (by decide) (by decide) (by decide) (by decide)]
    exact i
theorem as64 {v : Int32} (h0 : 0 ≤ v.toInt) (h1 : v.toInt < 64) : ∃ f : Fin 64, v = Int32.ofNat f.val := ⟨⟨v.toNatClampNeg, by rw [tcn_i]; omega⟩, (nI_tcn h0).symm⟩
theorem vows_eq {tx : Nat → Ob} {T m : Ob} (h : TR tx T m) : F_X6_vows m = T.1 5 := by
  have k : ∀ (n : Nat) (x1 x2 : Int32), 0 ≤ x2.toInt → F_X6_vows_l4 n m x1 x2 = vl n (T.1 5) (m.1 0) x1 x2 := by
    intro n
    induction n with
    | zero => intro x1 x2 _; rfl
    | succ n ih =>
      intro x1 x2 h0
      unfold F_X6_vows_l4 vl
      by_cases c : m.1 0 ≤ x2
      · rw [if_pos c, if_pos c]
      rw [if_neg c, if_neg c]
      have c2 := i_nle c
      have h6 := h.1.2.2
      have e1 : (x2 + 1).toInt = x2.toInt + 1 := addL (k := 1) (by decide +kernel) (by omega) (by omega)
      obtain ⟨⟨k0, k1, k2, k3, k4, k5⟩, _⟩ := h.at (p := x2) ⟨h0, c2⟩
      obtain ⟨j0, j1, j2, j3⟩ := i4 h0 (by omega)
      rw [j3, ← k5]
      unfold F_X6_vows_b34
      split
      · exact ih _ _ (by omega)
      · exact ih _ _ (by omega)
  obtain ⟨v, hv⟩ := as64 h.2.2.2.2.2.2.1.1 h.2.2.2.2.2.2.1.2
  have hP : m.1 0 = Int32.ofNat (m.1 0).toNatClampNeg := (nI_tcn h.1.2.1).symm
  have hz := h.2.2.2.2.2.2.2
  show F_X6_vows_l4 7 m 0 0 = _
  rw [k 7 0 0 (by decide), hv, hP]
  refine vl_all v ⟨(m.1 0).toNatClampNeg, by rw [tcn_i]; have := h.1.2.2; omega⟩ (fun j hj => ?_)
  rw [← hv]
  refine hz j.val ?_ j.isLt
  have hj2 : (m.1 0).toNatClampNeg ≤ j.val := hj
  rw [tcn_i] at hj2
  omega
/-- somebody's vow is turned -/
theorem TR.turn {tx : Nat → Ob} {T m : Ob} (h : TR tx T m) {p : Int32} (hp : inP m p) : TR tx (setS T 5 ((T.1 5) ^^^ (1 <<< (p &&& 31)))) (stA m 3 ((4 * p) + 3) (1 - (m.2 3) (Int32.toNatClampNeg ((4 * p) + 3)))) := by
  obtain ⟨j0, j1, j2, j3⟩ := i4 hp.1 (h.lt hp)
  obtain ⟨v, hv⟩ := as64 h.2.2.2.2.2.2.1.1 h.2.2.2.2.2.2.1.2
  have hk6 : p.toNatClampNeg < 6 := by rw [tcn_i]; have := h.lt hp; have := hp.1; omega
  have hx := fun j : Fin 6 => vb_xor v ⟨p.toNatClampNeg, hk6⟩ j
  rw [← hv] at hx
  simp only [nI_tcn hp.1] at hx
  refine ⟨h.1, h.2.1, h.2.2.1, h.2.2.2.1, fun j hj => ?_, h.2.2.2.2.2.1, (hx ⟨0, by decide⟩).2.imp_right (fun z => z.1), fun j hj hj6 => ?_⟩
  · obtain ⟨⟨k0, k1, k2, k3, k4, k5⟩, v1, v2⟩ := h.2.2.2.2.1 j hj
    have hj' : (j : Int) < (m.1 0).toInt := hj
    have hj6 : j < 6 := by have := h.1.2.2; omega
    refine ⟨⟨k0, k1, ?_, ?_, ?_, ?_⟩, v1, ?_⟩
    · show T.2 2 j = upd (m.2 3) ((4 * p) + 3).toNatClampNeg _ (4 * j)
      rw [j3, upd_n _ (by omega), k2]
    · show T.2 3 j = upd (m.2 3) ((4 * p) + 3).toNatClampNeg _ (4 * j + 1)
      rw [j3, upd_n _ (by omega), k3]
    · show T.2 4 j = upd (m.2 3) ((4 * p) + 3).toNatClampNeg _ (4 * j + 2)
      rw [j3, upd_n _ (by omega), k4]
    · show vb ((T.1 5) ^^^ (1 <<< (p &&& 31))) j = upd (m.2 3) ((4 * p) + 3).toNatClampNeg (1 - (m.2 3) (Int32.toNatClampNeg ((4 * p) + 3))) (4 * j + 3)
      rw [j3, (hx ⟨j, hj6⟩).1]
      by_cases c : j = p.toNatClampNeg
      · subst c
        rw [if_pos rfl, upd_s, k5]
      · rw [if_neg (fun q => c (Fin.mk.inj q)), upd_n _ (by omega), k5]
    · show 0 ≤ (upd (m.2 3) ((4 * p) + 3).toNatClampNeg _ (4 * j + 1)).toInt ∧ (upd (m.2 3) ((4 * p) + 3).toNatClampNeg _ (4 * j + 1)).toInt ≤ 9999
      rw [j3, upd_n _ (by omega)]
      exact v2
  · show vb ((T.1 5) ^^^ (1 <<< (p &&& 31))) j = 0
    have hj2 : (m.1 0).toInt ≤ (j : Int) := hj
    rw [(hx ⟨j, hj6⟩).1, if_neg (fun q => by have e := Fin.mk.inj q; have := hp.2; have := hp.1; rw [tcn_i] at e; omega)]
    exact h.2.2.2.2.2.2.2 j hj hj6
