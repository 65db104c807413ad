theorem imM_0 (r : Ob) : (imM r).1 0 = r.2 13 0 := rfl
theorem imM_10 (r : Ob) : (imM r).1 10 = r.2 13 1 := rfl
theorem imM_k (r : Ob) {k : Nat} (h3 : k ≠ 3) (h4 : k ≠ 4) : (imM r).2 k = r.2 k := (if_neg h3).trans (if_neg h4)
theorem imM_3 (r : Ob) : (imM r).2 3 = r.2 12 := rfl
theorem imM_4 (r : Ob) (j : Nat) : (imM r).2 4 j = r.2 12 (24 + j) := rfl
section CALLS4
variable {bb : Ob} {tx rw : Nat → Ob} {sb : Ob} {tn : Nat → Ob} {m : Ob}
theorem s_image (h : SR bb tx rw sb tn m) : (F_X5_image tn bb).1 = (F_X6_image m).1 ∧ SR (F_X5_image tn bb).2.1 tx rw sb (va_up tn 2 (F_X5_image tn bb).2.2) (F_X6_image m).2 := by
  obtain ⟨a1, a2, a3, a4, a5, a6, a7, a8⟩ := image_all m
  have t := h.1
  have tk := t.become (tn 2)
  unfold F_X5_image F_X5_image_c8
  obtain ⟨K, hK⟩ : ∃ K, K = F_X4_become (tn 2) (tn 0) := ⟨_, rfl⟩
  rw [← hK] at tk ⊢
  clear hK
  generalize (F_X6_image m) = R at *
  obtain ⟨rv, r⟩ := R
  refine ⟨tk.1.1.trans a1.symm, ?_⟩
  have hIS : IS (setS bb 8 1) tx K r := by
    have q11 : r.1 11 = 1 := a6
    have z1 : r.2 1 = m.2 1 := a8 1 (by decide) (by decide)
    have z2 : r.2 2 = m.2 2 := a8 2 (by decide) (by decide)
    have z7 : r.2 7 = m.2 7 := a8 7 (by decide) (by decide)
    have z8 : r.2 8 = m.2 8 := a8 8 (by decide) (by decide)
    have y4 : r.2 13 0 = m.1 0 := a4
    have y5 : r.2 13 1 = m.1 10 := a5
    have y2 : ∀ j, j < 24 → r.2 12 j = m.2 3 j := a2
    have y3 : ∀ j, j < 3 → r.2 12 (24 + j) = m.2 4 j := a3
    have w0 : r.1 0 = m.1 0 := a7 0 (by decide)
    have w9 : r.1 9 = m.1 9 := a7 9 (by decide)
    have e : TR tx K (imM r) := tk.same (r := imM r) ((imM_0 r).trans y4) ((imM_10 r).trans y5) ((imM_k r (by decide) (by decide)).trans z1) ((imM_k r (by decide) (by decide)).trans z2) (fun j hj => (congrFun (imM_3 r) j).trans (y2 j hj)) (fun j hj => (imM_4 r j).trans (y3 j hj)) ((imM_k r (by decide) (by decide)).trans z7) ((imM_k r (by decide) (by decide)).trans z8)
    have e11 : (K.1 11).toNatClampNeg < 6 := by
      obtain ⟨q1, q2, q3, q4⟩ := tk.2.2.1
      rw [q2, tcn_i]
      clear a1 a2 a3 a4 a5 a6 a7 a8 y2 y3 y4 y5 z1 z2 z7 z8 e
      omega
    have hh := h.2.2.2.2.2.2.1
    have b3 := h.2.1.2.2.1
    have y24 : r.2 12 24 = m.2 4 0 := y3 0 (by decide)
    have h8 : (setS bb 8 1).1 8 = r.1 11 := by rw [q11]; rfl
    have hl : (r.2 13 0).toInt ≤ (r.1 0).toInt := by rw [y4, w0]; exact Int.le_refl _
    have hr : (r.2 13 1).toInt < (r.1 9).toInt := by rw [y5, w9]; exact b3
    have h1 : 0 ≤ (r.2 12 24).toInt := by rw [y24]; exact hh.1
    have h2 : (r.2 12 24).toInt ≤ 9999 := by rw [y24]; exact hh.2
    unfold IS
    exact ⟨h8, e11, fun _ => ⟨e, hl, hr, h1, h2⟩⟩
  have b := h.2.1
  have hX : ∀ t : Int32, XR (tx t.toNatClampNeg) m t → XR (tx t.toNatClampNeg) r t := fun t hx => hx.same (a8 7 (by decide) (by decide)) (a8 8 (by decide) (by decide))
  refine ⟨t.same (a7 0 (by decide)) (a7 10 (by decide)) (a8 1 (by decide) (by decide)) (a8 2 (by decide) (by decide)) (fun j _ => by rw [a8 3 (by decide) (by decide)]) (fun j _ => by rw [a8 4 (by decide) (by decide)]) (a8 7 (by decide) (by decide)) (a8 8 (by decide) (by decide)), ?_, ?_, fun s hs => ?_, ?_, fun j hj => ?_, ?_, ?_⟩
  · obtain ⟨b1, b2, b3, b4⟩ := b
    unfold XS
    rw [a7 9 (by decide), a7 10 (by decide)]
    exact ⟨b1, b2, b3, fun t t0 t1 => hX t (b4 t t0 t1)⟩
  · exact hIS
  · unfold HSk
    rw [a8 14 (by decide) (by decide), a8 15 (by decide) (by decide), a8 16 (by decide) (by decide)]
    exact h.2.2.2.1 s hs
  · unfold PS
    rw [a7 6 (by decide), a8 5 (by decide) (by decide)]
    exact h.2.2.2.2.1
  · rw [a8 22 (by decide) (by decide)]
    exact h.2.2.2.2.2.1 j hj
  · rw [a8 4 (by decide) (by decide)]
    exact h.2.2.2.2.2.2.1
  · rw [a7 0 (by decide), a8 1 (by decide) (by decide)]
    exact h.2.2.2.2.2.2.2
theorem s_back (h : SR bb tx rw sb tn m) : (F_X5_back tn bb).1 = (F_X6_back m).1 ∧ SR bb tx rw sb (va_up tn 0 (F_X5_back tn bb).2) (F_X6_back m).2 := by
  have hI := h.2.2.1
  unfold F_X5_back F_X5_back_c18
  rw [hI.1]
  by_cases c : m.1 11 = 0
  · unfold F_X6_back
    rw [if_pos c, if_pos c]
    exact ⟨rfl, h.stay⟩
  rw [if_neg c]
  obtain ⟨a1, a2, a3, a4, a5, a7, a8⟩ := back_all m c
  obtain ⟨c4, c5, c6, c7, c8⟩ := hI.2.2 c
  have tk := c4.become (tn 0)
  obtain ⟨K, hK⟩ : ∃ K, K = F_X4_become (tn 0) (tn 2) := ⟨_, rfl⟩
  rw [← hK] at tk ⊢
  clear hK
  generalize (F_X6_back m) = R at *
  obtain ⟨rv, r⟩ := R
  refine ⟨tk.1.1.trans a1.symm, ?_⟩
  have hX : ∀ t : Int32, XR (tx t.toNatClampNeg) m t → XR (tx t.toNatClampNeg) r t := fun t hx => hx.same (a8 7 (by decide) (by decide)) (a8 8 (by decide) (by decide))
  have e2 := a8 2 (by decide) (by decide)
  have e1 := a8 1 (by decide) (by decide)
  have y0 : r.1 0 = m.2 13 0 := a4
  have y10 : r.1 10 = m.2 13 1 := a5
  have y3 : ∀ j, j < 24 → r.2 3 j = m.2 12 j := a2
  have y4 : ∀ j, j < 3 → r.2 4 j = m.2 12 (24 + j) := a3
  have w7 : r.2 7 = m.2 7 := a8 7 (by decide) (by decide)
  have w8 : r.2 8 = m.2 8 := a8 8 (by decide) (by decide)
  have w1 : r.2 1 = m.2 1 := e1
  have w2 : r.2 2 = m.2 2 := e2
  have tr : TR tx K r := tk.same (r := r) (by rw [imM_0, y0]) (by rw [imM_10, y10]) (by rw [imM_k m (by decide) (by decide), w1]) (by rw [imM_k m (by decide) (by decide), w2]) (fun j hj => by rw [imM_3]; exact y3 j hj) (fun j hj => by rw [imM_4]; exact y4 j hj) (by rw [imM_k m (by decide) (by decide), w7]) (by rw [imM_k m (by decide) (by decide), w8])
  have hIS : IS bb tx (tn 2) r := by
    have z1 : r.2 1 = m.2 1 := e1
    have z2 : r.2 2 = m.2 2 := e2
    have z7 : r.2 7 = m.2 7 := a8 7 (by decide) (by decide)
    have z8 : r.2 8 = m.2 8 := a8 8 (by decide) (by decide)
    have z12 : r.2 12 = m.2 12 := a8 12 (by decide) (by decide)
    have z13 : r.2 13 = m.2 13 := a8 13 (by decide) (by decide)
    have w0 : r.1 0 = m.2 13 0 := a4
    have w9 : r.1 9 = m.1 9 := a7 9 (by decide) (by decide)
    have w11 : r.1 11 = m.1 11 := a7 11 (by decide) (by decide)
    have e : TR tx (tn 2) (imM r) := c4.same (r := imM r) (by rw [imM_0, imM_0, z13]) (by rw [imM_10, imM_10, z13]) (by rw [imM_k r (by decide) (by decide), imM_k m (by decide) (by decide), z1]) (by rw [imM_k r (by decide) (by decide), imM_k m (by decide) (by decide), z2]) (fun j hj => by rw [imM_3, imM_3, z12]) (fun j hj => by rw [imM_4, imM_4, z12]) (by rw [imM_k r (by decide) (by decide), imM_k m (by decide) (by decide), z7]) (by rw [imM_k r (by decide) (by decide), imM_k m (by decide) (by decide), z8])
    have h8 : bb.1 8 = r.1 11 := by rw [w11]; exact hI.1
    have hl : (r.2 13 0).toInt ≤ (r.1 0).toInt := by rw [z13, w0]; exact Int.le_refl _
    have hr : (r.2 13 1).toInt < (r.1 9).toInt := by rw [z13, w9]; exact c6
    have h1 : 0 ≤ (r.2 12 24).toInt := by rw [z12]; exact c7
    have h2 : (r.2 12 24).toInt ≤ 9999 := by rw [z12]; exact c8
    unfold IS
    exact ⟨h8, hI.2.1, fun _ => ⟨e, hl, hr, h1, h2⟩⟩
  refine ⟨tr, ?_, ?_, fun s hs => ?_, ?_, fun j hj => ?_, ?_, fun k hk => ?_⟩
  · obtain ⟨b1, b2, b3, b4⟩ := h.2.1
    unfold XS
    rw [a7 9 (by decide) (by decide), a5]
    exact ⟨b1, b2, c6, fun t t0 t1 => hX t (b4 t t0 t1)⟩
  · exact hIS
  · unfold HSk
    rw [a8 14 (by decide) (by decide), a8 15 (by decide) (by decide), a8 16 (by decide) (by decide)]
    exact h.2.2.2.1 s hs
  · unfold PS
    rw [a7 6 (by decide) (by decide), a8 5 (by decide) (by decide)]
    exact h.2.2.2.2.1
  · rw [a8 22 (by decide) (by decide)]
    exact h.2.2.2.2.2.1 j hj
  · have z : r.2 4 0 = m.2 12 24 := a3 0 (by decide)
    rw [z]
    exact ⟨c7, c8⟩
  · replace hk : (k : Int) < (r.1 0).toInt := hk
    rw [e1]
    refine h.2.2.2.2.2.2.2 k ?_
    have e0 : r.1 0 = m.2 13 0 := a4
    rw [e0] at hk
    exact Int.lt_of_lt_of_le hk c5
end CALLS4
