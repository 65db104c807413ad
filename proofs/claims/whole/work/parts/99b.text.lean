-- PURE: a text whole
theorem text_end {tt : Int32} {s v T : Ob} (h : Hw tt s v T) (f n : Nat) :
    (∃ s' w, Fl s' ∧ F_X2_readInto_l20 (f + 1) (F_X2_step s) T 3 = (s'.1 6, setS s' 1 0, T) ∧ F_X6_text_l26 (n + 1) v 1 3 = ((-100) - (s'.1 6), setS w 6 0) ∧ kF tt v w) ∨
    (∃ s' w, s'.1 6 = -1 ∧ F_X2_readInto_l20 (f + 1) (F_X2_step s) T 3 = (s'.1 6, setS s' 1 0, T) ∧ F_X6_text_l26 (n + 1) v 1 3 = (((tt + 1) - 1), setS (setS w 6 0) 9 (tt + 1)) ∧ kF tt v w ∧ Aw tt T w ∧ w.2 8 = upd (v.2 8) (4 * tt.toNatClampNeg + 3) (T.1 3)) := by
  obtain ⟨g1, g2, g3⟩ := h.next
  have g2' := g2
  obtain ⟨⟨b1, b2⟩, ⟨d1, d2⟩, ⟨t1, t2, t3⟩, t4⟩ := g2'
  have S := kF.start (a := (F_X6_next v).1 26) (x := 3) g3 t1 t2 t3 (by decide) (by decide)
  have z := g1.tk
  have q2 : F_X6_text_l26 (n + 1) v 1 3 = F_X6_text_c106 (F_X6_next v) := by
    rw [F_X6_text_l26, if_pos (by decide), F_X6_text_b101, if_neg n10]
  by_cases c : (F_X2_step s).1 4 = 0
  · right
    have c' : (F_X6_next v).1 20 = 0 := by
      rw [c] at z
      have e0 : (0 : Int32).toInt = 0 := rfl
      exact Int32.toInt_inj.mp (by unfold tkZ at z; omega)
    have e8 := S.2
    rw [b1] at e8
    have hA : Aw tt T (stA (F_X6_next v) 8 ((4 * ((F_X6_next v).1 9)) + 3) ((F_X6_next v).1 26)) := g2
    refine ⟨F_X2_step s, _, g1.2.2.1, ?_, ?_, S.1, hA, by rw [b1]; exact e8⟩
    · rw [F_X2_readInto_l20, if_pos (by decide), if_pos c]
      rfl
    · rw [q2, F_X6_text_c106, if_pos c', F_X6_text_b121, F_X6_text_b122, if_neg n10, t1]
  · left
    have c' : ¬ (F_X6_next v).1 20 = 0 := fun q => c (by
      rw [q] at z
      have e0 : (0 : Int32).toInt = 0 := rfl
      exact Int32.toInt_inj.mp (by unfold tkZ at z; omega))
    obtain ⟨f1, f2⟩ := fail_new g1
    refine ⟨F_X2_fail (F_X2_step s), _, f1, ?_, ?_, S.1⟩
    · rw [F_X2_readInto_l20, if_pos (by decide), if_neg c]
      rfl
    · rw [q2, F_X6_text_c106, if_neg c', F_X6_text_b121, F_X6_text_b122, if_pos z00, f2]
/-- after a fault -/
theorem text_bad {tt : Int32} {s T v w : Ob} {x : Int32} (h : Fl s) (f n : Nat) (hf : 3 < x.toInt + f) (x0 : 0 ≤ x.toInt) (x3 : x.toInt ≤ 3) (he : w.1 19 = s.1 6) (hk : kF tt v w) (t1 : w.1 9 = tt) (t2 : 0 ≤ tt.toInt) (t3 : tt.toInt < 6) : ∃ T' w', F_X2_readInto_l20 f s T x = (s.1 6, setS s 1 0, T') ∧ F_X6_text_l26 (n + 1) w 0 x = ((-100) - (s.1 6), setS w' 6 0) ∧ kF tt v w' := by
  obtain ⟨T', hT⟩ := into_fl f s T x h hf x0 x3
  refine ⟨T', stA w 8 ((4 * (w.1 9)) + 3) (w.1 26), hT, (text_fl n w x).trans (by rw [he]), ⟨hk.1, fun k h7 h8 h23 => (sA_ne _ _ h8).trans (hk.2.1 k h7 h8 h23), hk.2.2.1, fun j hj => ?_⟩⟩
  show upd (w.2 8) (Int32.toNatClampNeg ((4 * (w.1 9)) + 3)) (w.1 26) j = _
  rw [t1, i4p t2 t3 (by decide) (by decide), upd_n _ (by rw [tcn_i]; omega)]
  exact hk.2.2.2 j hj
theorem end_1 (T : Ob) (x : Int32) : (F_X3_endPart T x).1 3 = T.1 3 := rfl
theorem end_0 (T : Ob) (x : Int32) : (F_X3_endPart T x).2 0 = T.2 0 := rfl
theorem end_2 (T : Ob) (x : Int32) : (F_X3_endPart T x).2 2 = upd (T.2 2) x.toNatClampNeg (T.1 3) := rfl
theorem text_xr {tt : Int32} {T A B C w : Ob} (t2 : 0 ≤ tt.toInt) (t3 : tt.toInt < 6) (h0 : T.1 3 = 0) (h1 : Tc 0 1 T A) (h2 : Tc 0 1 (F_X3_endPart A 0) B) (h3 : Tc 0 1 (F_X3_endPart B 1) C) (hA : Aw tt (F_X3_endPart C 2) w) (k0 : w.2 8 (4 * tt.toNatClampNeg) = T.1 3) (k1 : w.2 8 (4 * tt.toNatClampNeg + 1) = A.1 3) (k2 : w.2 8 (4 * tt.toNatClampNeg + 2) = B.1 3) (k3 : w.2 8 (4 * tt.toNatClampNeg + 3) = C.1 3) : XR (F_X3_endPart C 2) w tt := by
  have e0 : (0 : Int32).toInt = 0 := rfl
  have e1 : (1 : Int32).toInt = 1 := rfl
  have e2 : (2 : Int32).toInt = 2 := rfl
  have h1' := h1
  have h2' := h2
  have h3' := h3
  obtain ⟨a1, a2, a3, _⟩ := h1'
  obtain ⟨b1, b2, b3, _⟩ := h2'
  obtain ⟨c1, c2, c3, _⟩ := h3'
  rw [end_1] at b2 c2 b3 c3
  rw [end_0] at b3 c3
  rw [end_2] at b1 c1
  have x2 : (F_X3_endPart C 2).2 2 2 = C.1 3 := rfl
  have x1 : (F_X3_endPart C 2).2 2 1 = B.1 3 := by
    show upd (C.2 2) 2 (C.1 3) 1 = _
    rw [upd_n _ (by decide), c1]
    rfl
  have x0 : (F_X3_endPart C 2).2 2 0 = A.1 3 := by
    show upd (C.2 2) 2 (C.1 3) 0 = _
    rw [upd_n _ (by decide), c1]
    show upd (B.2 2) 1 (B.1 3) 0 = _
    rw [upd_n _ (by decide), b1]
    rfl
  have hac := hA.ac
  have w0 : wfP (w.2 7) tt (T.1 3) (A.1 3) := part_wf2 (w := setS (setS w 24 0) 25 0) hac (by rw [end_1]; omega) (fun j hj => by rw [end_0, c3 j (by omega), b3 j hj]) h1
  have w1 : wfP (w.2 7) tt (A.1 3) (B.1 3) := part_wf2 (T := F_X3_endPart A 0) (w := setS (setS w 24 0) 25 0) hac (by rw [end_1]; omega) (fun j hj => by rw [end_0, c3 j hj]) h2
  have w2 : wfP (w.2 7) tt (B.1 3) (C.1 3) := part_wf2 (T := F_X3_endPart B 1) (w := setS (setS w 24 0) 25 0) hac (by rw [end_1]; omega) (fun j hj => by rw [end_0]) h3
  obtain ⟨⟨y1, y2⟩, ⟨y3, y4⟩, _, y5⟩ := hA
  rw [end_1] at y1 y2 y3 y5
  have l0 := w0.2.1
  have l1 := w1.2.1
  have l2 := w2.2.1
  have hI : ∀ p : Int32, 0 ≤ p.toInt → p.toInt ≤ 2 → (Int32.toNatClampNeg ((4 * tt) + p)) = 4 * tt.toNatClampNeg + p.toNatClampNeg ∧ (Int32.toNatClampNeg (((4 * tt) + p) + 1)) = 4 * tt.toNatClampNeg + p.toNatClampNeg + 1 := fun p p0 p2 => by
    have q := i4p t2 t3 p0 (by omega)
    refine ⟨q, ?_⟩
    have e4 : (4 * tt).toInt = 4 * tt.toInt := mulL (k := 4) (by decide +kernel) (by omega) (by omega)
    have e5 : ((4 * tt) + p).toInt = (4 * tt).toInt + p.toInt := fb_addI (by omega) (by omega)
    rw [tcn_add (by omega) (by omega), q]
  have hP : ∀ p : Int32, 0 ≤ p.toInt → p.toInt ≤ 2 → p = 0 ∨ p = 1 ∨ p = 2 := fun p p0 p2 => by
    rcases (show p.toInt = 0 ∨ p.toInt = 1 ∨ p.toInt = 2 by omega) with q | q | q
    · exact Or.inl (Int32.toInt_inj.mp q)
    · exact Or.inr (Or.inl (Int32.toInt_inj.mp q))
    · exact Or.inr (Or.inr (Int32.toInt_inj.mp q))
  refine ⟨?_, fun p p0 p2 => ?_, ?_, fun p p0 p2 => ?_, fun k k0 k1 => ?_⟩
  · unfold xOK
    rw [x0, x1, x2]
    rw [h0] at l0
    omega
  · obtain ⟨i1, i2⟩ := hI p p0 p2
    rw [i1, i2]
    rcases hP p p0 p2 with rfl | rfl | rfl
    · show wfP (w.2 7) tt (w.2 8 (4 * tt.toNatClampNeg)) (w.2 8 (4 * tt.toNatClampNeg + 1))
      rw [k0, k1]
      exact w0
    · show wfP (w.2 7) tt (w.2 8 (4 * tt.toNatClampNeg + 1)) (w.2 8 (4 * tt.toNatClampNeg + 2))
      rw [k1, k2]
      exact w1
    · show wfP (w.2 7) tt (w.2 8 (4 * tt.toNatClampNeg + 2)) (w.2 8 (4 * tt.toNatClampNeg + 3))
      rw [k2, k3]
      exact w2
  · rw [(hI 0 (by decide) (by decide)).1]
    exact k0.trans h0
  · rw [(hI p p0 p2).2]
    rcases hP p p0 p2 with rfl | rfl | rfl
    · exact x0.trans k1.symm
    · exact x1.trans k2.symm
    · exact x2.trans k3.symm
  · rw [x2] at k1
    exact y5 k k0 k1
theorem text_all {tt : Int32} {s v T : Ob} (h : Hw tt s v T) (h0 : T.1 3 = 0) :
    (∃ s' T' w, Fl s' ∧ F_X2_readInto_l20 4 (F_X2_step s) T 0 = (s'.1 6, setS s' 1 0, T') ∧ F_X6_text_l26 4 v 1 0 = ((-100) - (s'.1 6), setS w 6 0) ∧ kF tt v w) ∨
    (∃ s' T' w, s'.1 6 = -1 ∧ F_X2_readInto_l20 4 (F_X2_step s) T 0 = (s'.1 6, setS s' 1 0, T') ∧ F_X6_text_l26 4 v 1 0 = (((tt + 1) - 1), setS (setS w 6 0) 9 (tt + 1)) ∧ kF tt v w ∧ XR T' w tt) := by
  have e01 : (0 : Int32) + 1 = 1 := rfl
  have e12 : (1 : Int32) + 1 = 2 := rfl
  have e23 : (2 : Int32) + 1 = 3 := rfl
  have ht := h.2.2.2.2.2.1
  obtain ⟨t1, t2, t3⟩ := ht
  have n9 : ∀ w, kF tt v w → w.1 9 = tt := fun w k => (k.1 9 (by decide) (by decide) (by decide) (by decide) (by decide) (by decide) (by decide)).trans t1
  rcases part_st h (x := 0) (by decide) (by decide) 3 3 with ⟨s1, T1, w1, f1, p1, p2, p3, p4⟩ | ⟨s1, A, w1, p1, p2, h1, p3, p4, p5⟩
  · left
    rw [p1, p2, e01]
    obtain ⟨T', w', q1, q2, q3⟩ := text_bad f1 3 2 (x := 1) (T := T1) (by decide) (by decide) (by decide) p3 p4 (n9 _ p4) t2 t3
    exact ⟨s1, T', w', f1, q1, q2, q3⟩
  rw [p1, p2, e01]
  rcases part_st h1 (x := 1) (by decide) (by decide) 2 2 with ⟨s2, T2, w2, f2, q1, q2, q3, q4⟩ | ⟨s2, B, w2, q1, q2, h2, q3, q4, q5⟩
  · left
    rw [q1, q2, e12]
    obtain ⟨T', w', r1, r2, r3⟩ := text_bad f2 2 1 (x := 2) (T := T2) (by decide) (by decide) (by decide) q3 (p4.trans q4) (n9 _ (p4.trans q4)) t2 t3
    exact ⟨s2, T', w', f2, r1, r2, r3⟩
  rw [q1, q2, e12]
  rcases part_st h2 (x := 2) (by decide) (by decide) 1 1 with ⟨s3, T3, w3, f3, r1, r2, r3, r4⟩ | ⟨s3, C, w3, r1, r2, h3, r3, r4, r5⟩
  · left
    rw [r1, r2, e23]
    obtain ⟨T', w', y1, y2, y3⟩ := text_bad f3 1 0 (x := 3) (T := T3) (by decide) (by decide) (by decide) r3 ((p4.trans q4).trans r4) (n9 _ ((p4.trans q4).trans r4)) t2 t3
    exact ⟨s3, T', w', f3, y1, y2, y3⟩
  rw [r1, r2, e23]
  have k4 := (p4.trans q4).trans r4
  rcases text_end h3 0 0 with ⟨s4, w4, f4, y1, y2, y3⟩ | ⟨s4, w4, f4, y1, y2, y3, y4, y5⟩
  · left
    exact ⟨s4, _, w4, f4, y1, y2, k4.trans y3⟩
  right
  refine ⟨s4, _, w4, f4, y1, y2, k4.trans y3, ?_⟩
  rw [end_1] at q5 r5 y5
  have i0 : (0 : Int32).toNatClampNeg = 0 := rfl
  have i1 : (1 : Int32).toNatClampNeg = 1 := rfl
  have i2 : (2 : Int32).toNatClampNeg = 2 := rfl
  rw [i0] at p5
  rw [i1] at q5
  rw [i2] at r5
  refine text_xr t2 t3 h0 p3 q3 r3 y4 ?_ ?_ ?_ ?_
  · rw [y5, upd_n _ (by omega), r5, upd_n _ (by omega), q5, upd_n _ (by omega), p5]
    exact upd_s _
  · rw [y5, upd_n _ (by omega), r5, upd_n _ (by omega), q5]
    exact upd_s _
  · rw [y5, upd_n _ (by omega), r5]
    exact upd_s _
  · rw [y5]
    exact upd_s _
