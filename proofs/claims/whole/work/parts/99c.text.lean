-- PURE: text
theorem up_id (f : Nat → Ob) (k : Nat) : va_up f k (f k) = f := funext fun j => by
  show (if j = k then f k else f j) = f j
  by_cases c : j = k
  · rw [if_pos c, c]
  · rw [if_neg c]
theorem up_at (f : Nat → Ob) (k : Nat) (X : Ob) : va_up f k X k = X := if_pos rfl
theorem up_ne (f : Nat → Ob) {k j : Nat} (X : Ob) (h : j ≠ k) : va_up f k X j = f j := if_neg h
theorem XR.kept {tt t : Int32} {X v w : Ob} (h : XR X v t) (k : kF tt v w) (t0 : 0 ≤ t.toInt) (t1 : t.toInt < tt.toInt) (t2 : tt.toInt < 6) : XR X w t := by
  obtain ⟨a, b, c, d, e⟩ := h
  have k7 : ∀ i : Int32, 0 ≤ i.toInt → i.toInt ≤ 199 → w.2 7 (Int32.toNatClampNeg ((200 * t) + i)) = v.2 7 (Int32.toNatClampNeg ((200 * t) + i)) := fun i i0 i1 => by
    refine k.2.2.1 _ ?_
    rw [i200 t0 (by omega) i0 i1]
    simp only [tcn_i]
    omega
  have hI : ∀ p : Int32, 0 ≤ p.toInt → p.toInt ≤ 2 → w.2 8 (Int32.toNatClampNeg ((4 * t) + p)) = v.2 8 (Int32.toNatClampNeg ((4 * t) + p)) ∧ w.2 8 (Int32.toNatClampNeg (((4 * t) + p) + 1)) = v.2 8 (Int32.toNatClampNeg (((4 * t) + p) + 1)) := fun p p0 p2 => by
    have q := i4p (t := t) t0 (by omega) p0 (by omega)
    have e4 : (4 * t).toInt = 4 * t.toInt := mulL (k := 4) (by decide +kernel) (by omega) (by omega)
    have e5 : ((4 * t) + p).toInt = (4 * t).toInt + p.toInt := fb_addI (by omega) (by omega)
    have q1 : (Int32.toNatClampNeg (((4 * t) + p) + 1)) = 4 * t.toNatClampNeg + p.toNatClampNeg + 1 := by rw [tcn_add (by omega) (by omega), q]
    refine ⟨k.2.2.2 _ ?_, k.2.2.2 _ ?_⟩
    · rw [q]
      simp only [tcn_i]
      omega
    · rw [q1]
      simp only [tcn_i]
      omega
  refine ⟨a, fun p p0 p2 => ?_, ?_, fun p p0 p2 => ?_, fun i i0 i1 => ?_⟩
  · obtain ⟨e1, e2⟩ := hI p p0 p2
    obtain ⟨z1, z2, z3, dd, z4, z5⟩ := b p p0 p2
    rw [e1, e2]
    refine ⟨z1, z2, z3, dd, z4, fun q q0 q1 => ?_⟩
    rw [k7 q (by omega) (by omega)]
    exact z5 q q0 q1
  · rw [(hI 0 (by decide) (by decide)).1]
    exact c
  · rw [(hI p p0 p2).2]
    exact d p p0 p2
  · rw [k7 i i0 (by have := a.2.2.2; omega)]
    exact e i i0 i1
theorem XR.same2 {X m r : Ob} {t : Int32} (h : XR X m t) (h7 : r.2 = m.2) : XR X r t := h.same (by rw [h7]) (by rw [h7])
section CALLS9
variable {bb : Ob} {tx rw : Nat → Ob} {sb : Ob} {tn : Nat → Ob} {m : Ob}
/-- a text was read, or not: all but the texts is as it was -/
theorem SR.text (h : SR bb tx rw sb tn m) {bb' sb' T' w r : Ob} (h6 : (m.1 9).toInt < 6) (k : kF (m.1 9) m w) (hr : r.2 = w.2) (hr1 : ∀ q, q ≠ 6 → q ≠ 9 → r.1 q = w.1 q) (hr6 : r.1 6 = 0) (hs : sb'.1 1 = 0) (hb : bb'.1 8 = bb.1 8) (h7 : bb'.1 7 = r.1 9) (h9 : r.1 9 = m.1 9 ∨ (r.1 9 = m.1 9 + 1 ∧ XR T' w (m.1 9))) : SR bb' (va_up tx (bb.1 7).toNatClampNeg T') rw sb' tn r := by
  obtain ⟨a, b, c, d, e, f, g, i⟩ := h
  obtain ⟨b1, b2, b3, b4⟩ := b
  rw [b1]
  have zA := fun q (x1 : q ≠ 7) (x2 : q ≠ 8) (x3 : q ≠ 23) => (congrFun hr q).trans (k.2.1 q x1 x2 x3)
  have zF := fun q (y1 : q ≠ 6) (y2 : q ≠ 9) (x1 : q ≠ 18) (x2 : q ≠ 19) (x3 : q ≠ 20) (x4 : q ≠ 21) (x5 : q ≠ 24) (x6 : q ≠ 25) (x7 : q ≠ 26) => (hr1 q y1 y2).trans (k.1 q x1 x2 x3 x4 x5 x6 x7)
  have e1 : (m.1 9 + 1).toInt = (m.1 9).toInt + 1 := addL (k := 1) (by decide +kernel) (by omega) (by omega)
  have h9i : (m.1 9).toInt ≤ (r.1 9).toInt ∧ (r.1 9).toInt ≤ (m.1 9).toInt + 1 := by
    rcases h9 with q | ⟨q, _⟩ <;> rw [q] <;> omega
  have hne : ∀ t : Int32, 0 ≤ t.toInt → t.toInt < (m.1 9).toInt → t.toNatClampNeg ≠ (m.1 9).toNatClampNeg := fun t t0 t1 => by
    simp only [tcn_i]
    omega
  have hX : ∀ t : Int32, 0 ≤ t.toInt → t.toInt < (m.1 9).toInt → XR (tx t.toNatClampNeg) m t → XR (va_up tx (m.1 9).toNatClampNeg T' t.toNatClampNeg) r t := fun t t0 t1 hx => by
    rw [up_ne _ _ (hne t t0 t1)]
    exact (hx.kept k t0 t1 h6).same2 hr
  have w0 : r.1 0 = m.1 0 := zF 0 (by decide) (by decide) (by decide) (by decide) (by decide) (by decide) (by decide) (by decide) (by decide)
  have w10 : r.1 10 = m.1 10 := zF 10 (by decide) (by decide) (by decide) (by decide) (by decide) (by decide) (by decide) (by decide) (by decide)
  have w11 : r.1 11 = m.1 11 := zF 11 (by decide) (by decide) (by decide) (by decide) (by decide) (by decide) (by decide) (by decide) (by decide)
  have z1 := zA 1 (by decide) (by decide) (by decide)
  have z2 := zA 2 (by decide) (by decide) (by decide)
  have z3 := zA 3 (by decide) (by decide) (by decide)
  have z4 := zA 4 (by decide) (by decide) (by decide)
  have z10 := a.2.2.1.2.2.1
  refine ⟨a.gen w0 w10 (hX _ z10 b3 a.2.2.2.1) (fun j _ => by rw [z1]) (fun j _ => by rw [z2]) (fun j _ => by rw [z3]) (fun j _ => by rw [z4]), ⟨h7, ⟨by omega, by omega⟩, by rw [w10]; omega, fun t t0 t1 => ?_⟩, c.gen hb w11 (by rw [w0]; exact Int.le_refl _) h9i.1 (zA 12 (by decide) (by decide) (by decide)) (zA 13 (by decide) (by decide) (by decide)) (fun j _ => by rw [z1]) (fun j _ => by rw [z2]) hX, fun s hs' => ?_, ⟨hs.trans hr6.symm, by rw [hr6]; decide, fun q hq => ?_⟩, fun j hj => ?_, ?_, ?_⟩
  · by_cases q : t.toInt < (m.1 9).toInt
    · exact hX t t0 q (b4 t t0 q)
    · rcases h9 with z | ⟨_, z⟩
      · rw [z] at t1
        exact absurd t1 q
      · have et : t = m.1 9 := Int32.toInt_inj.mp (by omega)
        rw [et, up_at]
        exact z.same2 hr
  · unfold HSk
    rw [zA 14 (by decide) (by decide) (by decide), zA 15 (by decide) (by decide) (by decide), zA 16 (by decide) (by decide) (by decide)]
    exact d s hs'
  · rw [hr6] at hq
    have e0 : (0 : Int32).toInt = 0 := rfl
    omega
  · rw [zA 22 (by decide) (by decide) (by decide)]
    exact f j hj
  · rw [z4]
    exact g
  · rw [w0, z1]
    exact i
theorem s_text (h : SR bb tx rw sb tn m) : (F_X5_text tx bb sb).1 = (F_X6_text m).1 ∧ SR (F_X5_text tx bb sb).2.1 (va_up tx (bb.1 7).toNatClampNeg (F_X5_text tx bb sb).2.2.2) rw (F_X5_text tx bb sb).2.2.1 tn (F_X6_text m).2 := by
  have hh := h
  obtain ⟨_, ⟨b1, b2, b3, b4⟩, _, _, e, f, _, _⟩ := hh
  have e0 : (0 : Int32).toInt = 0 := rfl
  have e6 : (6 : Int32).toInt = 6 := rfl
  unfold F_X5_text F_X6_text
  rw [if_neg (show ¬ (bb.1 7) < 0 from fun q => by rw [b1] at q; have := i_lt.mp q; omega)]
  by_cases c : m.1 9 = 6
  · rw [if_pos c, if_neg (show ¬ (bb.1 7) < 6 from fun q => by rw [b1, c] at q; have := i_lt.mp q; omega)]
    refine ⟨rfl, ?_⟩
    show SR bb (va_up tx (bb.1 7).toNatClampNeg (tx (bb.1 7).toNatClampNeg)) rw sb tn m
    rw [up_id]
    exact h
  have c6 : (m.1 9).toInt < 6 := by
    have : (m.1 9).toInt ≠ 6 := fun q => c (Int32.toInt_inj.mp q)
    omega
  rw [if_neg c, if_pos (show (bb.1 7) < 6 from i_lt.mpr (by rw [b1]; omega))]
  unfold F_X2_readInto F_X2_readInto_c11 F_X2_readInto_c15
  have hw : Hw (m.1 9) (setS (setS sb 2 0) 6 (-1)) (setS (setS m 18 0) 26 0) (F_X3_empty (tx (Int32.toNatClampNeg (bb.1 7)))) := by
    have d0 : 0 ≤ (0 : Int32).toInt := by decide
    have d1 : (0 : Int32).toInt ≤ (0 : Int32).toInt := by decide
    have d2 : (0 : Int32).toInt ≤ 160 := by decide
    refine ⟨⟨⟨e.1, e.2.1, fun q hq => (e.2.2 q hq).1⟩, rfl, d0, ?_⟩, f, rfl, ⟨⟨rfl, d0⟩, ⟨d1, d2⟩, ⟨rfl, by omega, c6⟩, fun q q0 q1 => ?_⟩⟩
    · show (0 : Int32).toInt ≤ (m.1 6).toInt
      have := e.2.1.1
      omega
    · have q1' : q.toInt < (0 : Int32).toInt := q1
      omega
  have kb : ∀ w, kF (m.1 9) (setS (setS m 18 0) 26 0) w → kF (m.1 9) m w := fun w k => by
    refine ⟨fun j a1 a2 a3 a4 a5 a6 a7 => (k.1 j a1 a2 a3 a4 a5 a6 a7).trans ((s_ne _ a7).trans (s_ne _ a1)), k.2.1, k.2.2.1, k.2.2.2⟩
  unfold F_X5_text_c32
  rcases text_all hw rfl with ⟨s', T', w, f1, q1, q2, q3⟩ | ⟨s', T', w, f1, q1, q2, q3, q4⟩
  · rw [q1, q2]
    have n0 : ¬ s'.1 6 < 0 := fun q => by have := i_lt.mp q; have := f1.2; omega
    have ec : (if s'.1 6 < 0 then ((((setS bb 7 ((bb.1 7) + 1)).1 7) - 1), (setS bb 7 ((bb.1 7) + 1)), setS s' 1 0, T') else (((-100) - s'.1 6), bb, setS s' 1 0, T')) = (((-100) - s'.1 6), bb, setS s' 1 0, T') := if_neg n0
    show (if s'.1 6 < 0 then ((((setS bb 7 ((bb.1 7) + 1)).1 7) - 1), (setS bb 7 ((bb.1 7) + 1)), setS s' 1 0, T') else (((-100) - s'.1 6), bb, setS s' 1 0, T')).1 = _ ∧ SR (if s'.1 6 < 0 then ((((setS bb 7 ((bb.1 7) + 1)).1 7) - 1), (setS bb 7 ((bb.1 7) + 1)), setS s' 1 0, T') else (((-100) - s'.1 6), bb, setS s' 1 0, T')).2.1 (va_up tx (bb.1 7).toNatClampNeg (if s'.1 6 < 0 then ((((setS bb 7 ((bb.1 7) + 1)).1 7) - 1), (setS bb 7 ((bb.1 7) + 1)), setS s' 1 0, T') else (((-100) - s'.1 6), bb, setS s' 1 0, T')).2.2.2) rw (if s'.1 6 < 0 then ((((setS bb 7 ((bb.1 7) + 1)).1 7) - 1), (setS bb 7 ((bb.1 7) + 1)), setS s' 1 0, T') else (((-100) - s'.1 6), bb, setS s' 1 0, T')).2.2.1 tn (setS w 6 0)
    rw [ec]
    have k := kb _ q3
    have w9 : w.1 9 = m.1 9 := k.1 9 (by decide) (by decide) (by decide) (by decide) (by decide) (by decide) (by decide)
    exact ⟨rfl, h.text c6 k rfl (fun q z _ => s_ne _ z) rfl rfl rfl (b1.trans w9.symm) (Or.inl w9)⟩
  · rw [q1, q2]
    have n0 : s'.1 6 < 0 := by rw [f1]; decide
    have ec : (if s'.1 6 < 0 then ((((setS bb 7 ((bb.1 7) + 1)).1 7) - 1), (setS bb 7 ((bb.1 7) + 1)), setS s' 1 0, T') else (((-100) - s'.1 6), bb, setS s' 1 0, T')) = ((((setS bb 7 ((bb.1 7) + 1)).1 7) - 1), (setS bb 7 ((bb.1 7) + 1)), setS s' 1 0, T') := if_pos n0
    show (if s'.1 6 < 0 then ((((setS bb 7 ((bb.1 7) + 1)).1 7) - 1), (setS bb 7 ((bb.1 7) + 1)), setS s' 1 0, T') else (((-100) - s'.1 6), bb, setS s' 1 0, T')).1 = _ ∧ SR (if s'.1 6 < 0 then ((((setS bb 7 ((bb.1 7) + 1)).1 7) - 1), (setS bb 7 ((bb.1 7) + 1)), setS s' 1 0, T') else (((-100) - s'.1 6), bb, setS s' 1 0, T')).2.1 (va_up tx (bb.1 7).toNatClampNeg (if s'.1 6 < 0 then ((((setS bb 7 ((bb.1 7) + 1)).1 7) - 1), (setS bb 7 ((bb.1 7) + 1)), setS s' 1 0, T') else (((-100) - s'.1 6), bb, setS s' 1 0, T')).2.2.2) rw (if s'.1 6 < 0 then ((((setS bb 7 ((bb.1 7) + 1)).1 7) - 1), (setS bb 7 ((bb.1 7) + 1)), setS s' 1 0, T') else (((-100) - s'.1 6), bb, setS s' 1 0, T')).2.2.1 tn (setS (setS w 6 0) 9 (m.1 9 + 1))
    rw [ec]
    refine ⟨?_, h.text c6 (kb _ q3) rfl (fun q z z9 => (s_ne _ z9).trans (s_ne _ z)) rfl rfl rfl ?_ (Or.inr ⟨rfl, q4⟩)⟩
    · show (bb.1 7 + 1) - 1 = (m.1 9 + 1) - 1
      rw [b1]
    · show bb.1 7 + 1 = m.1 9 + 1
      rw [b1]
end CALLS9
