-- PURE: a text, part by part
def Aw (tt : Int32) (T u : Ob) : Prop := (u.1 26 = T.1 3 ∧ 0 ≤ (T.1 3).toInt) ∧ ((T.1 3).toInt ≤ (u.1 18).toInt ∧ (u.1 18).toInt ≤ 160) ∧ (u.1 9 = tt ∧ 0 ≤ tt.toInt ∧ tt.toInt < 6) ∧ ∀ k : Int32, 0 ≤ k.toInt → k.toInt < (T.1 3).toInt → trc (T.2 0 k.toNatClampNeg) (u.2 7 (Int32.toNatClampNeg ((200 * tt) + k)))
theorem Aw.ac {tt : Int32} {T u : Ob} (h : Aw tt T u) : Ac 0 tt T (setS (setS u 24 0) 25 0) [] := by
  obtain ⟨b, ⟨c1, c2⟩, d, f⟩ := h
  refine ⟨⟨rfl, trivial, rfl⟩, b, ⟨?_, c2⟩, d, f⟩
  have e : (([] : List Int32).length : Int) = 0 := rfl
  show (([] : List Int32).length : Int) + (T.1 3).toInt + 0 ≤ (u.1 18).toInt
  omega
theorem Ac.aw {tt : Int32} {T u : Ob} (h : Ac 0 tt T u []) : Aw tt T u := by
  obtain ⟨_, b, ⟨c1, c2⟩, d, f⟩ := h
  have e : (([] : List Int32).length : Int) = 0 := rfl
  exact ⟨b, ⟨by omega, c2⟩, d, f⟩
def Hw (tt : Int32) (s v T : Ob) : Prop := Lp s v ∧ (∀ j, j < 96 → v.2 22 j = wordsL.getD j 0) ∧ s.1 6 = -1 ∧ Aw tt T v
theorem Hw.next {tt : Int32} {s v T : Ob} (k : Hw tt s v T) : Mo 160 (F_X2_step s) (F_X6_next v) ∧ Aw tt T (F_X6_next v) ∧ nX (v.1 18).toInt v (F_X6_next v) := by
  obtain ⟨hp, hw, h6, hk⟩ := k
  obtain ⟨k1, k2⟩ := step_eq hp hw
  have hnv : nOK v := ⟨hp.2.2.1, hp.2.2.2, hp.1.2.1.2⟩
  have hx := next_ok rfl hnv
  have hx' := hx
  obtain ⟨⟨g1, g2, g3, g4⟩, g5⟩ := hx
  refine ⟨⟨k1, fun j hj => by rw [g3]; exact hw j hj, (k2.2 6 (by decide) (by decide) (by decide) (by decide)).trans h6, fun q => ?_, Nat.le_refl _⟩, ?_, hx'⟩
  · have := g5 q
    have := hnv.1
    omega
  · obtain ⟨⟨b1, b2⟩, ⟨c1, c2⟩, d, f⟩ := hk
    have c160 : ((F_X6_next v).1 18).toInt ≤ 160 := by
      have := g1
      omega
    unfold Aw
    rw [g3, g4 26 (by decide) (by decide) (by decide) (by decide), g4 9 (by decide) (by decide) (by decide) (by decide)]
    exact ⟨⟨b1, b2⟩, ⟨by omega, c160⟩, d, f⟩
theorem part_gw {tt : Int32} {s u T : Ob} {x : Int32} (hm : Mo 160 s u) (hk : Aw tt T u) (h0 : 0 ≤ x.toInt) (h1 : x.toInt ≤ 2) (K : Ob → Int32 → Int32 → Int32 × Ob) :
    (Fl (F_X2_expect (F_X2_read (F_X2_expect s (256 + x)) T 0).1 59) ∧ ∃ w, F_X6_text_c36 K u x = K w 0 (x + 1) ∧ w.1 19 = (F_X2_expect (F_X2_read (F_X2_expect s (256 + x)) T 0).1 59).1 6 ∧ (w = stA u 8 ((4 * (u.1 9)) + x) (u.1 26) ∨ F_X6_eRead (stA u 8 ((4 * (u.1 9)) + x) (u.1 26)) = (0, w))) ∨
    (∃ w, F_X6_text_c36 K u x = K w 1 (x + 1) ∧ F_X2_expect s (256 + x) = F_X2_step s ∧ F_X6_eRead (stA u 8 ((4 * (u.1 9)) + x) (u.1 26)) = (1, w) ∧ F_X2_expect (F_X2_read (F_X2_step s) T 0).1 59 = F_X2_step (F_X2_read (F_X2_step s) T 0).1 ∧ Sb tt [] (F_X2_read (F_X2_step s) T 0).1 w (F_X2_read (F_X2_step s) T 0).2 ∧ Tc 0 1 T (F_X2_read (F_X2_step s) T 0).2) := by
  obtain ⟨g1, g2⟩ := word_is hm h0 h1
  by_cases c : s.1 4 = 256 + x
  · have es : F_X2_expect s (256 + x) = F_X2_step s := if_pos c
    have hA : Aw tt T (stA u 8 ((4 * (u.1 9)) + x) (u.1 26)) := hk
    have hS : Sb tt [] s (setS (setS (stA u 8 ((4 * (u.1 9)) + x) (u.1 26)) 24 0) 25 0) T := ⟨hm.1.p, hm.2.1, hm.2.2.1, hA.ac⟩
    have P := part_eq hS
    rw [es, c36_y (g1 c)]
    rcases P with ⟨f1, w, f2, f3⟩ | ⟨w, f2, f3, f4, f5⟩
    · left
      refine ⟨f1, w, ?_, f3, Or.inr f2⟩
      rw [f2]
      unfold F_X6_text_c83 F_X6_text_b93 F_X6_text_b94
      rw [if_pos z00]
    · right
      refine ⟨w, ?_, rfl, f2, f3, f4, f5⟩
      rw [f2]
      unfold F_X6_text_c83 F_X6_text_b94
      rw [if_neg n10]
  · left
    have es : F_X2_expect s (256 + x) = F_X2_fail s := if_neg c
    obtain ⟨f1, f2⟩ := fail_new hm
    have e2 : F_X2_expect (F_X2_read (F_X2_fail s) T 0).1 59 = F_X2_fail s := by
      rw [(rd_read tt).2 (F_X2_fail s) T f1]
      exact expect_fl f1 (by decide)
    rw [es, e2, c36_n (g2 c)]
    exact ⟨f1, _, rfl, f2.symm, Or.inl rfl⟩
theorem Aw.endp {tt : Int32} {T u : Ob} (h : Aw tt T u) (x : Int32) : Aw tt (F_X3_endPart T x) u := h
/-- what the reading of a text leaves -/
def kF (tt : Int32) (v w : Ob) : Prop := (∀ k : Nat, k ≠ 18 → k ≠ 19 → k ≠ 20 → k ≠ 21 → k ≠ 24 → k ≠ 25 → k ≠ 26 → w.1 k = v.1 k) ∧ (∀ k : Nat, k ≠ 7 → k ≠ 8 → k ≠ 23 → w.2 k = v.2 k) ∧ (∀ j : Nat, (j : Int) < 200 * tt.toInt → w.2 7 j = v.2 7 j) ∧ ∀ j : Nat, (j : Int) < 4 * tt.toInt → w.2 8 j = v.2 8 j
theorem kF.trans {tt : Int32} {u v w : Ob} (h : kF tt u v) (k : kF tt v w) : kF tt u w := ⟨fun j a b c d e f g => (k.1 j a b c d e f g).trans (h.1 j a b c d e f g), fun j a b c => (k.2.1 j a b c).trans (h.2.1 j a b c), fun j a => (k.2.2.1 j a).trans (h.2.2.1 j a), fun j a => (k.2.2.2 j a).trans (h.2.2.2 j a)⟩
theorem i4p {t p : Int32} (t0 : 0 ≤ t.toInt) (t1 : t.toInt < 6) (p0 : 0 ≤ p.toInt) (p1 : p.toInt ≤ 3) : (Int32.toNatClampNeg ((4 * t) + p)) = 4 * t.toNatClampNeg + p.toNatClampNeg := by
  have e4 : (4 * t).toInt = 4 * t.toInt := mulL (k := 4) (by decide +kernel) (by omega) (by omega)
  have e1 : ((4 * t) + p).toInt = (4 * t).toInt + p.toInt := fb_addI (by omega) (by omega)
  simp only [tcn_i]
  omega
theorem kF.start {tt a : Int32} {v u : Ob} {x : Int32} {b : Int} (hx : nX b v u) (ht : u.1 9 = tt) (t0 : 0 ≤ tt.toInt) (t1 : tt.toInt < 6) (h0 : 0 ≤ x.toInt) (h1 : x.toInt ≤ 3) : kF tt v (stA u 8 ((4 * (u.1 9)) + x) a) ∧ (stA u 8 ((4 * (u.1 9)) + x) a).2 8 = upd (v.2 8) (4 * tt.toNatClampNeg + x.toNatClampNeg) a := by
  obtain ⟨⟨g1, g2, g3, g4⟩, _⟩ := hx
  have e : (stA u 8 ((4 * (u.1 9)) + x) a).2 8 = upd (v.2 8) (4 * tt.toNatClampNeg + x.toNatClampNeg) a := by
    show upd (u.2 8) (Int32.toNatClampNeg ((4 * (u.1 9)) + x)) a = _
    rw [g3, ht, i4p t0 t1 h0 h1]
  refine ⟨⟨fun k a1 a2 a3 a4 _ _ _ => g4 k a1 a2 a3 a4, fun k _ k8 _ => (sA_ne _ _ k8).trans (by rw [g3]), fun j _ => ?_, fun j hj => ?_⟩, e⟩
  · show u.2 7 j = v.2 7 j
    rw [g3]
  · rw [e]
    exact upd_n _ (by rw [tcn_i]; omega)
theorem kF.read {tt z : Int32} {m w : Ob} (t0 : 0 ≤ tt.toInt) (t1 : tt.toInt < 6) (h9 : m.1 9 = tt) (hn : nOK m) (h26 : 0 ≤ (m.1 26).toInt ∧ (m.1 26).toInt ≤ (m.1 18).toInt) (hr : F_X6_eRead m = (z, w)) : kF tt m w ∧ w.2 8 = m.2 8 := by
  obtain ⟨k1, k2⟩ := eRead_Q ⟨t0, by omega⟩ h9 hr hn h26.1 h26.2
  obtain ⟨_, _, a, b⟩ := k1
  have e8 : w.2 8 = m.2 8 := b 8 (by decide) (by decide)
  exact ⟨⟨a, fun k h7 _ h23 => b k h7 h23, k2, fun j _ => by rw [e8]⟩, e8⟩
theorem part_st {tt : Int32} {s v T : Ob} {x : Int32} (h : Hw tt s v T) (h0 : 0 ≤ x.toInt) (h1 : x.toInt ≤ 2) (f n : Nat) :
    (∃ s' T' w, Fl s' ∧ F_X2_readInto_l20 (f + 1) (F_X2_step s) T x = F_X2_readInto_l20 f s' T' (x + 1) ∧ F_X6_text_l26 (n + 1) v 1 x = F_X6_text_l26 n w 0 (x + 1) ∧ w.1 19 = s'.1 6 ∧ kF tt v w) ∨
    (∃ s' T' w, F_X2_readInto_l20 (f + 1) (F_X2_step s) T x = F_X2_readInto_l20 f (F_X2_step s') (F_X3_endPart T' x) (x + 1) ∧ F_X6_text_l26 (n + 1) v 1 x = F_X6_text_l26 n w 1 (x + 1) ∧ Hw tt s' w (F_X3_endPart T' x) ∧ Tc 0 1 T T' ∧ kF tt v w ∧ w.2 8 = upd (v.2 8) (4 * tt.toNatClampNeg + x.toNatClampNeg) (T.1 3)) := by
  obtain ⟨g1, g2, g3⟩ := h.next
  have e2 : (2 : Int32).toInt = 2 := rfl
  have e3 : (3 : Int32).toInt = 3 := rfl
  have c2 : ¬ (2 : Int32) < x := fun q => by have := i_lt.mp q; omega
  have c3 : ¬ (3 : Int32) ≤ x := fun q => by have := i_le.mp q; omega
  have q1 : F_X2_readInto_l20 (f + 1) (F_X2_step s) T x = F_X2_readInto_l20 f (F_X2_expect (F_X2_read (F_X2_expect (F_X2_step s) (256 + x)) T 0).1 59) (F_X3_endPart (F_X2_read (F_X2_expect (F_X2_step s) (256 + x)) T 0).2 x) (x + 1) := by
    rw [F_X2_readInto_l20, if_neg c2, F_X2_readInto_c31, F_X2_readInto_c37, F_X2_readInto_c43, F_X2_readInto_c48]
  have q2 : F_X6_text_l26 (n + 1) v 1 x = F_X6_text_c36 (F_X6_text_l26 n) (F_X6_next v) x := by
    rw [F_X6_text_l26, if_neg c3, if_neg n10]
  have g2' := g2
  obtain ⟨⟨b1, b2⟩, ⟨d1, d2⟩, ⟨t1, t2, t3⟩, _⟩ := g2'
  have S := kF.start (a := (F_X6_next v).1 26) (x := x) g3 t1 t2 t3 h0 (by omega)
  have hn : nOK (stA (F_X6_next v) 8 ((4 * ((F_X6_next v).1 9)) + x) ((F_X6_next v).1 26)) := g1.ok
  have h26 : 0 ≤ ((F_X6_next v).1 26).toInt ∧ ((F_X6_next v).1 26).toInt ≤ ((F_X6_next v).1 18).toInt := by rw [b1]; exact ⟨b2, d1⟩
  have R : ∀ (z : Int32) (w : Ob), F_X6_eRead (stA (F_X6_next v) 8 ((4 * ((F_X6_next v).1 9)) + x) ((F_X6_next v).1 26)) = (z, w) → kF tt v w ∧ w.2 8 = upd (v.2 8) (4 * tt.toNatClampNeg + x.toNatClampNeg) ((F_X6_next v).1 26) := fun z w hr => by
    obtain ⟨r1, r2⟩ := kF.read t2 t3 (m := stA (F_X6_next v) 8 ((4 * ((F_X6_next v).1 9)) + x) ((F_X6_next v).1 26)) t1 hn h26 hr
    exact ⟨S.1.trans r1, r2.trans S.2⟩
  rcases part_gw g1 g2 h0 h1 (F_X6_text_l26 n) with ⟨f1, w, f2, f3, f4⟩ | ⟨w, f2, f3, f4, f5, f6, f7⟩
  · left
    refine ⟨_, _, w, f1, q1, q2.trans f2, f3, ?_⟩
    rcases f4 with f4 | f4
    · rw [f4]
      exact S.1
    · exact (R _ _ f4).1
  · right
    rw [f3, f5] at q1
    obtain ⟨r1, r2⟩ := R _ _ f4
    rw [b1] at r2
    have q3 := q2.trans f2
    clear f2 f3 f4 f5 q2 R S
    obtain ⟨o, ho⟩ : ∃ o, o = F_X2_read (F_X2_step (F_X2_step s)) T 0 := ⟨_, rfl⟩
    rw [← ho] at q1 f6 f7
    clear ho
    obtain ⟨y1, y2, y3, y4⟩ := f6
    have ya := y4.aw.endp x
    exact ⟨o.1, o.2, w, q1, q3, ⟨y1, y2, y3, ya⟩, f7, r1, r2⟩
