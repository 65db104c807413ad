-- PURE: a part, with its word and its end
theorem part_go {tt : Int32} {s u T : Ob} {x : Int32} (hm : Mo 160 s u) (hk : Ad tt T u []) (h0 : 0 ≤ x.toInt) (h1 : x.toInt ≤ 2) (K : Ob → Int32 → Int32 → Int32 × Ob) :
    (Fl (F_X2_expect (F_X2_read (F_X2_expect s (256 + x)) T 0).1 59) ∧ ∃ w, F_X6_text_c36 K u x = K w 0 (x + 1) ∧ w.1 19 = (F_X2_expect (F_X2_read (F_X2_expect s (256 + x)) T 0).1 59).1 6 ∧ (w = stA u 8 ((4 * (u.1 9)) + x) (u.1 26) ∨ F_X6_eRead (stA u 8 ((4 * (u.1 9)) + x) (u.1 26)) = (0, w))) ∨
    (∃ w, F_X6_text_c36 K u x = K w 1 (x + 1) ∧ F_X2_expect s (256 + x) = F_X2_step s ∧ F_X6_eRead (stA u 8 ((4 * (u.1 9)) + x) (u.1 26)) = (1, w) ∧ F_X2_expect (F_X2_read (F_X2_step s) T 0).1 59 = F_X2_step (F_X2_read (F_X2_step s) T 0).1 ∧ Sb tt [] (F_X2_read (F_X2_step s) T 0).1 w (F_X2_read (F_X2_step s) T 0).2 ∧ Tc 0 1 T (F_X2_read (F_X2_step s) T 0).2) := by
  obtain ⟨g1, g2⟩ := word_is hm h0 h1
  by_cases c : s.1 4 = 256 + x
  · have es : F_X2_expect s (256 + x) = F_X2_step s := if_pos c
    have hS := Sb.part (s := s) (u := u) hm hk ((4 * (u.1 9)) + x) (u.1 26)
    have P := part_eq hS
    rw [es, c36_y (g1 c)]
    rcases P with ⟨f1, w, f2, f3⟩ | ⟨w, f2, f3, f4, f5⟩
    · left
      refine ⟨f1, w, ?_, f3, Or.inr f2⟩
      rw [f2]
      unfold F_X6_text_c83 F_X6_text_b93 F_X6_text_b94
      rw [if_pos z00]
    · right
      refine ⟨w, ?_, rfl, f2, f3, f4, f5⟩
      rw [f2]
      unfold F_X6_text_c83 F_X6_text_b94
      rw [if_neg n10]
  · left
    have es : F_X2_expect s (256 + x) = F_X2_fail s := if_neg c
    obtain ⟨f1, f2⟩ := fail_new hm
    have e2 : F_X2_expect (F_X2_read (F_X2_fail s) T 0).1 59 = F_X2_fail s := by
      rw [(rd_read tt).2 (F_X2_fail s) T f1]
      exact expect_fl f1 (by decide)
    rw [es, e2, c36_n (g2 c)]
    exact ⟨f1, _, rfl, f2.symm, Or.inl rfl⟩
