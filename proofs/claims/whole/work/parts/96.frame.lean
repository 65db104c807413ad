-- PURE: a part's word
theorem word_is {n : Nat} {s u : Ob} {x : Int32} (h : Mo n s u) (h0 : 0 ≤ x.toInt) (h1 : x.toInt ≤ 2) : (s.1 4 = 256 + x → u.1 20 = 3 ∧ u.1 21 = x) ∧ (¬ s.1 4 = 256 + x → ¬ (u.1 20 = 3 ∧ u.1 21 = x)) := by
  have z := h.tk
  have hp := part_no h0 (by omega)
  have e3 : (3 : Int32).toInt = 3 := rfl
  refine ⟨fun q => ?_, fun q r => q ?_⟩
  · rw [q, hp] at z
    have k : (u.1 20).toInt = 3 ∧ (u.1 21).toInt = x.toInt := by unfold tkZ at z; omega
    exact ⟨Int32.toInt_inj.mp (k.1.trans rfl), Int32.toInt_inj.mp k.2⟩
  · rw [r.1, r.2] at z
    exact Int32.toInt_inj.mp (by unfold tkZ at z; omega)
theorem c36_y {K : Ob → Int32 → Int32 → Int32 × Ob} {u : Ob} {x : Int32} (h : u.1 20 = 3 ∧ u.1 21 = x) : F_X6_text_c36 K u x = F_X6_text_c83 K (F_X6_eRead (stA u 8 ((4 * (u.1 9)) + x) (u.1 26))) x := by
  unfold F_X6_text_c36 F_X6_text_b60
  rw [if_pos h.1, if_pos h.2, if_neg n10]
theorem c36_n {K : Ob → Int32 → Int32 → Int32 × Ob} {u : Ob} {x : Int32} (h : ¬ (u.1 20 = 3 ∧ u.1 21 = x)) : F_X6_text_c36 K u x = K (stA u 8 ((4 * (u.1 9)) + x) (u.1 26)) 0 (x + 1) := by
  unfold F_X6_text_c36 F_X6_text_b59 F_X6_text_b60 F_X6_text_b93 F_X6_text_b94
  by_cases c : u.1 20 = 3
  · rw [if_pos c, if_neg (fun q => h ⟨c, q⟩), if_pos z00]
  · rw [if_neg c, if_pos z00]
/-- a part that begins: between tokens, with the part's start noted -/
theorem Sb.part {tt : Int32} {n : Nat} {s u T : Ob} (hm : Mo n s u) (hk : Ad tt T u []) (i v : Int32) : Sb tt [] s (setS (setS (stA u 8 i v) 24 0) 25 0) T := by
  obtain ⟨⟨a1, a2, a3⟩, b, c, d, f⟩ := hk.any
  exact ⟨hm.1.p, hm.2.1, hm.2.2.1, ⟨rfl, trivial, rfl⟩, b, c, d, f⟩
