section CALLS2
variable {bb : Ob} {tx rw : Nat → Ob} {sb : Ob} {tn : Nat → Ob} {m : Ob}
theorem s_force (h : SR bb tx rw sb tn m) (p : Int32) : (F_X5_force tn bb p).1 = (F_X6_force m p).1 ∧ SR bb tx rw sb (va_up tn 0 (F_X5_force tn bb p).2) (F_X6_force m p).2 := by
  unfold F_X5_force F_X6_force F_X6_in
  obtain ⟨b1, b2, b3, b4⟩ := h.2.1
  have e0 : (0 : Int32).toInt = 0 := rfl
  have e6 : (6 : Int32).toInt = 6 := rfl
  have e1 : (m.1 9 - 1).toInt = (m.1 9).toInt - 1 := subL (k := 1) (by decide +kernel) (by omega) (by omega)
  rw [b1]
  by_cases c0 : p < 0
  · rw [if_pos c0, if_pos c0, if_pos z00]
    exact ⟨rfl, h.stay⟩
  rw [if_neg c0, if_neg c0]
  have d0 := i_nlt c0
  by_cases c1 : m.1 9 ≤ p
  · have d1 := i_le.mp c1
    rw [if_pos c1, if_pos (show m.1 9 - 1 < p from i_lt.mpr (by omega)), if_pos z00]
    exact ⟨rfl, h.stay⟩
  have d1 := i_nle c1
  rw [if_neg c1, if_pos (show p < 6 from i_lt.mpr (by omega)), if_neg (show ¬ m.1 9 - 1 < p from fun q => by have := i_lt.mp q; omega), if_neg n10]
  have t := h.1
  refine ⟨t.2.2.1.1, ?_⟩
  obtain ⟨a, b, c, d, e, f, g, i⟩ := t
  have hX := b4 p (by omega) d1
  refine ⟨⟨a, b, ⟨rfl, nI_tcn (by omega), by show 0 ≤ p.toInt; omega, by show p.toInt ≤ 5; omega⟩, hX, e, f, g, i⟩, ⟨b1, b2, d1, b4⟩, ?_, h.2.2.2.1, h.2.2.2.2.1, h.2.2.2.2.2.1, h.2.2.2.2.2.2.1, h.2.2.2.2.2.2.2⟩
  exact h.2.2.1.gen rfl rfl (Int.le_refl _) (Int.le_refl _) rfl rfl (fun _ _ => rfl) (fun _ _ => rfl) (fun t _ _ hx => hx)
end CALLS2
