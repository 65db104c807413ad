-- PURE: who lies, what it costs, how many strokes
theorem vow_eq {tx : Nat → Ob} {T m : Ob} (h : TR tx T m) {p : Int32} (hp : inP m p) : ((T.1 5 >>> (p &&& 31)) &&& 1) = (m.2 3) (Int32.toNatClampNeg ((4 * p) + 3)) := by
  obtain ⟨⟨k0, k1, k2, k3, k4, k5⟩, _⟩ := h.at hp
  obtain ⟨j0, j1, j2, j3⟩ := i4 hp.1 (h.lt hp)
  rw [j3, ← k5]
  unfold vb
  rw [nI_tcn hp.1]
theorem own_eq {tx : Nat → Ob} {T m : Ob} (h : TR tx T m) {p : Int32} (hp : inP m p) : F_X4_isOwnHour T p = (if (((m.2 3) (Int32.toNatClampNeg ((4 * p) + 2)) >>> ((F_X6_ofDay m) &&& 31)) &&& 1) = 1 then 1 else 0) := by
  obtain ⟨⟨k0, k1, k2, k3, k4, k5⟩, _⟩ := h.at hp
  obtain ⟨j0, j1, j2, j3⟩ := i4 hp.1 (h.lt hp)
  unfold F_X4_isOwnHour
  rw [if_neg (h.hasN hp), ofDay_eq h, j2, ← k4]
theorem lies_eq {tx : Nat → Ob} {T m : Ob} (h : TR tx T m) {p : Int32} (hp : inP m p) : F_X4_isLying tx T p = F_X6_lies m p := by
  have ha := asks_eq h (q := 0) ⟨by decide, by decide⟩ hp
  have ho := own_eq h hp
  have hv := vow_eq h hp
  obtain ⟨⟨k0, k1, k2, k3, k4, k5⟩, _⟩ := h.at hp
  have hl := h.2.1.2.2
  have e2 : Int32.toNatClampNeg 2 = 2 := rfl
  unfold F_X4_isLying
  rw [if_neg (h.hasN hp), ha]
  unfold F_X4_isVowed F_X6_lies
  rw [hv]
  by_cases v1 : (m.2 3) (Int32.toNatClampNeg ((4 * p) + 3)) = 1
  · rw [if_pos v1, if_pos v1, if_neg (by decide)]
  rw [if_neg v1, if_neg v1, if_pos rfl]
  unfold F_X4_isLoversHour
  rw [ho, if_neg (h.hasN hp), ← ofDay_eq h, k0, k1, hl]
  generalize (((m.2 3) (Int32.toNatClampNeg ((4 * p) + 2)) >>> ((F_X6_ofDay m) &&& 31)) &&& 1) = own
  unfold F_X6_lies_b42 F_X6_lies_b81 F_X6_lies_b106 F_X6_lies_b110 F_X6_lies_b111
  rw [e2]
  generalize F_X6_ofDay m = day
  generalize F_X6_asksOf m 0 p = so
  generalize (m.2 1) (Int32.toNatClampNeg p) = kd
  generalize (m.2 2) (Int32.toNatClampNeg p) = mr
  have z10 : ¬ (1 : Int32) = 0 := by decide
  by_cases o : own = 1
  · simp only [if_pos o, if_neg z10]
    by_cases s : so = 0
    · simp only [if_pos s, if_true]
      by_cases c1 : kd = 1
      · subst c1; rfl
      by_cases c2 : kd = 2
      · subst c2; rfl
      by_cases c3 : kd = 3
      · subst c3
        by_cases l : m.2 4 2 ≤ mr
        · simp [l]
        · simp [l]
      by_cases c4 : kd = 4
      · subst c4; rfl
      by_cases c5 : kd = 5
      · subst c5; rfl
      simp only [if_neg c1, if_neg c2, if_neg c3, if_neg c4, if_neg c5]
    · simp only [if_neg s, if_neg z10]
      by_cases c1 : kd = 1
      · subst c1; rfl
      by_cases c2 : kd = 2
      · subst c2; rfl
      by_cases c3 : kd = 3
      · subst c3
        by_cases l : m.2 4 2 ≤ mr
        · simp [l]
        · simp [l]
      by_cases c4 : kd = 4
      · subst c4; rfl
      by_cases c5 : kd = 5
      · subst c5; rfl
      simp only [if_neg c1, if_neg c2, if_neg c3, if_neg c4, if_neg c5]
  · simp only [if_neg o, if_true]
    by_cases g : day - day / 12 * 12 = mr
    · simp only [if_pos g, if_neg z10]
      by_cases s : so = 0
      · simp only [if_pos s, if_true]
        by_cases c1 : kd = 1
        · subst c1; rfl
        by_cases c2 : kd = 2
        · subst c2; rfl
        by_cases c3 : kd = 3
        · subst c3
          by_cases l : m.2 4 2 ≤ mr
          · simp [l]
          · simp [l]
        by_cases c4 : kd = 4
        · subst c4; rfl
        by_cases c5 : kd = 5
        · subst c5; rfl
        simp only [if_neg c1, if_neg c2, if_neg c3, if_neg c4, if_neg c5]
      · simp only [if_neg s, if_neg z10]
        by_cases c1 : kd = 1
        · subst c1; rfl
        by_cases c2 : kd = 2
        · subst c2; rfl
        by_cases c3 : kd = 3
        · subst c3
          by_cases l : m.2 4 2 ≤ mr
          · simp [l]
          · simp [l]
        by_cases c4 : kd = 4
        · subst c4; rfl
        by_cases c5 : kd = 5
        · subst c5; rfl
        simp only [if_neg c1, if_neg c2, if_neg c3, if_neg c4, if_neg c5]
    · simp only [if_neg g]
      by_cases s : so = 0
      · simp only [if_pos s, if_true]
        by_cases c1 : kd = 1
        · subst c1; rfl
        by_cases c2 : kd = 2
        · subst c2; rfl
        by_cases c3 : kd = 3
        · subst c3
          by_cases l : m.2 4 2 ≤ mr
          · simp [l]
          · simp [l]
        by_cases c4 : kd = 4
        · subst c4; rfl
        by_cases c5 : kd = 5
        · subst c5; rfl
        simp only [if_neg c1, if_neg c2, if_neg c3, if_neg c4, if_neg c5]
      · simp only [if_neg s, if_neg z10]
        by_cases c1 : kd = 1
        · subst c1; rfl
        by_cases c2 : kd = 2
        · subst c2; rfl
        by_cases c3 : kd = 3
        · subst c3
          by_cases l : m.2 4 2 ≤ mr
          · simp [l]
          · simp [l]
        by_cases c4 : kd = 4
        · subst c4; rfl
        by_cases c5 : kd = 5
        · subst c5; rfl
        simp only [if_neg c1, if_neg c2, if_neg c3, if_neg c4, if_neg c5, if_true]
theorem cost_eq {tx : Nat → Ob} {T m : Ob} (h : TR tx T m) {p : Int32} (hp : inP m p) : F_X4_costOf tx T p = F_X6_costsOf m p := by
  have ha := asks_eq h (q := 1) ⟨by decide, by decide⟩ hp
  obtain ⟨⟨k0, k1, k2, k3, k4, k5⟩, _⟩ := h.at hp
  unfold F_X4_costOf F_X6_costsOf
  rw [if_neg (h.hasN hp), ha, k0, h.2.1.2.2]
  rfl
theorem strokes_eq {tx : Nat → Ob} {T m : Ob} (h : TR tx T m) {p : Int32} (hp : inP m p) : F_X4_strokesOf tx T p = F_X6_strokesOf m p := by
  have ha := asks_eq h (q := 2) ⟨by decide, by decide⟩ hp
  obtain ⟨⟨k0, k1, k2, k3, k4, k5⟩, _⟩ := h.at hp
  unfold F_X4_strokesOf F_X6_strokesOf
  rw [if_neg (h.hasN hp), ha, k0, k1, ofDay_eq h]
