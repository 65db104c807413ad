-- PURE: a token's reading, in the class and in the reference
theorem dig_add {v b : Int32} {B : Int} (h0 : 0 ≤ v.toInt) (h1 : v.toInt ≤ B) (hB : B ≤ 999) (b0 : 48 ≤ b.toInt) (b1 : b.toInt ≤ 57) : 0 ≤ (((10 * v) + b) - 48).toInt ∧ (((10 * v) + b) - 48).toInt ≤ 10 * B + 9 := by
  have e1 : (10 * v).toInt = 10 * v.toInt := mulL (k := 10) (by decide +kernel) (by omega) (by omega)
  have e2 : ((10 * v) + b).toInt = (10 * v).toInt + b.toInt := fb_addI (by omega) (by omega)
  have e3 : (((10 * v) + b) - 48).toInt = ((10 * v) + b).toInt - 48 := subL (k := 48) (by decide +kernel) (by omega) (by omega)
  omega
theorem numR.inc {x v w b : Int32} (h : numR x v w) (x0 : 0 ≤ x.toInt) (x1 : x.toInt ≤ 160) (b0 : 48 ≤ b.toInt) (b1 : b.toInt ≤ 57) : numR (x + 1) (((v * 10) + b) - 48) (if 4 ≤ x then 0 else (((10 * w) + b) - 48)) := by
  have ex : (x + 1).toInt = x.toInt + 1 := addL (k := 1) (by decide +kernel) (by omega) (by omega)
  have e4 : (4 : Int32).toInt = 4 := rfl
  by_cases c : (4 : Int32) ≤ x
  · have cc := i_le.mp c
    exact Or.inr (Or.inr (Or.inr (Or.inr (Or.inr (by omega)))))
  have cc := i_nle c
  rw [if_neg c, Int32.mul_comm v 10]
  have g := h.out (by omega)
  obtain ⟨g1, g2, g3⟩ := g
  subst g1
  rcases h with h | h | h | h | h | h
  · have k := dig_add (v := v) (b := b) (B := 0) g2 (by omega) (by omega) b0 b1
    exact Or.inr (Or.inl ⟨by omega, k.1, by omega, rfl⟩)
  · have k := dig_add (v := v) (b := b) (B := 9) g2 h.2.2.1 (by omega) b0 b1
    exact Or.inr (Or.inr (Or.inl ⟨by omega, k.1, by omega, rfl⟩))
  · have k := dig_add (v := v) (b := b) (B := 99) g2 h.2.2.1 (by omega) b0 b1
    exact Or.inr (Or.inr (Or.inr (Or.inl ⟨by omega, k.1, by omega, rfl⟩)))
  · have k := dig_add (v := v) (b := b) (B := 999) g2 h.2.2.1 (by omega) b0 b1
    exact Or.inr (Or.inr (Or.inr (Or.inr (Or.inl ⟨by omega, k.1, by omega, rfl⟩))))
  · omega
  · omega
theorem num_loop : ∀ (n : Nat) (s u : Ob) (x : Int32), LSy s u → x.toInt = (u.1 18).toInt - (u.1 19).toInt → numR x (s.1 5) (u.1 21) → 160 < (u.1 18).toInt + n → Lx (F_X2_takeNumber_l5 n s) (F_X6_next_l230 n u x) ∧ kS s (F_X2_takeNumber_l5 n s) := by
  intro n
  induction n with
  | zero =>
    intro s u x h hx hv hn
    have k160 := h.1.2.1
    have := h.2.2.2.2.2
    omega
  | succ n ih =>
    intro s u x h hx hv hn
    have k160 := h.1.2.1
    have hh := h.2.2.2
    unfold F_X2_takeNumber_l5 F_X6_next_l230
    rw [h.1.1, h.2.2.1]
    by_cases c : u.1 6 ≤ u.1 18
    · rw [if_pos c, if_pos c]
      exact num_end h hx hv
    rw [if_neg c, if_neg c]
    have hb := h.byte c
    rw [h.2.2.1] at hb
    rw [hb, show F_X2_isDigit (u.2 5 (u.1 18).toNatClampNeg) = F_X6_in (u.2 5 (u.1 18).toNatClampNeg) 48 57 from rfl]
    by_cases d : F_X6_in (u.2 5 (u.1 18).toNatClampNeg) 48 57 = 0
    · rw [if_pos d, if_pos d]
      exact num_end h hx hv
    rw [if_neg d, if_neg d]
    obtain ⟨g1, g2⟩ := h.inc c
    rw [h.2.2.1] at g1
    have dd := in_of d
    have e48 : (48 : Int32).toInt = 48 := rfl
    have e57 : (57 : Int32).toInt = 57 := rfl
    obtain ⟨b, hb'⟩ : ∃ b, b = u.2 5 (u.1 18).toNatClampNeg := ⟨_, rfl⟩
    rw [← hb'] at dd ⊢
    have hv' := hv.inc (b := b) (by omega) (by omega) (by omega) (by omega)
    have er : (if (4 : Int32) ≤ x then F_X6_next_b290 (F_X6_next_l230 n) u x 0 else F_X6_next_b290 (F_X6_next_l230 n) u x (((10 * (u.1 21)) + b) - 48)) = F_X6_next_l230 n (setS (setS u 21 (if (4 : Int32) ≤ x then 0 else (((10 * (u.1 21)) + b) - 48))) 18 (u.1 18 + 1)) (x + 1) := by
      split <;> rfl
    rw [er]
    clear er
    obtain ⟨z, hz⟩ : ∃ z, z = (if (4 : Int32) ≤ x then 0 else (((10 * (u.1 21)) + b) - 48)) := ⟨_, rfl⟩
    rw [← hz] at hv' ⊢
    obtain ⟨y, hy⟩ : ∃ y, y = (((s.1 5) * 10) + b) - 48 := ⟨_, rfl⟩
    rw [← hy] at hv' ⊢
    have e2 : (setS s 5 y).1 2 = u.1 18 := h.2.2.1
    rw [e2]
    have ex : (x + 1).toInt = x.toInt + 1 := addL (k := 1) (by decide +kernel) (by omega) (by omega)
    obtain ⟨k1, k2⟩ := ih (setS (setS s 5 y) 2 (u.1 18 + 1)) (setS (setS u 21 z) 18 (u.1 18 + 1)) (x + 1) g1 (by
      show (x + 1).toInt = (u.1 18 + 1).toInt - (u.1 19).toInt
      omega) hv' (by
      show 160 < (u.1 18 + 1).toInt + n
      omega)
    exact ⟨k1, (((kS.refl s).s (by omega) _).s (by omega) _).trans k2⟩
/-- before a token: the script is the same and so is the place -/
def Lp (s u : Ob) : Prop := Tp s u ∧ s.1 2 = u.1 18 ∧ 0 ≤ (u.1 18).toInt ∧ (u.1 18).toInt ≤ (u.1 6).toInt
theorem Lx.p {s u : Ob} (h : Lx s u) : Lp s u := ⟨h.1.1, h.1.2.2.1, by have := h.1.2.2.2; omega, h.1.2.2.2.2.2⟩
theorem step_52 {s u : Ob} (h : Lp s u) (hw : ∀ j, j < 96 → u.2 22 j = wordsL.getD j 0) : Lx (F_X2_step_b50 s) (F_X6_next_b52 u) ∧ kS s (F_X2_step_b50 s) := by
  obtain ⟨h1, h2, h3, h4⟩ := h
  have k160 := h1.2.1
  have hL : ∀ v, LSy (setS s 3 v) (setS (setS (setS u 19 v) 20 0) 21 0) → True := fun _ _ => trivial
  clear hL
  have g : LSy (setS s 3 (u.1 18)) (setS (setS (setS u 19 (u.1 18)) 20 0) 21 0) := ⟨h1, rfl, h2, h3, Int.le_refl _, h4⟩
  have ks : kS s (setS s 3 (u.1 18)) := (kS.refl s).s (by omega) _
  unfold F_X2_step_b50 F_X6_next_b52
  have e1 : (setS s 3 (u.1 18)).1 1 = u.1 6 := h1.1
  have e2 : (setS s 3 (u.1 18)).1 2 = u.1 18 := h2
  rw [h2, e1, e2]
  by_cases c : u.1 18 = u.1 6
  · rw [if_neg (by rw [c]; exact fun q => by have := i_lt.mp q; omega), if_pos c]
    exact ⟨⟨g, Or.inl ⟨rfl, rfl⟩⟩, ks.s (by omega) _⟩
  have cn : (u.1 18).toInt < (u.1 6).toInt := by
    have : (u.1 18).toInt ≠ (u.1 6).toInt := fun q => c (Int32.toInt_inj.mp q)
    omega
  have cl : ¬ u.1 6 ≤ u.1 18 := fun q => by have := i_le.mp q; omega
  rw [if_pos (i_lt.mpr cn), if_neg c]
  have hb := g.byte cl
  rw [e2] at hb
  replace hb : F_X2_byteAt (setS s 3 (u.1 18)) (u.1 18) = u.2 5 (u.1 18).toNatClampNeg := hb
  rw [hb]
  obtain ⟨b, hb'⟩ : ∃ b, b = u.2 5 (u.1 18).toNatClampNeg := ⟨_, rfl⟩
  rw [← hb']
  rw [show F_X2_isLetter b = F_X6_in b 97 122 from rfl, show F_X2_isDigit b = F_X6_in b 48 57 from rfl]
  have t0 : (u.1 18).toInt + 1 ≤ 160 := by omega
  by_cases d : F_X6_in b 97 122 = 0
  · rw [if_pos d, if_pos d]
    by_cases d2 : F_X6_in b 48 57 = 0
    · rw [if_pos d2, if_pos d2]
      have hi := g.inc cl
      obtain ⟨g1, g2⟩ := hi
      rw [e2] at g1
      have fin : ∀ z z' : Int32, (∀ v w, tkR z v z' w) → Lx (F_X2_step_b127 (setS s 3 (u.1 18)) z) (F_X6_next_b390 (setS (setS (setS u 19 (u.1 18)) 20 0) 21 0) z') ∧ kS s (F_X2_step_b127 (setS s 3 (u.1 18)) z) := by
        intro z z' hz
        have ez : F_X2_step_b127 (setS s 3 (u.1 18)) z = setS (setS (setS s 3 (u.1 18)) 4 z) 2 (u.1 18 + 1) := by
          unfold F_X2_step_b127
          have e3 : (setS (setS s 3 (u.1 18)) 4 z).1 2 = u.1 18 := h2
          rw [e3]
        rw [ez]
        exact ⟨⟨g1, hz _ _⟩, (ks.s (by omega) _).s (by omega) _⟩
      have sg : ∀ z : Int32, (z = 40 ∨ z = 41 ∨ z = 59 ∨ z = 43 ∨ z = 45 ∨ z = 42 ∨ z = 60 ∨ z = 61) → Lx (F_X2_step_b127 (setS s 3 (u.1 18)) z) (F_X6_next_b374 (setS (setS (setS u 19 (u.1 18)) 20 0) 21 0) z) ∧ kS s (F_X2_step_b127 (setS s 3 (u.1 18)) z) := by
        intro z hz
        unfold F_X6_next_b374 F_X6_next_b379
        rw [if_neg n10]
        exact fin z z fun v w => Or.inr (Or.inr (Or.inr (Or.inl ⟨rfl, hz⟩)))
      unfold F_X2_isSign
      by_cases s1 : b = 40
      · simp only [if_pos s1]
        rw [if_neg n10]
        exact sg b (by simp [s1])
      by_cases s2 : b = 41
      · simp only [if_neg s1, if_pos s2]
        rw [if_neg n10]
        exact sg b (by simp [s2])
      by_cases s3 : b = 59
      · simp only [if_neg s1, if_neg s2, if_pos s3]
        rw [if_neg n10]
        exact sg b (by simp [s3])
      by_cases s4 : b = 43
      · simp only [if_neg s1, if_neg s2, if_neg s3, if_pos s4]
        rw [if_neg n10]
        exact sg b (by simp [s4])
      by_cases s5 : b = 45
      · simp only [if_neg s1, if_neg s2, if_neg s3, if_neg s4, if_pos s5]
        rw [if_neg n10]
        exact sg b (by simp [s5])
      by_cases s6 : b = 42
      · simp only [if_neg s1, if_neg s2, if_neg s3, if_neg s4, if_neg s5, if_pos s6]
        rw [if_neg n10]
        exact sg b (by simp [s6])
      by_cases s7 : b = 60
      · simp only [if_neg s1, if_neg s2, if_neg s3, if_neg s4, if_neg s5, if_neg s6, if_pos s7]
        rw [if_neg n10]
        exact sg b (by simp [s7])
      by_cases s8 : b = 61
      · simp only [if_neg s1, if_neg s2, if_neg s3, if_neg s4, if_neg s5, if_neg s6, if_neg s7, if_pos s8]
        rw [if_neg n10]
        exact sg b (by simp [s8])
      simp only [if_neg s1, if_neg s2, if_neg s3, if_neg s4, if_neg s5, if_neg s6, if_neg s7, if_neg s8]
      simp only [if_true]
      unfold F_X6_next_b379
      rw [if_pos z00]
      exact fin 1 (-1) fun v w => Or.inr (Or.inl ⟨rfl, rfl⟩)
    · rw [if_neg d2, if_neg d2]
      unfold F_X2_step_c108 F_X2_takeNumber
      obtain ⟨k1, k2⟩ := num_loop 161 (setS (setS s 3 (u.1 18)) 5 0) (setS (setS (setS u 19 (u.1 18)) 20 0) 21 0) 0 g (by
        show (0 : Int32).toInt = (u.1 18).toInt - (u.1 18).toInt
        have e0 : (0 : Int32).toInt = 0 := rfl
        omega) (Or.inl ⟨rfl, rfl, rfl⟩) (by
        show 160 < (u.1 18).toInt + (161 : Nat)
        omega)
      exact ⟨k1, (ks.s (by omega) _).trans k2⟩
  · rw [if_neg d, if_neg d]
    unfold F_X2_step_c94 F_X2_takeWord
    obtain ⟨k1, k2⟩ := word_loop 161 (setS s 3 (u.1 18)) (setS (setS (setS u 19 (u.1 18)) 20 0) 21 0) g (fun x x0 x1 => by
      replace x0 : (u.1 18).toInt ≤ x.toInt := x0
      replace x1 : x.toInt < (u.1 18).toInt := x1
      omega) hw (by
      show 160 < (u.1 18).toInt + (161 : Nat)
      omega)
    exact ⟨k1, ks.trans k2⟩
theorem step_0 : ∀ (n : Nat) (s u : Ob), Lp s u → (∀ j, j < 96 → u.2 22 j = wordsL.getD j 0) → 160 < (u.1 18).toInt + n → Lx (F_X2_step_l0 n s) (F_X6_next_l0 n u) ∧ kS s (F_X2_step_l0 n s) := by
  intro n
  induction n with
  | zero =>
    intro s u h hw hn
    have k160 := h.1.2.1
    have := h.2.2.2
    omega
  | succ n ih =>
    intro s u h hw hn
    have k160 := h.1.2.1
    unfold F_X2_step_l0 F_X6_next_l0
    rw [h.1.1, h.2.1]
    by_cases c : u.1 6 ≤ u.1 18
    · rw [if_pos c, if_pos c]
      exact step_52 h hw
    rw [if_neg c, if_neg c]
    have cc := i_nle c
    have hb : F_X2_byteAt s (u.1 18) = u.2 5 (u.1 18).toNatClampNeg := h.1.byte h.2.2.1 cc
    rw [hb]
    have z : (u.1 18 + 1).toInt = (u.1 18).toInt + 1 := addL (k := 1) (by decide +kernel) (by have := h.2.2; omega) (by have := h.2.2; omega)
    have nx : Lx (F_X2_step_b37 (F_X2_step_l0 n) s) (F_X6_next_b39 (F_X6_next_l0 n) u) ∧ kS s (F_X2_step_b37 (F_X2_step_l0 n) s) := by
      unfold F_X2_step_b37 F_X6_next_b39
      rw [h.2.1]
      obtain ⟨k1, k2⟩ := ih (setS s 2 (u.1 18 + 1)) (setS u 18 (u.1 18 + 1)) ⟨h.1, rfl, (by
        show 0 ≤ (u.1 18 + 1).toInt
        have := h.2.2
        omega), (by
        show (u.1 18 + 1).toInt ≤ (u.1 6).toInt
        omega)⟩ hw (by
        show 160 < (u.1 18 + 1).toInt + n
        omega)
      exact ⟨k1, ((kS.refl s).s (by omega) _).trans k2⟩
    by_cases d : u.2 5 (u.1 18).toNatClampNeg = 32
    · rw [if_pos d, if_pos d]
      exact nx
    rw [if_neg d, if_neg d]
    by_cases d2 : u.2 5 (u.1 18).toNatClampNeg = 10
    · rw [if_pos d2, if_pos d2]
      exact nx
    rw [if_neg d2, if_neg d2]
    exact step_52 h hw
/-- the class's token is the reference's -/
theorem step_eq {s u : Ob} (h : Lp s u) (hw : ∀ j, j < 96 → u.2 22 j = wordsL.getD j 0) : Lx (F_X2_step s) (F_X6_next u) ∧ kS s (F_X2_step s) := step_0 161 s u h hw (by have := h.2.2; omega)
