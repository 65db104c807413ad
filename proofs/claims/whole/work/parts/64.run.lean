-- PURE: hours in thought
theorem goes_in {tx : Nat → Ob} {T m : Ob} (h : TR tx T m) {p : Int32} (hp : p.toInt ≤ 48) : 0 ≤ (F_X6_goes m p).1.toInt ∧ (F_X6_goes m p).1.toInt ≤ 57024 := by
  have k : ∀ (n : Nat) (T m : Ob) (x2 x3 : Int32), TR tx T m → 0 ≤ x3.toInt → x3.toInt ≤ 48 → 0 ≤ x2.toInt → x2.toInt ≤ 1188 * x3.toInt → 48 < x3.toInt + n → 0 ≤ (F_X6_goes_l4 n m p x2 x3).1.toInt ∧ (F_X6_goes_l4 n m p x2 x3).1.toInt ≤ 57024 := by
    intro n
    induction n with
    | zero => intro T m x2 x3 _ _ _ _ _ _; omega
    | succ n ih =>
      intro T m x2 x3 h h0 h1 h2 h3 hn
      unfold F_X6_goes_l4
      by_cases c : p ≤ x3
      · rw [if_pos c]
        show 0 ≤ x2.toInt ∧ x2.toInt ≤ 57024
        omega
      · rw [if_neg c]
        have c2 := i_nle c
        have e1 : (x3 + 1).toInt = x3.toInt + 1 := addL (k := 1) (by decide +kernel) (by omega) (by omega)
        obtain ⟨u1, u2, u3, u4⟩ := hour_eq h
        have e2 : (x2 + (F_X6_hourOf m).1).toInt = x2.toInt + (F_X6_hourOf m).1.toInt := fb_addI (by omega) (by omega)
        unfold F_X6_goes_c11
        exact ih _ _ _ _ u2 (by omega) (by omega) (by omega) (by omega) (by omega)
  exact k 49 T m 0 0 h (by decide) (by decide) (by decide) (by decide) (by decide)
section CALLS7
variable {bb : Ob} {tx rw : Nat → Ob} {sb : Ob} {tn : Nat → Ob} {m : Ob}
theorem in01 {s : Int32} (c : ¬ F_X6_in s 0 1 = 0) : s = 0 ∨ s = 1 := by
  have z := in_f c
  have e0 : (0 : Int32).toInt = 0 := rfl
  have e1 : (1 : Int32).toInt = 1 := rfl
  rcases (show s.toInt = 0 ∨ s.toInt = 1 by omega) with y | y
  · exact Or.inl (eq_of_toInt 0 rfl y)
  · exact Or.inr (eq_of_toInt 1 rfl y)
theorem s_mean (h : SR bb tx rw sb tn m) (p q : Int32) : (F_X5_mean tx tn p q).1 = (F_X6_mean m p q).1 ∧ sM m (F_X6_mean m p q).2 := by
  unfold F_X5_mean F_X6_mean
  rw [isW, isW]
  by_cases c : F_X6_in p 1 48 = 0
  · rw [if_pos c, if_pos c]
    exact ⟨rfl, sM.refl⟩
  rw [if_neg c, if_neg c]
  by_cases d : F_X6_in q 0 1 = 0
  · rw [if_pos d, if_pos d]
    exact ⟨rfl, sM.refl⟩
  rw [if_neg d, if_neg d]
  have hp := in_f c
  have e1 : (1 : Int32).toInt = 1 := rfl
  have e48 : (48 : Int32).toInt = 48 := rfl
  have hk := h.1.keeps
  have ht := (h.1.thought (tn 1)).keeps
  obtain ⟨g1, g2⟩ := goes_eq ht (p := p) (by omega)
  have gi := goes_in hk (p := p) (by omega)
  unfold F_X5_mean_c24 F_X5_mean_c28 F_X6_mean_c24 F_X6_mean_c29 F_X6_mean_c34
  rw [g1]
  refine ⟨lowest_eq ?_ ?_ (in01 d), sM_round (goes_hK _ _)⟩
  · rw [i2l_toInt]; omega
  · rw [i2l_toInt]; omega
theorem s_when (h : SR bb tx rw sb tn m) (p : Int32) : (F_X5_when tx tn p).1 = (F_X6_when m p).1 ∧ sM m (F_X6_when m p).2 := by
  unfold F_X5_when F_X6_when
  rw [isW]
  by_cases c : F_X6_in p 0 999 = 0
  · rw [if_pos c, if_pos c]
    exact ⟨rfl, sM.refl⟩
  rw [if_neg c, if_neg c]
  have k : ∀ (n : Nat) (T q : Ob) (x : Int32), TR tx T q → hK (F_X6_keeps m) q → 0 ≤ x.toInt → x.toInt ≤ 61 → 61 < x.toInt + n → (F_X5_when_l21 n tx tn T p x).1 = (F_X6_when_l22 n q p (-1) x).1 ∧ sM m (F_X6_when_l22 n q p (-1) x).2 := by
    intro n
    induction n with
    | zero => intro T q x _ _ _ _ _; omega
    | succ n ih =>
      intro T q x ht hq h0 h1 hn
      have e60 : (60 : Int32).toInt = 60 := rfl
      unfold F_X5_when_l21 F_X6_when_l22
      by_cases c : 60 < x
      · rw [if_pos c, if_pos c]
        exact ⟨rfl, sM_round hq⟩
      have c2 := i_nlt c
      rw [if_neg c, if_neg c, if_pos rfl]
      have e1 : (x + 1).toInt = x.toInt + 1 := addL (k := 1) (by decide +kernel) (by omega) (by omega)
      obtain ⟨u1, u2, _⟩ := hour_eq ht
      have hq2 : hK (F_X6_keeps m) (F_X6_hourOf q).2 := hq.trans (hourOf_hK q)
      unfold F_X5_when_c32 F_X6_when_c34 F_X6_when_b46
      rw [u1]
      by_cases d : (F_X6_hourOf q).1 = p
      · rw [if_pos d, if_pos d]
        have hne : ¬ x = -1 := fun z => by
          subst z
          exact absurd h0 (by decide)
        obtain ⟨n, rfl⟩ : ∃ z, n = z + 1 := ⟨n - 1, by omega⟩
        have e : F_X6_when_l22 (n + 1) (F_X6_hourOf q).2 p x (x + 1) = F_X6_when_b53 (F_X6_hourOf q).2 x := by
          unfold F_X6_when_l22
          by_cases z : 60 < x + 1
          · rw [if_pos z]
          · rw [if_neg z, if_neg hne]
        rw [e]
        exact ⟨rfl, sM_round hq2⟩
      · rw [if_neg d, if_neg d]
        exact ih _ _ _ u2 hq2 (by omega) (by omega) (by omega)
  exact k 62 _ (F_X6_keeps m) 0 (h.1.thought (tn 1)).keeps hK.refl (by decide) (by decide) (by decide)
theorem run_tail (h : SR bb tx rw sb tn m) {p q : Int32} (hp : p.toInt ≤ 48) (X : Ob) (z : Int32) (hz : q = 0 ∨ q = 1 ∨ q = 2 ∨ (¬ (q = 0 ∨ q = 1 ∨ q = 2) ∧ ((z = 0 ∧ q.toInt < 20 ∧ inP m (q - 10)) ∨ (z = 1 ∧ 20 ≤ q.toInt ∧ inP m (q - 20))))) : (F_X5_run_b87 tx tn X p q z).1 = (F_X6_run_c65 (F_X6_keeps m) p q).1 ∧ sM m (F_X6_run_c65 (F_X6_keeps m) p q).2 := by
  have ht := (h.1.thought X).keeps
  obtain ⟨g1, g2⟩ := goes_eq ht (p := p) hp
  have hk := goes_hK (F_X6_keeps m) p
  have hs := sM_round hk
  have e20 : (20 : Int32).toInt = 20 := rfl
  unfold F_X5_run_b87 F_X5_run_c88 F_X5_run_c96 F_X6_run_c65 F_X6_run_c70 F_X6_run_b164 F_X6_run_c165 F_X6_run_b162 F_X6_run_b164 F_X6_run_c165
  rw [g1, liars_eq g2, strikes_eq g2]
  have hpe : (F_X6_goes (F_X6_keeps m) p).2.1 0 = m.1 0 := (hk.1 0 (by decide) (by decide)).trans (by rw [(keeps_all m).2.2.1])
  obtain ⟨G, hG⟩ : ∃ G, G = F_X6_goes (F_X6_keeps m) p := ⟨_, rfl⟩
  obtain ⟨P, hP⟩ : ∃ P, P = F_X4_passHours tx (F_X5_startThought (va_up tn 1 X)) p := ⟨_, rfl⟩
  rw [← hG] at hs hpe g2 ⊢
  rw [← hP] at g2 ⊢
  clear hG hP g1 hk ht
  rcases hz with rfl | rfl | rfl | ⟨hn, hz⟩
  · exact ⟨rfl, hs⟩
  · exact ⟨rfl, hs⟩
  · exact ⟨rfl, hs⟩
  · have a0 : ¬ q = 0 := fun e => hn (Or.inl e)
    have a1 : ¬ q = 1 := fun e => hn (Or.inr (Or.inl e))
    have a2 : ¬ q = 2 := fun e => hn (Or.inr (Or.inr e))
    rw [if_neg a0, if_neg a0, if_neg a1, if_neg a1, if_neg a2, if_neg a2]
    rcases hz with ⟨rfl, hl, hi⟩ | ⟨rfl, hl, hi⟩
    · have hi2 : inP G.2 (q - 10) := ⟨hi.1, by rw [hpe]; exact hi.2⟩
      rw [if_pos z00, if_neg (show ¬ 20 ≤ q from fun e => by have := i_le.mp e; omega)]
      refine ⟨?_, hs⟩
      show F_X4_known P.2 (q - 10) 0 = _
      rw [known_eq g2 hi2 (Or.inl rfl), Int32.add_zero]
    · have hi2 : inP G.2 (q - 20) := ⟨hi.1, by rw [hpe]; exact hi.2⟩
      rw [if_neg n10, if_pos (show 20 ≤ q from i_le.mpr (by omega))]
      refine ⟨?_, hs⟩
      show F_X4_known P.2 (q - 20) 1 = _
      rw [known_eq g2 hi2 (Or.inr (Or.inl rfl))]
theorem s_run (h : SR bb tx rw sb tn m) (p q : Int32) : (F_X5_run tx tn p q).1 = (F_X6_run m p q).1 ∧ sM m (F_X6_run m p q).2 := by
  have t := h.1
  have hp6 := t.1.2
  have e0 : (0 : Int32).toInt = 0 := rfl
  have e2 : (2 : Int32).toInt = 2 := rfl
  have e10 : (10 : Int32).toInt = 10 := rfl
  have e20 : (20 : Int32).toInt = 20 := rfl
  have e48 : (48 : Int32).toInt = 48 := rfl
  have e9 : (9 + m.1 0).toInt = 9 + (m.1 0).toInt := addLl (k := 9) (by decide +kernel) (by omega) (by omega)
  have e19 : (19 + m.1 0).toInt = 19 + (m.1 0).toInt := addLl (k := 19) (by decide +kernel) (by omega) (by omega)
  have inc : ∀ a b c : Int32, a.toInt ≤ b.toInt → b.toInt ≤ c.toInt → ¬ F_X6_in b a c = 0 := fun a b c h1 h2 => by
    unfold F_X6_in
    rw [if_neg (fun z => by have := i_lt.mp z; omega), if_neg (fun z => by have := i_lt.mp z; omega)]
    decide
  have exc : ∀ a b c : Int32, ¬ (a.toInt ≤ b.toInt ∧ b.toInt ≤ c.toInt) → F_X6_in b a c = 0 := fun a b c h1 => by
    unfold F_X6_in
    by_cases z : b < a
    · rw [if_pos z]
    · rw [if_neg z, if_pos (i_lt.mpr (by have := i_nlt z; omega))]
  unfold F_X5_run F_X6_run F_X6_run_b41 F_X6_run_b46
  rw [isW]
  by_cases c : F_X6_in p 0 48 = 0
  · rw [if_pos c, if_pos c]
    refine ⟨?_, ?_⟩
    · repeat' split
      all_goals rfl
    · repeat' split
      all_goals exact sM.refl
  simp only [if_neg c]
  have hp := in_f c
  have hle : p.toInt ≤ 48 := by omega
  simp only [if_neg n10, if_pos z00]
  by_cases l10 : q.toInt < 10
  · rw [if_pos (show q < 10 from i_lt.mpr (by omega)), if_pos (exc 10 q (9 + m.1 0) (by omega)), if_pos (exc 20 q (19 + m.1 0) (by omega))]
    unfold F_X5_run_b37 F_X5_run_b38 F_X5_run_b63 F_X5_run_b64
    rw [if_pos (show q < 20 from i_lt.mpr (by omega)), isW]
    by_cases d : F_X6_in q 0 2 = 0
    · rw [if_pos d, if_pos d, if_pos z00, if_pos z00]
      exact ⟨rfl, sM.refl⟩
    · rw [if_neg d, if_neg d]
      have hq := in_f d
      refine run_tail h hle (tn 1) 0 ?_
      rcases (show q.toInt = 0 ∨ q.toInt = 1 ∨ q.toInt = 2 by omega) with y | y | y
      · exact Or.inl (eq_of_toInt 0 rfl y)
      · exact Or.inr (Or.inl (eq_of_toInt 1 rfl y))
      · exact Or.inr (Or.inr (Or.inl (eq_of_toInt 2 rfl y)))
  have n02 : F_X6_in q 0 2 = 0 := exc 0 q 2 (by omega)
  have hq3 : ¬ (q = 0 ∨ q = 1 ∨ q = 2) := by
    rintro (rfl | rfl | rfl)
    · exact l10 (by decide)
    · exact l10 (by decide)
    · exact l10 (by decide)
  have hb := fb_rng q
  have s10 : (q - 10).toInt = q.toInt - 10 := subL (k := 10) (by decide +kernel) (by omega) (by omega)
  have s20 : (q - 20).toInt = q.toInt - 20 := subL (k := 20) (by decide +kernel) (by omega) (by omega)
  rw [if_neg (show ¬ q < 10 from fun z => by have := i_lt.mp z; omega), if_pos n02]
  have tail20 : ∀ z0 : Int32, (z0 = 0 ∨ z0 = 1) → 20 ≤ q.toInt → inP m (q - 20) → (F_X5_run_b64 tx tn (tn 1) p q z0 1).1 = (F_X6_run_c65 (F_X6_keeps m) p q).1 ∧ sM m (F_X6_run_c65 (F_X6_keeps m) p q).2 := fun z0 hz0 l20 hi => by
    unfold F_X5_run_b64
    rw [isW, if_pos n02]
    have r := run_tail h hle (tn 1) 1 (q := q) (Or.inr (Or.inr (Or.inr ⟨hq3, Or.inr ⟨rfl, l20, hi⟩⟩)))
    rcases hz0 with rfl | rfl
    · rw [if_pos z00, if_neg n10]
      exact r
    · rw [if_neg n10]
      exact r
  have hmod20 : ∀ A B : Int32 × Ob, inP m (q - 20) → (if F_X6_in q 20 (19 + m.1 0) = 0 then A else B) = B := fun A B hi => by
    have h1 := hi.1
    have h2 := hi.2
    rw [if_neg (inc 20 q (19 + m.1 0) (by omega) (by omega))]
  have hmod20n : ∀ A B : Int32 × Ob, ¬ inP m (q - 20) → (if F_X6_in q 20 (19 + m.1 0) = 0 then A else B) = A := fun A B hi => by
    rw [if_pos (exc 20 q (19 + m.1 0) (fun z => hi ⟨by omega, by omega⟩))]
  rcases t.dec (q - 10) with ⟨hi, e1, _⟩ | ⟨hi, e1, _⟩
  · have h1 := hi.1
    have h2 := hi.2
    rw [e1, if_neg n10, if_neg (inc 10 q (9 + m.1 0) (by omega) (by omega))]
    unfold F_X5_run_b38 F_X5_run_b63 F_X5_run_b64
    rw [if_pos (show q < 20 from i_lt.mpr (by omega)), isW, if_pos n02, if_neg n10]
    exact run_tail h hle (tn 1) 0 (Or.inr (Or.inr (Or.inr ⟨hq3, Or.inl ⟨rfl, by omega, hi⟩⟩)))
  · have h10 : F_X6_in q 10 (9 + m.1 0) = 0 := exc 10 q (9 + m.1 0) (fun z => hi ⟨by omega, by omega⟩)
    rw [e1, if_pos z00, if_pos h10]
    unfold F_X5_run_b37 F_X5_run_b38
    by_cases l20 : q.toInt < 20
    · rw [if_pos (show q < 20 from i_lt.mpr (by omega)), hmod20n _ _ (fun z => by have := z.1; omega)]
      unfold F_X5_run_b63 F_X5_run_b64
      rw [isW, if_pos n02, if_pos z00, if_pos z00]
      exact ⟨rfl, sM.refl⟩
    · rw [if_neg (show ¬ q < 20 from fun z => by have := i_lt.mp z; omega)]
      rcases t.dec (q - 20) with ⟨hj, e3, _⟩ | ⟨hj, e3, _⟩
      · rw [e3, if_neg n10, hmod20 _ _ hj]
        exact tail20 0 (Or.inl rfl) (by omega) hj
      · rw [e3, if_pos z00, hmod20n _ _ hj]
        unfold F_X5_run_b63 F_X5_run_b64
        rw [isW, if_pos n02, if_pos z00, if_pos z00]
        exact ⟨rfl, sM.refl⟩
end CALLS7
