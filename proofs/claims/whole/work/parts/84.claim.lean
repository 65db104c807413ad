-- PURE: what a reading comes to
def tkZ (c v t w : Int) : Prop := (c = 0 ∧ t = 0) ∨ (c = 1 ∧ t = -1) ∨ (c = 2 ∧ t = 1 ∧ w = v ∧ 0 ≤ v ∧ v ≤ 9999) ∨ (c = t ∧ (c = 40 ∨ c = 41 ∨ c = 59 ∨ c = 43 ∨ c = 45 ∨ c = 42 ∨ c = 60 ∨ c = 61)) ∨ (-6 ≤ c ∧ c < 0 ∧ t = 2 ∧ w = -1 - c) ∨ (256 ≤ c ∧ c ≤ 258 ∧ t = 3 ∧ w = c - 256) ∨ (c = 259 ∧ t = 4) ∨ (c = 260 ∧ t = 5) ∨ (c = 261 ∧ t = 6)
theorem tkR.z {c v t w : Int32} (h : tkR c v t w) : tkZ c.toInt v.toInt t.toInt w.toInt := by
  unfold tkZ
  rcases h with h | h | h | h | h | h | h | h | h
  · rw [h.1, h.2]; exact Or.inl ⟨rfl, rfl⟩
  · rw [h.1, h.2]; exact Or.inr (Or.inl ⟨rfl, rfl⟩)
  · obtain ⟨h1, h2, h3, h4⟩ := h
    rw [h1, h2, h3]; exact Or.inr (Or.inr (Or.inl ⟨rfl, rfl, rfl, h4⟩))
  · obtain ⟨h1, h2⟩ := h
    rw [← h1]
    refine Or.inr (Or.inr (Or.inr (Or.inl ⟨rfl, ?_⟩)))
    rcases h2 with h | h | h | h | h | h | h | h <;> rw [h] <;> decide
  · obtain ⟨h1, h2, h3, h4⟩ := h
    rw [h3]; exact Or.inr (Or.inr (Or.inr (Or.inr (Or.inl ⟨h1, h2, rfl, h4⟩))))
  · obtain ⟨h1, h2, h3, h4⟩ := h
    rw [h3]; exact Or.inr (Or.inr (Or.inr (Or.inr (Or.inr (Or.inl ⟨h1, h2, rfl, h4⟩)))))
  · rw [h.1, h.2]; exact Or.inr (Or.inr (Or.inr (Or.inr (Or.inr (Or.inr (Or.inl ⟨rfl, rfl⟩))))))
  · rw [h.1, h.2]; exact Or.inr (Or.inr (Or.inr (Or.inr (Or.inr (Or.inr (Or.inr (Or.inl ⟨rfl, rfl⟩)))))))
  · rw [h.1, h.2]; exact Or.inr (Or.inr (Or.inr (Or.inr (Or.inr (Or.inr (Or.inr (Or.inr ⟨rfl, rfl⟩)))))))
theorem Mo.tk {n : Nat} {s u : Ob} (h : Mo n s u) : tkZ (s.1 4).toInt (s.1 5).toInt (u.1 20).toInt (u.1 21).toInt := h.1.2.z
def Okc (r tt : Int32) (h : List Int32) (T0 : Ob) (n : Nat) (s u T : Ob) : Prop := Mo n s u ∧ ((0 ≤ (T.1 3).toInt ∧ (h.length : Int) + (T.1 3).toInt ≤ (u.1 18).toInt) ∧ Tc 0 1 T0 T) ∧ ∃ hh TT, Ad tt TT u hh ∧ sgOK hh ∧ U r hh TT = U r h T
def Flt (n : Nat) (u : Ob) (x1 x2 : Int32) (s' : Ob) : Prop := Fl s' ∧ ∃ u', F_X6_eRead_c15 (F_X6_eRead_l14 n) u x1 x2 = (0, u') ∧ u'.1 19 = s'.1 6
def Cl (r tt : Int32) (L : Ob → Ob → Prop) (n : Nat) (u : Ob) (x2 : Int32) (h : List Int32) (T0 : Ob) (o : Ob × Ob) : Prop := Flt n u 1 x2 o.1 ∨ ∃ n' u' y, n' ≤ n ∧ F_X6_eRead_c15 (F_X6_eRead_l14 n) u 1 x2 = F_X6_eRead_c15 (F_X6_eRead_l14 n') u' 0 y ∧ Okc r tt h T0 n' o.1 u' o.2 ∧ L o.1 u'
theorem Okc.low {r q tt : Int32} {h : List Int32} {T0 : Ob} {n : Nat} {s u T : Ob} (k : Okc q tt h T0 n s u T) (hq : r.toInt ≤ q.toInt) : Okc r tt h T0 n s u T := by
  obtain ⟨a, b, hh, TT, c, d, e⟩ := k
  refine ⟨a, b, hh, TT, c, d, ?_⟩
  rw [← U_U hq hh TT, e, U_U hq h T]
/-- the reference's sign of a token, where a sign is wanted -/
theorem c15_sign {K : Ob → Int32 → Int32 → Int32 × Ob} {u : Ob} {y sg : Int32} (hs : F_X6_signOf u = sg) (h1 : ¬ sg = -1) (h2 : ¬ u.1 20 = 59) (h3 : ¬ u.1 20 = 41) : F_X6_eRead_c15 K u 0 y = F_X6_eRead_c241 K (F_X6_between u sg) sg := by
  unfold F_X6_eRead_c15
  rw [if_pos z00, if_neg h2, if_neg h3, hs, if_neg h1]
theorem c15_none {K : Ob → Int32 → Int32 → Int32 × Ob} {u : Ob} {y : Int32} (hs : F_X6_signOf u = -1) (h2 : ¬ u.1 20 = 59) (h3 : ¬ u.1 20 = 41) : F_X6_eRead_c15 K u 0 y = (0, u) := by
  unfold F_X6_eRead_c15
  rw [if_pos z00, if_neg h2, if_neg h3, hs, if_pos rfl]
theorem betw {u : Ob} {sg : Int32} (h : ¬ F_X6_rank sg = 4) : F_X6_between u sg = (1, F_X6_holds (unw (F_X6_rank sg) u) sg) := by
  unfold F_X6_between
  rw [if_neg h]
  unfold F_X6_between_b17 F_X6_between_c17
  rw [if_neg h]
  rfl
theorem c241_1 {K : Ob → Int32 → Int32 → Int32 × Ob} {v : Ob} {sg : Int32} : F_X6_eRead_c241 K (1, v) sg = K v 1 (if 12 < sg then 0 else 1) := by
  unfold F_X6_eRead_c241 F_X6_eRead_b262
  rw [if_neg n10]
  split <;> rfl
/-- a sign between two values: it is held, and then a value is wanted -/
theorem sign_next {r tt sg : Int32} {h : List Int32} {T0 : Ob} {n : Nat} {s u T : Ob} {y : Int32} (k : Okc r tt h T0 n s u T) (hs : F_X6_signOf u = sg) (h1 : ¬ sg = -1) (h2 : ¬ u.1 20 = 59) (h3 : ¬ u.1 20 = 41) (h0 : ¬ u.1 20 = 0) (hr : F_X6_rank sg = r) (r4 : ¬ r = 4) (r1 : 1 ≤ r.toInt) (hl : lowR r h) (hO : isO sg = 0) :
    ∃ n' u', n' < n ∧ F_X6_eRead_c15 (F_X6_eRead_l14 n) u 0 y = F_X6_eRead_c15 (F_X6_eRead_l14 n') u' 1 (if 12 < sg then 0 else 1) ∧ Mo n' (F_X2_step s) u' ∧ Ad tt T u' (sg :: h) := by
  obtain ⟨a, b, hh, TT, c, d, e⟩ := k
  have c' := c.yes h0
  have hU := unw_U (r := r) (by omega) r1 hh TT u c' d
  rw [e, U_low T hl] at hU
  have hH := hU.hold (Int.le_refl 0) hO
  obtain ⟨n', g1, g2, g3, g4⟩ := adv a ((kU.unw r u).trans (kU.holds _ sg)) hH h0 1 (if 12 < sg then 0 else 1)
  refine ⟨n', _, g1, ?_, g3, g4⟩
  rw [c15_sign hs h1 h2 h3, betw (by rw [hr]; exact r4), c241_1, hr]
  exact g2
