-- PURE: comparisons and not
theorem cmp_next {tt sg : Int32} {h : List Int32} {T0 : Ob} {n : Nat} {s u T : Ob} {y : Int32} (k : Okc 5 tt h T0 n s u T) (hs : F_X6_signOf u = sg) (h1 : ¬ sg = -1) (h2 : ¬ u.1 20 = 59) (h3 : ¬ u.1 20 = 41) (h0 : ¬ u.1 20 = 0) (hr : F_X6_rank sg = 4) (hl : lowR 4 h) (hO : isO sg = 0) :
    ∃ n' u', n' < n ∧ F_X6_eRead_c15 (F_X6_eRead_l14 n) u 0 y = F_X6_eRead_c15 (F_X6_eRead_l14 n') u' 1 (if 12 < sg then 0 else 1) ∧ Mo n' (F_X2_step s) u' ∧ Ad tt T u' (sg :: h) := by
  obtain ⟨a, b, hh, TT, c, d, e⟩ := k
  have c' := c.yes h0
  have hU := unw_U (r := 5) (by omega) (by decide) hh TT u c' d
  rw [e, U_low T (hl.mono (by decide))] at hU
  have hH := hU.hold (Int.le_refl 0) hO
  have eb : F_X6_between u sg = (1, F_X6_holds (unw 5 u) sg) := by
    unfold F_X6_between
    rw [if_pos hr]
    unfold F_X6_between_b17 F_X6_between_c17
    rw [if_pos hr]
    show (if ((unw 5 u).1 24) ≤ 0 then F_X6_between_b55 (unw 5 u) sg else (if (F_X6_rank (((unw 5 u).2 23) (Int32.toNatClampNeg (((unw 5 u).1 24) - 1)))) = 4 then (0, unw 5 u) else F_X6_between_b55 (unw 5 u) sg)) = _
    have e0 : (0 : Int32).toInt = 0 := rfl
    cases h with
    | nil =>
      have k1 : ((unw 5 u).1 24).toInt = ([] : List Int32).length := hU.1.1
      have k2 : ([] : List Int32).length = 0 := rfl
      rw [if_pos (i_le.mpr (by omega))]
      rfl
    | cons x h =>
      obtain ⟨t1, t2⟩ := hU.top (by omega)
      have hx := i_lt.mp (show F_X6_rank x < 4 from hl)
      rw [if_neg t2, t1, if_neg (fun q => by rw [q] at hx; omega)]
      rfl
  obtain ⟨n', g1, g2, g3, g4⟩ := adv a ((kU.unw 5 u).trans (kU.holds _ sg)) hH h0 1 (if 12 < sg then 0 else 1)
  refine ⟨n', _, g1, ?_, g3, g4⟩
  rw [c15_sign hs h1 h2 h3, eb, c241_1]
  exact g2
/-- a comparison's second side -/
theorem cmp_step {tt p sg st : Int32} {rs : Ob → Ob → Int32 → Ob × Ob} (R : Rd 5 5 tt X0 L5 p rs) {h : List Int32} {T0 : Ob} {n : Nat} {s u T : Ob} {y : Int32} (k : Okc 5 tt h T0 n s u T) (hg : sgOK h) (hs : F_X6_signOf u = sg) (h1 : ¬ sg = -1) (h2 : ¬ u.1 20 = 59) (h3 : ¬ u.1 20 = 41) (h0 : ¬ u.1 20 = 0) (hr : F_X6_rank sg = 4) (hl : lowR 4 h) (hO : isO sg = 0)
    (hp : p.toInt = cnt h) (h12 : 12 < sg) (hsg : 11 ≤ sg.toInt ∧ sg.toInt ≤ 19) (hst : 4 - sg = st) (he : eff st = -1 ∧ need st = 2) :
    Cq 3 tt (L3 tt) n u y h T0 ((rs (F_X2_step s) T p).1, F_X3_add (rs (F_X2_step s) T p).2 st) := by
  have kT := k.2.1
  obtain ⟨n1, u1, g1, g2, g3, g4⟩ := cmp_next (y := y) k hs h1 h2 h3 h0 hr hl hO
  rw [if_pos h12] at g2
  have hc : p.toInt = cnt (sg :: h) := by
    have : cnt (sg :: h) = isO sg + cnt h := rfl
    rw [this, hO]
    omega
  have hg' : sgOK (sg :: h) := by
    intro x hx
    cases hx with
    | head => exact Or.inr hsg
    | tail _ hx => exact hg x hx
  have e45 : F_X6_rank sg < 5 := by rw [hr]; decide
  have hR := R n1 (F_X2_step s) u1 0 (sg :: h) T g3 g4 hg' e45 hc (Or.inl rfl)
  obtain ⟨o, ho⟩ : ∃ o, o = rs (F_X2_step s) T p := ⟨_, rfl⟩
  rw [← ho] at hR ⊢
  rcases hR with ⟨f1, u', f2, f3⟩ | ⟨n', u', y', q1, q2, q3, q4⟩
  · exact Or.inl ⟨f1, u', g2.trans f2, f3⟩
  · obtain ⟨a, ⟨⟨b1, b2⟩, b3⟩, hh, TT, c, d, e⟩ := q3
    have hok := a.ok
    have el : ((sg :: h).length : Int) = h.length + 1 := by rw [List.length_cons]; omega
    have hT : (o.2.1 3).toInt < 160 := by
      have := hok.2
      omega
    have z : (o.2.1 3 + 1).toInt = (o.2.1 3).toInt + 1 := addL (k := 1) (by decide +kernel) (by omega) (by omega)
    refine Or.inr ⟨n', u', y', by omega, g2.trans q2, ⟨a, ⟨⟨?_, ?_⟩, kT.2.bin b3 hT he⟩, hh, TT, c, d, ?_⟩, q4, fun _ => ⟨o.2, h, sg, ?_, hr⟩⟩
    · show 0 ≤ ((F_X3_add o.2 st).1 3).toInt
      rw [add_is hT]
      show 0 ≤ (o.2.1 3 + 1).toInt
      omega
    · show (h.length : Int) + ((F_X3_add o.2 st).1 3).toInt ≤ (u'.1 18).toInt
      rw [add_is hT]
      show (h.length : Int) + (o.2.1 3 + 1).toInt ≤ (u'.1 18).toInt
      omega
    · show U 3 hh TT = U 3 h (F_X3_add o.2 st)
      rw [← U_U (r := 3) (q := 5) (by decide) hh TT, e, U_U (r := 3) (q := 5) (by decide), U_pop (r := 3) o.2 (by rw [hr]; decide), hst]
    · have hU := unw_U (r := 5) (Int.le_refl 0) (by decide) hh TT u' c.any d
      rw [e, U_low (h := sg :: h) o.2 e45] at hU
      exact hU
