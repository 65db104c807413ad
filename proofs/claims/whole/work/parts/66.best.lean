-- PURE: what is best
section CALLS8
variable {bb : Ob} {tx rw : Nat → Ob} {sb : Ob} {tn : Nat → Ob} {m : Ob}
theorem s_dial (h : SR bb tx rw sb tn m) (dy : Ob) (p : Int32) : (F_X5_dial tx tn dy p).1 = (F_X6_dial m p).1 ∧ sM m (F_X6_dial m p).2 := by
  unfold F_X5_dial F_X6_dial
  rw [isW]
  by_cases c : F_X6_in p 0 4 = 0
  · rw [if_pos c, if_pos c]
    exact ⟨rfl, sM.refl⟩
  rw [if_neg c, if_neg c]
  obtain ⟨d, s⟩ := live_eq (h.1.thought (tn 1)) dy
  unfold F_X5_dial_c17 F_X5_dial_c20 F_X6_dial_c13
  rw [alone_eq d, row_eq d, silent_eq d, (most_eq d).2, (most_eq d).1]
  by_cases p0 : p = 0
  · rw [if_pos p0, if_pos p0]; exact ⟨rfl, s⟩
  rw [if_neg p0, if_neg p0]
  by_cases p1 : p = 1
  · rw [if_pos p1, if_pos p1]; exact ⟨rfl, s⟩
  rw [if_neg p1, if_neg p1]
  by_cases p2 : p = 2
  · rw [if_pos p2, if_pos p2]; exact ⟨rfl, s⟩
  rw [if_neg p2, if_neg p2]
  by_cases p3 : p = 3
  · rw [if_pos p3, if_pos p3]; exact ⟨rfl, s⟩
  rw [if_neg p3, if_neg p3]
  exact ⟨rfl, s⟩
theorem alone_row {r : Ob} (i v : Int32) : F_X6_alone (stA r 3 i v) = F_X6_alone r := by
  have ka : ∀ (n : Nat) (y x2 x3 : Int32), F_X6_alikeWith_l4 n (stA r 3 i v) y x2 x3 = F_X6_alikeWith_l4 n r y x2 x3 := by
    intro n
    induction n with
    | zero => intro y x2 x3; rfl
    | succ n ih =>
      intro y x2 x3
      unfold F_X6_alikeWith_l4 F_X6_alikeWith_b31
      have e : (stA r 3 i v).2 31 = r.2 31 := rfl
      rw [e, ih, ih]
  have k : ∀ (n : Nat) (x1 x2 : Int32), F_X6_alone_l4 n (stA r 3 i v) x1 x2 = F_X6_alone_l4 n r x1 x2 := by
    intro n
    induction n with
    | zero => intro x1 x2; rfl
    | succ n ih =>
      intro x1 x2
      unfold F_X6_alone_l4 F_X6_alone_b25
      have e : F_X6_alikeWith (stA r 3 i v) x2 = F_X6_alikeWith r x2 := ka 25 x2 0 0
      rw [e, ih, ih]
  exact k 25 0 0
theorem s_hush (h : SR bb tx rw sb tn m) (dy : Ob) (p : Int32) : (F_X5_hush tx tn dy p).1 = (F_X6_hush m p).1 ∧ sM m (F_X6_hush m p).2 := by
  unfold F_X5_hush F_X6_hush
  rw [isW]
  by_cases c : F_X6_in p 0 1 = 0
  · rw [if_pos c, if_pos c]
    exact ⟨rfl, sM.refl⟩
  rw [if_neg c, if_neg c]
  have k : ∀ (n : Nat) (dy X r : Ob) (x2 x3 x4 : Int32), sM m r → 0 ≤ x4.toInt → (F_X5_hush_l36 n tx tn dy X p x2 x3 x4).1 = (F_X6_hush_l26 n r p x2 x3 x4).1 ∧ sM m (F_X6_hush_l26 n r p x2 x3 x4).2 := by
    intro n
    induction n with
    | zero => intro dy X r x2 x3 x4 hr _; exact ⟨rfl, hr⟩
    | succ n ih =>
      intro dy X r x2 x3 x4 hr h0
      unfold F_X5_hush_l36 F_X6_hush_l26
      have e0 : r.1 0 = m.1 0 := hr.1 0 (by decide) (by decide)
      rw [h.1.1.1, e0]
      by_cases d : m.1 0 ≤ x4
      · rw [if_pos d, if_pos d]
        split
        · exact ⟨rfl, hr⟩
        · exact ⟨rfl, hr⟩
      rw [if_neg d, if_neg d]
      have d2 := i_nle d
      have h6 := h.1.1.2.2
      have e1 : (x4 + 1).toInt = x4.toInt + 1 := addL (k := 1) (by decide +kernel) (by omega) (by omega)
      have ht : TR tx (F_X5_startThought (va_up tn 1 X)) r := (h.1.thought X).sM hr
      have hin : inP r x4 := ⟨h0, by rw [e0]; exact d2⟩
      unfold F_X5_hush_c49 F_X5_hush_c58 F_X4_turnVow
      rw [if_neg (ht.hasN hin)]
      have ht2 := ht.turn hin
      obtain ⟨u1, u2⟩ := live_eq ht2 dy
      have hb := hr.trans (sM_turned h0 (by omega) u2)
      unfold F_X5_hush_c67 F_X6_hush_c60 F_X5_hush_b91 F_X6_hush_b105 F_X6_hush_b118
      rw [alone_row, alone_eq u1]
      by_cases g : F_X6_alone (F_X6_tellsDay (stA r 3 ((4 * x4) + 3) (1 - (r.2 3) (Int32.toNatClampNeg ((4 * x4) + 3))))) ≤ x3
      · simp only [if_pos g]
        exact ih _ _ _ _ _ _ hb (by omega)
      · simp only [if_neg g]
        exact ih _ _ _ _ _ _ hb (by omega)
  obtain ⟨d, s⟩ := live_eq (h.1.thought (tn 1)) dy
  unfold F_X5_hush_c17 F_X5_hush_c20 F_X6_hush_c13
  rw [alone_eq d]
  exact k 7 _ _ _ (-1) _ 0 s (by decide)
theorem s_lesson (h : SR bb tx rw sb tn m) (p q : Int32) : (F_X5_lesson tx tn p q).1 = (F_X6_lesson m p q).1 ∧ sM m (F_X6_lesson m p q).2 := by
  unfold F_X5_lesson F_X6_lesson
  rw [isW]
  rcases h.1.dec p with ⟨hp, e1, e2⟩ | ⟨hp, e1, e2⟩
  · rw [e1, e2, if_neg n10, if_neg n10]
    by_cases c : F_X6_in q 0 1 = 0
    · rw [if_pos c, if_pos c]
      exact ⟨rfl, sM.refl⟩
    rw [if_neg c, if_neg c]
    have e24 : (24 : Int32).toInt = 24 := rfl
    -- what is kept stays kept
    have kp := keeps_all m
    have k : ∀ (n : Nat) (X r : Ob) (x3 y3 x4 x5 : Int32), sM m r → (∀ j, j < 24 → r.2 30 j = m.2 3 j) → (∀ j, j < 3 → r.2 30 (24 + j) = m.2 4 j) → 0 ≤ x5.toInt → (x3 = y3 ∨ (x4 = -1 ∧ x5.toInt < 24)) → 24 < x5.toInt + n → (F_X5_lesson_l34 n tx tn X p q x3 x4 x5).1 = (F_X6_lesson_l35 n r p q y3 x4 x5).1 ∧ sM m (F_X6_lesson_l35 n r p q y3 x4 x5).2 := by
      intro n
      induction n with
      | zero => intro X r x3 y3 x4 x5 hr _ _ _ hxy hn; exact ⟨rfl, hr⟩
      | succ n ih =>
        intro X r x3 y3 x4 x5 hr ha hb h0 hxy hn
        unfold F_X5_lesson_l34 F_X6_lesson_l35
        by_cases d : 24 ≤ x5
        · have d2 := i_le.mp d
          have hxe : x3 = y3 := hxy.resolve_right (fun z => by omega)
          rw [if_pos d, if_pos d, hxe]
          split
          · exact ⟨rfl, hr⟩
          · exact ⟨rfl, hr⟩
        rw [if_neg d, if_neg d]
        have d2 := i_nle d
        have e1 : (x5 + 1).toInt = x5.toInt + 1 := addL (k := 1) (by decide +kernel) (by omega) (by omega)
        have hT := h.1.thought X
        have ht : TR tx (F_X5_startThought (va_up tn 1 X)) r := hT.sM hr
        have hin : inP r p := ⟨hp.1, by rw [hr.1 0 (by decide) (by decide)]; exact hp.2⟩
        unfold F_X5_lesson_c42 F_X5_lesson_c52 F_X4_turnHour
        rw [if_neg (ht.hasN hin)]
        obtain ⟨⟨k0, k1, k2, k3, k4, k5⟩, _⟩ := ht.at hin
        obtain ⟨j0, j1, j2, j3⟩ := i4 hin.1 (ht.lt hin)
        have hv : (F_X5_startThought (va_up tn 1 X)).2 4 (Int32.toNatClampNeg p) = (r.2 3) (Int32.toNatClampNeg ((4 * p) + 2)) := by rw [j2]; exact k4
        rw [hv]
        have ht2 := ht.up4 hin ((r.2 3) (Int32.toNatClampNeg ((4 * p) + 2)) ^^^ (1 <<< (x5 &&& 31)))
        obtain ⟨g1, g2⟩ := goes_eq ht2 (p := 24) (by decide)
        have gi := goes_in ht2 (p := 24) (by decide)
        have gk := goes_hK (stA r 3 ((4 * p) + 2) ((r.2 3) (Int32.toNatClampNeg ((4 * p) + 2)) ^^^ (1 <<< (x5 &&& 31)))) 24
        obtain ⟨G, hG⟩ : ∃ G, G = F_X6_goes (stA r 3 ((4 * p) + 2) ((r.2 3) (Int32.toNatClampNeg ((4 * p) + 2)) ^^^ (1 <<< (x5 &&& 31)))) 24 := ⟨_, rfl⟩
        obtain ⟨P, hP⟩ : ∃ P, P = F_X4_passHours tx (stA (F_X5_startThought (va_up tn 1 X)) 4 p ((r.2 3) (Int32.toNatClampNeg ((4 * p) + 2)) ^^^ (1 <<< (x5 &&& 31)))) 24 := ⟨_, rfl⟩
        rw [← hG] at g1 g2 gi gk ⊢
        rw [← hP] at g1 g2 ⊢
        clear hG hP
        have e30 : G.2.2 30 = r.2 30 := gk.2 30 (by decide) (by decide) (by decide) (by decide)
        have hL : sM m (F_X6_lays G.2) := sM_lays (fun j hj => by rw [e30]; exact ha j hj) (fun j hj => by rw [e30]; exact hb j hj) (fun k a b => (gk.1 k a b).trans (hr.1 k a b)) (fun k a1 a2 a3 a4 a5 => (gk.2 k a1 a2 a4 a5).trans ((sA_ne _ _ a1).trans (hr.2.2.2 k a1 a2 a3 a4 a5)))
        have l30 : (F_X6_lays G.2).2 30 = r.2 30 := ((lays_all G.2).2.2.2 30 (by decide) (by decide)).trans e30
        unfold F_X5_lesson_c59 F_X6_lesson_c62 F_X6_lesson_c68 F_X5_lesson_b78 F_X6_lesson_b84 F_X6_lesson_b99
        rw [g1]
        by_cases g : G.1 ≤ x4
        · simp only [if_pos g]
          refine ih _ _ _ _ _ _ hL (fun j hj => by rw [l30]; exact ha j hj) (fun j hj => by rw [l30]; exact hb j hj) (by omega) (Or.inl (hxy.resolve_right (fun z => ?_))) (by omega)
          have z2 := i_le.mp g
          rw [z.1] at z2
          have em : (-1 : Int32).toInt = -1 := rfl
          omega
        · simp only [if_neg g]
          exact ih _ _ _ _ _ _ hL (fun j hj => by rw [l30]; exact ha j hj) (fun j hj => by rw [l30]; exact hb j hj) (by omega) (Or.inl rfl) (by omega)
    unfold F_X6_lesson_c29
    exact k 25 (tn 1) (F_X6_keeps m) 0 (-1) (-1) 0 (sM_keeps m) kp.1 kp.2.1 (by decide) (Or.inr ⟨rfl, by decide⟩) (by decide)
  · rw [e1, e2, if_pos z00, if_pos z00]
    exact ⟨rfl, sM.refl⟩
end CALLS8
