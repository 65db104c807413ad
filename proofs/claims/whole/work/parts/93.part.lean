-- PURE: a part of a text
/-- between tokens -/
def Sb (tt : Int32) (h : List Int32) (s v T : Ob) : Prop := Lp s v ∧ (∀ j, j < 96 → v.2 22 j = wordsL.getD j 0) ∧ s.1 6 = -1 ∧ Ac 0 tt T v h
theorem Sb.next {tt : Int32} {h : List Int32} {s v T : Ob} (k : Sb tt h s v T) : Mo 160 (F_X2_step s) (F_X6_next v) ∧ Ad tt T (F_X6_next v) h ∧ nX (v.1 18).toInt v (F_X6_next v) := by
  obtain ⟨hp, hw, h6, hk⟩ := k
  obtain ⟨k1, k2⟩ := step_eq hp hw
  have hnv : nOK v := ⟨hp.2.2.1, hp.2.2.2, hp.1.2.1.2⟩
  have hx := next_ok rfl hnv
  have hx' := hx
  obtain ⟨⟨g1, g2, g3, g4⟩, g5⟩ := hx
  refine ⟨⟨k1, fun j hj => by rw [g3]; exact hw j hj, (k2.2 6 (by decide) (by decide) (by decide) (by decide)).trans h6, fun q => ?_, Nat.le_refl _⟩, ?_, hx'⟩
  · have := g5 q
    have := hnv.1
    omega
  · obtain ⟨⟨a1, a2, a3⟩, ⟨b1, b2⟩, ⟨c1, c2⟩, d, f⟩ := hk
    have c160 : ((F_X6_next v).1 18).toInt ≤ 160 := by
      have := g1
      omega
    unfold Ad Ac
    rw [g3, g4 24 (by decide) (by decide) (by decide) (by decide), g4 25 (by decide) (by decide) (by decide) (by decide), g4 26 (by decide) (by decide) (by decide) (by decide), g4 9 (by decide) (by decide) (by decide) (by decide)]
    refine ⟨⟨a1, a2, a3⟩, ⟨b1, b2⟩, ⟨?_, c160⟩, d, f⟩
    by_cases q : (F_X6_next v).1 20 = 0
    · rw [if_pos q]
      omega
    · rw [if_neg q]
      have := g5 q
      omega
/-- the expression of a part and its end -/
theorem part_eq {tt : Int32} {s v T : Ob} (k : Sb tt [] s (setS (setS v 24 0) 25 0) T) :
    (Fl (F_X2_expect (F_X2_read (F_X2_step s) T 0).1 59) ∧ ∃ w, F_X6_eRead v = (0, w) ∧ w.1 19 = (F_X2_expect (F_X2_read (F_X2_step s) T 0).1 59).1 6) ∨
    (∃ w, F_X6_eRead v = (1, w) ∧ F_X2_expect (F_X2_read (F_X2_step s) T 0).1 59 = F_X2_step (F_X2_read (F_X2_step s) T 0).1 ∧ Sb tt [] (F_X2_read (F_X2_step s) T 0).1 w (F_X2_read (F_X2_step s) T 0).2 ∧ Tc 0 1 T (F_X2_read (F_X2_step s) T 0).2) := by
  have e0 : (0 : Int32).toInt = 0 := rfl
  obtain ⟨g1, g2, _⟩ := k.next
  have C := (rd_read tt).1 160 (F_X2_step s) (F_X6_next (setS (setS v 24 0) 25 0)) 1 [] T g1 g2 (fun _ hx => nomatch hx) trivial rfl rfl
  have ee : F_X6_eRead v = F_X6_eRead_c15 (F_X6_eRead_l14 160) (F_X6_next (setS (setS v 24 0) 25 0)) 1 1 := by
    unfold F_X6_eRead
    rw [show (161 : Nat) = 160 + 1 from rfl, F_X6_eRead_l14]
  obtain ⟨o, ho⟩ : ∃ o, o = F_X2_read (F_X2_step s) T 0 := ⟨_, rfl⟩
  rw [← ho] at C ⊢
  rcases C with ⟨f1, u', f2, f3⟩ | ⟨n', u', y', w1, w2, w3, w4⟩
  · left
    have es : F_X2_expect o.1 59 = o.1 := by
      unfold F_X2_expect F_X2_expect_c16
      rw [if_neg (by rw [f1.1]; decide)]
      exact fail_same f1
    rw [es]
    exact ⟨f1, u', ee.trans f2, f3⟩
  obtain ⟨a, ⟨⟨b1, b2⟩, b3⟩, hh, TT, k1, k2, k3⟩ := w3
  have za := a.tk
  have hU := unw_U (r := 1) (Int.le_refl 0) (by decide) hh TT u' k1.any k2
  rw [k3] at hU
  replace hU : Ac 0 tt o.2 (unw 1 u') [] := hU
  have hm0 : (unw 1 u').1 24 = 0 := Int32.toInt_inj.mp (by
    have t1 : ((unw 1 u').1 24).toInt = ([] : List Int32).length := hU.1.1
    have t2 : ([] : List Int32).length = 0 := rfl
    omega)
  have hu := kU.unw 1 u'
  have h19 : (unw 1 u').1 19 = u'.1 19 := hu.1 19 (by decide) (by decide) (by decide)
  by_cases r : o.1.1 4 = 59
  · right
    have rz : (u'.1 20).toInt = 59 := rd_lt a (c := 59) (by rw [r]; rfl) fun v w t' z => by unfold tkZ at z; omega
    have ru : u'.1 20 = 59 := Int32.toInt_inj.mp (rz.trans rfl)
    refine ⟨unw 1 u', ?_, if_pos r, ⟨?_, fun j hj => ?_, a.2.2.1, hU⟩, b3⟩
    · rw [ee, w2]
      unfold F_X6_eRead_c15
      rw [if_pos z00, if_pos ru]
      unfold F_X6_eRead_c161
      exact if_pos hm0
    · obtain ⟨p1, p2, p3, p4⟩ := a.1.p
      unfold Lp Tp
      rw [hu.1 18 (by decide) (by decide) (by decide), hu.1 6 (by decide) (by decide) (by decide), hu.2 5 (by decide) (by decide)]
      exact ⟨p1, p2, p3, p4⟩
    · rw [hu.2 22 (by decide) (by decide)]
      exact a.2.1 j hj
  · left
    have es : F_X2_expect o.1 59 = F_X2_fail o.1 := if_neg r
    rw [es]
    obtain ⟨f1, f2⟩ := fail_new a
    have r2 : ¬ u'.1 20 = 59 := fun q => r (Int32.toInt_inj.mp (by
      have e2 : (59 : Int32).toInt = 59 := rfl
      rw [q] at za; unfold tkZ at za; omega))
    by_cases r3 : u'.1 20 = 41
    · refine ⟨f1, unw 1 u', ?_, h19.trans f2.symm⟩
      rw [ee, w2]
      unfold F_X6_eRead_c15
      rw [if_pos z00, if_neg r2, if_pos r3]
      unfold F_X6_eRead_c188
      exact if_pos hm0
    · obtain ⟨w, q1, q2⟩ := left_fault (y := y') (K := F_X6_eRead_l14 n') a w4 r2 r3
      exact ⟨f1, w, (ee.trans w2).trans q1, q2.trans f2.symm⟩
