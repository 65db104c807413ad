-- PURE: readOne
theorem rd_one {tt p : Int32} {ro re : Ob → Ob → Int32 → Ob × Ob} (h5 : 0 ≤ p.toInt ∧ p.toInt ≤ 5) (N : p.toInt < 5 → Rd 8 7 tt X0 Lt (p + 1) ro ∧ Rd 1 1 tt X1 (L1 tt) (p + 1) re) : Rd 8 7 tt X0 Lt p (F_X2_readOne ro re) ∧ Fdd p (F_X2_readOne ro re) := by
  have e0 : (0 : Int32).toInt = 0 := rfl
  have e1 : (1 : Int32).toInt = 1 := rfl
  refine ⟨fun n s u x2 h T hm hk hg hl hp hX => ?_, fun s T hs => ?_⟩
  · have z := hm.tk
    have ep : p.toInt < 5 → (p + 1).toInt = p.toInt + 1 := fun d => addL (k := 1) (by decide +kernel) (by omega) (by omega)
    unfold F_X2_readOne
    by_cases c : s.1 4 = 2
    · have ez : (u.1 20).toInt = 1 := rd_lt hm (c := 2) (by rw [c]; rfl) fun v w t' z => by unfold tkZ at z; omega
      have eu : u.1 20 = 1 := Int32.toInt_inj.mp (ez.trans rfl)
      have hv : (u.1 21).toInt = (s.1 5).toInt ∧ 0 ≤ (s.1 5).toInt ∧ (s.1 5).toInt ≤ 9999 := by
        rw [eu] at z
        unfold tkZ at z
        omega
      have hz : (100000 + u.1 21).toInt = 100000 + (s.1 5).toInt := by
        have e9 : (100000 : Int32).toInt = 100000 := rfl
        rw [fb_addI (by omega) (by omega), e9, hv.1]
      rw [if_pos c]
      unfold F_X2_readOne_c13 F_X2_readOne_c17
      obtain ⟨n', u', q1, q2, q3⟩ := val_next (st := s.1 5) (z := 100000 + u.1 21) x2 hm hk hg (by rw [eu]; decide) (Or.inl ⟨hv.2.1, hv.2.2, hz⟩) (by omega)
      refine Or.inr ⟨n', u', x2, by omega, ?_, q3, trivial⟩
      rw [← q2]
      unfold F_X6_eRead_c15 F_X6_eRead_b38
      rw [if_neg n10, if_pos eu, if_pos eu]
    rw [if_neg c]
    by_cases d : 0 ≤ s.1 4
    · rw [if_pos d]
      have dd := i_le.mp d
      have cv : (s.1 4).toInt ≠ 2 := fun q => c (Int32.toInt_inj.mp (q.trans rfl))
      have nt1 : ¬ u.1 20 = 1 := fun q => by rw [q] at z; unfold tkZ at z; omega
      have nt2 : ¬ u.1 20 = 2 := fun q => by
        have e2 : (2 : Int32).toInt = 2 := rfl
        rw [q] at z; unfold tkZ at z; omega
      have ec : ∀ K : Ob → Int32 → Int32 → Int32 × Ob, F_X6_eRead_c15 K u 1 x2 = F_X6_eRead_b99 K u 1 := fun K => by
        unfold F_X6_eRead_c15
        rw [if_neg n10, if_neg nt1, if_neg nt2]
        by_cases q : u.1 20 = 6
        · rw [if_pos q]
          rcases hX with hX | hX
          · rw [if_pos hX]
          · exact absurd q hX
        · rw [if_neg q]
      by_cases f : s.1 4 = 45
      · have ez : (u.1 20).toInt = 45 := rd_lt hm (c := 45) (by rw [f]; rfl) fun v w t' z => by unfold tkZ at z; omega
        have eu : u.1 20 = 45 := Int32.toInt_inj.mp (ez.trans rfl)
        have h0 : ¬ u.1 20 = 0 := by rw [eu]; decide
        rw [if_pos f]
        by_cases y : p.toInt < 5
        · rw [mayOpen_y y]
          unfold F_X2_readOne_c56
          rw [if_neg n10]
          unfold F_X2_readOne_c63 F_X2_readOne_c71 F_X2_readOne_c77
          obtain ⟨g1, n1, u1, q1, q2, q3, q4⟩ := open_next (sg := 19) 1 0 hm hk h0 (by decide) (by omega)
          have hc : (p + 1).toInt = cnt (19 :: h) := by
            have : cnt (19 :: h) = 1 + cnt h := rfl
            have := ep y
            omega
          have C := (N y).1 n1 (F_X2_step s) u1 0 (19 :: h) T q3 q4 (sg_cons hg (Or.inr (by decide))) (show F_X6_rank 19 < 8 by decide) hc (Or.inl rfl)
          have ee : F_X6_eRead_c15 (F_X6_eRead_l14 n) u 1 x2 = F_X6_eRead_c15 (F_X6_eRead_l14 n1) u1 1 0 := by
            rw [ec]
            unfold F_X6_eRead_b99
            rw [if_pos eu, g1]
            unfold F_X6_eRead_c111
            rw [if_neg n10]
            exact q2
          obtain ⟨o, ho⟩ : ∃ o, o = ro (F_X2_step s) T (p + 1) := ⟨_, rfl⟩
          rw [← ho] at C ⊢
          rcases C with ⟨f1, u', f2, f3⟩ | ⟨n', u', y', w1, w2, w3, w4⟩
          · exact Or.inl ⟨f1, u', ee.trans f2, f3⟩
          · exact Or.inr ⟨n', u', y', by omega, ee.trans w2, una_end w3 (by decide) (by decide) (by decide), w4⟩
        · have d5 : p.toInt = 5 := by omega
          rw [mayOpen_n d5]
          unfold F_X2_readOne_c56
          rw [if_pos z00]
          obtain ⟨f1, f2⟩ := fail_new hm
          refine Or.inl ⟨f1, u, ?_, f2.symm⟩
          rw [ec]
          unfold F_X6_eRead_b99
          rw [if_pos eu, hk.any.full (by omega)]
          unfold F_X6_eRead_c111
          rw [if_pos z00]
      rw [if_neg f]
      have nt45 : ¬ u.1 20 = 45 := fun q => f (Int32.toInt_inj.mp (by
        have e2 : (45 : Int32).toInt = 45 := rfl
        rw [q] at z; unfold tkZ at z; omega))
      by_cases b : s.1 4 = 40
      · have ez : (u.1 20).toInt = 40 := rd_lt hm (c := 40) (by rw [b]; rfl) fun v w t' z => by unfold tkZ at z; omega
        have eu : u.1 20 = 40 := Int32.toInt_inj.mp (ez.trans rfl)
        have h0 : ¬ u.1 20 = 0 := by rw [eu]; decide
        rw [if_pos b]
        by_cases y : p.toInt < 5
        · rw [mayOpen_y y]
          unfold F_X2_readOne_c94
          rw [if_neg n10]
          unfold F_X2_readOne_c101 F_X2_readOne_c109 F_X2_readOne_c115
          obtain ⟨g1, n1, u1, q1, q2, q3, q4⟩ := open_next (sg := 0) 1 1 hm hk h0 (by decide) (by omega)
          have hc : (p + 1).toInt = cnt (0 :: h) := by
            have : cnt (0 :: h) = 1 + cnt h := rfl
            have := ep y
            omega
          have C := (N y).2 n1 (F_X2_step s) u1 1 (0 :: h) T q3 q4 (sg_cons hg (Or.inl rfl)) (show F_X6_rank 0 < 1 by decide) hc rfl
          have ee : F_X6_eRead_c15 (F_X6_eRead_l14 n) u 1 x2 = F_X6_eRead_c15 (F_X6_eRead_l14 n1) u1 1 1 := by
            rw [ec]
            unfold F_X6_eRead_b99
            rw [if_neg nt45, if_pos eu, g1]
            unfold F_X6_eRead_c135
            rw [if_neg n10]
            exact q2
          obtain ⟨o, ho⟩ : ∃ o, o = re (F_X2_step s) T (p + 1) := ⟨_, rfl⟩
          rw [← ho] at C ⊢
          rcases C with ⟨f1, u', f2, f3⟩ | ⟨n', u', y', w1, w2, w3, w4⟩
          · left
            have es : F_X2_expect o.1 41 = o.1 := by
              unfold F_X2_expect F_X2_expect_c16
              rw [if_neg (by rw [f1.1]; decide)]
              exact fail_same f1
            rw [es]
            exact ⟨f1, u', ee.trans f2, f3⟩
          · obtain ⟨a, ⟨⟨b1, b2⟩, b3⟩, hh, TT, k1, k2, k3⟩ := w3
            have za := a.tk
            have k3' : U 1 hh TT = (0 :: h, o.2) := by rw [k3]; exact U_low (h := 0 :: h) o.2 (show F_X6_rank 0 < 1 by decide)
            by_cases r : o.1.1 4 = 41
            · have rz : (u'.1 20).toInt = 41 := rd_lt a (c := 41) (by rw [r]; rfl) fun v w t' z => by unfold tkZ at z; omega
              have ru : u'.1 20 = 41 := Int32.toInt_inj.mp (rz.trans rfl)
              have r0 : ¬ u'.1 20 = 0 := by rw [ru]; decide
              have hU := unw_U (r := 1) (by omega) (by decide) hh TT u' (k1.yes r0) k2
              rw [k3'] at hU
              obtain ⟨t1, t2⟩ := hU.top (by omega)
              have hD := (hU.drop (by omega) (z := 1) (by decide)).weak (e' := 0) (by omega)
              have hV := unw_U (r := 7) (Int.le_refl 0) (by decide) h _ _ hD hg
              have hu := (((kU.unw 1 u').n (k := 24) (by omega) ((unw 1 u').1 24 - 1)).n (k := 25) (by omega) ((unw 1 u').1 25 - 1)).trans (kU.unw 7 _)
              obtain ⟨n2, v1, v2, v3, v4⟩ := adv a hu hV r0 0 y'
              have ha := adv_at a hu
              have es : F_X2_expect o.1 41 = F_X2_step o.1 := if_pos r
              rw [es]
              have el : ((0 :: h).length : Int) = h.length + 1 := by rw [List.length_cons]; omega
              refine Or.inr ⟨n2, _, y', by omega, ?_, ⟨v3, ⟨⟨b1, by show (h.length : Int) + (o.2.1 3).toInt ≤ _; omega⟩, b3⟩, _, _, v4, U_sg h _ hg, U_U (by omega) h _⟩, trivial⟩
              rw [ee, w2]
              rw [← v2]
              unfold F_X6_eRead_c15
              rw [if_pos z00, if_neg (by rw [ru]; decide), if_pos ru]
              unfold F_X6_eRead_c188 F_X6_eRead_c223
              rw [if_neg (fun q => t2 (i_le.mpr (by rw [show ((unw 1 u').1 24) = 0 from q]; omega)))]
              rfl
            · left
              have es : F_X2_expect o.1 41 = F_X2_fail o.1 := if_neg r
              rw [es]
              obtain ⟨f1, f2⟩ := fail_new a
              have r3 : ¬ u'.1 20 = 41 := fun q => r (Int32.toInt_inj.mp (by
                have e2 : (41 : Int32).toInt = 41 := rfl
                rw [q] at za; unfold tkZ at za; omega))
              by_cases r2 : u'.1 20 = 59
              · have hU := unw_U (r := 1) (by omega) (by decide) hh TT u' k1.any k2
                rw [k3'] at hU
                obtain ⟨t1, t2⟩ := hU.top (by omega)
                refine ⟨f1, unw 1 u', ?_, ((kU.unw 1 u').1 19 (by decide) (by decide) (by decide)).trans f2.symm⟩
                rw [ee, w2]
                unfold F_X6_eRead_c15
                rw [if_pos z00, if_pos r2]
                unfold F_X6_eRead_c161
                rw [if_neg (fun q => t2 (i_le.mpr (by rw [show ((unw 1 u').1 24) = 0 from q]; omega)))]
                rfl
              · obtain ⟨w, g1, g2⟩ := left_fault (y := y') (K := F_X6_eRead_l14 n') a w4 r2 r3
                exact ⟨f1, w, (ee.trans w2).trans g1, g2.trans f2.symm⟩
        · have d5 : p.toInt = 5 := by omega
          rw [mayOpen_n d5]
          unfold F_X2_readOne_c94
          rw [if_pos z00]
          obtain ⟨f1, f2⟩ := fail_new hm
          refine Or.inl ⟨f1, u, ?_, f2.symm⟩
          rw [ec]
          unfold F_X6_eRead_b99
          rw [if_neg nt45, if_pos eu, hk.any.full (by omega)]
          unfold F_X6_eRead_c135
          rw [if_pos z00]
      rw [if_neg b]
      have nt40 : ¬ u.1 20 = 40 := fun q => b (Int32.toInt_inj.mp (by
        have e2 : (40 : Int32).toInt = 40 := rfl
        rw [q] at z; unfold tkZ at z; omega))
      unfold F_X2_readOne_c122
      obtain ⟨f1, f2⟩ := fail_new hm
      refine Or.inl ⟨f1, u, ?_, f2.symm⟩
      rw [ec]
      unfold F_X6_eRead_b99
      rw [if_neg nt45, if_neg nt40]
    · rw [if_neg d]
      have dd := i_nle d
      have eu' : (u.1 20).toInt = 2 ∧ -6 ≤ (s.1 4).toInt ∧ (u.1 21).toInt = -1 - (s.1 4).toInt := by
        unfold tkZ at z; omega
      have eu : u.1 20 = 2 := Int32.toInt_inj.mp (eu'.1.trans rfl)
      unfold F_X2_readOne_c35 F_X2_readOne_c39
      obtain ⟨n', u', q1, q2, q3⟩ := val_next (st := s.1 4) (z := u.1 21) x2 hm hk hg (by rw [eu]; decide) (Or.inr (Or.inl ⟨eu'.2.1, by omega, eu'.2.2⟩)) eu'.2.1
      refine Or.inr ⟨n', u', x2, by omega, ?_, q3, trivial⟩
      rw [← q2]
      unfold F_X6_eRead_c15 F_X6_eRead_b38
      rw [if_neg n10, if_neg (by rw [eu]; decide), if_pos eu, if_neg (by rw [eu]; decide)]
  · unfold F_X2_readOne
    rw [hs.1, if_neg (by decide), if_pos (by decide), if_neg (by decide), if_neg (by decide)]
    unfold F_X2_readOne_c122
    exact fail_same hs
