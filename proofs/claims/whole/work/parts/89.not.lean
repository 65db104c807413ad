-- PURE: not
/-- a sign that opens a place before a value -/
def oneMore (sg : Int32) (u : Ob) : Ob := F_X6_holds (setS u 25 (u.1 25 + 1)) sg
theorem open_next {tt sg : Int32} {h : List Int32} {n : Nat} {s u T : Ob} (x1 x2 : Int32) (hm : Mo n s u) (hk : Ad tt T u h) (h0 : ¬ u.1 20 = 0) (hs : isO sg = 1) (hc : cnt h < 5) : F_X6_opensOne u sg = (1, oneMore sg u) ∧ ∃ n' u', n' < n ∧ F_X6_eRead_l14 n (oneMore sg u) x1 x2 = F_X6_eRead_c15 (F_X6_eRead_l14 n') u' x1 x2 ∧ Mo n' (F_X2_step s) u' ∧ Ad tt T u' (sg :: h) := by
  obtain ⟨g1, g2⟩ := (hk.yes h0).opn (Int.le_refl 0) hs hc
  refine ⟨g1, ?_⟩
  obtain ⟨n', q1, q2, q3, q4⟩ := adv hm (((kU.refl u).n (k := 25) (by omega) _).trans (kU.holds _ sg)) g2 h0 x1 x2
  exact ⟨n', _, q1, q2, q3, q4⟩
/-- an operation on one value -/
theorem una_end {r tt sg st : Int32} {h : List Int32} {n : Nat} {s u T T' : Ob} (k : Okc r tt (sg :: h) T n s u T') (hr : ¬ F_X6_rank sg < r) (hst : 4 - sg = st) (he : eff st = 0 ∧ need st = 1) : Okc r tt h T n s u (F_X3_add T' st) := by
  obtain ⟨a, ⟨⟨b1, b2⟩, b3⟩, hh, TT, c, d, e⟩ := k
  have hok := a.ok
  have el : ((sg :: h).length : Int) = h.length + 1 := by rw [List.length_cons]; omega
  have hT : (T'.1 3).toInt < 160 := by
    have := hok.2
    omega
  have z : (T'.1 3 + 1).toInt = (T'.1 3).toInt + 1 := addL (k := 1) (by decide +kernel) (by omega) (by omega)
  refine ⟨a, ⟨⟨?_, ?_⟩, b3.una hT he⟩, hh, TT, c, d, by rw [e, U_pop T' hr, hst]⟩
  · rw [add_is hT]
    show 0 ≤ (T'.1 3 + 1).toInt
    omega
  · rw [add_is hT]
    show (h.length : Int) + (T'.1 3 + 1).toInt ≤ (u.1 18).toInt
    omega
theorem sg_cons {h : List Int32} (hg : sgOK h) {sg : Int32} (hs : sg = 0 ∨ (11 ≤ sg.toInt ∧ sg.toInt ≤ 19)) : sgOK (sg :: h) := by
  intro x hx
  cases hx with
  | head => exact hs
  | tail _ hx => exact hg x hx
theorem mayOpen_y {s : Ob} {p : Int32} (h : p.toInt < 5) : F_X2_mayOpen s p = (1, s) := if_pos (i_lt.mpr h)
theorem mayOpen_n {s : Ob} {p : Int32} (h : p.toInt = 5) : F_X2_mayOpen s p = (0, F_X2_fail s) := if_neg fun q => by
  have := i_lt.mp q
  have e5 : (5 : Int32).toInt = 5 := rfl
  omega
theorem rd_not {tt p : Int32} {rn rs : Ob → Ob → Int32 → Ob × Ob} (h5 : 0 ≤ p.toInt ∧ p.toInt ≤ 5) (R : Rd 5 5 tt X0 L5 p rs) (F : Fdd p rs) (N : p.toInt < 5 → Rd 4 3 tt X1 (L3 tt) (p + 1) rn) : Rd 4 3 tt X1 (L3 tt) p (F_X2_readNot rn rs) ∧ Fdd p (F_X2_readNot rn rs) := by
  have fl40 : ∀ o : Ob × Ob, Fl o.1 → (F_X2_readNot_c40 o rn rs p).1 = o.1 := by
    intro o ho
    unfold F_X2_readNot_c40
    rw [if_neg (by rw [ho.1]; decide), if_neg (by rw [ho.1]; decide)]
  refine ⟨fun n s u x2 h T hm hk hg hl hp hX => ?_, fun s T hs => ?_⟩
  · by_cases c : s.1 4 = 261
    · have ez : (u.1 20).toInt = 6 := rd_lt hm (c := 261) (by rw [c]; rfl) fun v w t' z => by unfold tkZ at z; omega
      have eu : u.1 20 = 6 := Int32.toInt_inj.mp (ez.trans rfl)
      have h0 : ¬ u.1 20 = 0 := by rw [eu]; decide
      have hx : x2 = 1 := hX
      subst hx
      have ec : ∀ K : Ob → Int32 → Int32 → Int32 × Ob, F_X6_eRead_c15 K u 1 1 = F_X6_eRead_c91 K (F_X6_opensOne u 13) 1 1 := fun K => by
        unfold F_X6_eRead_c15
        rw [if_neg n10, if_neg (by rw [eu]; decide), if_neg (by rw [eu]; decide), if_pos eu, if_neg n10]
      unfold F_X2_readNot
      rw [if_pos c]
      by_cases d : p.toInt < 5
      · rw [mayOpen_y d]
        unfold F_X2_readNot_c12
        rw [if_neg n10]
        unfold F_X2_readNot_c19 F_X2_readNot_c27 F_X2_readNot_c33
        obtain ⟨g1, n1, u1, q1, q2, q3, q4⟩ := open_next (sg := 13) 1 1 hm hk h0 (by decide) (by omega)
        have ep : (p + 1).toInt = p.toInt + 1 := addL (k := 1) (by decide +kernel) (by omega) (by omega)
        have hc : (p + 1).toInt = cnt (13 :: h) := by
          have : cnt (13 :: h) = 1 + cnt h := rfl
          omega
        have C := N d n1 (F_X2_step s) u1 1 (13 :: h) T q3 q4 (sg_cons hg (Or.inr (by decide))) (show F_X6_rank 13 < 4 by decide) hc rfl
        have e1 : F_X6_eRead_c15 (F_X6_eRead_l14 n) u 1 1 = F_X6_eRead_c15 (F_X6_eRead_l14 n1) u1 1 1 := by
          rw [ec, g1]
          unfold F_X6_eRead_c91
          rw [if_neg n10]
          exact q2
        obtain ⟨o, ho⟩ : ∃ o, o = rn (F_X2_step s) T (p + 1) := ⟨_, rfl⟩
        rw [← ho] at C ⊢
        rcases C with ⟨f1, u', f2, f3⟩ | ⟨n', u', y', w1, w2, w3, w4⟩
        · exact Or.inl ⟨f1, u', e1.trans f2, f3⟩
        · exact Or.inr ⟨n', u', y', by omega, e1.trans w2, una_end w3 (by decide) (by decide) (by decide), w4⟩
      · have d5 : p.toInt = 5 := by omega
        rw [mayOpen_n d5]
        unfold F_X2_readNot_c12
        rw [if_pos z00]
        obtain ⟨f1, f2⟩ := fail_new hm
        refine Or.inl ⟨f1, u, ?_, f2.symm⟩
        rw [ec, hk.any.full (by omega)]
        unfold F_X6_eRead_c91
        rw [if_pos z00]
    · have hX0 : ¬ u.1 20 = 6 := fun q => by
        have z := hm.tk
        rw [q] at z
        have e6 : (6 : Int32).toInt = 6 := rfl
        have : (s.1 4).toInt = 261 := by unfold tkZ at z; omega
        exact c (Int32.toInt_inj.mp (this.trans rfl))
      have C := R n s u x2 h T hm hk hg (hl.mono (by decide)) hp (Or.inr hX0)
      unfold F_X2_readNot
      rw [if_neg c]
      obtain ⟨o, ho⟩ : ∃ o, o = rs s T p := ⟨_, rfl⟩
      rw [← ho] at C ⊢
      rcases C with F' | ⟨n', u', y', q1, q2, q3, q4⟩
      · left
        unfold Flt
        rw [fl40 o F'.1]
        exact F'
      unfold F_X2_readNot_c40
      by_cases d : o.1.1 4 = 60
      · rw [if_pos d]
        unfold F_X2_readNot_b61
        rw [if_pos d]
        unfold F_X2_readNot_b77 F_X2_readNot_c79 F_X2_readNot_c85 F_X2_readNot_c90
        have ez : (u'.1 20).toInt = 60 := rd_lt q3.1 (c := 60) (by rw [d]; rfl) fun v w t' z => by unfold tkZ at z; omega
        have eu : u'.1 20 = 60 := Int32.toInt_inj.mp (ez.trans rfl)
        have B := cmp_step (sg := 14) (st := -10) (y := y') R q3 hg (by unfold F_X6_signOf; rw [eu]; decide) (by decide) (by rw [eu]; decide) (by rw [eu]; decide) (by rw [eu]; decide) (by decide) hl (by decide) hp (by decide) (by decide) (by decide) (by decide)
        rcases B with F | ⟨n2, u2, y2, w1, w2, w3⟩
        · exact Or.inl ⟨F.1, by rw [q2]; exact F.2⟩
        · exact Or.inr ⟨n2, u2, y2, by omega, q2.trans w2, w3⟩
      by_cases d2 : o.1.1 4 = 61
      · rw [if_neg d, if_pos d2]
        unfold F_X2_readNot_b61
        rw [if_neg d]
        unfold F_X2_readNot_b77 F_X2_readNot_c79 F_X2_readNot_c85 F_X2_readNot_c90
        have ez : (u'.1 20).toInt = 61 := rd_lt q3.1 (c := 61) (by rw [d2]; rfl) fun v w t' z => by unfold tkZ at z; omega
        have eu : u'.1 20 = 61 := Int32.toInt_inj.mp (ez.trans rfl)
        have B := cmp_step (sg := 15) (st := -11) (y := y') R q3 hg (by unfold F_X6_signOf; rw [eu]; decide) (by decide) (by rw [eu]; decide) (by rw [eu]; decide) (by rw [eu]; decide) (by decide) hl (by decide) hp (by decide) (by decide) (by decide) (by decide)
        rcases B with F | ⟨n2, u2, y2, w1, w2, w3⟩
        · exact Or.inl ⟨F.1, by rw [q2]; exact F.2⟩
        · exact Or.inr ⟨n2, u2, y2, by omega, q2.trans w2, w3⟩
      rw [if_neg d, if_neg d2]
      exact Or.inr ⟨n', u', y', q1, q2, q3.low (by decide), q4, fun z => by
        rcases z with z | z
        · exact absurd z d
        · exact absurd z d2⟩
  · unfold F_X2_readNot
    rw [if_neg (by rw [hs.1]; decide)]
    have e := F s T hs
    rw [fl40 _ (by rw [e]; exact hs), e]
