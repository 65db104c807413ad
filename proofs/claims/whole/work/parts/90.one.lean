-- PURE: one value
theorem adv_at {n : Nat} {s u v : Ob} (hm : Mo n s u) (hu : kU u v) : (u.1 18).toInt ≤ ((F_X6_next v).1 18).toInt := by
  have hok := hm.ok
  have e18 : v.1 18 = u.1 18 := hu.1 18 (by decide) (by decide) (by decide)
  have e6 : v.1 6 = u.1 6 := hu.1 6 (by decide) (by decide) (by decide)
  have hnv : nOK v := by
    show 0 ≤ (v.1 18).toInt ∧ (v.1 18).toInt ≤ (v.1 6).toInt ∧ (v.1 6).toInt ≤ 160
    rw [e18, e6]
    exact hok
  have g := (next_ok rfl hnv).1.2.1
  rw [e18] at g
  exact g
theorem val_next {tt st z : Int32} {h : List Int32} {n : Nat} {s u T : Ob} (x2 : Int32) (hm : Mo n s u) (hk : Ad tt T u h) (hg : sgOK h) (h0 : ¬ u.1 20 = 0) (ht : trc st z) (hst : -6 ≤ st.toInt) : ∃ n' u', n' < n ∧ F_X6_eRead_b61 (F_X6_eRead_l14 n) u x2 z = F_X6_eRead_c15 (F_X6_eRead_l14 n') u' 0 x2 ∧ Okc 7 tt h T n' (F_X2_step s) u' (F_X3_add T st) := by
  have hk1 := hk.yes h0
  have hp := hk1.put (Int.le_refl 0) ht
  have hU := unw_U (r := 7) (Int.le_refl 0) (by decide) h _ _ hp hg
  have hu := (kU.puts u z).trans (kU.unw 7 (F_X6_puts u z))
  obtain ⟨n', q1, q2, q3, q4⟩ := adv hm hu hU h0 0 x2
  have ha := adv_at hm hu
  obtain ⟨_, ⟨b1, b2⟩, ⟨c1, c2⟩, _⟩ := hk1
  have hT : (T.1 3).toInt < 160 := by omega
  have zz : (T.1 3 + 1).toInt = (T.1 3).toInt + 1 := addL (k := 1) (by decide +kernel) (by omega) (by omega)
  have e3 : (F_X3_add T st).1 3 = T.1 3 + 1 := by rw [add_is hT]; rfl
  refine ⟨n', _, q1, q2, q3, ⟨⟨?_, ?_⟩, Tc.add b2 hT st (by unfold eff; rw [if_pos hst]) (Int.le_refl 0) (by unfold need; rw [if_pos hst]; exact Int.le_refl 0)⟩, _, _, q4, U_sg h _ hg, U_U (by omega) h _⟩
  · rw [e3]; omega
  · rw [e3]; omega
/-- a token that a value can't be followed by -/
theorem left_fault {tt : Int32} {n : Nat} {s u : Ob} {y : Int32} {K : Ob → Int32 → Int32 → Int32 × Ob} (hm : Mo n s u) (hL : L1 tt s u) (h2 : ¬ u.1 20 = 59) (h3 : ¬ u.1 20 = 41) : ∃ w, F_X6_eRead_c15 K u 0 y = (0, w) ∧ w.1 19 = u.1 19 := by
  obtain ⟨⟨⟨⟨a1, a2, a3⟩, a4⟩, a5⟩, a6⟩ := hL
  have z := hm.tk
  have tk : ∀ (c t : Int32), ¬ s.1 4 = c → (∀ x : Int, tkZ x (s.1 5).toInt t.toInt (u.1 21).toInt → x = c.toInt) → ¬ u.1 20 = t := by
    intro c t hc hx q
    rw [q] at z
    exact hc (Int32.toInt_inj.mp (hx _ z))
  have n4 : ¬ u.1 20 = 4 := tk 259 4 a6 fun x zz => by
    have e1 : (259 : Int32).toInt = 259 := rfl
    have e2 : (4 : Int32).toInt = 4 := rfl
    unfold tkZ at zz; omega
  have n5 : ¬ u.1 20 = 5 := tk 260 5 a5 fun x zz => by
    have e1 : (260 : Int32).toInt = 260 := rfl
    have e2 : (5 : Int32).toInt = 5 := rfl
    unfold tkZ at zz; omega
  have n42 : ¬ u.1 20 = 42 := tk 42 42 a1 fun x zz => by
    have e1 : (42 : Int32).toInt = 42 := rfl
    unfold tkZ at zz; omega
  have n43 : ¬ u.1 20 = 43 := tk 43 43 a2 fun x zz => by
    have e1 : (43 : Int32).toInt = 43 := rfl
    unfold tkZ at zz; omega
  have n45 : ¬ u.1 20 = 45 := tk 45 45 a3 fun x zz => by
    have e1 : (45 : Int32).toInt = 45 := rfl
    unfold tkZ at zz; omega
  clear tk
  have cmp : ∀ sg : Int32, F_X6_signOf u = sg → ¬ sg = -1 → F_X6_rank sg = 4 → (s.1 4 = 60 ∨ s.1 4 = 61) → ∃ w, F_X6_eRead_c15 K u 0 y = (0, w) ∧ w.1 19 = u.1 19 := by
    intro sg hs hn hr hc
    obtain ⟨T5, h5, s5, k1, k2⟩ := a4 hc
    obtain ⟨t1, t2⟩ := k1.top (Int.le_refl 0)
    refine ⟨unw 5 u, ?_, (kU.unw 5 u).1 19 (by decide) (by decide) (by decide)⟩
    have eb : F_X6_between u sg = (0, unw 5 u) := by
      unfold F_X6_between
      rw [if_pos hr]
      unfold F_X6_between_b17 F_X6_between_c17
      rw [if_pos hr]
      show (if ((unw 5 u).1 24) ≤ 0 then F_X6_between_b55 (unw 5 u) sg else (if (F_X6_rank (((unw 5 u).2 23) (Int32.toNatClampNeg (((unw 5 u).1 24) - 1)))) = 4 then (0, unw 5 u) else F_X6_between_b55 (unw 5 u) sg)) = _
      rw [if_neg t2, t1, if_pos k2]
    rw [c15_sign hs hn h2 h3, eb]
    unfold F_X6_eRead_c241
    rw [if_pos z00]
  have tkc : ∀ c : Int32, u.1 20 = c → (∀ x : Int, tkZ x (s.1 5).toInt c.toInt (u.1 21).toInt → x = c.toInt) → s.1 4 = c := by
    intro c q hx
    rw [q] at z
    exact Int32.toInt_inj.mp (hx _ z)
  by_cases d : u.1 20 = 60
  · exact cmp 14 (by unfold F_X6_signOf; rw [d]; decide) (by decide) (by decide) (Or.inl (tkc 60 d fun x zz => by
      have e1 : (60 : Int32).toInt = 60 := rfl
      unfold tkZ at zz; omega))
  by_cases d2 : u.1 20 = 61
  · exact cmp 15 (by unfold F_X6_signOf; rw [d2]; decide) (by decide) (by decide) (Or.inr (tkc 61 d2 fun x zz => by
      have e1 : (61 : Int32).toInt = 61 := rfl
      unfold tkZ at zz; omega))
  refine ⟨u, c15_none ?_ h2 h3, rfl⟩
  unfold F_X6_signOf
  rw [if_neg n4, if_neg n5, if_neg d, if_neg d2, if_neg n43, if_neg n45, if_neg n42]
