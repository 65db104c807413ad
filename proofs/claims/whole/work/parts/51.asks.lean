-- PURE: a town of the class and the hours of the reference
def TRk (T m : Ob) (k : Nat) : Prop := T.2 0 k = m.2 1 k ∧ T.2 1 k = m.2 2 k ∧ T.2 2 k = m.2 3 (4 * k) ∧ T.2 3 k = m.2 3 (4 * k + 1) ∧ T.2 4 k = m.2 3 (4 * k + 2) ∧ vb (T.1 5) k = m.2 3 (4 * k + 3)
def VBk (m : Ob) (k : Nat) : Prop := (0 ≤ (m.2 2 k).toInt ∧ (m.2 2 k).toInt ≤ 9) ∧ (0 ≤ (m.2 3 (4 * k + 1)).toInt ∧ (m.2 3 (4 * k + 1)).toInt ≤ 9999)
/-- a text of the class and a text of the reference -/
def XR (X m : Ob) (t : Int32) : Prop := xOK X ∧ wfM m t ∧ (m.2 8) (Int32.toNatClampNeg ((4 * t) + 0)) = 0 ∧ (∀ p : Int32, 0 ≤ p.toInt → p.toInt ≤ 2 → (X.2 2) (Int32.toNatClampNeg p) = (m.2 8) (Int32.toNatClampNeg (((4 * t) + p) + 1))) ∧ ∀ k : Int32, 0 ≤ k.toInt → k.toInt < (X.2 2 2).toInt → trc ((X.2 0) (Int32.toNatClampNeg k)) ((m.2 7) (Int32.toNatClampNeg ((200 * t) + k)))
def TR (tx : Nat → Ob) (T m : Ob) : Prop := (T.1 6 = m.1 0 ∧ 0 ≤ (m.1 0).toInt ∧ (m.1 0).toInt ≤ 6) ∧ (T.1 7 = m.2 4 0 ∧ T.1 8 = m.2 4 1 ∧ T.1 9 = m.2 4 2) ∧ (T.1 10 = m.1 10 ∧ T.1 11 = m.1 10 ∧ 0 ≤ (m.1 10).toInt ∧ (m.1 10).toInt ≤ 5) ∧ XR (tx (m.1 10).toNatClampNeg) m (m.1 10) ∧ (∀ k : Nat, (k : Int) < (m.1 0).toInt → TRk T m k ∧ VBk m k) ∧ (0 ≤ (m.2 4 1).toInt ∧ (m.2 4 1).toInt ≤ 999999) ∧ (0 ≤ (T.1 5).toInt ∧ (T.1 5).toInt < 64) ∧ ∀ k : Nat, (m.1 0).toInt ≤ k → k < 6 → vb (T.1 5) k = 0
theorem TR.mEv {tx : Nat → Ob} {T m : Ob} (h : TR tx T m) : mEv m := ⟨h.1.2, h.2.2.1.2.2, h.2.2.2.1.2.1⟩
theorem TR.tEv {tx : Nat → Ob} {T m : Ob} (h : TR tx T m) : tEv tx T := by
  obtain ⟨⟨a1, a2, a3⟩, _, ⟨b1, b2, b3, b4⟩, c, _⟩ := h
  unfold _root_.Jvm.Pilot.@@N@@.tEv
  rw [a1, b2]
  exact ⟨⟨a2, a3⟩, by rw [tcn_i]; omega, c.1⟩
/-- a number of one of the people -/
def inP (m : Ob) (p : Int32) : Prop := 0 ≤ p.toInt ∧ p.toInt < (m.1 0).toInt
theorem i4 {p : Int32} (h0 : 0 ≤ p.toInt) (h1 : p.toInt < 6) : (4 * p).toNatClampNeg = 4 * p.toNatClampNeg ∧ ((4 * p) + 1).toNatClampNeg = 4 * p.toNatClampNeg + 1 ∧ ((4 * p) + 2).toNatClampNeg = 4 * p.toNatClampNeg + 2 ∧ ((4 * p) + 3).toNatClampNeg = 4 * p.toNatClampNeg + 3 := by
  have e4 : (4 * p).toInt = 4 * p.toInt := mulL (k := 4) (by decide +kernel) (by omega) (by omega)
  have e1 : ((4 * p) + 1).toInt = (4 * p).toInt + 1 := addL (k := 1) (by decide +kernel) (by omega) (by omega)
  have e2 : ((4 * p) + 2).toInt = (4 * p).toInt + 2 := addL (k := 2) (by decide +kernel) (by omega) (by omega)
  have e3 : ((4 * p) + 3).toInt = (4 * p).toInt + 3 := addL (k := 3) (by decide +kernel) (by omega) (by omega)
  simp only [tcn_i]
  omega
theorem nI_tcn {p : Int32} (h0 : 0 ≤ p.toInt) : nI p.toNatClampNeg = p := by
  apply Int32.toInt_inj.mp
  have := fb_rng p
  rw [nI_toInt (by rw [tcn_i]; omega), tcn_i]
  omega
theorem TR.lt {tx : Nat → Ob} {T m : Ob} (h : TR tx T m) {p : Int32} (hp : inP m p) : p.toInt < 6 := by
  have := h.1.2.2
  have := hp.2
  omega
theorem TR.has {tx : Nat → Ob} {T m : Ob} (h : TR tx T m) {p : Int32} (hp : inP m p) : F_X4_has T p = 1 := by
  have h6 := h.lt hp
  have e0 : (0 : Int32).toInt = 0 := rfl
  have e6 : (6 : Int32).toInt = 6 := rfl
  unfold F_X4_has
  rw [h.1.1, if_neg (fun q => by have := i_lt.mp q; have := hp.1; omega), if_neg (fun q => by have := i_le.mp q; have := hp.2; omega), if_neg (fun q => by have := i_le.mp q; omega)]
theorem TR.hasN {tx : Nat → Ob} {T m : Ob} (h : TR tx T m) {p : Int32} (hp : inP m p) : ¬ F_X4_has T p = 0 := by
  rw [h.has hp]
  decide
theorem TR.at {tx : Nat → Ob} {T m : Ob} (h : TR tx T m) {p : Int32} (hp : inP m p) : TRk T m p.toNatClampNeg ∧ VBk m p.toNatClampNeg := h.2.2.2.2.1 _ (by rw [tcn_i]; have := hp.1; have := hp.2; omega)
theorem within_0 {v : Int32} (h : 0 ≤ v.toInt) : F_X6_within v 0 99 = jmin v 99 := by
  have e0 : (0 : Int32).toInt = 0 := rfl
  have e9 : (99 : Int32).toInt = 99 := rfl
  unfold F_X6_within jmin
  simp only [i_lt, i_le, e0, e9]
  rw [if_pos h]
  by_cases c : v.toInt ≤ 99
  · rw [if_pos c, if_neg (by omega)]
  · rw [if_neg c, if_pos (by omega)]
theorem ofDay_eq {tx : Nat → Ob} {T m : Ob} (h : TR tx T m) : F_X6_ofDay m = (T.1 7) - (T.1 7) / 24 * 24 := by
  unfold F_X6_ofDay
  rw [h.2.1.1]
  rfl
theorem asks_eq {tx : Nat → Ob} {T m : Ob} (h : TR tx T m) {q p : Int32} (hq : 0 ≤ q.toInt ∧ q.toInt ≤ 2) (hp : inP m p) : F_X3_says (tx (T.1 11).toNatClampNeg) T q p = F_X6_asksOf m q p := by
  have hx := h.2.2.2.1
  obtain ⟨x1, x2, x3, x4, x5⟩ := hx
  obtain ⟨w0, w1, w2, d, wd0, wd⟩ := x2 q hq.1 hq.2
  have h6 := h.lt hp
  have hr := h.2.2.1
  have e11 : T.1 11 = m.1 10 := hr.2.1
  have hat := h.at hp
  obtain ⟨⟨k0, k1, k2, k3, k4, k5⟩, hvb⟩ := hat
  obtain ⟨j0, j1, j2, j3⟩ := i4 hp.1 h6
  rw [e11]
  have q0 : q = 0 ∨ q = 1 ∨ q = 2 := by
    rcases (show q.toInt = 0 ∨ q.toInt = 1 ∨ q.toInt = 2 by omega) with z | z | z
    · exact Or.inl (eq_of_toInt 0 rfl z)
    · exact Or.inr (Or.inl (eq_of_toInt 1 rfl z))
    · exact Or.inr (Or.inr (eq_of_toInt 2 rfl z))
  have hend := x4 q hq.1 hq.2
  have hstart : (if q = 0 then (0 : Int32) else ((tx (m.1 10).toNatClampNeg).2 2) (Int32.toNatClampNeg (q - 1))) = (m.2 8) (Int32.toNatClampNeg ((4 * (m.1 10)) + q)) := by
    rcases q0 with rfl | rfl | rfl
    · exact x3.symm
    · have z := x4 0 (by decide) (by decide)
      rw [if_neg (by decide)]
      refine z.trans ?_
      rw [Int32.add_zero]
    · have z := x4 1 (by decide) (by decide)
      rw [if_neg (by decide)]
      refine z.trans ?_
      rw [Int32.add_assoc]
      rfl
  have hxe : ((tx (m.1 10).toNatClampNeg).2 2 2).toInt ≤ 160 := x1.2.2.2
  have hee : ((m.2 8) (Int32.toNatClampNeg (((4 * (m.1 10)) + q) + 1))).toInt ≤ ((tx (m.1 10).toNatClampNeg).2 2 2).toInt := by
    rw [← hend]
    have a := x1.2.1
    have b := x1.2.2.1
    rcases q0 with rfl | rfl | rfl
    · show ((tx (m.1 10).toNatClampNeg).2 2 0).toInt ≤ _; omega
    · show ((tx (m.1 10).toNatClampNeg).2 2 1).toInt ≤ _; omega
    · exact Int.le_refl _
  have key := fun (S S' : Nat → Int32) (N : Nat → Int32) (hN : ∀ c s : Int32, 0 ≤ c.toInt → c.toInt < 6 → s.toInt = -1 - c.toInt → N c.toNatClampNeg = F_X4_named T s p) =>
    says_sim (X := tx (m.1 10).toNatClampNeg) (T2 := T) (mo := m) (p1 := q) (p3 := p) (N := N) (d := d) w0 (by omega) hend (fun k hk0 hk1 => x5 k (by omega) (by omega)) hN wd 161 201 S S' 0 ((m.2 8) (Int32.toNatClampNeg ((4 * (m.1 10)) + q))) (Int.le_refl _) (by omega) wd0.symm (by show (0 : Int) ≤ _; omega) (by decide) (Or.inl w1) (by omega) (by omega) (fun j hj => absurd hj (Nat.not_lt_zero j))
  unfold F_X3_says F_X3_saysR
  rw [if_neg (show ¬ q < 0 from fun z => by have := i_lt.mp z; have e : (0 : Int32).toInt = 0 := rfl; omega), if_neg (show ¬ 2 < q from fun z => by have := i_lt.mp z; have e : (2 : Int32).toInt = 2 := rfl; omega), if_neg (h.hasN hp)]
  have hl : (if q = 0 then (F_X3_saysR_b38 (tx (m.1 10).toNatClampNeg) (fun _ => 0) T q p 0 0) else (F_X3_saysR_b38 (tx (m.1 10).toNatClampNeg) (fun _ => 0) T q p 0 (((tx (m.1 10).toNatClampNeg).2 2) (Int32.toNatClampNeg (q - 1))))) = F_X3_saysR_l40 161 (tx (m.1 10).toNatClampNeg) (fun _ => 0) T q p 0 ((m.2 8) (Int32.toNatClampNeg ((4 * (m.1 10)) + q))) := by
    rw [← hstart]
    by_cases c : q = 0
    · rw [if_pos c, if_pos c]; rfl
    · rw [if_neg c, if_neg c]; rfl
  rw [hl]
  have hasn := h.hasN hp
  rw [key (fun _ => 0) (fun _ => 0) (upd (upd (upd (upd (upd (upd (fun _ => 0) (Int32.toNatClampNeg 0) ((m.2 3) (Int32.toNatClampNeg (4 * p)))) (Int32.toNatClampNeg 1) (F_X6_within ((m.2 3) (Int32.toNatClampNeg ((4 * p) + 1))) 0 99)) (Int32.toNatClampNeg 2) (F_X6_ofDay m)) (Int32.toNatClampNeg 3) ((m.2 4) (Int32.toNatClampNeg 2))) (Int32.toNatClampNeg 4) (m.1 0)) (Int32.toNatClampNeg 5) ((m.2 2) (Int32.toNatClampNeg p))) ?_]
  · unfold F_X6_asksOf F_X6_asksOfR F_X6_asksOfR_c82 F_X6_asksOfR_b96
    by_cases c : q = 1
    · rw [if_pos c, if_pos c]
      exact (within_j (by decide)).symm
    · rw [if_neg c, if_neg c]
      exact (within_j (by decide)).symm
  · intro c s hc0 hc1 hs
    unfold F_X4_named
    rw [if_neg hasn]
    rcases (show c.toInt = 0 ∨ c.toInt = 1 ∨ c.toInt = 2 ∨ c.toInt = 3 ∨ c.toInt = 4 ∨ c.toInt = 5 by omega) with z | z | z | z | z | z
    · obtain rfl := eq_of_toInt 0 rfl z
      obtain rfl := eq_of_toInt (x := s) (k := -1) (-1) rfl (by omega)
      show (m.2 3) (Int32.toNatClampNeg (4 * p)) = (T.2 2) (Int32.toNatClampNeg p)
      rw [j0, k2]
    · obtain rfl := eq_of_toInt 1 rfl z
      obtain rfl := eq_of_toInt (x := s) (k := -2) (-2) rfl (by omega)
      show F_X6_within ((m.2 3) (Int32.toNatClampNeg ((4 * p) + 1))) 0 99 = jmin ((T.2 3) (Int32.toNatClampNeg p)) 99
      rw [j1, k3, within_0 hvb.2.1]
    · obtain rfl := eq_of_toInt 2 rfl z
      obtain rfl := eq_of_toInt (x := s) (k := -3) (-3) rfl (by omega)
      exact ofDay_eq h
    · obtain rfl := eq_of_toInt 3 rfl z
      obtain rfl := eq_of_toInt (x := s) (k := -4) (-4) rfl (by omega)
      exact h.2.1.2.2.symm
    · obtain rfl := eq_of_toInt 4 rfl z
      obtain rfl := eq_of_toInt (x := s) (k := -5) (-5) rfl (by omega)
      exact h.1.1.symm
    · obtain rfl := eq_of_toInt 5 rfl z
      obtain rfl := eq_of_toInt (x := s) (k := -6) (-6) rfl (by omega)
      exact k1.symm
