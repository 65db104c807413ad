-- what lay in the stack and the names before is of no matter
theorem says6_l {mo : Ob} {p1 : Int32} {N N' : Nat → Int32} (hN : ∀ j, j < 6 → N j = N' j) {d : Int32 → Int} (h0 : 0 ≤ ((mo.2 8) (Int32.toNatClampNeg ((4 * (mo.1 10)) + p1))).toInt) (hen : ((mo.2 8) (Int32.toNatClampNeg (((4 * (mo.1 10)) + p1) + 1))).toInt ≤ 200) (wd : ∀ k : Int32, ((mo.2 8) (Int32.toNatClampNeg ((4 * (mo.1 10)) + p1))).toInt ≤ k.toInt → k.toInt < ((mo.2 8) (Int32.toNatClampNeg (((4 * (mo.1 10)) + p1) + 1))).toInt → (0 ≤ d k ∧ d k ≤ 199) ∧ okc ((mo.2 7) (Int32.toNatClampNeg ((200 * (mo.1 10)) + k))) (d k) (d (k + 1))) : ∀ (n : Nat) (S S' : Nat → Int32) (x2 x3 : Int32), ((mo.2 8) (Int32.toNatClampNeg ((4 * (mo.1 10)) + p1))).toInt ≤ x3.toInt → x3.toInt ≤ ((mo.2 8) (Int32.toNatClampNeg (((4 * (mo.1 10)) + p1) + 1))).toInt → x2.toInt = d x3 → (x3.toInt < ((mo.2 8) (Int32.toNatClampNeg (((4 * (mo.1 10)) + p1) + 1))).toInt ∨ 1 ≤ x2.toInt) → (∀ j, j < x2.toNatClampNeg → S j = S' j) → (F_X6_saysR_l16 n mo S N p1 x2 x3).1 = (F_X6_saysR_l16 n mo S' N' p1 x2 x3).1 := by
  intro n
  induction n with
  | zero => intro S S' x2 x3 _ _ _ _ _; rfl
  | succ n ih =>
    intro S S' x2 x3 hk0 hk1 hd hr hS
    have hrx := fb_rng x2
    by_cases c1 : ((mo.2 8) (Int32.toNatClampNeg (((4 * (mo.1 10)) + p1) + 1))) ≤ x3
    · have hx : 1 ≤ x2.toInt := by
        have := i_le.mp c1
        omega
      have e : S (Int32.toNatClampNeg 0) = S' (Int32.toNatClampNeg 0) := hS 0 (by rw [tcn_i]; omega)
      simp only [F_X6_saysR_l16]
      rw [if_pos c1, if_pos c1]
      exact e
    have hlt := i_nle c1
    obtain ⟨wk1, wk2⟩ := wd x3 hk0 hlt
    have e3 : (x3 + 1).toInt = x3.toInt + 1 := addL (k := 1) (by decide +kernel) (by omega) (by omega)
    have hgo : ∀ (A A' : Nat → Int32) (y : Int32), 1 ≤ y.toInt → y.toInt = d (x3 + 1) → (∀ j, j < y.toNatClampNeg → A j = A' j) → (F_X6_saysR_b191 (F_X6_saysR_l16 n) mo A N p1 y x3).1 = (F_X6_saysR_b191 (F_X6_saysR_l16 n) mo A' N' p1 y x3).1 := by
      intro A A' y hy hyd hA
      unfold F_X6_saysR_b191
      exact ih A A' y (x3 + 1) (by omega) (by omega) hyd (Or.inr hy) hA
    unfold okc at wk2
    have e100 : (100000 : Int32).toInt = 100000 := rfl
    have e11 : (11 : Int32).toInt = 11 := rfl
    have hpush : (100000 ≤ ((mo.2 7) (Int32.toNatClampNeg ((200 * (mo.1 10)) + x3))).toInt ∨ (0 ≤ ((mo.2 7) (Int32.toNatClampNeg ((200 * (mo.1 10)) + x3))).toInt ∧ ((mo.2 7) (Int32.toNatClampNeg ((200 * (mo.1 10)) + x3))).toInt < 6)) → (F_X6_saysR_b66 (F_X6_saysR_l16 n) mo S N p1 x2 x3 ((mo.2 7) (Int32.toNatClampNeg ((200 * (mo.1 10)) + x3)))).1 = (F_X6_saysR_b66 (F_X6_saysR_l16 n) mo S' N' p1 x2 x3 ((mo.2 7) (Int32.toNatClampNeg ((200 * (mo.1 10)) + x3)))).1 := by
      intro hc
      have hb : d (x3 + 1) = d x3 + 1 := by omega
      have e2 : (x2 + 1).toInt = x2.toInt + 1 := addL (k := 1) (by decide +kernel) (by omega) (by omega)
      have hp : ∀ v : Int32, (F_X6_saysR_b93 (F_X6_saysR_l16 n) mo S N p1 x2 x3 x2 v).1 = (F_X6_saysR_b93 (F_X6_saysR_l16 n) mo S' N' p1 x2 x3 x2 v).1 := fun v => by
        unfold F_X6_saysR_b93
        refine hgo _ _ (x2 + 1) (by omega) (by omega) (agr_upd v fun j hj hne => hS j ?_)
        rw [tcn_add (by omega) (by omega)] at hj
        omega
      unfold F_X6_saysR_b66
      by_cases c : 11 ≤ ((mo.2 7) (Int32.toNatClampNeg ((200 * (mo.1 10)) + x3)))
      · rw [if_pos c, if_pos c]; exact hp _
      · rw [if_neg c, if_neg c]
        have c' := i_nle c
        rw [hN _ (show ((mo.2 7) (Int32.toNatClampNeg ((200 * (mo.1 10)) + x3))).toNatClampNeg < 6 by rw [tcn_i]; omega)]
        exact hp _
    simp only [F_X6_saysR_l16]
    rw [if_neg c1, if_neg c1]
    by_cases c2 : 100000 ≤ ((mo.2 7) (Int32.toNatClampNeg ((200 * (mo.1 10)) + x3)))
    · rw [if_pos c2, if_pos c2]
      exact hpush (Or.inl (i_le.mp c2))
    rw [if_neg c2, if_neg c2]
    have c2' := i_nle c2
    by_cases c3 : 11 ≤ ((mo.2 7) (Int32.toNatClampNeg ((200 * (mo.1 10)) + x3)))
    · rw [if_pos c3, if_pos c3]
      have c3' := i_le.mp c3
      have e13 : (13 : Int32).toInt = 13 := rfl
      have e19 : (19 : Int32).toInt = 19 := rfl
      have h1 : 1 ≤ x2.toInt := by omega
      have a1 : S (Int32.toNatClampNeg (x2 - 1)) = S' (Int32.toNatClampNeg (x2 - 1)) := hS _ (by rw [tcn_sub h1, tcn_i]; omega)
      by_cases c4 : ((mo.2 7) (Int32.toNatClampNeg ((200 * (mo.1 10)) + x3))) = 13
      · rw [if_pos c4, if_pos c4]
        have c4' : ((mo.2 7) (Int32.toNatClampNeg ((200 * (mo.1 10)) + x3))).toInt = 13 := by rw [c4]; rfl
        have hp : ∀ v : Int32, (F_X6_saysR_b130 (F_X6_saysR_l16 n) mo S N p1 x2 x3 (x2 - 1) v).1 = (F_X6_saysR_b130 (F_X6_saysR_l16 n) mo S' N' p1 x2 x3 (x2 - 1) v).1 := fun v => by
          unfold F_X6_saysR_b130
          exact hgo _ _ x2 h1 (by omega) (agr_upd v fun j hj hne => hS j hj)
        rw [a1]
        split
        · exact hp _
        · exact hp _
      rw [if_neg c4, if_neg c4]
      have c4' : ((mo.2 7) (Int32.toNatClampNeg ((200 * (mo.1 10)) + x3))).toInt ≠ 13 := fun z => c4 (Int32.toInt_inj.mp (z.trans e13.symm))
      by_cases c5 : ((mo.2 7) (Int32.toNatClampNeg ((200 * (mo.1 10)) + x3))) = 19
      · rw [if_pos c5, if_pos c5]
        have c5' : ((mo.2 7) (Int32.toNatClampNeg ((200 * (mo.1 10)) + x3))).toInt = 19 := by rw [c5]; rfl
        rw [a1]
        exact hgo _ _ x2 h1 (by omega) (agr_upd _ fun j hj hne => hS j hj)
      · rw [if_neg c5, if_neg c5]
        have c5' : ((mo.2 7) (Int32.toNatClampNeg ((200 * (mo.1 10)) + x3))).toInt ≠ 19 := fun z => c5 (Int32.toInt_inj.mp (z.trans e19.symm))
        have h2 : 2 ≤ x2.toInt := by omega
        have e1 : (x2 - 1).toInt = x2.toInt - 1 := subL (k := 1) (by decide +kernel) (by omega) (by omega)
        have k1 : (x2 - 1).toNatClampNeg = x2.toNatClampNeg - 1 := tcn_sub (by omega)
        have k2 : (x2 - 1 - 1).toNatClampNeg = x2.toNatClampNeg - 2 := by rw [tcn_sub (by omega), k1]; omega
        have k3 : 2 ≤ x2.toNatClampNeg := by rw [tcn_i]; omega
        have a2 : S (Int32.toNatClampNeg (x2 - 1 - 1)) = S' (Int32.toNatClampNeg (x2 - 1 - 1)) := hS _ (by omega)
        rw [a1, a2]
        exact hgo _ _ (x2 - 1) (by omega) (by omega) (agr_upd _ fun j hj _ => hS j (by omega))
    · rw [if_neg c3, if_neg c3]
      have c3' := i_nle c3
      exact hpush (by omega)
theorem upd_eq {f f' : Nat → Int32} {k : Nat} (v : Int32) : ∀ j, (j ≠ k → f j = f' j) → upd f k v j = upd f' k v j := fun j h => by
  unfold upd
  by_cases q : j = k
  · rw [if_pos q, if_pos q]
  · rw [if_neg q, if_neg q]; exact h q
/-- what a part of the law says of one -/
def F_X6_asksOf (mo : Ob) (p1 p2 : Int32) : Int32 := (F_X6_asksOfR mo (fun _ => 0) (fun _ => 0) p1 p2).1
theorem asks_SN {mo : Ob} {p1 p2 : Int32} (hv : mEv mo) (hp : 0 ≤ p1.toInt ∧ p1.toInt ≤ 2) (S N : Nat → Int32) : (F_X6_asksOfR mo S N p1 p2).1 = F_X6_asksOf mo p1 p2 := by
  obtain ⟨ws0, ws1, ws2, d, wd0, wd⟩ := hv.2.2 p1 hp.1 hp.2
  have k : ∀ N N' : Nat → Int32, (∀ j, j < 6 → N j = N' j) → ∀ S S' : Nat → Int32, (F_X6_saysR mo S N p1).1 = (F_X6_saysR mo S' N' p1).1 := fun N N' h S S' =>
    says6_l h ws0 ws2 wd 201 S S' 0 _ (Int.le_refl _) (Int.le_of_lt ws1) wd0.symm (Or.inl ws1) (fun j hj => absurd hj (Nat.not_lt_zero j))
  have kN : ∀ (v0 v1 v2 v3 v4 v5 : Int32) (N N' : Nat → Int32) (j : Nat), j < 6 → upd (upd (upd (upd (upd (upd N (Int32.toNatClampNeg 0) v0) (Int32.toNatClampNeg 1) v1) (Int32.toNatClampNeg 2) v2) (Int32.toNatClampNeg 3) v3) (Int32.toNatClampNeg 4) v4) (Int32.toNatClampNeg 5) v5 j = upd (upd (upd (upd (upd (upd N' (Int32.toNatClampNeg 0) v0) (Int32.toNatClampNeg 1) v1) (Int32.toNatClampNeg 2) v2) (Int32.toNatClampNeg 3) v3) (Int32.toNatClampNeg 4) v4) (Int32.toNatClampNeg 5) v5 j := by
    intro v0 v1 v2 v3 v4 v5 N N' j hj
    refine upd_eq v5 j fun h5 => upd_eq v4 j fun h4 => upd_eq v3 j fun h3 => upd_eq v2 j fun h2 => upd_eq v1 j fun h1 => upd_eq v0 j fun h0 => ?_
    have e0 : Int32.toNatClampNeg 0 = 0 := rfl
    have e1 : Int32.toNatClampNeg 1 = 1 := rfl
    have e2 : Int32.toNatClampNeg 2 = 2 := rfl
    have e3 : Int32.toNatClampNeg 3 = 3 := rfl
    have e4 : Int32.toNatClampNeg 4 = 4 := rfl
    have e5 : Int32.toNatClampNeg 5 = 5 := rfl
    omega
  unfold F_X6_asksOf F_X6_asksOfR F_X6_asksOfR_c82 F_X6_asksOfR_b96
  rw [k _ _ (kN _ _ _ _ _ _ N (fun _ => 0)) S (fun _ => 0)]
  split
  · rfl
  · rfl
theorem c_X6_asksOf {l : Launch} {g : GG} {sz : Nat} {bb : Ob} {tx rw : Nat → Ob} {sb dy : Ob} {tn : Nat → Ob} {mo : Ob} {jk : Nat → Nat → Int32} (p1 : Int32) (p2 : Int32) (hv : mEv mo) (hp : 0 ≤ p1.toInt ∧ p1.toInt ≤ 2) (hp2 : 0 ≤ p2.toInt ∧ p2.toInt < 6) : Met l yX6_asksOf (Cond.code yX6_asksOf cX6_asksOf 3 (some .int) :: TT) (rmL (3)) (va_Pc [.ref (gA g 58), .int p1, .int p2] (gB g sz (gW g bb tx rw sb dy tn mo jk))) (va_Qi (fun r (_ : (Nat → Nat → Int32)) => r = (F_X6_asksOf mo p1 p2)) (fun u t => gC g (va_A (gW g bb tx rw sb dy tn mo jk) sz) (gW g bb tx rw sb dy tn mo u) t) (va_A (gW g bb tx rw sb dy tn mo jk) sz)) 0 0 (va_A (gW g bb tx rw sb dy tn mo jk) sz) :=
  (c_X6_asksOfR (rfl : jk 6 = jk 6) (rfl : jk 7 = jk 7) p1 p2 hv hp hp2).weak (fun a s o' t h => by
    obtain ⟨⟨r, u, h1, h2, h3⟩, h4⟩ := h
    refine ⟨⟨r, va_up (va_up jk 6 u.1) 7 u.2, h1, ?_, h3⟩, h4⟩
    rw [← asks_SN hv hp (jk 6) (jk 7), h2])

