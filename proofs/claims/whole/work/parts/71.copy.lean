-- PURE: copying, people by a sheet, films
theorem has_t {R : Ob} {i n : Int32} (hz : 0 ≤ (R.1 2).toInt ∧ (R.1 2).toInt ≤ 40) : (F_X1_has R i n = 1 ∧ 0 ≤ i.toInt ∧ 0 ≤ n.toInt ∧ i.toInt ≤ (R.1 2).toInt ∧ n.toInt ≤ (R.1 2).toInt - i.toInt) ∨ (F_X1_has R i n = 0 ∧ ¬ (0 ≤ i.toInt ∧ 0 ≤ n.toInt ∧ i.toInt ≤ (R.1 2).toInt ∧ n.toInt ≤ (R.1 2).toInt - i.toInt)) := by
  have e0 : (0 : Int32).toInt = 0 := rfl
  unfold F_X1_has
  by_cases c1 : i < 0
  · rw [if_pos c1]
    exact Or.inr ⟨rfl, fun z => by have := i_lt.mp c1; omega⟩
  rw [if_neg c1]
  have d1 := i_nlt c1
  by_cases c2 : n < 0
  · rw [if_pos c2]
    exact Or.inr ⟨rfl, fun z => by have := i_lt.mp c2; omega⟩
  rw [if_neg c2]
  have d2 := i_nlt c2
  by_cases c3 : R.1 2 < i
  · rw [if_pos c3]
    exact Or.inr ⟨rfl, fun z => by have := i_lt.mp c3; omega⟩
  rw [if_neg c3]
  have d3 := i_nlt c3
  have es : (R.1 2 - i).toInt = (R.1 2).toInt - i.toInt := fb_subI (by omega) (by omega)
  by_cases c4 : R.1 2 - i < n
  · rw [if_pos c4]
    exact Or.inr ⟨rfl, fun z => by have := i_lt.mp c4; omega⟩
  · rw [if_neg c4]
    have d4 := i_nlt c4
    exact Or.inl ⟨rfl, by omega, by omega, by omega, by omega⟩
/-- a copy within the reference's cells, place by place -/
theorem copy_l (m : Ob) (n A B : Int32) (hn : 0 ≤ n.toInt ∧ n.toInt ≤ 40) (hA : 0 ≤ A.toInt ∧ A.toInt + n.toInt ≤ 160) (hB : 0 ≤ B.toInt ∧ B.toInt + n.toInt ≤ 160) : ∀ (f : Nat) (r : Ob) (k : Int32), 0 ≤ k.toInt → k.toInt ≤ n.toInt → 40 < k.toInt + f → r.1 = m.1 → (∀ q, q ≠ 16 → r.2 q = m.2 q) → (∀ j : Nat, r.2 16 j = (if B.toInt ≤ (j : Int) ∧ (j : Int) < B.toInt + n.toInt ∧ (if A.toInt < B.toInt then B.toInt + n.toInt - k.toInt ≤ (j : Int) else (j : Int) < B.toInt + k.toInt) then m.2 16 ((j : Int) - B.toInt + A.toInt).toNat else m.2 16 j)) → (F_X6_copy_l147 f r n A B k).1 = n ∧ (F_X6_copy_l147 f r n A B k).2.1 = m.1 ∧ (∀ q, q ≠ 16 → (F_X6_copy_l147 f r n A B k).2.2 q = m.2 q) ∧ ∀ j : Nat, (F_X6_copy_l147 f r n A B k).2.2 16 j = (if B.toInt ≤ (j : Int) ∧ (j : Int) < B.toInt + n.toInt then m.2 16 ((j : Int) - B.toInt + A.toInt).toNat else m.2 16 j) := by
  intro f
  induction f with
  | zero => intro r k h0 h1 hf; omega
  | succ f ih =>
    intro r k h0 h1 hf r1 r2 r3
    unfold F_X6_copy_l147
    by_cases c : n ≤ k
    · rw [if_pos c]
      have c2 := i_le.mp c
      refine ⟨rfl, r1, r2, fun j => ?_⟩
      rw [r3 j]
      by_cases e : B.toInt ≤ (j : Int) ∧ (j : Int) < B.toInt + n.toInt
      · rw [if_pos e, if_pos ⟨e.1, e.2, by split <;> omega⟩]
      · rw [if_neg e, if_neg (fun z => e ⟨z.1, z.2.1⟩)]
    rw [if_neg c]
    have c2 := i_nle c
    have e1 : (k + 1).toInt = k.toInt + 1 := addL (k := 1) (by decide +kernel) (by omega) (by omega)
    have hgo : ∀ x : Int32, (x.toInt = (if A.toInt < B.toInt then n.toInt - 1 - k.toInt else k.toInt)) → (F_X6_copy_b173 (F_X6_copy_l147 f) r n A B k x).1 = n ∧ (F_X6_copy_b173 (F_X6_copy_l147 f) r n A B k x).2.1 = m.1 ∧ (∀ q, q ≠ 16 → (F_X6_copy_b173 (F_X6_copy_l147 f) r n A B k x).2.2 q = m.2 q) ∧ ∀ j : Nat, (F_X6_copy_b173 (F_X6_copy_l147 f) r n A B k x).2.2 16 j = (if B.toInt ≤ (j : Int) ∧ (j : Int) < B.toInt + n.toInt then m.2 16 ((j : Int) - B.toInt + A.toInt).toNat else m.2 16 j) := fun x hx => by
      have hx0 : 0 ≤ x.toInt ∧ x.toInt < n.toInt := by rw [hx]; split <;> omega
      have eA : (A + x).toInt = A.toInt + x.toInt := fb_addI (by omega) (by omega)
      have eB : (B + x).toInt = B.toInt + x.toInt := fb_addI (by omega) (by omega)
      unfold F_X6_copy_b173
      refine ih _ _ (by omega) (by omega) (by omega) r1 (fun q hq => (sA_ne _ _ hq).trans (r2 q hq)) (fun j => ?_)
      show upd (r.2 16) (B + x).toNatClampNeg ((r.2 16) (A + x).toNatClampNeg) j = _
      have hrd : (r.2 16) (A + x).toNatClampNeg = m.2 16 (A.toInt + x.toInt).toNat := by
        rw [r3, tcn_i, eA]
        rw [if_neg]
        intro z
        obtain ⟨z1, z2, z3⟩ := z
        by_cases l : A.toInt < B.toInt
        · rw [if_pos l] at z3 hx
          omega
        · rw [if_neg l] at z3 hx
          omega
      rw [hrd, tcn_i, eB]
      by_cases e : j = (B.toInt + x.toInt).toNat
      · rw [e, upd_s, if_pos]
        · exact congrArg (m.2 16) (by omega)
        · refine ⟨by omega, by omega, ?_⟩
          by_cases l : A.toInt < B.toInt
          · rw [if_pos l] at hx ⊢
            omega
          · rw [if_neg l] at hx ⊢
            omega
      · rw [upd_n _ e, r3 j]
        by_cases l : A.toInt < B.toInt
        · simp only [if_pos l] at hx ⊢
          by_cases y : B.toInt ≤ (j : Int) ∧ (j : Int) < B.toInt + n.toInt ∧ B.toInt + n.toInt - k.toInt ≤ (j : Int)
          · rw [if_pos y, if_pos ⟨y.1, y.2.1, by omega⟩]
          · rw [if_neg y, if_neg (fun z => y ⟨z.1, z.2.1, by omega⟩)]
        · simp only [if_neg l] at hx ⊢
          by_cases y : B.toInt ≤ (j : Int) ∧ (j : Int) < B.toInt + n.toInt ∧ (j : Int) < B.toInt + k.toInt
          · rw [if_pos y, if_pos ⟨y.1, y.2.1, by omega⟩]
          · rw [if_neg y, if_neg (fun z => y ⟨z.1, z.2.1, by omega⟩)]
    by_cases l : B ≤ A
    · rw [if_pos l]
      have l2 := i_le.mp l
      exact hgo k (by rw [if_neg (by omega)])
    · rw [if_neg l]
      have l2 := i_nle l
      refine hgo _ ?_
      have a1 : (n - 1).toInt = n.toInt - 1 := subL (k := 1) (by decide +kernel) (by omega) (by omega)
      have a2 : (n - 1 - k).toInt = (n - 1).toInt - k.toInt := fb_subI (by omega) (by omega)
      rw [if_pos l2]
      omega
section CALLSC
variable {bb : Ob} {tx rw : Nat → Ob} {sb : Ob} {tn : Nat → Ob} {m : Ob}
theorem s_copy (h : SR bb tx rw sb tn m) (s i o j n : Int32) : (F_X5_copy rw s i o j n).1 = (F_X6_copy m s i o j n).1 ∧ SR bb tx (va_up rw o.toNatClampNeg (F_X5_copy rw s i o j n).2) sb tn (F_X6_copy m s i o j n).2 := by
  unfold F_X5_copy F_X6_copy F_X5_isSheet
  rw [isW, isW]
  by_cases c1 : F_X6_in s 0 3 = 0
  · rw [if_pos c1, if_pos c1]; exact ⟨rfl, h.stayR _⟩
  rw [if_neg c1, if_neg c1]
  by_cases c2 : F_X6_in o 0 3 = 0
  · rw [if_pos c2, if_pos c2]; exact ⟨rfl, h.stayR _⟩
  rw [if_neg c2, if_neg c2]
  obtain ⟨hs, hs4⟩ := sN c1
  obtain ⟨ho, ho4⟩ := sN c2
  rw [missing_eq h hs4, missing_eq h ho4]
  obtain ⟨g1, g2, g3, g4⟩ := h.hs _ hs4
  obtain ⟨q1, q2, q3, q4⟩ := h.hs _ ho4
  by_cases c3 : m.2 14 s.toNatClampNeg = -1
  · rw [if_pos c3, if_neg n10, if_pos c3]; exact ⟨rfl, h.stayR _⟩
  rw [if_neg c3, if_pos z00, if_neg c3]
  by_cases c4 : m.2 14 o.toNatClampNeg = -1
  · rw [if_pos c4, if_neg n10, if_pos c4]; exact ⟨rfl, h.stayR _⟩
  rw [if_neg c4, if_pos z00, if_neg c4, g1, q1]
  by_cases c5 : m.2 14 s.toNatClampNeg = m.2 14 o.toNatClampNeg
  · rw [if_pos c5, if_pos c5]
    have e0 : (0 : Int32).toInt = 0 := rfl
    have gz : 0 ≤ ((rw s.toNatClampNeg).1 2).toInt ∧ ((rw s.toNatClampNeg).1 2).toInt ≤ 40 := by rw [g2]; exact g3
    have qz : 0 ≤ ((rw o.toNatClampNeg).1 2).toInt ∧ ((rw o.toNatClampNeg).1 2).toInt ≤ 40 := by rw [q2]; exact q3
    -- the reference's row of looks, as one
    have hmod : ∀ X Y : Int32 × Ob, (if n < 0 then X else if i < 0 then X else if j < 0 then X else if m.2 15 s.toNatClampNeg < i then X else if m.2 15 o.toNatClampNeg < j then X else if (m.2 15 s.toNatClampNeg - i) < n then X else if n ≤ (m.2 15 o.toNatClampNeg - j) then Y else X) = (if (0 ≤ i.toInt ∧ 0 ≤ n.toInt ∧ i.toInt ≤ (m.2 15 s.toNatClampNeg).toInt ∧ n.toInt ≤ (m.2 15 s.toNatClampNeg).toInt - i.toInt) ∧ (0 ≤ j.toInt ∧ 0 ≤ n.toInt ∧ j.toInt ≤ (m.2 15 o.toNatClampNeg).toInt ∧ n.toInt ≤ (m.2 15 o.toNatClampNeg).toInt - j.toInt) then Y else X) := fun X Y => by
      by_cases d1 : n < 0
      · rw [if_pos d1, if_neg (fun z => by have := i_lt.mp d1; omega)]
      rw [if_neg d1]
      have e1 := i_nlt d1
      by_cases d2 : i < 0
      · rw [if_pos d2, if_neg (fun z => by have := i_lt.mp d2; omega)]
      rw [if_neg d2]
      have e2 := i_nlt d2
      by_cases d3 : j < 0
      · rw [if_pos d3, if_neg (fun z => by have := i_lt.mp d3; omega)]
      rw [if_neg d3]
      have e3 := i_nlt d3
      by_cases d4 : m.2 15 s.toNatClampNeg < i
      · rw [if_pos d4, if_neg (fun z => by have := i_lt.mp d4; omega)]
      rw [if_neg d4]
      have e4 := i_nlt d4
      by_cases d5 : m.2 15 o.toNatClampNeg < j
      · rw [if_pos d5, if_neg (fun z => by have := i_lt.mp d5; omega)]
      rw [if_neg d5]
      have e5 := i_nlt d5
      have f1 : (m.2 15 s.toNatClampNeg - i).toInt = (m.2 15 s.toNatClampNeg).toInt - i.toInt := fb_subI (by omega) (by omega)
      have f2 : (m.2 15 o.toNatClampNeg - j).toInt = (m.2 15 o.toNatClampNeg).toInt - j.toInt := fb_subI (by omega) (by omega)
      by_cases d6 : (m.2 15 s.toNatClampNeg - i) < n
      · rw [if_pos d6, if_neg (fun z => by have := i_lt.mp d6; omega)]
      rw [if_neg d6]
      have e6 := i_nlt d6
      by_cases d7 : n ≤ (m.2 15 o.toNatClampNeg - j)
      · rw [if_pos d7, if_pos (by have := i_le.mp d7; omega)]
      · rw [if_neg d7, if_neg (fun z => by have := i_nle d7; omega)]
    rw [hmod]
    rcases has_t (i := i) (n := n) gz with ⟨a0, a1⟩ | ⟨a0, a1⟩
    · rw [a0, if_neg n10]
      rcases has_t (i := j) (n := n) qz with ⟨b0, b1⟩ | ⟨b0, b1⟩
      · rw [b0, if_neg n10]
        rw [g2] at a1
        rw [q2] at b1
        rw [if_pos ⟨a1, b1⟩]
        have eS : ((40 * s) + i).toInt = 40 * s.toInt + i.toInt := by
          have e4 : (40 * s).toInt = 40 * s.toInt := mulL (k := 40) (by decide +kernel) (by omega) (by omega)
          rw [fb_addI (by omega) (by omega), e4]
        have eO : ((40 * o) + j).toInt = 40 * o.toInt + j.toInt := by
          have e4 : (40 * o).toInt = 40 * o.toInt := mulL (k := 40) (by decide +kernel) (by omega) (by omega)
          rw [fb_addI (by omega) (by omega), e4]
        obtain ⟨u1, u2, u3, u4⟩ := copy_l m n ((40 * s) + i) ((40 * o) + j) ⟨by omega, by omega⟩ ⟨by omega, by omega⟩ ⟨by omega, by omega⟩ 41 m 0 (by decide) (by omega) (by decide) rfl (fun _ _ => rfl) (fun k => by
          rw [if_neg]
          intro z
          obtain ⟨z1, z2, z3⟩ := z
          split at z3 <;> omega)
        refine ⟨u1.symm, h.sheets (fun k _ _ => congrFun u2 k) (fun k _ => congrFun (u3 3 (by decide)) k) (fun k _ => congrFun (u3 4 (by decide)) k) (fun k _ _ _ _ k16 _ => u3 k k16) (h.hs.up ⟨?_, ?_, ?_, fun k hk => ?_⟩ (fun t _ => congrFun (u3 14 (by decide)) t) (fun t _ => congrFun (u3 15 (by decide)) t) (fun t k ht ht4 hk => ?_))⟩
        · rw [u3 14 (by decide)]; exact q1
        · rw [u3 15 (by decide)]; exact q2
        · rw [u3 15 (by decide)]; exact q3
        · show va_cpy ((rw s.toNatClampNeg).2 0) ((rw o.toNatClampNeg).2 0) i.toNatClampNeg j.toNatClampNeg n.toNatClampNeg k = _
          rw [u4]
          unfold va_cpy
          have sN0 : (s.toNatClampNeg : Int) = s.toInt := by rw [tcn_i]; omega
          have oN0 : (o.toNatClampNeg : Int) = o.toInt := by rw [tcn_i]; omega
          have iN0 : (i.toNatClampNeg : Int) = i.toInt := by rw [tcn_i]; omega
          have jN0 : (j.toNatClampNeg : Int) = j.toInt := by rw [tcn_i]; omega
          have nN0 : (n.toNatClampNeg : Int) = n.toInt := by rw [tcn_i]; omega
          by_cases e : j.toNatClampNeg ≤ k ∧ k < j.toNatClampNeg + n.toNatClampNeg
          · rw [if_pos e, if_pos (by omega), g4 _ (by omega)]
            exact congrArg (m.2 16) (by omega)
          · rw [if_neg e, if_neg (by omega)]
            exact q4 k hk
        · rw [u4, if_neg]
          have oN0 : (o.toNatClampNeg : Int) = o.toInt := by rw [tcn_i]; omega
          intro z
          omega
      · rw [b0, if_pos z00]
        rw [q2] at b1
        rw [if_neg (fun z => b1 z.2)]
        exact ⟨rfl, h.stayR _⟩
    · rw [a0, if_pos z00]
      rw [g2] at a1
      rw [if_neg (fun z => a1 z.1)]
      exact ⟨rfl, h.stayR _⟩
  · rw [if_neg c5, if_neg c5]; exact ⟨rfl, h.stayR _⟩
theorem s_townBy (h : SR bb tx rw sb tn m) (s t i n : Int32) : (F_X5_townBy rw tn s t i n).1 = (F_X6_townBy m s t i n).1 ∧ SR bb tx rw sb (va_up tn 0 (F_X5_townBy rw tn s t i n).2) (F_X6_townBy m s t i n).2 := by
  unfold F_X5_townBy F_X6_townBy F_X5_isSheet
  rw [isW, isW, isW]
  by_cases c1 : F_X6_in s 0 3 = 0
  · rw [if_pos c1, if_pos c1]; exact ⟨rfl, h.stay⟩
  rw [if_neg c1, if_neg c1]
  by_cases c2 : F_X6_in t 0 2 = 0
  · rw [if_pos c2, if_pos c2]; exact ⟨rfl, h.stay⟩
  rw [if_neg c2, if_neg c2]
  by_cases c3 : F_X6_in n 0 6 = 0
  · rw [if_pos c3, if_pos c3]; exact ⟨rfl, h.stay⟩
  rw [if_neg c3, if_neg c3]
  obtain ⟨hs, hs4⟩ := sN c1
  rw [missing_eq h hs4]
  obtain ⟨g1, g2, g3, g4⟩ := h.hs _ hs4
  by_cases c4 : m.2 14 s.toNatClampNeg = -1
  · rw [if_pos c4, if_neg n10, if_pos c4]; exact ⟨rfl, h.stay⟩
  rw [if_neg c4, if_pos z00, if_neg c4, g1]
  by_cases c5 : m.2 14 s.toNatClampNeg = t
  · rw [if_pos c5, if_pos c5]
    have hn := in_f c3
    have e0 : (0 : Int32).toInt = 0 := rfl
    have e3i : (3 : Int32).toInt = 3 := rfl
    have e6 : (6 : Int32).toInt = 6 := rfl
    have hi := fb_rng i
    have k : ∀ (f : Nat) (T r : Ob) (x5 x7 : Int32), SR bb tx rw sb (va_up tn 0 T) r → 0 ≤ x7.toInt → x7.toInt ≤ 6 → 6 < x7.toInt + f → (x7.toInt = 0 ∨ 0 ≤ i.toInt) → (F_X5_townBy_l67 f rw tn s T i n x5 x7).1 = (F_X6_townBy_l64 f r s i n x5 x7).1 ∧ SR bb tx rw sb (va_up tn 0 (F_X5_townBy_l67 f rw tn s T i n x5 x7).2) (F_X6_townBy_l64 f r s i n x5 x7).2 := by
      intro f
      induction f with
      | zero => intro T r x5 x7 _ _ _ _ _; omega
      | succ f ih =>
        intro T r x5 x7 hr h0 h1 hf hz
        unfold F_X5_townBy_l67 F_X6_townBy_l64
        by_cases c : n ≤ x7
        · rw [if_pos c, if_pos c]; exact ⟨rfl, hr⟩
        rw [if_neg c, if_neg c]
        have c2' := i_nle c
        have e1 : (x7 + 1).toInt = x7.toInt + 1 := addL (k := 1) (by decide +kernel) (by omega) (by omega)
        have e3 : (3 * x7).toInt = 3 * x7.toInt := mulL (k := 3) (by decide +kernel) (by omega) (by omega)
        obtain ⟨p1, p2, p3, p4⟩ := hr.hs _ hs4
        have pz : 0 ≤ ((rw s.toNatClampNeg).1 2).toInt ∧ ((rw s.toNatClampNeg).1 2).toInt ≤ 40 := by rw [p2]; exact p3
        have es : (r.2 15 s.toNatClampNeg - 3).toInt = (r.2 15 s.toNatClampNeg).toInt - 3 := subL (k := 3) (by decide +kernel) (by omega) (by omega)
        by_cases d1 : i < 0
        · have d2 := i_lt.mp d1
          have hx0 : x7 = 0 := eq_of_toInt (k := 0) 0 rfl (hz.resolve_right (by omega))
          have ei : i + 3 * x7 = i := by
            rw [hx0]
            exact Int32.add_zero i
          rw [if_pos d1, ei]
          rcases has_t (i := i) (n := 3) pz with ⟨a0, a1⟩ | ⟨a0, a1⟩
          · omega
          · rw [a0, if_pos z00]; exact ⟨rfl, hr⟩
        rw [if_neg d1]
        have d2 := i_nlt d1
        by_cases d3 : i.toInt + 3 * x7.toInt < 2147483648
        · have ea : (i + 3 * x7).toInt = i.toInt + 3 * x7.toInt := by
            rw [fb_addI (by omega) (by omega), e3]
          rw [if_neg (show ¬ (i + 3 * x7) < i from fun z => by have := i_lt.mp z; omega)]
          rcases has_t (i := i + 3 * x7) (n := 3) pz with ⟨a0, a1⟩ | ⟨a0, a1⟩
          · rw [p2] at a1
            rw [a0, if_neg n10, if_pos (show (i + 3 * x7) ≤ (r.2 15 s.toNatClampNeg - 3) from i_le.mpr (by omega))]
            have b1 : ((i + 3 * x7) + 1).toInt = (i + 3 * x7).toInt + 1 := addL (k := 1) (by decide +kernel) (by omega) (by omega)
            have b2 : ((i + 3 * x7) + 2).toInt = (i + 3 * x7).toInt + 2 := addL (k := 2) (by decide +kernel) (by omega) (by omega)
            have f0 := i40 hs.1 hs.2 (x := i + 3 * x7) (by omega) (by omega)
            have f1 := i40 hs.1 hs.2 (x := (i + 3 * x7) + 1) (by omega) (by omega)
            have f2 := i40 hs.1 hs.2 (x := (i + 3 * x7) + 2) (by omega) (by omega)
            rw [Int32.add_assoc (40 * s) (i + 3 * x7) 1, Int32.add_assoc (40 * s) (i + 3 * x7) 2, f0, f1, f2, p4 _ (by rw [tcn_i]; omega), p4 _ (by rw [tcn_i]; omega), p4 _ (by rw [tcn_i]; omega)]
            obtain ⟨v1, v2⟩ := s_join hr (r.2 16 (40 * s.toNatClampNeg + (i + 3 * x7).toNatClampNeg)) (r.2 16 (40 * s.toNatClampNeg + ((i + 3 * x7) + 1).toNatClampNeg)) (r.2 16 (40 * s.toNatClampNeg + ((i + 3 * x7) + 2).toNatClampNeg))
            have et : (va_up tn 0 T) 0 = T := rfl
            rw [et] at v1 v2
            rw [up_up] at v2
            unfold F_X5_townBy_c128 F_X6_townBy_c142 F_X5_townBy_b137 F_X6_townBy_b153
            rw [v1]
            split
            · rw [Int32.add_zero]
              exact ih _ _ _ _ v2 (by omega) (by omega) (by omega) (Or.inr (by omega))
            · exact ih _ _ _ _ v2 (by omega) (by omega) (by omega) (Or.inr (by omega))
          · rw [p2] at a1
            rw [a0, if_pos z00, if_neg (show ¬ (i + 3 * x7) ≤ (r.2 15 s.toNatClampNeg - 3) from fun z => by have := i_le.mp z; omega)]
            exact ⟨rfl, hr⟩
        · have ea : (i + 3 * x7).toInt = i.toInt + 3 * x7.toInt - 4294967296 := by
            rw [Int32.toInt_add, e3]
            have hzu : i.toInt + 3 * x7.toInt < 2147483700 := by omega
            generalize i.toInt + 3 * x7.toInt = z at *
            show (if z % 4294967296 < (4294967296 + 1) / 2 then z % 4294967296 else z % 4294967296 - 4294967296) = _
            split <;> omega
          rw [if_pos (show (i + 3 * x7) < i from i_lt.mpr (by omega))]
          rcases has_t (i := i + 3 * x7) (n := 3) pz with ⟨a0, a1⟩ | ⟨a0, a1⟩
          · omega
          · rw [a0, if_pos z00]; exact ⟨rfl, hr⟩
    exact k 7 (tn 0) m 0 0 h.stay (by decide) (by decide) (by decide) (Or.inl rfl)
  · rw [if_neg c5, if_neg c5]; exact ⟨rfl, h.stay⟩
end CALLSC
