-- PURE: calls on the town that is now
/-- what an hour, a clock, a nerve don't touch -/
def agr (m r : Ob) : Prop := (r.1 0 = m.1 0 ∧ r.1 6 = m.1 6 ∧ r.1 9 = m.1 9 ∧ r.1 10 = m.1 10 ∧ r.1 11 = m.1 11) ∧ (r.2 1 = m.2 1 ∧ r.2 2 = m.2 2 ∧ r.2 5 = m.2 5 ∧ r.2 7 = m.2 7 ∧ r.2 8 = m.2 8) ∧ (r.2 12 = m.2 12 ∧ r.2 13 = m.2 13 ∧ r.2 14 = m.2 14 ∧ r.2 15 = m.2 15 ∧ r.2 16 = m.2 16 ∧ r.2 22 = m.2 22)
theorem IS.agr {bb : Ob} {tx : Nat → Ob} {K m r : Ob} (h : IS bb tx K m) (k : agr m r) : IS bb tx K r := by
  obtain ⟨⟨a0, a6, a9, a10, a11⟩, ⟨b1, b2, b5, b7, b8⟩, ⟨c12, c13, c14, c15, c16, c22⟩⟩ := k
  obtain ⟨h1, h2, h3⟩ := h
  unfold IS
  rw [a0, a9, a11, c12, c13]
  refine ⟨h1, h2, fun q => ?_⟩
  obtain ⟨h4, h5⟩ := h3 q
  refine ⟨h4.same ?_ ?_ b1 b2 (fun j _ => ?_) (fun j _ => ?_) b7 b8, h5⟩
  · show r.2 13 0 = m.2 13 0
    rw [c13]
  · show r.2 13 1 = m.2 13 1
    rw [c13]
  · show r.2 12 j = m.2 12 j
    rw [c12]
  · show r.2 12 (24 + j) = m.2 12 (24 + j)
    rw [c12]
theorem SR.agr {bb : Ob} {tx rw : Nat → Ob} {sb : Ob} {tn : Nat → Ob} {m r T' : Ob} (h : SR bb tx rw sb tn m) (k : agr m r) (hT : TR tx T' r) (hh : 0 ≤ (r.2 4 0).toInt ∧ (r.2 4 0).toInt ≤ 9999) : SR bb tx rw sb (va_up tn 0 T') r := by
  obtain ⟨a, b, c, d, e, f, g, i⟩ := h
  have kk := k
  obtain ⟨⟨a0, a6, a9, a10, a11⟩, ⟨b1, b2, b5, b7, b8⟩, ⟨c12, c13, c14, c15, c16, c22⟩⟩ := k
  refine ⟨hT, ?_, c.agr kk, fun s hs => ?_, ?_, fun j hj => ?_, hh, ?_⟩
  · obtain ⟨x1, x2, x3, x4⟩ := b
    unfold XS
    rw [a9, a10]
    exact ⟨x1, x2, x3, fun t t0 t1 => (x4 t t0 t1).same b7 b8⟩
  · unfold HSk
    rw [c14, c15, c16]
    exact d s hs
  · unfold PS
    rw [a6, b5]
    exact e
  · rw [c22]
    exact f j hj
  · rw [a0, b1]
    exact i
theorem agr_refl {m : Ob} : agr m m := ⟨⟨rfl, rfl, rfl, rfl, rfl⟩, ⟨rfl, rfl, rfl, rfl, rfl⟩, ⟨rfl, rfl, rfl, rfl, rfl, rfl⟩⟩
theorem agr_a3 {m : Ob} (i v : Int32) : agr m (stA m 3 i v) := ⟨⟨rfl, rfl, rfl, rfl, rfl⟩, ⟨rfl, rfl, rfl, rfl, rfl⟩, ⟨rfl, rfl, rfl, rfl, rfl, rfl⟩⟩
theorem agr_a4 {m : Ob} (i v : Int32) : agr m (stA m 4 i v) := ⟨⟨rfl, rfl, rfl, rfl, rfl⟩, ⟨rfl, rfl, rfl, rfl, rfl⟩, ⟨rfl, rfl, rfl, rfl, rfl, rfl⟩⟩
theorem agr_hK {m r : Ob} (k : hK m r) : agr m r := ⟨⟨k.1 0 (by decide) (by decide), k.1 6 (by decide) (by decide), k.1 9 (by decide) (by decide), k.1 10 (by decide) (by decide), k.1 11 (by decide) (by decide)⟩, ⟨k.2 1 (by decide) (by decide) (by decide) (by decide), k.2 2 (by decide) (by decide) (by decide) (by decide), k.2 5 (by decide) (by decide) (by decide) (by decide), k.2 7 (by decide) (by decide) (by decide) (by decide), k.2 8 (by decide) (by decide) (by decide) (by decide)⟩, ⟨k.2 12 (by decide) (by decide) (by decide) (by decide), k.2 13 (by decide) (by decide) (by decide) (by decide), k.2 14 (by decide) (by decide) (by decide) (by decide), k.2 15 (by decide) (by decide) (by decide) (by decide), k.2 16 (by decide) (by decide) (by decide) (by decide), k.2 22 (by decide) (by decide) (by decide) (by decide)⟩⟩
theorem SR.stay {bb : Ob} {tx rw : Nat → Ob} {sb : Ob} {tn : Nat → Ob} {m : Ob} (h : SR bb tx rw sb tn m) : SR bb tx rw sb (va_up tn 0 (tn 0)) m := h.agr agr_refl h.1 h.2.2.2.2.2.2.1
theorem n10 : ¬ (1 : Int32) = 0 := by decide
theorem z00 : (0 : Int32) = 0 := rfl
section CALLS1
variable {bb : Ob} {tx rw : Nat → Ob} {sb : Ob} {tn : Nat → Ob} {m : Ob}
theorem s_count (h : SR bb tx rw sb tn m) (p : Int32) : F_X5_count tn bb sb p = F_X6_count m p := by
  have t := h.1
  unfold F_X5_count F_X6_count
  rw [t.1.1, t.2.1.1, t.2.1.2.1, t.2.1.2.2, t.2.2.1.1, h.2.1.1, h.2.2.2.2.1.1]
  rfl
theorem s_clock (h : SR bb tx rw sb tn m) (p : Int32) : (F_X5_clock tn p).1 = (F_X6_clock m p).1 ∧ SR bb tx rw sb (va_up tn 0 (F_X5_clock tn p).2) (F_X6_clock m p).2 := by
  unfold F_X5_clock F_X6_clock
  rw [isW]
  by_cases c : F_X6_in p 0 9999 = 0
  · rw [if_pos c, if_pos c]
    exact ⟨rfl, h.stay⟩
  · rw [if_neg c, if_neg c]
    have k := in_f c
    have t := h.1
    refine ⟨t.2.1.1, h.agr (agr_a4 _ _) ?_ k⟩
    obtain ⟨a, b, c, d, e, f, g, i⟩ := t
    exact ⟨a, ⟨rfl, b.2.1, b.2.2⟩, c, d, e, f, g, i⟩
theorem s_asks (h : SR bb tx rw sb tn m) (p q : Int32) : F_X5_asks tx tn p q = F_X6_asks m p q := by
  unfold F_X5_asks F_X6_asks
  rw [isW]
  by_cases c : F_X6_in p 0 2 = 0
  · rw [if_pos c, if_pos c]
  rw [if_neg c, if_neg c]
  have k := in_f c
  rcases h.1.dec q with ⟨hp, e1, e2⟩ | ⟨hp, e1, e2⟩
  · rw [e1, e2, if_neg n10, if_neg n10]
    exact asks_eq h.1 k hp
  · rw [e1, e2, if_pos z00, if_pos z00]
theorem vb01 {T : Ob} {tx : Nat → Ob} (h : TR tx T m) {p : Int32} (hp : inP m p) : (m.2 3) (Int32.toNatClampNeg ((4 * p) + 3)) = 0 ∨ (m.2 3) (Int32.toNatClampNeg ((4 * p) + 3)) = 1 := by
  rw [← vow_eq h hp]
  obtain ⟨v, hv⟩ := as64 h.2.2.2.2.2.2.1.1 h.2.2.2.2.2.2.1.2
  have hk6 : p.toNatClampNeg < 6 := by rw [tcn_i]; have := h.lt hp; have := hp.1; omega
  have z := (vb_xor v ⟨0, by decide⟩ ⟨p.toNatClampNeg, hk6⟩).2.2.2
  rw [← hv] at z
  unfold vb at z
  simp only [nI_tcn hp.1] at z
  exact z
theorem isV {T : Ob} {tx : Nat → Ob} (h : TR tx T m) {p : Int32} (hp : inP m p) : F_X4_isVowed T p = (m.2 3) (Int32.toNatClampNeg ((4 * p) + 3)) := by
  unfold F_X4_isVowed
  rw [vow_eq h hp]
  rcases vb01 h hp with q | q
  · rw [q]; rfl
  · rw [q]; rfl
theorem known_eq {T : Ob} {tx : Nat → Ob} (h : TR tx T m) {p : Int32} (hp : inP m p) {q : Int32} (hq : q = 0 ∨ q = 1 ∨ q = 2 ∨ q = 3) : F_X4_known T p q = (m.2 3) (Int32.toNatClampNeg ((4 * p) + q)) := by
  obtain ⟨⟨k0, k1, k2, k3, k4, k5⟩, _⟩ := h.at hp
  obtain ⟨j0, j1, j2, j3⟩ := i4 hp.1 (h.lt hp)
  have hv := isV h hp
  have z1 := vb01 h hp
  unfold F_X4_known
  rw [if_neg (h.hasN hp), hv]
  rcases hq with rfl | rfl | rfl | rfl
  · rw [Int32.add_zero, if_pos rfl, j0, k2]
  · rw [if_neg (by decide), if_pos rfl, j1, k3]
  · rw [if_neg (by decide), if_neg (by decide), if_pos rfl, j2, k4]
  · rw [if_neg (by decide), if_neg (by decide), if_neg (by decide)]
    rcases z1 with z | z
    · rw [z]; rfl
    · rw [z]; rfl
theorem in3 {q : Int32} (c : ¬ F_X6_in q 0 3 = 0) : q = 0 ∨ q = 1 ∨ q = 2 ∨ q = 3 := by
  have k := in_f c
  have e0 : (0 : Int32).toInt = 0 := rfl
  have e3 : (3 : Int32).toInt = 3 := rfl
  rcases (show q.toInt = 0 ∨ q.toInt = 1 ∨ q.toInt = 2 ∨ q.toInt = 3 by omega) with z | z | z | z
  · exact Or.inl (eq_of_toInt 0 rfl z)
  · exact Or.inr (Or.inl (eq_of_toInt 1 rfl z))
  · exact Or.inr (Or.inr (Or.inl (eq_of_toInt 2 rfl z)))
  · exact Or.inr (Or.inr (Or.inr (eq_of_toInt 3 rfl z)))
theorem mostOf_n {q : Int32} (c : F_X6_in q 0 3 = 0) : F_X5_mostOf q = -1 := by
  unfold F_X5_mostOf
  rw [if_neg (fun z => by subst z; exact absurd c (by decide)), if_neg (fun z => by subst z; exact absurd c (by decide)), if_neg (fun z => by subst z; exact absurd c (by decide)), if_neg (fun z => by subst z; exact absurd c (by decide))]
theorem TR.row {T : Ob} {tx : Nat → Ob} (h : TR tx T m) (i : Int32) : TR tx T (stA m 3 i ((m.2 3) (Int32.toNatClampNeg i))) := h.same rfl rfl rfl rfl (fun j _ => by
  show upd (m.2 3) i.toNatClampNeg ((m.2 3) i.toNatClampNeg) j = m.2 3 j
  by_cases c : j = i.toNatClampNeg
  · rw [c, upd_s]
  · rw [upd_n _ c]) (fun j _ => rfl) rfl rfl
theorem s_put (h : SR bb tx rw sb tn m) (p q v : Int32) : (F_X5_put tn p q v).1 = (F_X6_put m p q v).1 ∧ SR bb tx rw sb (va_up tn 0 (F_X5_put tn p q v).2) (F_X6_put m p q v).2 := by
  unfold F_X5_put F_X6_put
  rcases h.1.dec p with ⟨hp, e1, e2⟩ | ⟨hp, e1, e2⟩
  · rw [e1, e2, if_neg n10, if_neg n10]
    by_cases c : F_X6_in q 0 3 = 0
    · rw [mostOf_n c, if_pos (show (-1 : Int32) < 0 by decide), if_pos c]
      exact ⟨rfl, h.stay⟩
    have hq := in3 c
    have hm : F_X5_mostOf q = F_X6_mostOf q := by rcases hq with rfl | rfl | rfl | rfl <;> rfl
    have hn : ¬ F_X6_mostOf q < 0 := by rcases hq with rfl | rfl | rfl | rfl <;> decide
    rw [hm, if_neg hn, if_neg c, isW]
    by_cases d : F_X6_in v 0 (F_X6_mostOf q) = 0
    · rw [if_pos d, if_pos d]
      exact ⟨rfl, h.stay⟩
    rw [if_neg d, if_neg d]
    refine ⟨known_eq h.1 hp hq, h.agr (agr_a3 _ _) ?_ h.2.2.2.2.2.2.1⟩
    have hv := in_f d
    have t := h.1
    show TR tx (F_X4_change (tn 0) p q v) _
    unfold F_X4_change
    rw [if_neg (t.hasN hp)]
    rcases hq with rfl | rfl | rfl | rfl
    · rw [Int32.add_zero]
      exact t.up2 hp v
    · exact t.up3 hp hv
    · exact t.up4 hp v
    · rw [if_neg (by decide), if_neg (by decide), if_neg (by decide), isV t hp]
      have e0 : (0 : Int32).toInt = 0 := rfl
      have eM : (F_X6_mostOf 3).toInt = 1 := rfl
      have v01 : v = 0 ∨ v = 1 := by
        rcases (show v.toInt = 0 ∨ v.toInt = 1 by omega) with z | z
        · exact Or.inl (eq_of_toInt 0 rfl z)
        · exact Or.inr (eq_of_toInt 1 rfl z)
      have hturn : F_X4_turnVow (tn 0) p = setS (tn 0) 5 (((tn 0).1 5) ^^^ (1 <<< (p &&& 31))) := by
        unfold F_X4_turnVow
        rw [if_neg (t.hasN hp)]
      have hrow := t.row ((4 * p) + 3)
      have htt := t.turn hp
      unfold F_X4_change_b81 F_X4_change_c86
      rw [hturn]
      rcases v01 with rfl | rfl
      · rw [if_neg (by decide)]
        rcases vb01 t hp with z | z
        · rw [z] at hrow ⊢
          rw [if_pos rfl]
          exact hrow
        · rw [z] at htt ⊢
          rw [if_neg (by decide)]
          exact htt
      · rw [if_pos rfl]
        rcases vb01 t hp with z | z
        · rw [z] at htt ⊢
          rw [if_neg (by decide)]
          exact htt
        · rw [z] at hrow ⊢
          rw [if_pos rfl]
          exact hrow
  · rw [e1, e2, if_pos z00, if_pos z00]
    exact ⟨rfl, h.stay⟩
theorem s_tells (h : SR bb tx rw sb tn m) (p q : Int32) : F_X5_tells tx tn p q = F_X6_tells m p q := by
  unfold F_X5_tells F_X6_tells
  have t := h.1
  rcases t.dec p with ⟨hp, e1, e2⟩ | ⟨hp, e1, e2⟩
  · rw [e1, e2, if_neg n10, if_neg n10, lies_eq t hp, cost_eq t hp, strokes_eq t hp, Int32.add_comm (F_X6_costsOf m p) 1000]
    obtain ⟨⟨k0, k1, k2, k3, k4, k5⟩, _⟩ := t.at hp
    rw [k0, k1]
    by_cases q0 : q = 0
    · rw [if_pos q0, if_pos q0, known_eq t hp (Or.inl q0)]
    by_cases q1 : q = 1
    · rw [if_neg q0, if_neg q0, if_pos q1, if_pos q1, known_eq t hp (Or.inr (Or.inl q1))]
    by_cases q2 : q = 2
    · rw [if_neg q0, if_neg q0, if_neg q1, if_neg q1, if_pos q2, if_pos q2, known_eq t hp (Or.inr (Or.inr (Or.inl q2)))]
    by_cases q3 : q = 3
    · rw [if_neg q0, if_neg q0, if_neg q1, if_neg q1, if_neg q2, if_neg q2, if_pos q3, if_pos q3, known_eq t hp (Or.inr (Or.inr (Or.inr q3)))]
    rw [if_neg q0, if_neg q0, if_neg q1, if_neg q1, if_neg q2, if_neg q2, if_neg q3, if_neg q3]
  · rw [e1, e2, if_pos z00, if_pos z00]
theorem s_bell (h : SR bb tx rw sb tn m) (p : Int32) : F_X5_bell tx tn p = F_X6_bell m p := by
  unfold F_X5_bell F_X6_bell
  rw [liars_eq h.1, strikes_eq h.1, vows_eq h.1, h.1.2.1.2.1]
  rfl
theorem s_strike (h : SR bb tx rw sb tn m) : (F_X5_strike tx tn).1 = (F_X6_strike m).1 ∧ SR bb tx rw sb (va_up tn 0 (F_X5_strike tx tn).2) (F_X6_strike m).2 := by
  unfold F_X5_strike F_X6_strike
  have hh := h.2.2.2.2.2.2.1
  have e9 : (9999 : Int32).toInt = 9999 := rfl
  rw [h.1.2.1.1]
  have ez : Int32.toNatClampNeg 0 = 0 := rfl
  rw [ez]
  by_cases c : m.2 4 0 < 9999
  · have c2 := i_lt.mp c
    rw [if_pos c, if_neg (fun q => by rw [q] at c2; omega)]
    obtain ⟨u1, u2, u3, u4⟩ := hour_eq h.1
    refine ⟨u1, h.agr (agr_hK (hourOf_hK m)) u2 ?_⟩
    show 0 ≤ ((F_X6_hourOf m).2.2 4 0).toInt ∧ ((F_X6_hourOf m).2.2 4 0).toInt ≤ 9999
    have k : ∀ (n : Nat) (r : Ob) (x1 x2 x3 : Int32), 6 < x3.toInt + n → r.2 4 0 = m.2 4 0 → r.1 0 = m.1 0 → 0 ≤ x3.toInt → x3.toInt ≤ 6 → (F_X6_hourOf_l13 n r x1 x2 x3).2.2 4 0 = m.2 4 0 + 1 := by
      intro n
      induction n with
      | zero => intro r x1 x2 x3 h1 _ _ _ _; omega
      | succ n ih =>
        intro r x1 x2 x3 h1 h2 h3 h4 h5
        have hp6 := h.1.1.2.2
        unfold F_X6_hourOf_l13
        rw [h3]
        by_cases d : m.1 0 ≤ x3
        · rw [if_pos d]
          show r.2 4 0 + 1 = _
          rw [h2]
        · rw [if_neg d]
          have d2 := i_nle d
          have e1 : (x3 + 1).toInt = x3.toInt + 1 := addL (k := 1) (by decide +kernel) (by omega) (by omega)
          unfold F_X6_hourOf_b87
          split
          · exact ih _ _ _ _ (by omega) h2 h3 (by omega) (by omega)
          · exact ih _ _ _ _ (by omega) h2 h3 (by omega) (by omega)
    have e : (F_X6_hourOf m).2.2 4 0 = m.2 4 0 + 1 := k 7 m _ _ 0 (by decide) rfl rfl (by decide) (by decide)
    have e1 : (m.2 4 0 + 1).toInt = (m.2 4 0).toInt + 1 := addL (k := 1) (by decide +kernel) (by omega) (by omega)
    rw [e]
    omega
  · have c2 := i_nlt c
    have e : m.2 4 0 = 9999 := Int32.toInt_inj.mp (by omega)
    rw [if_neg c, if_pos e]
    exact ⟨rfl, h.stay⟩
theorem s_taken (h : SR bb tx rw sb tn m) (p q : Int32) : F_X5_taken tn p q = F_X6_taken m p q := by
  unfold F_X5_taken F_X6_taken
  rw [isW, isW]
  by_cases c : F_X6_in q 0 6 = 0
  · rw [if_pos c, if_pos c]
  rw [if_neg c, if_neg c]
  by_cases d : F_X6_in p 0 11 = 0
  · rw [if_pos d, if_pos d]
  rw [if_neg d, if_neg d]
  have hq := in_f c
  have hp := in_f d
  have e0 : (0 : Int32).toInt = 0 := rfl
  have e6 : (6 : Int32).toInt = 6 := rfl
  have e11 : (11 : Int32).toInt = 11 := rfl
  have t := h.1
  by_cases l : p < 6
  · have l2 := i_lt.mp l
    have hm : p - p / 6 * 6 = p := by
      rcases (show p.toInt = 0 ∨ p.toInt = 1 ∨ p.toInt = 2 ∨ p.toInt = 3 ∨ p.toInt = 4 ∨ p.toInt = 5 by omega) with z | z | z | z | z | z
      · obtain rfl := eq_of_toInt 0 rfl z; decide
      · obtain rfl := eq_of_toInt 1 rfl z; decide
      · obtain rfl := eq_of_toInt 2 rfl z; decide
      · obtain rfl := eq_of_toInt 3 rfl z; decide
      · obtain rfl := eq_of_toInt 4 rfl z; decide
      · obtain rfl := eq_of_toInt 5 rfl z; decide
    rw [if_pos l, hm, if_pos l]
    unfold F_X5_taken_b37 F_X5_taken_b50
    rw [if_pos rfl, if_pos rfl]
    rcases t.dec p with ⟨hp', e1, e2⟩ | ⟨hp', e1, e2⟩
    · rw [e1, if_neg n10, if_pos (i_lt.mpr hp'.2)]
      obtain ⟨⟨k0, k1, k2, k3, k4, k5⟩, _⟩ := t.at hp'
      have hk := h.2.2.2.2.2.2.2 p.toNatClampNeg (by rw [tcn_i]; have := hp'.1; have := hp'.2; omega)
      rw [k0]
      generalize m.2 1 p.toNatClampNeg = kd at *
      rcases (show q.toInt = 0 ∨ q.toInt = 1 ∨ q.toInt = 2 ∨ q.toInt = 3 ∨ q.toInt = 4 ∨ q.toInt = 5 ∨ q.toInt = 6 by omega) with z | z | z | z | z | z | z
      all_goals rcases (show kd.toInt = 0 ∨ kd.toInt = 1 ∨ kd.toInt = 2 ∨ kd.toInt = 3 ∨ kd.toInt = 4 ∨ kd.toInt = 5 by omega) with y | y | y | y | y | y
      all_goals first
        | obtain rfl := eq_of_toInt 0 rfl z
        | obtain rfl := eq_of_toInt 1 rfl z
        | obtain rfl := eq_of_toInt 2 rfl z
        | obtain rfl := eq_of_toInt 3 rfl z
        | obtain rfl := eq_of_toInt 4 rfl z
        | obtain rfl := eq_of_toInt 5 rfl z
        | obtain rfl := eq_of_toInt 6 rfl z
      all_goals first
        | obtain rfl := eq_of_toInt 0 rfl y
        | obtain rfl := eq_of_toInt 1 rfl y
        | obtain rfl := eq_of_toInt 2 rfl y
        | obtain rfl := eq_of_toInt 3 rfl y
        | obtain rfl := eq_of_toInt 4 rfl y
        | obtain rfl := eq_of_toInt 5 rfl y
      all_goals rfl
    · rw [e1, if_pos z00, if_neg (fun z => hp' ⟨by omega, i_lt.mp z⟩)]
  · have l2 := i_nlt l
    have hs : (p - 6).toInt = p.toInt - 6 := subL (k := 6) (by decide +kernel) (by omega) (by omega)
    have hm : p - p / 6 * 6 = p - 6 := by
      rcases (show p.toInt = 6 ∨ p.toInt = 7 ∨ p.toInt = 8 ∨ p.toInt = 9 ∨ p.toInt = 10 ∨ p.toInt = 11 by omega) with z | z | z | z | z | z
      · obtain rfl := eq_of_toInt 6 rfl z; decide
      · obtain rfl := eq_of_toInt 7 rfl z; decide
      · obtain rfl := eq_of_toInt 8 rfl z; decide
      · obtain rfl := eq_of_toInt 9 rfl z; decide
      · obtain rfl := eq_of_toInt 10 rfl z; decide
      · obtain rfl := eq_of_toInt 11 rfl z; decide
    rw [if_neg l, hm, if_neg l]
    unfold F_X5_taken_b37 F_X5_taken_b50
    simp only [if_neg n10]
    rcases t.dec (p - 6) with ⟨hp', e1, e2⟩ | ⟨hp', e1, e2⟩
    · rw [e1, if_neg n10, if_pos (i_lt.mpr hp'.2)]
      obtain ⟨⟨k0, k1, k2, k3, k4, k5⟩, _⟩ := t.at hp'
      obtain ⟨j0, j1, j2, j3⟩ := i4 hp'.1 (t.lt hp')
      rw [k4, j2]
    · rw [e1, if_pos z00, if_neg (fun z => hp' ⟨by omega, i_lt.mp z⟩)]
end CALLS1
