-- PURE: films
/-- hours and cells -/
def hF (m r : Ob) : Prop := (∀ k : Nat, k ≠ 29 → r.1 k = m.1 k) ∧ ∀ k : Nat, k ≠ 3 → k ≠ 4 → k ≠ 16 → r.2 k = m.2 k
theorem hF.a3 {m r : Ob} (h : hF m r) (i v : Int32) : hF m (stA r 3 i v) := ⟨h.1, fun k k1 k2 k3 => (sA_ne _ _ k1).trans (h.2 k k1 k2 k3)⟩
theorem hF.a4 {m r : Ob} (h : hF m r) (i v : Int32) : hF m (stA r 4 i v) := ⟨h.1, fun k k1 k2 k3 => (sA_ne _ _ k2).trans (h.2 k k1 k2 k3)⟩
theorem hF.a16 {m r : Ob} (h : hF m r) (i v : Int32) : hF m (stA r 16 i v) := ⟨h.1, fun k k1 k2 k3 => (sA_ne _ _ k3).trans (h.2 k k1 k2 k3)⟩
theorem hF.s29 {m r : Ob} (h : hF m r) (v : Int32) : hF m (setS r 29 v) := ⟨fun k k1 => (s_ne _ k1).trans (h.1 k k1), h.2⟩
theorem hF.hour {m r : Ob} (h : hF m r) : hF m (F_X6_hourOf r).2 := by
  have k : ∀ (n : Nat) (r : Ob) (x1 x2 x3 : Int32), hF m r → hF m (F_X6_hourOf_l13 n r x1 x2 x3).2 := by
    intro n
    induction n with
    | zero => intro r x1 x2 x3 h; exact h
    | succ n ih =>
      intro r x1 x2 x3 h
      unfold F_X6_hourOf_l13
      split
      · exact (((h.a4 _ _).a4 _ _).a4 _ _).s29 _
      · split
        · exact ih _ _ _ _ ((h.a3 _ _).a3 _ _)
        · exact ih _ _ _ _ h
  exact k 7 _ _ _ _ h
theorem hour16 (r : Ob) : (F_X6_hourOf r).2.2 16 = r.2 16 := (hourOf_hK r).2 16 (by decide) (by decide) (by decide) (by decide)
theorem write_ints {R : Ob} {i v : Int32} (h0 : 0 ≤ i.toInt) (h1 : i.toInt < 40) (hs : R.1 1 = 2) : F_X1_write R i v = stA R 0 i v := by
  have e0 : (0 : Int32).toInt = 0 := rfl
  have e40 : (40 : Int32).toInt = 40 := rfl
  unfold F_X1_write F_X1_write_b42
  rw [if_neg (fun z => by have := i_lt.mp z; omega), if_pos (show i < 40 from i_lt.mpr (by omega)), hs, if_neg (by decide), if_neg (by decide)]
section CALLSD
variable {bb : Ob} {tx rw : Nat → Ob} {sb : Ob} {tn : Nat → Ob} {m : Ob}
theorem s_film (h : SR bb tx rw sb tn m) (s n : Int32) : (F_X5_film tx rw tn s n).1 = (F_X6_film m s n).1 ∧ SR bb tx (va_up rw s.toNatClampNeg (F_X5_film tx rw tn s n).2.1) sb tn (F_X6_film m s n).2 := by
  unfold F_X5_film F_X6_film F_X5_isSheet
  rw [isW, isW]
  by_cases c1 : F_X6_in s 0 3 = 0
  · rw [if_pos c1, if_pos c1]; exact ⟨rfl, h.stayR _⟩
  rw [if_neg c1, if_neg c1]
  by_cases c2 : F_X6_in n 0 24 = 0
  · rw [if_pos c2, if_pos c2]; exact ⟨rfl, h.stayR _⟩
  rw [if_neg c2, if_neg c2]
  obtain ⟨hs, hs4⟩ := sN c1
  have hn := in_f c2
  have e0 : (0 : Int32).toInt = 0 := rfl
  have e24 : (24 : Int32).toInt = 24 := rfl
  have e40 : (40 : Int32).toInt = 40 := rfl
  obtain ⟨m1, hm1⟩ : ∃ m1, m1 = stA (stA m 14 s 2) 15 s n := ⟨_, rfl⟩
  have sm : TR tx (F_X5_startThought (va_up tn 1 (tn 1))) m1 := by
    rw [hm1]
    exact (h.1.thought (tn 1)).same rfl rfl rfl rfl (fun _ _ => rfl) (fun _ _ => rfl) rfl rfl
  have fin : ∀ q R : Ob, hF (F_X6_keeps m1) q → R.1 1 = 2 → R.1 2 = n → (∀ i, i < 40 → R.2 0 i = q.2 16 (40 * s.toNatClampNeg + i)) → (∀ t i, t ≠ s.toNatClampNeg → t < 4 → i < 40 → q.2 16 (40 * t + i) = m.2 16 (40 * t + i)) → SR bb tx (va_up rw s.toNatClampNeg R) sb tn (F_X6_lays q) := fun q R hq r1 r2 r3 r4 => by
    obtain ⟨l1, l2, l3, l4⟩ := lays_all q
    obtain ⟨k1, k2, k3, k4⟩ := keeps_all m1
    have e30 : q.2 30 = (F_X6_keeps m1).2 30 := hq.2 30 (by decide) (by decide) (by decide)
    have e14 : (F_X6_lays q).2 14 = m1.2 14 := (l4 14 (by decide) (by decide)).trans ((hq.2 14 (by decide) (by decide) (by decide)).trans (k4 14 (by decide)))
    have e15 : (F_X6_lays q).2 15 = m1.2 15 := (l4 15 (by decide) (by decide)).trans ((hq.2 15 (by decide) (by decide) (by decide)).trans (k4 15 (by decide)))
    have e16 : (F_X6_lays q).2 16 = q.2 16 := l4 16 (by decide) (by decide)
    have h14 : ∀ t, m1.2 14 t = upd (m.2 14) s.toNatClampNeg 2 t := fun t => by rw [hm1]; rfl
    have h15 : ∀ t, m1.2 15 t = upd (m.2 15) s.toNatClampNeg n t := fun t => by rw [hm1]; rfl
    have hb1 : m1.1 = m.1 := by rw [hm1]; rfl
    have hb3 : m1.2 3 = m.2 3 := by rw [hm1]; rfl
    have hb4 : m1.2 4 = m.2 4 := by rw [hm1]; rfl
    refine h.sheets (fun k a b => by rw [l3, hq.1 k a, k3, hb1]) (fun j hj => by rw [l1 j hj, e30, k1 j hj, hb3]) (fun j hj => by rw [l2 j hj, e30, k2 j hj, hb4]) (fun k a3 a4 a14 a15 a16 a30 => ?_) (h.hs.up ⟨?_, ?_, ?_, fun i hi => ?_⟩ (fun t ht => ?_) (fun t ht => ?_) (fun t i ht ht4 hi => ?_))
    · rw [l4 k a3 a4, hq.2 k a3 a4 a16, k4 k a30, hm1]
      exact (sA_ne _ _ a15).trans (sA_ne _ _ a14)
    · rw [e14, h14, upd_s, r1]
    · rw [e15, h15, upd_s, r2]
    · rw [e15, h15, upd_s]
      omega
    · rw [e16]; exact r3 i hi
    · rw [e14, h14, upd_n _ ht]
    · rw [e15, h15, upd_n _ ht]
    · rw [e16]; exact r4 t i ht ht4 hi
  -- the rest of the sheet is 0
  have tail : ∀ (f : Nat) (q R : Ob) (x : Int32), n.toInt ≤ x.toInt → x.toInt ≤ 40 → 40 < x.toInt + f → hF (F_X6_keeps m1) q → R.1 1 = 2 → R.1 2 = n → (∀ i, i < x.toNatClampNeg → R.2 0 i = q.2 16 (40 * s.toNatClampNeg + i)) → (∀ i : Nat, n.toInt ≤ i → i < 40 → R.2 0 i = 0) → (∀ t i, t ≠ s.toNatClampNeg → t < 4 → i < 40 → q.2 16 (40 * t + i) = m.2 16 (40 * t + i)) → (F_X6_film_l45 f q s n x).1 = n ∧ SR bb tx (va_up rw s.toNatClampNeg R) sb tn (F_X6_film_l45 f q s n x).2 := by
    intro f
    induction f with
    | zero => intro q R x _ _ hf; omega
    | succ f ih =>
      intro q R x h0 h1 hf hq r1 r2 r3 rz r4
      unfold F_X6_film_l45
      by_cases c : 40 ≤ x
      · rw [if_pos c]
        have d := i_le.mp c
        exact ⟨rfl, fin q R hq r1 r2 (fun i hi => r3 i (by rw [tcn_i]; omega)) r4⟩
      rw [if_neg c]
      have d := i_nle c
      have e1 : (x + 1).toInt = x.toInt + 1 := addL (k := 1) (by decide +kernel) (by omega) (by omega)
      rw [if_pos (show n ≤ x from i_le.mpr h0)]
      unfold F_X6_film_b74
      have ix := i40 hs.1 hs.2 (x := x) (by omega) (by omega)
      have xN : (x.toNatClampNeg : Int) = x.toInt := by rw [tcn_i]; omega
      refine ih _ R _ (by omega) (by omega) (by omega) (hq.a16 _ _) r1 r2 (fun i hi => ?_) rz (fun t i ht ht4 hi => ?_)
      · rw [tcn_add (by omega) (by omega)] at hi
        show R.2 0 i = upd (q.2 16) ((40 * s) + x).toNatClampNeg 0 (40 * s.toNatClampNeg + i)
        rw [ix]
        by_cases e : i = x.toNatClampNeg
        · rw [e, upd_s]
          exact rz _ (by omega) (by omega)
        · rw [upd_n _ (by omega)]
          exact r3 i (by omega)
      · show upd (q.2 16) ((40 * s) + x).toNatClampNeg 0 (40 * t + i) = _
        rw [ix, upd_n _ (by omega)]
        exact r4 t i ht ht4 hi
  have k : ∀ (f f2 : Nat) (T q R : Ob) (x : Int32), TR tx T q → hF (F_X6_keeps m1) q → 0 ≤ x.toInt → x.toInt ≤ n.toInt → 24 < x.toInt + f → 40 < x.toInt + f2 → R.1 1 = 2 → R.1 2 = n → (∀ i, i < x.toNatClampNeg → R.2 0 i = q.2 16 (40 * s.toNatClampNeg + i)) → (∀ i : Nat, x.toInt ≤ i → i < 40 → R.2 0 i = 0) → (∀ t i, t ≠ s.toNatClampNeg → t < 4 → i < 40 → q.2 16 (40 * t + i) = m.2 16 (40 * t + i)) → (F_X5_film_l45 f tx rw tn s R T n x).1 = n ∧ (F_X6_film_l45 f2 q s n x).1 = n ∧ SR bb tx (va_up rw s.toNatClampNeg (F_X5_film_l45 f tx rw tn s R T n x).2.1) sb tn (F_X6_film_l45 f2 q s n x).2 := by
    intro f
    induction f with
    | zero => intro f2 T q R x _ _ h0 h1 hf; omega
    | succ f ih =>
      intro f2 T q R x ht hq h0 h1 hf hf2 r1 r2 r3 rz r4
      unfold F_X5_film_l45
      by_cases c : n ≤ x
      · have d := i_le.mp c
        rw [if_pos c]
        obtain ⟨t1, t2⟩ := tail f2 q R x d (by omega) hf2 hq r1 r2 r3 (fun i hi hi4 => rz i (by omega) hi4) r4
        exact ⟨rfl, t1, t2⟩
      have d := i_nle c
      rw [if_neg c]
      obtain ⟨f2, rfl⟩ : ∃ z, f2 = z + 1 := ⟨f2 - 1, by omega⟩
      have e1 : (x + 1).toInt = x.toInt + 1 := addL (k := 1) (by decide +kernel) (by omega) (by omega)
      have es : F_X6_film_l45 (f2 + 1) q s n x = F_X6_film_c67 (F_X6_film_l45 f2) (F_X6_hourOf q) s n x ((40 * s) + x) := (if_neg (fun z => by have := i_le.mp z; omega)).trans (if_neg c)
      rw [es]
      obtain ⟨u1, u2, u3, u4⟩ := hour_eq ht
      have hq2 := hq.hour
      have h16 := hour16 q
      unfold F_X5_film_c61 F_X5_film_c64 F_X6_film_c67 F_X6_film_b74
      rw [write_ints h0 (by omega) r1, u1]
      obtain ⟨H, hH⟩ : ∃ H, H = F_X6_hourOf q := ⟨_, rfl⟩
      obtain ⟨P, hP⟩ : ∃ P, P = F_X4_passHour tx T (F_X4_liars tx T) := ⟨_, rfl⟩
      rw [← hH] at u2 hq2 h16 ⊢
      rw [← hP] at u2 ⊢
      clear hH hP u1 u3 u4
      have ix := i40 hs.1 hs.2 (x := x) h0 (by omega)
      have xN : (x.toNatClampNeg : Int) = x.toInt := by rw [tcn_i]; omega
      refine ih f2 P.2 _ (stA R 0 x H.1) _ (u2.same rfl rfl rfl rfl (fun _ _ => rfl) (fun _ _ => rfl) rfl rfl) (hq2.a16 _ _) (by omega) (by omega) (by omega) (by omega) r1 r2 (fun i hi => ?_) (fun i hi hi4 => ?_) (fun t i ht2 ht4 hi => ?_)
      · rw [tcn_add h0 (by omega)] at hi
        show upd (R.2 0) x.toNatClampNeg H.1 i = upd (H.2.2 16) ((40 * s) + x).toNatClampNeg H.1 (40 * s.toNatClampNeg + i)
        rw [ix]
        by_cases e : i = x.toNatClampNeg
        · rw [e, upd_s, upd_s]
        · rw [upd_n _ e, upd_n _ (by omega), h16]
          exact r3 i (by omega)
      · show upd (R.2 0) x.toNatClampNeg H.1 i = 0
        rw [upd_n _ (by omega)]
        exact rz i (by omega) hi4
      · show upd (H.2.2 16) ((40 * s) + x).toNatClampNeg H.1 (40 * t + i) = _
        rw [ix, upd_n _ (by omega), h16]
        exact r4 t i ht2 ht4 hi
  obtain ⟨b1, b2, b3⟩ := become_row (rw s.toNatClampNeg) 2 n
  have k16 : (F_X6_keeps m1).2 16 = m.2 16 := ((keeps_all m1).2.2.2 16 (by decide)).trans (by rw [hm1]; rfl)
  unfold F_X5_film_c33 F_X5_film_c37 F_X6_film_c40
  rw [← hm1]
  obtain ⟨z1, z2, z3⟩ := k 25 41 (F_X5_startThought (va_up tn 1 (tn 1))) (F_X6_keeps m1) (F_X1_become (rw s.toNatClampNeg) 2 n) 0 sm.keeps ⟨fun _ _ => rfl, fun _ _ _ _ => rfl⟩ (by decide) (by omega) (by decide) (by decide) b1 b2 (fun i hi => absurd hi (Nat.not_lt_zero i)) (fun i _ hi => b3 i hi) (fun t i _ _ _ => by rw [k16])
  exact ⟨z1.trans z2.symm, z3⟩
end CALLSD
