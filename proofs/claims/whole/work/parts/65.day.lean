-- PURE: the day to come
def DR (dy r : Ob) : Prop := ∀ j, j < 24 → dy.2 0 j = r.2 31 j ∧ dy.2 1 j = r.2 32 j ∧ 0 ≤ (dy.2 0 j).toInt
theorem live_eq {tx : Nat → Ob} {T m : Ob} (h : TR tx T m) (dy : Ob) : DR (F_X0_live tx dy T).1 (F_X6_tellsDay m) ∧ sM m (F_X6_tellsDay m) := by
  have k : ∀ (n : Nat) (T q dy : Ob) (x : Int32), TR tx T q → hK (F_X6_keeps m) q → 0 ≤ x.toInt → x.toInt ≤ 24 → 24 < x.toInt + n → (∀ j, j < x.toNatClampNeg → dy.2 0 j = q.2 31 j ∧ dy.2 1 j = q.2 32 j ∧ 0 ≤ (dy.2 0 j).toInt) → DR (F_X0_live_l2 n tx dy T x).1 (F_X6_tellsDay_l6 n q x) ∧ sM m (F_X6_tellsDay_l6 n q x) := by
    intro n
    induction n with
    | zero => intro T q dy x _ _ _ _ _; omega
    | succ n ih =>
      intro T q dy x ht hq h0 h1 hn hd
      have e24 : (24 : Int32).toInt = 24 := rfl
      unfold F_X0_live_l2 F_X6_tellsDay_l6
      by_cases c : 24 ≤ x
      · rw [if_pos c, if_pos c]
        have c2 := i_le.mp c
        refine ⟨fun j hj => ?_, sM_round hq⟩
        have z := hd j (by rw [tcn_i]; omega)
        show dy.2 0 j = (F_X6_lays q).2 31 j ∧ dy.2 1 j = (F_X6_lays q).2 32 j ∧ _
        rw [(lays_all q).2.2.2 31 (by decide) (by decide), (lays_all q).2.2.2 32 (by decide) (by decide)]
        exact z
      rw [if_neg c, if_neg c]
      have c2 := i_nle c
      have e1 : (x + 1).toInt = x.toInt + 1 := addL (k := 1) (by decide +kernel) (by omega) (by omega)
      obtain ⟨u1, u2, u3, u4⟩ := hour_eq ht
      have el : (stA dy 1 x (F_X4_liars tx T)).2 1 (Int32.toNatClampNeg x) = F_X4_liars tx T := upd_s _
      rw [el]
      unfold F_X0_live_c30 F_X6_tellsDay_c18
      have hq2 : hK (F_X6_keeps m) (F_X6_hourOf q).2 := hq.trans (hourOf_hK q)
      have e31 : ∀ j, j < x.toNatClampNeg → (F_X6_hourOf q).2.2 31 j = q.2 31 j ∧ (F_X6_hourOf q).2.2 32 j = q.2 32 j := fun j hj => by
        have k3 : ∀ (n : Nat) (r : Ob) (x1 x2 x3 : Int32), (F_X6_hourOf_l13 n r x1 x2 x3).2.2 31 = r.2 31 ∧ (F_X6_hourOf_l13 n r x1 x2 x3).2.2 32 = r.2 32 := by
          intro n
          induction n with
          | zero => intro r x1 x2 x3; exact ⟨rfl, rfl⟩
          | succ n ih =>
            intro r x1 x2 x3
            unfold F_X6_hourOf_l13
            split
            · exact ⟨rfl, rfl⟩
            · split
              · exact ih _ _ _ _
              · exact ih _ _ _ _
        have z := k3 7 q (F_X6_liars q) (F_X6_strikesBy q (F_X6_liars q)) 0
        exact ⟨congrFun z.1 j, congrFun z.2 j⟩
      rw [u1]
      obtain ⟨H, hH⟩ : ∃ H, H = F_X6_hourOf q := ⟨_, rfl⟩
      obtain ⟨P, hP⟩ : ∃ P, P = F_X4_passHour tx T (F_X4_liars tx T) := ⟨_, rfl⟩
      rw [← hH] at u2 u3 u4 hq2 e31 ⊢
      rw [← hP] at u2 ⊢
      clear hH hP u1
      refine ih P.2 _ _ _ (u2.same rfl rfl rfl rfl (fun _ _ => rfl) (fun _ _ => rfl) rfl rfl) ((hq2.a31 _ _).a32 _ _) (by omega) (by omega) (by omega) (fun j hj => ?_)
      rw [tcn_add h0 (by omega)] at hj
      show upd (dy.2 0) x.toNatClampNeg H.1 j = upd (H.2.2 31) x.toNatClampNeg H.1 j ∧ upd (dy.2 1) x.toNatClampNeg (F_X4_liars tx T) j = upd (H.2.2 32) x.toNatClampNeg (H.2.1 29) j ∧ 0 ≤ (upd (dy.2 0) x.toNatClampNeg H.1 j).toInt
      by_cases e : j = x.toNatClampNeg
      · rw [e, upd_s, upd_s, upd_s, upd_s, u3]
        exact ⟨rfl, rfl, u4.1⟩
      · have hj2 : j < x.toNatClampNeg := by omega
        rw [upd_n _ e, upd_n _ e, upd_n _ e, upd_n _ e, (e31 j hj2).1, (e31 j hj2).2]
        exact hd j hj2
  unfold F_X0_live F_X6_tellsDay F_X6_tellsDay_c1
  exact k 25 T (F_X6_keeps m) dy 0 h.keeps hK.refl (by decide) (by decide) (by decide) (fun j hj => absurd hj (Nat.not_lt_zero j))
section DAYS
variable {dy r : Ob}
theorem DR.at0 (h : DR dy r) {x : Int32} (h0 : 0 ≤ x.toInt) (h1 : x.toInt < 24) : (dy.2 0) (Int32.toNatClampNeg x) = (r.2 31) (Int32.toNatClampNeg x) := (h _ (by rw [tcn_i]; omega)).1
theorem DR.at1 (h : DR dy r) {x : Int32} (h0 : 0 ≤ x.toInt) (h1 : x.toInt < 24) : (dy.2 1) (Int32.toNatClampNeg x) = (r.2 32) (Int32.toNatClampNeg x) := (h _ (by rw [tcn_i]; omega)).2.1
theorem alike_eq (h : DR dy r) {y : Int32} (y0 : 0 ≤ y.toInt) (y1 : y.toInt < 24) : F_X0_hoursOf dy ((dy.2 0) (Int32.toNatClampNeg y)) = F_X6_alikeWith r y := by
  rw [h.at0 y0 y1]
  have k : ∀ (n : Nat) (x2 x3 : Int32), 0 ≤ x3.toInt → F_X0_hoursOf_l4 n dy ((r.2 31) (Int32.toNatClampNeg y)) x2 x3 = F_X6_alikeWith_l4 n r y x2 x3 := by
    intro n
    induction n with
    | zero => intro x2 x3 _; rfl
    | succ n ih =>
      intro x2 x3 h0
      have e24 : (24 : Int32).toInt = 24 := rfl
      unfold F_X0_hoursOf_l4 F_X6_alikeWith_l4
      by_cases c : 24 ≤ x3
      · rw [if_pos c, if_pos c]
      rw [if_neg c, if_neg c]
      have c2 := i_nle c
      have e1 : (x3 + 1).toInt = x3.toInt + 1 := addL (k := 1) (by decide +kernel) (by omega) (by omega)
      rw [h.at0 h0 (by omega)]
      unfold F_X0_hoursOf_b23 F_X6_alikeWith_b31
      split
      · exact ih _ _ (by omega)
      · rw [Int32.add_zero]
        exact ih _ _ (by omega)
  exact k 25 0 0 (by decide)
theorem alone_eq (h : DR dy r) : F_X0_hoursAlone dy = F_X6_alone r := by
  have k : ∀ (n : Nat) (x1 x2 : Int32), 0 ≤ x2.toInt → F_X0_hoursAlone_l4 n dy x1 x2 = F_X6_alone_l4 n r x1 x2 := by
    intro n
    induction n with
    | zero => intro x1 x2 _; rfl
    | succ n ih =>
      intro x1 x2 h0
      have e24 : (24 : Int32).toInt = 24 := rfl
      unfold F_X0_hoursAlone_l4 F_X6_alone_l4
      by_cases c : 24 ≤ x2
      · rw [if_pos c, if_pos c]
      rw [if_neg c, if_neg c]
      have c2 := i_nle c
      have e1 : (x2 + 1).toInt = x2.toInt + 1 := addL (k := 1) (by decide +kernel) (by omega) (by omega)
      rw [alike_eq h h0 (by omega)]
      unfold F_X0_hoursAlone_b27 F_X6_alone_b25
      split
      · exact ih _ _ (by omega)
      · rw [Int32.add_zero]
        exact ih _ _ (by omega)
  exact k 25 0 0 (by decide)
theorem silent_eq (h : DR dy r) : F_X0_hoursOf dy 0 = F_X6_silent r := by
  have k : ∀ (n : Nat) (x2 x3 : Int32), 0 ≤ x3.toInt → F_X0_hoursOf_l4 n dy 0 x2 x3 = F_X6_silent_l4 n r x2 x3 := by
    intro n
    induction n with
    | zero => intro x2 x3 _; rfl
    | succ n ih =>
      intro x2 x3 h0
      have e24 : (24 : Int32).toInt = 24 := rfl
      unfold F_X0_hoursOf_l4 F_X6_silent_l4
      by_cases c : 24 ≤ x3
      · rw [if_pos c, if_pos c]
      rw [if_neg c, if_neg c]
      have c2 := i_nle c
      have e1 : (x3 + 1).toInt = x3.toInt + 1 := addL (k := 1) (by decide +kernel) (by omega) (by omega)
      rw [h.at0 h0 (by omega)]
      unfold F_X0_hoursOf_b23 F_X6_silent_b25
      split
      · exact ih _ _ (by omega)
      · rw [Int32.add_zero]
        exact ih _ _ (by omega)
  exact k 25 0 0 (by decide)
theorem row_eq (h : DR dy r) : F_X0_longestRow dy = F_X6_longestRow r := by
  have k : ∀ (n : Nat) (x1 x2 x3 : Int32), 1 ≤ x3.toInt → F_X0_longestRow_l6 n dy x1 x2 x3 = F_X6_longestRow_l6 n r x1 x2 x3 := by
    intro n
    induction n with
    | zero => intro x1 x2 x3 _; rfl
    | succ n ih =>
      intro x1 x2 x3 h0
      have e24 : (24 : Int32).toInt = 24 := rfl
      have e0 : (0 : Int32).toInt = 0 := rfl
      unfold F_X0_longestRow_l6 F_X6_longestRow_l6
      by_cases c : 24 ≤ x3
      · rw [if_pos c, if_pos c]
      rw [if_neg c, if_neg c]
      have c2 := i_nle c
      have e1 : (x3 + 1).toInt = x3.toInt + 1 := addL (k := 1) (by decide +kernel) (by omega) (by omega)
      have e2 : (x3 - 1).toInt = x3.toInt - 1 := subL (k := 1) (by decide +kernel) (by omega) (by omega)
      rw [h.at0 (by omega) (by omega), h.at0 (x := x3 - 1) (by omega) (by omega), if_neg (show ¬ x3 ≤ 0 from fun z => by have := i_le.mp z; omega)]
      have hj : ∀ a b : Int32, jmax a b = (if b ≤ a then a else b) := fun a b => by
        unfold jmax
        simp only [i_lt, i_le]
        by_cases q : a.toInt < b.toInt
        · rw [if_pos q, if_neg (by omega)]
        · rw [if_neg q, if_pos (by omega)]
      have hgo : ∀ z : Int32, F_X0_longestRow_b36 (F_X0_longestRow_l6 n) dy x1 x3 z = F_X6_longestRow_b64 (F_X6_longestRow_l6 n) r x1 x3 z := fun z => by
        unfold F_X0_longestRow_b36 F_X6_longestRow_b64 F_X6_longestRow_b75
        rw [hj]
        split
        · exact ih _ _ _ (by omega)
        · exact ih _ _ _ (by omega)
      unfold F_X6_longestRow_b21 F_X6_longestRow_b50 F_X6_longestRow_b52
      rw [if_neg n10]
      split
      · rw [if_neg n10]
        exact hgo _
      · rw [if_pos z00]
        exact hgo _
  have e : F_X6_longestRow r = F_X6_longestRow_l6 24 r 1 1 1 := by
    unfold F_X6_longestRow
    rw [F_X6_longestRow_l6, if_neg (show ¬ (24 : Int32) ≤ 0 by decide), if_pos (show (0 : Int32) ≤ 0 by decide)]
    unfold F_X6_longestRow_b21
    rw [if_pos z00]
    unfold F_X6_longestRow_b52
    rw [if_pos z00]
    unfold F_X6_longestRow_b64
    rw [if_neg (show ¬ (1 : Int32) ≤ 0 by decide)]
    rfl
  rw [e]
  exact k 24 1 1 1 (by decide)
/-- the first of the hours that strike most -/
theorem most_eq (h : DR dy r) : F_X0_mostStrikes dy = (r.2 31) (Int32.toNatClampNeg (F_X6_mostHour r)) ∧ F_X0_firstOf dy (F_X0_mostStrikes dy) = F_X6_mostHour r := by
  have e24 : (24 : Int32).toInt = 24 := rfl
  let S : Int32 → Int := fun x => ((r.2 31) (Int32.toNatClampNeg x)).toInt
  have k : ∀ (n : Nat) (x1 b x2 : Int32), 1 ≤ x2.toInt → x2.toInt ≤ 24 → 24 < x2.toInt + n → 0 ≤ b.toInt → b.toInt < x2.toInt → x1 = (r.2 31) (Int32.toNatClampNeg b) → (∀ j : Int32, 0 ≤ j.toInt → j.toInt < x2.toInt → S j ≤ S b) → (∀ j : Int32, 0 ≤ j.toInt → j.toInt < b.toInt → S j < S b) → F_X0_mostStrikes_l4 n dy x1 x2 = (r.2 31) (Int32.toNatClampNeg (F_X6_mostHour_l4 n r b x2)) ∧ (0 ≤ (F_X6_mostHour_l4 n r b x2).toInt ∧ (F_X6_mostHour_l4 n r b x2).toInt < 24) ∧ (∀ j : Int32, 0 ≤ j.toInt → j.toInt < (F_X6_mostHour_l4 n r b x2).toInt → S j < S (F_X6_mostHour_l4 n r b x2)) := by
    intro n
    induction n with
    | zero => intro x1 b x2 _ _ _; omega
    | succ n ih =>
      intro x1 b x2 h0 h1 hn b0 b1 hx hA hB
      unfold F_X0_mostStrikes_l4 F_X6_mostHour_l4
      by_cases c : 24 ≤ x2
      · rw [if_pos c, if_pos c]
        exact ⟨hx, ⟨b0, by omega⟩, hB⟩
      rw [if_neg c, if_neg c]
      have c2 := i_nle c
      have e1 : (x2 + 1).toInt = x2.toInt + 1 := addL (k := 1) (by decide +kernel) (by omega) (by omega)
      rw [h.at0 (x := x2) (by omega) (by omega), hx]
      unfold F_X6_mostHour_b30 jmax
      by_cases d : (r.2 31) (Int32.toNatClampNeg x2) ≤ (r.2 31) (Int32.toNatClampNeg b)
      · have d2 : S x2 ≤ S b := i_le.mp d
        rw [if_pos d, if_neg (show ¬ (r.2 31) (Int32.toNatClampNeg b) < (r.2 31) (Int32.toNatClampNeg x2) from fun z => by have z2 : S b < S x2 := i_lt.mp z; omega)]
        refine ih _ _ _ (by omega) (by omega) (by omega) b0 (by omega) rfl (fun j j0 j1 => ?_) hB
        by_cases q : j.toInt < x2.toInt
        · exact hA j j0 q
        · have ej : j = x2 := Int32.toInt_inj.mp (by omega)
          rw [ej]
          exact d2
      · have d2 : S b < S x2 := i_nle d
        rw [if_neg d, if_pos (i_lt.mpr d2)]
        refine ih _ _ _ (by omega) (by omega) (by omega) (by omega) (by omega) rfl (fun j j0 j1 => ?_) (fun j j0 j1 => ?_)
        · by_cases q : j.toInt < x2.toInt
          · have := hA j j0 q
            omega
          · have ej : j = x2 := Int32.toInt_inj.mp (by omega)
            rw [ej]
            exact Int.le_refl _
        · have := hA j j0 j1
          omega
  have hz : ((r.2 31) (Int32.toNatClampNeg 0)).toInt ≥ 0 := by
    have z := h 0 (by decide)
    rw [z.1] at z
    exact z.2.2
  have hs : F_X0_mostStrikes dy = F_X0_mostStrikes_l4 24 dy ((r.2 31) (Int32.toNatClampNeg 0)) 1 := by
    have e : F_X0_mostStrikes dy = F_X0_mostStrikes_l4 24 dy (jmax 0 ((dy.2 0) (Int32.toNatClampNeg 0))) 1 := by
      unfold F_X0_mostStrikes
      rw [F_X0_mostStrikes_l4, if_neg (show ¬ (24 : Int32) ≤ 0 by decide)]
      rfl
    rw [e, h.at0 (x := 0) (by decide) (by decide)]
    congr 1
    unfold jmax
    by_cases q : (0 : Int32) < (r.2 31) (Int32.toNatClampNeg 0)
    · rw [if_pos q]
    · rw [if_neg q]
      have q2 := i_nlt q
      have e0 : (0 : Int32).toInt = 0 := rfl
      exact Int32.toInt_inj.mp (by omega)
  obtain ⟨a1, a2, a3⟩ := k 24 ((r.2 31) (Int32.toNatClampNeg 0)) 0 1 (by decide) (by decide) (by decide) (by decide) (by decide) rfl (fun j j0 j1 => by
    have e1 : (1 : Int32).toInt = 1 := rfl
    have ej : j = 0 := eq_of_toInt (k := 0) 0 rfl (by omega)
    rw [ej]
    exact Int.le_refl _) (fun j j0 j1 => by
    have e0 : (0 : Int32).toInt = 0 := rfl
    omega)
  have em : F_X6_mostHour r = F_X6_mostHour_l4 24 r 0 1 := rfl
  rw [hs, em, a1]
  refine ⟨rfl, ?_⟩
  obtain ⟨M, hM⟩ : ∃ M, M = F_X6_mostHour_l4 24 r 0 1 := ⟨_, rfl⟩
  rw [← hM] at a2 a3 ⊢
  clear hM a1 em
  have k2 : ∀ (n : Nat) (x2 : Int32), 0 ≤ x2.toInt → x2.toInt ≤ M.toInt → M.toInt < x2.toInt + n → F_X0_firstOf_l2 n dy ((r.2 31) (Int32.toNatClampNeg M)) x2 = M := by
    intro n
    induction n with
    | zero => intro x2 _ _ _; omega
    | succ n ih =>
      intro x2 h0 h1 hn
      unfold F_X0_firstOf_l2
      rw [if_neg (show ¬ 24 ≤ x2 from fun z => by have := i_le.mp z; omega), h.at0 h0 (by omega)]
      have e1 : (x2 + 1).toInt = x2.toInt + 1 := addL (k := 1) (by decide +kernel) (by omega) (by omega)
      by_cases q : x2.toInt = M.toInt
      · have ex : x2 = M := Int32.toInt_inj.mp q
        rw [ex, if_pos rfl]
      · have z := a3 x2 h0 (by omega)
        rw [if_neg (fun e => by
          have e2 : S x2 = S M := congrArg Int32.toInt e
          omega)]
        exact ih _ (by omega) (by omega) (by omega)
  exact k2 25 0 (by decide) a2.1 (by have e0 : (0 : Int32).toInt = 0 := rfl; omega)
end DAYS
