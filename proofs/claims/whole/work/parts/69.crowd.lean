-- PURE: crowds by lots
theorem liars_in {tx : Nat → Ob} {T m : Ob} (h : TR tx T m) : 0 ≤ (F_X4_liars tx T).toInt ∧ (F_X4_liars tx T).toInt < 64 := by
  have h6 := h.1.2.2
  have k : ∀ (n : Nat) (x1 x2 : Int32), 0 ≤ x2.toInt → (0 ≤ x1.toInt ∧ x1.toInt < 64) → 0 ≤ (F_X4_liars_l4 n tx T x1 x2).toInt ∧ (F_X4_liars_l4 n tx T x1 x2).toInt < 64 := by
    intro n
    induction n with
    | zero => intro x1 x2 _ _; exact (show 0 ≤ (0 : Int32).toInt ∧ (0 : Int32).toInt < 64 by decide)
    | succ n ih =>
      intro x1 x2 h0 h1
      unfold F_X4_liars_l4
      rw [h.1.1]
      by_cases c : m.1 0 ≤ x2
      · rw [if_pos c]; exact h1
      rw [if_neg c]
      have c2 := i_nle c
      have e1 : (x2 + 1).toInt = x2.toInt + 1 := addL (k := 1) (by decide +kernel) (by omega) (by omega)
      unfold F_X4_liars_b26
      split
      · exact ih _ _ (by omega) h1
      · obtain ⟨v, hv⟩ := as64 h1.1 h1.2
        have z := or1_all v ⟨x2.toNatClampNeg, by rw [tcn_i]; omega⟩
        rw [← hv] at z
        simp only [nI_tcn h0] at z
        exact ih _ _ (by omega) z
  exact k 7 0 0 (by decide) ⟨by decide, by decide⟩
theorem ones_eq {x : Int32} (h : 0 ≤ x.toInt ∧ x.toInt < 64) : F_bitCount x = F_X6_onesOf x ∧ 0 ≤ (F_X6_onesOf x).toInt ∧ (F_X6_onesOf x).toInt < 7 := by
  obtain ⟨v, hv⟩ := as64 h.1 h.2
  rw [hv]
  exact ones_all v
theorem sM_33 {m : Ob} (v : Int32) : sM m (setS m 33 v) := ⟨fun _ _ k2 => s_ne _ k2, fun _ _ => rfl, fun _ _ => rfl, fun _ _ _ _ _ _ => rfl⟩
theorem crowd_eq {tx : Nat → Ob} {T m : Ob} (h : TR tx T m) {p q : Int32} (hp : 0 ≤ p.toInt ∧ p.toInt ≤ 1000000) (hq : q.toInt ≤ 48) (w : Int32) (tn : Nat → Ob) : (F_X5_inCrowd_c1 T tx tn p q w).1 = (if w = 0 then (F_X6_crowds m p q).1 else (F_X6_crowds m p q).2.1 33) ∧ sM m (F_X6_crowds m p q).2 := by
  have k : ∀ (n : Nat) (T r : Ob) (y : Int64) (x5 x6 x8 : Int32), TR tx T r → hK (F_X6_keeps (setS m 33 0)) r → lotOK y → r.1 33 = x8 → 0 ≤ x6.toInt → x6.toInt ≤ 48 → 48 < x6.toInt + n → (F_X5_inCrowd_l21 n tx tn T q w y x5 x8 x6).1 = (if w = 0 then (F_X6_crowds_l20 n r q y x5 x6).1 else (F_X6_crowds_l20 n r q y x5 x6).2.1 33) ∧ sM m (F_X6_crowds_l20 n r q y x5 x6).2 := by
    intro n
    induction n with
    | zero => intro T r y x5 x6 x8 _ _ _ _ _ _ _; omega
    | succ n ih =>
      intro T r y x5 x6 x8 ht hr hy h8 h0 h1 hn
      unfold F_X5_inCrowd_l21 F_X6_crowds_l20
      by_cases c : q ≤ x6
      · rw [if_pos c, if_pos c]
        refine ⟨?_, (sM_33 0).trans (sM_round hr)⟩
        unfold F_X6_crowds_c109
        have e33 : (F_X6_lays r).1 33 = r.1 33 := by rw [(lays_all r).2.2.1]
        by_cases w0 : w = 0
        · rw [if_pos w0, if_pos w0]
        · rw [if_neg w0, if_neg w0]
          exact h8.symm.trans e33.symm
      rw [if_neg c, if_neg c]
      have c2 := i_nle c
      have e1 : (x6 + 1).toInt = x6.toInt + 1 := addL (k := 1) (by decide +kernel) (by omega) (by omega)
      have hy2 := lot_next hy
      have h88 := lot_8 hy2
      obtain ⟨Y, hY⟩ : ∃ Y, Y = (y * 48271) - (y * 48271) / 2147483647 * 2147483647 := ⟨_, rfl⟩
      rw [← hY] at hy2 h88 ⊢
      obtain ⟨Z, hZ⟩ : ∃ Z, Z = Int64.toInt32 (Y - Y / 8 * 8) := ⟨_, rfl⟩
      rw [← hZ] at h88 ⊢
      clear hY hZ
      have hgo : ∀ (T2 r2 : Ob), TR tx T2 r2 → hK (F_X6_keeps (setS m 33 0)) r2 → r2.1 33 = x8 → (F_X5_inCrowd_c48 (F_X5_inCrowd_l21 n) T2 tx tn q w Y x5 x8 x6).1 = (if w = 0 then (F_X6_crowds_b77 (F_X6_crowds_l20 n) r2 q Y x5 x6).1 else (F_X6_crowds_b77 (F_X6_crowds_l20 n) r2 q Y x5 x6).2.1 33) ∧ sM m (F_X6_crowds_b77 (F_X6_crowds_l20 n) r2 q Y x5 x6).2 := fun T2 r2 ht2 hr2 h82 => by
        obtain ⟨u1, u2, u3, u4⟩ := hour_eq ht2
        have hl := liars_in ht2
        have ho := ones_eq hl
        have hk2 := hourOf_hK r2
        have e33 : (F_X6_hourOf r2).2.1 33 = r2.1 33 := by
          have k3 : ∀ (n : Nat) (r : Ob) (x1 x2 x3 : Int32), (F_X6_hourOf_l13 n r x1 x2 x3).2.1 33 = r.1 33 := by
            intro n
            induction n with
            | zero => intro r x1 x2 x3; rfl
            | succ n ih =>
              intro r x1 x2 x3
              unfold F_X6_hourOf_l13
              split
              · rfl
              · split
                · exact ih _ _ _ _
                · exact ih _ _ _ _
          exact k3 7 r2 _ _ 0
        unfold F_X5_inCrowd_c48 F_X5_inCrowd_c74 F_X6_crowds_b77 F_X6_crowds_c80
        rw [ho.1, u1, u3, e33, h82]
        obtain ⟨H, hH⟩ : ∃ H, H = F_X6_hourOf r2 := ⟨_, rfl⟩
        obtain ⟨P, hP⟩ : ∃ P, P = F_X4_passHour tx T2 (F_X4_liars tx T2) := ⟨_, rfl⟩
        rw [← hH] at u2 hk2 ⊢
        rw [← hP] at u2 ⊢
        clear hH hP u1 u3 u4 e33
        exact ih P.2 _ Y _ _ _ (u2.same rfl rfl rfl rfl (fun _ _ => rfl) (fun _ _ => rfl) rfl rfl) ((hr2.trans hk2).s33 _) hy2 rfl (by omega) (by omega) (by omega)
      have h80 := h88.1
      have h81 := h88.2
      unfold F_X4_turnVow
      rcases ht.dec Z with ⟨hz, z1, z2⟩ | ⟨hz, z1, z2⟩
      · rw [z1, if_neg n10, if_neg (show ¬ r.1 0 ≤ Z from fun e => by have := i_le.mp e; have := hz.2; omega)]
        exact hgo _ _ (ht.turn hz) (hr.a3 _ _) h8
      · rw [z1, if_pos z00, if_pos (show r.1 0 ≤ Z from i_le.mpr (by have z3 : ¬ (0 ≤ Z.toInt ∧ Z.toInt < (r.1 0).toInt) := hz; omega))]
        exact hgo _ _ ht hr h8
  unfold F_X5_inCrowd_c1 F_X6_crowds F_X6_crowds_c14
  have hm : TR tx T (setS m 33 0) := h.same rfl rfl rfl rfl (fun _ _ => rfl) (fun _ _ => rfl) rfl rfl
  exact k 49 T (F_X6_keeps (setS m 33 0)) _ 0 0 0 hm.keeps hK.refl (lot_0 hp) (by rw [(keeps_all _).2.2.1]; rfl) (by decide) (by decide) (by decide)
section CALLSA
variable {bb : Ob} {tx rw : Nat → Ob} {sb : Ob} {tn : Nat → Ob} {m : Ob}
theorem s_drawn (h : SR bb tx rw sb tn m) (p q w : Int32) : (F_X5_drawn tx tn p q w).1 = (F_X6_drawn m p q w).1 ∧ sM m (F_X6_drawn m p q w).2 := by
  unfold F_X5_drawn F_X6_drawn
  rw [isW, isW, isW]
  by_cases c1 : F_X6_in p 0 99999 = 0
  · rw [if_pos c1, if_pos c1]; exact ⟨rfl, sM.refl⟩
  rw [if_neg c1, if_neg c1]
  by_cases c2 : F_X6_in q 0 48 = 0
  · rw [if_pos c2, if_pos c2]; exact ⟨rfl, sM.refl⟩
  rw [if_neg c2, if_neg c2]
  by_cases c3 : F_X6_in w 0 1 = 0
  · rw [if_pos c3, if_pos c3]; exact ⟨rfl, sM.refl⟩
  rw [if_neg c3, if_neg c3]
  have h1 := in_f c1
  have h2 := in_f c2
  have e0 : (0 : Int32).toInt = 0 := rfl
  have e9 : (99999 : Int32).toInt = 99999 := rfl
  have e48 : (48 : Int32).toInt = 48 := rfl
  have ht := h.1.thought (tn 1)
  obtain ⟨a, b⟩ := crowd_eq ht (p := p) (q := q) ⟨by omega, by omega⟩ (by omega) w (va_up tn 1 (tn 1))
  unfold F_X5_drawn_c36 F_X5_inCrowd F_X6_drawn_c35
  have eu : va_up (va_up tn 1 (tn 1)) 1 (va_up tn 1 (tn 1) 1) = va_up tn 1 (tn 1) := up_up _ _ _ _
  rw [eu, a]
  by_cases w0 : w = 0
  · rw [if_pos w0, if_pos w0]; exact ⟨rfl, b⟩
  · rw [if_neg w0, if_neg w0]; exact ⟨rfl, b⟩
theorem s_odds (h : SR bb tx rw sb tn m) (p q l w : Int32) : (F_X5_odds tx tn p q l w).1 = (F_X6_odds m p q l w).1 ∧ sM m (F_X6_odds m p q l w).2 := by
  unfold F_X5_odds F_X6_odds
  rw [isW, isW, isW, isW]
  by_cases c1 : F_X6_in p 0 99999 = 0
  · rw [if_pos c1, if_pos c1]; exact ⟨rfl, sM.refl⟩
  rw [if_neg c1, if_neg c1]
  by_cases c2 : F_X6_in q 1 40 = 0
  · rw [if_pos c2, if_pos c2]; exact ⟨rfl, sM.refl⟩
  rw [if_neg c2, if_neg c2]
  by_cases c3 : F_X6_in l 0 9999 = 0
  · rw [if_pos c3, if_pos c3]; exact ⟨rfl, sM.refl⟩
  rw [if_neg c3, if_neg c3]
  by_cases c4 : F_X6_in w 0 1 = 0
  · rw [if_pos c4, if_pos c4]; exact ⟨rfl, sM.refl⟩
  rw [if_neg c4, if_neg c4]
  have h1 := in_f c1
  have h2 := in_f c2
  have e0 : (0 : Int32).toInt = 0 := rfl
  have e1i : (1 : Int32).toInt = 1 := rfl
  have e9 : (99999 : Int32).toInt = 99999 := rfl
  have e40 : (40 : Int32).toInt = 40 := rfl
  have k : ∀ (n : Nat) (X r : Ob) (x5 x7 : Int32) (y5 : Int64), sM m r → y5.toInt = x5.toInt → 0 ≤ x5.toInt → x5.toInt ≤ x7.toInt → 0 ≤ x7.toInt → x7.toInt ≤ 40 → (F_X5_odds_l51 n tx tn X p q l w x5 x7).1 = (F_X6_odds_l51 n r p q l w y5 x7).1 ∧ sM m (F_X6_odds_l51 n r p q l w y5 x7).2 := by
    intro n
    induction n with
    | zero => intro X r x5 x7 y5 hr _ _ _ _ _; exact ⟨rfl, hr⟩
    | succ n ih =>
      intro X r x5 x7 y5 hr hy h5 h57 h7 h74
      unfold F_X5_odds_l51 F_X6_odds_l51
      by_cases c : q ≤ x7
      · rw [if_pos c, if_pos c]
        have ey : y5 = Int32.toInt64 x5 := Int64.toInt_inj.mp (by rw [hy, i2l_toInt])
        rw [ey]
        refine ⟨lowest_eq ?_ ?_ (in01 c4), hr⟩
        · rw [i2l_toInt]; omega
        · rw [i2l_toInt]; omega
      rw [if_neg c, if_neg c]
      have d2 := i_nle c
      have e7 : (x7 + 1).toInt = x7.toInt + 1 := addL (k := 1) (by decide +kernel) (by omega) (by omega)
      have e5 : (x5 + 1).toInt = x5.toInt + 1 := addL (k := 1) (by decide +kernel) (by omega) (by omega)
      have ep : (p + x7).toInt = p.toInt + x7.toInt := fb_addI (by omega) (by omega)
      have ht : TR tx (F_X5_startThought (va_up tn 1 X)) r := (h.1.thought X).sM hr
      obtain ⟨a, b⟩ := crowd_eq ht (p := p + x7) (q := 12) ⟨by omega, by omega⟩ (by decide) 0 (va_up tn 1 X)
      rw [if_pos z00] at a
      have hb := hr.trans b
      unfold F_X5_inCrowd
      have eu : va_up (va_up tn 1 X) 1 (va_up tn 1 X 1) = va_up tn 1 X := by
        show va_up (va_up tn 1 X) 1 X = va_up tn 1 X
        exact up_up _ _ _ _
      rw [eu]
      unfold F_X5_odds_c65 F_X6_odds_c66 F_X5_odds_b75 F_X6_odds_b78
      rw [a]
      have z0 : (y5 + 0).toInt = x5.toInt := by rw [Int64.add_zero]; exact hy
      have z1 : (y5 + 1).toInt = (x5 + 1).toInt := by
        have e1 : (1 : Int64).toInt = 1 := rfl
        have q := addL64 (x := y5) (y := 1) (by rw [hy, e1]; omega)
        rw [q, hy, e1, e5]
      split
      · exact ih _ _ _ _ _ hb z0 (by omega) (by omega) (by omega) (by omega)
      · exact ih _ _ _ _ _ hb z1 (by omega) (by omega) (by omega) (by omega)
  exact k 41 (tn 1) m 0 0 0 sM.refl rfl (by decide) (by decide) (by decide) (by decide)
end CALLSA
