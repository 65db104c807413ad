-- PURE: two who lie together; councils; shares; bytes
section CALLS9
variable {bb : Ob} {tx rw : Nat → Ob} {sb : Ob} {tn : Nat → Ob} {m : Ob}
theorem both_l {dy r : Ob} (hd : DR dy r) {K23 : Ob → Int32 → Int32 → Int32 → Int32 → Int32 × Ob} {K38 : Ob → Int32 → Int32 → Int32 → Int32 → Int32 → Int32 × Ob} {x1 x2 x3 x4 x5 : Int32} : ∀ (n : Nat) (x6 x7 : Int32), 0 ≤ x7.toInt → 24 < x7.toInt + n → F_X6_pair_l53 n K23 K38 r x1 x2 x3 x4 x5 x6 x7 = (if F_X0_hoursOfBoth_l5 n dy x4 x5 x6 x7 ≤ x3 then F_X6_pair_b112 K23 K38 r x1 x3 x4 x5 (F_X0_hoursOfBoth_l5 n dy x4 x5 x6 x7) x2 else F_X6_pair_b112 K23 K38 r x1 x3 x4 x5 (F_X0_hoursOfBoth_l5 n dy x4 x5 x6 x7) ((10 * x4) + x5)) ∨ 24 < x7.toInt := by
  intro n
  induction n with
  | zero => intro x6 x7 h0 hn; exact Or.inr (by omega)
  | succ n ih =>
    intro x6 x7 h0 hn
    have e24 : (24 : Int32).toInt = 24 := rfl
    unfold F_X6_pair_l53 F_X0_hoursOfBoth_l5
    by_cases c : 24 ≤ x7
    · simp only [if_pos c]
      exact Or.inl trivial
    have c2 := i_nle c
    have e1 : (x7 + 1).toInt = x7.toInt + 1 := addL (k := 1) (by decide +kernel) (by omega) (by omega)
    simp only [if_neg c]
    rw [hd.at1 h0 (by omega)]
    rcases ih (x6 + (((((r.2 32) (Int32.toNatClampNeg x7)) >>> (x4 &&& 31)) &&& (((r.2 32) (Int32.toNatClampNeg x7)) >>> (x5 &&& 31))) &&& 1)) (x7 + 1) (by omega) (by omega) with z | z
    · exact Or.inl z
    · omega
theorem s_pair (h : SR bb tx rw sb tn m) (dy : Ob) (p : Int32) : (F_X5_pair tx tn dy p).1 = (F_X6_pair m p).1 ∧ sM m (F_X6_pair m p).2 := by
  unfold F_X5_pair F_X6_pair
  rw [isW]
  by_cases c : F_X6_in p 0 1 = 0
  · rw [if_pos c, if_pos c]
    exact ⟨rfl, sM.refl⟩
  rw [if_neg c, if_neg c]
  obtain ⟨d, s⟩ := live_eq (h.1.thought (tn 1)) dy
  unfold F_X5_pair_c17 F_X5_pair_c20 F_X6_pair_c13
  obtain ⟨L, hL⟩ : ∃ L, L = F_X0_live tx dy (F_X5_startThought (va_up tn 1 (tn 1))) := ⟨_, rfl⟩
  obtain ⟨r, hr⟩ : ∃ r, r = F_X6_tellsDay m := ⟨_, rfl⟩
  rw [← hL, ← hr] at d
  rw [← hr] at s
  rw [← hL, ← hr]
  clear hL hr
  have e0 : r.1 0 = m.1 0 := s.1 0 (by decide) (by decide)
  have k2 : ∀ (K30 : (Nat → Ob) → (Nat → Ob) → Ob → Ob → Int32 → Int32 → Int32 → Int32 → Int32 × Ob × Ob) (K23 : Ob → Int32 → Int32 → Int32 → Int32 → Int32 × Ob) (x4 : Int32), (∀ a b : Int32, (K30 tx tn L.1 L.2 p a b (x4 + 1)).1 = (K23 r p a b (x4 + 1)).1 ∧ (K23 r p a b (x4 + 1)).2 = r) → ∀ (n : Nat) (x2 x3 x5 : Int32), 0 ≤ x5.toInt → (F_X5_pair_l48 n K30 tx tn L.1 L.2 p x2 x3 x4 x5).1 = (F_X6_pair_l38 n K23 r p x2 x3 x4 x5).1 ∧ (F_X6_pair_l38 n K23 r p x2 x3 x4 x5).2 = r := by
    intro K30 K23 x4 hK n
    induction n with
    | zero => intro x2 x3 x5 _; exact ⟨rfl, rfl⟩
    | succ n ih =>
      intro x2 x3 x5 h0
      have e6 := h.1.1.2.2
      unfold F_X5_pair_l48 F_X6_pair_l38
      rw [h.1.1.1, e0]
      by_cases d5 : m.1 0 ≤ x5
      · rw [if_pos d5, if_pos d5]
        exact hK _ _
      rw [if_neg d5, if_neg d5]
      have d6 := i_nle d5
      have e1 : (x5 + 1).toInt = x5.toInt + 1 := addL (k := 1) (by decide +kernel) (by omega) (by omega)
      have hb := (both_l d (K23 := K23) (K38 := F_X6_pair_l38 n K23) (x1 := p) (x2 := x2) (x3 := x3) (x4 := x4) (x5 := x5) 25 0 0 (by decide) (by decide)).resolve_right (by decide)
      rw [hb]
      have hv : F_X0_hoursOfBoth L.1 x4 x5 = F_X0_hoursOfBoth_l5 25 L.1 x4 x5 0 0 := rfl
      rw [hv]
      unfold F_X5_pair_b91 F_X6_pair_b112 F_X6_pair_b125
      split
      · exact ih _ _ _ (by omega)
      · exact ih _ _ _ (by omega)
  have k1 : ∀ (n : Nat) (x2 x3 x4 : Int32), 0 ≤ x4.toInt → (F_X5_pair_l30 n tx tn L.1 L.2 p x2 x3 x4).1 = (F_X6_pair_l23 n r p x2 x3 x4).1 ∧ (F_X6_pair_l23 n r p x2 x3 x4).2 = r := by
    intro n
    induction n with
    | zero => intro x2 x3 x4 _; exact ⟨rfl, rfl⟩
    | succ n ih =>
      intro x2 x3 x4 h0
      have e6 := h.1.1.2.2
      unfold F_X5_pair_l30 F_X6_pair_l23
      rw [h.1.1.1, e0]
      by_cases d5 : m.1 0 ≤ x4
      · rw [if_pos d5, if_pos d5]
        split
        · exact ⟨rfl, rfl⟩
        · exact ⟨rfl, rfl⟩
      rw [if_neg d5, if_neg d5]
      have d6 := i_nle d5
      have e1 : (x4 + 1).toInt = x4.toInt + 1 := addL (k := 1) (by decide +kernel) (by omega) (by omega)
      exact k2 _ _ x4 (fun a b => ih a b (x4 + 1) (by omega)) 8 x2 x3 (x4 + 1) (by omega)
  obtain ⟨a, b⟩ := k1 7 (-1) (-1) 0 (by decide)
  exact ⟨a, by rw [b]; exact s⟩
theorem s_share (h : SR bb tx rw sb tn m) (p q : Int32) : F_X5_share tn p q = F_X6_share m p q := by
  have t := h.1
  have h6 := t.1.2.2
  have e0 : (0 : Int32).toInt = 0 := rfl
  unfold F_X5_share F_X6_share
  rw [isW]
  -- the sum, and what follows it
  have k : ∀ (n : Nat) (x3 x4 : Int32), 0 ≤ x4.toInt → x4.toInt ≤ 6 → 0 ≤ x3.toInt → x3.toInt ≤ 9999 * x4.toInt → 6 < x4.toInt + n → (if F_X4_has (tn 0) p = 0 then (-4611686018427387904) else if F_X6_in q 0 1 = 0 then (-4611686018427387904) else F_X5_share_l29 n tn p q x3 x4) = F_X6_share_l5 n m p q x3 x4 := by
    intro n
    induction n with
    | zero => intro x3 x4 _ _ _ _ _; omega
    | succ n ih =>
      intro x3 x4 h0 h1 h2 h3 hn
      unfold F_X5_share_l29 F_X6_share_l5
      rw [t.1.1]
      by_cases c : m.1 0 ≤ x4
      · rw [if_pos c, if_pos c]
        rcases t.dec p with ⟨hp, e1, e2⟩ | ⟨hp, e1, e2⟩
        · rw [e1, e2, if_neg n10, if_neg n10]
          by_cases d : F_X6_in q 0 1 = 0
          · rw [if_pos d, if_pos d]
          rw [if_neg d, if_neg d]
          by_cases g : x3 = 0
          · rw [if_pos g, if_pos (by rw [g]; exact Int32.le_refl _)]
          · have g2 : x3.toInt ≠ 0 := fun z => g (eq_of_toInt (k := 0) 0 rfl z)
            rw [if_neg g, if_neg (show ¬ x3 ≤ 0 from fun z => by have := i_le.mp z; omega), known_eq t hp (Or.inr (Or.inl rfl))]
            obtain ⟨_, v1, v2⟩ := t.at hp
            obtain ⟨j0, j1, j2, j3⟩ := i4 hp.1 (t.lt hp)
            refine lowest_eq ?_ ?_ (in01 d)
            · rw [i2l_toInt, j1]
              omega
            · rw [i2l_toInt]
              omega
        · rw [e1, e2, if_pos z00, if_pos z00]
      rw [if_neg c, if_neg c]
      have c2 := i_nle c
      have hi : inP m x4 := ⟨h0, c2⟩
      have e1 : (x4 + 1).toInt = x4.toInt + 1 := addL (k := 1) (by decide +kernel) (by omega) (by omega)
      rw [known_eq t hi (Or.inr (Or.inl rfl))]
      obtain ⟨_, v1, v2⟩ := t.at hi
      obtain ⟨j0, j1, j2, j3⟩ := i4 hi.1 (t.lt hi)
      have e2 : (x3 + (m.2 3) (Int32.toNatClampNeg ((4 * x4) + 1))).toInt = x3.toInt + ((m.2 3) (Int32.toNatClampNeg ((4 * x4) + 1))).toInt := fb_addI (by rw [j1]; omega) (by rw [j1]; omega)
      exact ih _ _ (by omega) (by omega) (by rw [e2, j1]; omega) (by rw [e2, j1]; omega) (by omega)
  exact k 7 0 0 (by decide) (by decide) (by decide) (by decide) (by decide)
theorem isB (a : Int32) : F_X5_isByte a = F_X6_isByte a := rfl
theorem s_feed (h : SR bb tx rw sb tn m) (n a b c d e : Int32) : (F_X5_feed sb n a b c d e).1 = (F_X6_feed m n a b c d e).1 ∧ SR bb tx rw (F_X5_feed sb n a b c d e).2 tn (F_X6_feed m n a b c d e).2 := by
  have hP := h.2.2.2.2.1
  unfold F_X5_feed F_X6_feed
  rw [isW, isB a, isB b, isB c, isB d, isB e, hP.1]
  by_cases c1 : F_X6_in n 1 5 = 0
  · rw [if_pos c1, if_pos c1]; exact ⟨rfl, h⟩
  rw [if_neg c1, if_neg c1]
  by_cases c2 : F_X6_isByte a = 0
  · rw [if_pos c2, if_pos c2]; exact ⟨rfl, h⟩
  rw [if_neg c2, if_neg c2]
  by_cases c3 : F_X6_isByte b = 0
  · rw [if_pos c3, if_pos c3]; exact ⟨rfl, h⟩
  rw [if_neg c3, if_neg c3]
  by_cases c4 : F_X6_isByte c = 0
  · rw [if_pos c4, if_pos c4]; exact ⟨rfl, h⟩
  rw [if_neg c4, if_neg c4]
  by_cases c5 : F_X6_isByte d = 0
  · rw [if_pos c5, if_pos c5]; exact ⟨rfl, h⟩
  rw [if_neg c5, if_neg c5]
  by_cases c6 : F_X6_isByte e = 0
  · rw [if_pos c6, if_pos c6]; exact ⟨rfl, h⟩
  rw [if_neg c6, if_neg c6]
  by_cases c7n : ¬ m.1 6 + n ≤ 160
  · rw [if_neg c7n, if_neg c7n]; exact ⟨rfl, h⟩
  have c7 := Classical.not_not.mp c7n
  rw [if_pos c7, if_pos c7]
  have hn := in_f c1
  have e1i : (1 : Int32).toInt = 1 := rfl
  have e5i : (5 : Int32).toInt = 5 := rfl
  have e160 : (160 : Int32).toInt = 160 := rfl
  have hs : (m.1 6 + n).toInt = (m.1 6).toInt + n.toInt := fb_addI (by have := hP.2.1; omega) (by have := hP.2.1; omega)
  have hle := i_le.mp c7
  have hbyte : ∀ v : Int32, ¬ F_X6_isByte v = 0 → 0 ≤ v.toInt ∧ v.toInt ≤ 255 := fun v hv => by
    have z := in_f (show ¬ F_X6_in v 0 255 = 0 from hv)
    exact z
  have k : ∀ (f : Nat) (sb' m' : Ob) (x7 : Int32), SR bb tx rw sb' tn m' → 0 ≤ x7.toInt → x7.toInt ≤ n.toInt → 5 < x7.toInt + f → (m'.1 6).toInt + n.toInt - x7.toInt ≤ 160 → (F_X5_feed_l71 f sb' n a b c d e x7).1 = (F_X6_feed_l68 f m' n a b c d e x7).1 ∧ SR bb tx rw (F_X5_feed_l71 f sb' n a b c d e x7).2 tn (F_X6_feed_l68 f m' n a b c d e x7).2 := by
    intro f
    induction f with
    | zero => intro sb' m' x7 _ _ _ _ _; omega
    | succ f ih =>
      intro sb' m' x7 h' h0 h1 hf hr
      have hP' := h'.2.2.2.2.1
      unfold F_X5_feed_l71 F_X6_feed_l68
      by_cases g : n ≤ x7
      · rw [if_pos g, if_pos g]
        exact ⟨hP'.1, h'⟩
      rw [if_neg g, if_neg g]
      have g2 := i_nle g
      have e1 : (x7 + 1).toInt = x7.toInt + 1 := addL (k := 1) (by decide +kernel) (by omega) (by omega)
      have hgo : ∀ v : Int32, (0 ≤ v.toInt ∧ v.toInt ≤ 255) → (F_X5_feed_b124 (F_X5_feed_l71 f) sb' n a b c d e x7 v).1 = (F_X6_feed_b125 (F_X6_feed_l68 f) m' n a b c d e x7 (m'.1 6) v).1 ∧ SR bb tx rw (F_X5_feed_b124 (F_X5_feed_l71 f) sb' n a b c d e x7 v).2 tn (F_X6_feed_b125 (F_X6_feed_l68 f) m' n a b c d e x7 (m'.1 6) v).2 := fun v hv => by
        unfold F_X5_feed_b124 F_X5_feed_c124 F_X6_feed_b125 F_X2_add
        obtain ⟨q1, q2, q3⟩ := hP'
        rw [q1, if_neg (show ¬ 160 ≤ m'.1 6 from fun z => by have := i_le.mp z; omega)]
        have e6 : (m'.1 6 + 1).toInt = (m'.1 6).toInt + 1 := addL (k := 1) (by decide +kernel) (by omega) (by omega)
        refine ih _ _ _ ?_ (by omega) (by omega) (by omega) (by show (m'.1 6 + 1).toInt + n.toInt - (x7 + 1).toInt ≤ 160; omega)
        obtain ⟨b1, b2, b3, b4, b5, b6, b7, b8⟩ := h'
        refine ⟨b1, b2, b3.gen rfl rfl (Int.le_refl _) (Int.le_refl _) rfl rfl (fun _ _ => rfl) (fun _ _ => rfl) (fun t _ _ hx => hx), b4, ⟨?_, ?_, fun k hk => ?_⟩, b6, b7, b8⟩
        · show sb'.1 1 + 1 = m'.1 6 + 1
          rw [q1]
        · show 0 ≤ (m'.1 6 + 1).toInt ∧ (m'.1 6 + 1).toInt ≤ 160
          omega
        · replace hk : (k : Int) < (m'.1 6 + 1).toInt := hk
          show upd (sb'.2 0) (m'.1 6).toNatClampNeg v k = upd (m'.2 5) (m'.1 6).toNatClampNeg v k ∧ 0 ≤ (upd (m'.2 5) (m'.1 6).toNatClampNeg v k).toInt ∧ (upd (m'.2 5) (m'.1 6).toNatClampNeg v k).toInt ≤ 255
          by_cases z : k = (m'.1 6).toNatClampNeg
          · rw [z, upd_s, upd_s]
            exact ⟨rfl, hv⟩
          · rw [upd_n _ z, upd_n _ z]
            rw [tcn_i] at z
            exact q3 k (by omega)
      repeat' split
      · exact hgo a (hbyte a c2)
      · exact hgo b (hbyte b c3)
      · exact hgo c (hbyte c c4)
      · exact hgo d (hbyte d c5)
      · exact hgo e (hbyte e c6)
  exact k 6 sb m 0 h (by decide) (by have e0 : (0 : Int32).toInt = 0 := rfl; omega) (by decide) (by have e0 : (0 : Int32).toInt = 0 := rfl; omega)
end CALLS9
