-- PURE: councils
/-- a set's bits among the vows -/
def bitv (S : Int32) (k : Nat) : Int32 := if (S >>> (nI k &&& 31)) &&& 1 = 1 then 1 else 0
theorem TR.council {tx : Nat → Ob} {T r q : Ob} (h : TR tx T r) {s : Int32} (hs : 0 ≤ s.toInt ∧ s.toInt < 64) (hl : s < (1 <<< (r.1 0 &&& 31))) (q1 : q.1 = r.1) (q2 : ∀ k, k ≠ 3 → q.2 k = r.2 k) (q3 : ∀ j, j < 24 → q.2 3 j = (if j % 4 = 3 ∧ ((j / 4 : Nat) : Int) < (r.1 0).toInt then bitv (s ||| T.1 5) (j / 4) else r.2 3 j)) : TR tx (setS T 5 (T.1 5 ||| s)) q := by
  obtain ⟨v, hv⟩ := as64 h.2.2.2.2.2.2.1.1 h.2.2.2.2.2.2.1.2
  obtain ⟨f, hf⟩ := as64 hs.1 hs.2
  have hor := vb_or v f
  rw [← hv, ← hf] at hor
  have h6 := h.1.2
  have hPe : r.1 0 = Int32.ofNat (r.1 0).toNatClampNeg := (nI_tcn h6.1).symm
  obtain ⟨a, b, c, d, e, g, i, z⟩ := h
  have w4 : q.2 4 = r.2 4 := q2 4 (by decide)
  have w7 : q.2 7 = r.2 7 := q2 7 (by decide)
  have w8 : q.2 8 = r.2 8 := q2 8 (by decide)
  refine ⟨?_, ?_, ?_, ?_, fun k hk => ?_, ?_, ?_, fun k hk hk6 => ?_⟩
  · rw [q1]; exact a
  · rw [w4]; exact b
  · rw [q1]; exact c
  · rw [q1]; exact d.same w7 w8
  · rw [q1] at hk
    have hk6 : k < 6 := by omega
    obtain ⟨⟨k0, k1, k2, k3, k4, k5⟩, v1, v2⟩ := e k hk
    have r0 : q.2 3 (4 * k) = r.2 3 (4 * k) := by rw [q3 _ (by omega), if_neg (by omega)]
    have r1 : q.2 3 (4 * k + 1) = r.2 3 (4 * k + 1) := by rw [q3 _ (by omega), if_neg (by omega)]
    have r2 : q.2 3 (4 * k + 2) = r.2 3 (4 * k + 2) := by rw [q3 _ (by omega), if_neg (by omega)]
    have r3 : q.2 3 (4 * k + 3) = bitv (s ||| T.1 5) k := by
      have e4 : (4 * k + 3) / 4 = k := by omega
      rw [q3 _ (by omega), e4, if_pos ⟨by omega, hk⟩]
    unfold TRk VBk
    rw [q2 1 (by decide), q2 2 (by decide), r0, r1, r2, r3]
    exact ⟨⟨k0, k1, k2, k3, k4, (hor.1 ⟨k, hk6⟩)⟩, v1, v2⟩
  · rw [w4]; exact g
  · exact hor.2
  · rw [q1] at hk
    show vb (T.1 5 ||| s) k = 0
    rw [hv, hf]
    refine or_all v f ⟨k, hk6⟩ ?_ ?_
    · rw [← hv]; exact z k hk hk6
    · refine low_all f ⟨(r.1 0).toNatClampNeg, by rw [tcn_i]; omega⟩ ⟨k, hk6⟩ ?_ ?_
      · rw [← hf]
        show s < (1 <<< (Int32.ofNat (r.1 0).toNatClampNeg &&& 31))
        rw [← hPe]
        exact hl
      · show (r.1 0).toNatClampNeg ≤ k
        rw [tcn_i]
        omega
theorem council_in (r : Ob) (h6 : 0 ≤ (r.1 0).toInt ∧ (r.1 0).toInt ≤ 6) (K : Ob → Int32 → Int32 → Int32 → Int32 → Int32 → Int32 → Int32 → Int32 × Ob) (x1 x2 x3 x4 x5 x6 x7 : Int32) : ∀ (f : Nat) (q : Ob) (x : Int32), 0 ≤ x.toInt → x.toInt ≤ 6 → 6 < x.toInt + f → x.toInt ≤ (r.1 0).toInt → q.1 = r.1 → (∀ k, k ≠ 3 → q.2 k = r.2 k) → (∀ j, j < 24 → q.2 3 j = (if j % 4 = 3 ∧ ((j / 4 : Nat) : Int) < x.toInt then bitv (x7 ||| x4) (j / 4) else r.2 3 j)) → ∃ q2 : Ob, F_X6_council_l102 f K q x1 x2 x3 x4 x5 x6 x7 x = F_X6_council_c149 K (fun _ _ _ _ _ _ _ _ _ => (0, q2)) (F_X6_goes q2 x1) x1 x2 x3 x4 x5 x6 x7 ∧ q2.1 = r.1 ∧ (∀ k, k ≠ 3 → q2.2 k = r.2 k) ∧ (∀ j, j < 24 → q2.2 3 j = (if j % 4 = 3 ∧ ((j / 4 : Nat) : Int) < (r.1 0).toInt then bitv (x7 ||| x4) (j / 4) else r.2 3 j)) := by
  intro f
  induction f with
  | zero => intro q x _ _ hf; omega
  | succ f ih =>
    intro q x h0 h1 hf hle q1 q2 q3
    unfold F_X6_council_l102
    rw [q1]
    by_cases c : r.1 0 ≤ x
    · rw [if_pos c]
      have d := i_le.mp c
      refine ⟨q, rfl, q1, q2, fun j hj => ?_⟩
      rw [q3 j hj]
      have ex : x.toInt = (r.1 0).toInt := by omega
      rw [ex]
    rw [if_neg c]
    have d := i_nle c
    have e1 : (x + 1).toInt = x.toInt + 1 := addL (k := 1) (by decide +kernel) (by omega) (by omega)
    obtain ⟨j0, j1, j2, j3⟩ := i4 h0 (by omega)
    have xN : (x.toNatClampNeg : Int) = x.toInt := by rw [tcn_i]; omega
    have hgo : ∀ w : Int32, w = bitv (x7 ||| x4) x.toNatClampNeg → ∃ q2 : Ob, F_X6_council_b140 K (F_X6_council_l102 f K) q x1 x2 x3 x4 x5 x6 x7 x ((4 * x) + 3) w = F_X6_council_c149 K (fun _ _ _ _ _ _ _ _ _ => (0, q2)) (F_X6_goes q2 x1) x1 x2 x3 x4 x5 x6 x7 ∧ q2.1 = r.1 ∧ (∀ k, k ≠ 3 → q2.2 k = r.2 k) ∧ (∀ j, j < 24 → q2.2 3 j = (if j % 4 = 3 ∧ ((j / 4 : Nat) : Int) < (r.1 0).toInt then bitv (x7 ||| x4) (j / 4) else r.2 3 j)) := fun w hw => by
      unfold F_X6_council_b140
      refine ih _ _ (by omega) (by omega) (by omega) (by omega) q1 (fun k hk => (sA_ne _ _ hk).trans (q2 k hk)) (fun j hj => ?_)
      show upd (q.2 3) ((4 * x) + 3).toNatClampNeg w j = _
      rw [j3]
      by_cases e : j = 4 * x.toNatClampNeg + 3
      · have e4 : (4 * x.toNatClampNeg + 3) / 4 = x.toNatClampNeg := by omega
        rw [e, upd_s, e4, if_pos ⟨by omega, by omega⟩]
        exact hw
      · rw [upd_n _ e, q3 j hj]
        by_cases y : j % 4 = 3 ∧ ((j / 4 : Nat) : Int) < x.toInt
        · rw [if_pos y, if_pos ⟨y.1, by omega⟩]
        · rw [if_neg y, if_neg (fun z => y ⟨z.1, by omega⟩)]
    by_cases g : ((x7 ||| x4) >>> (x &&& 31)) &&& 1 = 1
    · rw [if_pos g]
      refine hgo 1 ?_
      unfold bitv
      rw [nI_tcn h0, if_pos g]
    · rw [if_neg g]
      refine hgo 0 ?_
      unfold bitv
      rw [nI_tcn h0, if_neg g]
section CALLSE
variable {bb : Ob} {tx rw : Nat → Ob} {sb : Ob} {tn : Nat → Ob} {m : Ob}
theorem s_council (h : SR bb tx rw sb tn m) (n l w : Int32) : (F_X5_council tx tn n l w).1 = (F_X6_council m n l w).1 ∧ sM m (F_X6_council m n l w).2 := by
  unfold F_X5_council F_X6_council
  rw [isW, isW, isW]
  by_cases c1 : F_X6_in n 0 24 = 0
  · rw [if_pos c1, if_pos c1]; exact ⟨rfl, sM.refl⟩
  rw [if_neg c1, if_neg c1]
  by_cases c2 : F_X6_in l 0 999 = 0
  · rw [if_pos c2, if_pos c2]; exact ⟨rfl, sM.refl⟩
  rw [if_neg c2, if_neg c2]
  by_cases c3 : F_X6_in w 0 1 = 0
  · rw [if_pos c3, if_pos c3]; exact ⟨rfl, sM.refl⟩
  rw [if_neg c3, if_neg c3]
  have hn := in_f c1
  have e0 : (0 : Int32).toInt = 0 := rfl
  have e24 : (24 : Int32).toInt = 24 := rfl
  have hv0 := vows_eq h.1
  have h6 := h.1.1.2
  have hPe : m.1 0 = Int32.ofNat (m.1 0).toNatClampNeg := (nI_tcn h6.1).symm
  have hshl := shl_all ⟨(m.1 0).toNatClampNeg, by rw [tcn_i]; omega⟩
  rw [show (Int32.ofNat (⟨(m.1 0).toNatClampNeg, by rw [tcn_i]; omega⟩ : Fin 7).val) = m.1 0 from hPe.symm] at hshl
  have k : ∀ (f : Nat) (X r : Ob) (b c5 m6 x : Int32), sM m r → (∀ j, j < 24 → r.2 30 j = m.2 3 j) → (∀ j, j < 3 → r.2 30 (24 + j) = m.2 4 j) → 0 ≤ x.toInt → x.toInt ≤ 64 → ((b = -1 ∧ c5 = 7 ∧ m6 = -1) ∨ (¬ b = -1 ∧ c5 = m6)) → (F_X5_council_l43 f tx tn X n l w b c5 x).1 = (F_X6_council_l52 f r n l w (F_X6_vows m) b m6 x).1 ∧ sM m (F_X6_council_l52 f r n l w (F_X6_vows m) b m6 x).2 := by
    intro f
    induction f with
    | zero => intro X r b c5 m6 x hr _ _ _ _ _; exact ⟨rfl, hr⟩
    | succ f ih =>
      intro X r b c5 m6 x hr ha hb h0 h1 hbm
      have er0 : r.1 0 = m.1 0 := hr.1 0 (by decide) (by decide)
      unfold F_X5_council_l43 F_X6_council_l52
      rw [h.1.1.1, er0, hv0]
      by_cases c : (1 <<< (m.1 0 &&& 31)) ≤ x
      · rw [if_pos c, if_pos c]
        rcases hbm with ⟨b1, b2, b3⟩ | ⟨b1, b2⟩
        · rw [if_pos b1, b1, b3]
          split
          · exact ⟨rfl, hr⟩
          · exact ⟨rfl, hr⟩
        · rw [if_neg b1, b2]
          split
          · exact ⟨rfl, hr⟩
          · exact ⟨rfl, hr⟩
      rw [if_neg c, if_neg c]
      have d := i_nle c
      have e1 : (x + 1).toInt = x.toInt + 1 := addL (k := 1) (by decide +kernel) (by omega) (by omega)
      have hx64 : 0 ≤ x.toInt ∧ x.toInt < 64 := ⟨h0, by have := hshl.2; omega⟩
      obtain ⟨o1, o2, o3⟩ := ones_eq hx64
      have hxn : ¬ x = -1 := fun z => by
        subst z
        exact absurd h0 (by decide)
      -- a set that isn't tried
      have skip : (F_X5_council_b134 (F_X5_council_l43 f) tx tn X n l w b c5 x).1 = (F_X6_council_b91 (F_X6_council_l52 f) r n l w ((tn 0).1 5) b m6 x).1 ∧ sM m (F_X6_council_b91 (F_X6_council_l52 f) r n l w ((tn 0).1 5) b m6 x).2 := by
        unfold F_X5_council_b134 F_X6_council_b91 F_X6_council_b92 F_X6_council_b207
        rw [if_pos z00, ← hv0]
        exact ih _ _ _ _ _ _ hr ha hb (by omega) (by omega) hbm
      -- one that is
      have try1 : (F_X5_council_c88 (F_X5_council_l43 f) (F_X5_startThought (va_up tn 1 X)) tx tn n l w b c5 x (F_bitCount x)).1 = (F_X6_council_b87 (F_X6_council_l52 f) r n l w ((tn 0).1 5) b m6 x).1 ∧ sM m (F_X6_council_b87 (F_X6_council_l52 f) r n l w ((tn 0).1 5) b m6 x).2 := by
        have hT : TR tx (F_X5_startThought (va_up tn 1 X)) r := (h.1.thought X).sM hr
        have hv1 : (F_X5_startThought (va_up tn 1 X)).1 5 = (tn 0).1 5 := (vows_eq (h.1.thought X)).symm.trans hv0
        obtain ⟨T, hTe⟩ : ∃ T, T = F_X5_startThought (va_up tn 1 X) := ⟨_, rfl⟩
        rw [← hTe] at hT hv1 ⊢
        clear hTe
        unfold F_X6_council_b87 F_X6_council_b92
        rw [if_neg n10]
        obtain ⟨q, g1, g2, g3, g4⟩ := council_in r (by rw [er0]; exact h6) (F_X6_council_l52 f) n l w ((tn 0).1 5) b m6 x 7 r 0 (by decide) (by decide) (by decide) (by rw [er0]; exact h6.1) rfl (fun _ _ => rfl) (fun j hj => by rw [if_neg (fun z => by have := z.2; omega)])
        rw [g1]
        have hq : TR tx (setS T 5 (T.1 5 ||| x)) q := hT.council hx64 (by rw [er0]; exact i_lt.mpr (by omega)) g2 g3 (by rw [hv1]; exact g4)
        obtain ⟨u1, u2⟩ := goes_eq hq (p := n) (by omega)
        have uk := goes_hK q n
        unfold F_X5_council_c88 F_X5_council_c108 F_X6_council_c149 F_X6_council_b170
        obtain ⟨G, hG⟩ : ∃ G, G = F_X6_goes q n := ⟨_, rfl⟩
        obtain ⟨P, hP⟩ : ∃ P, P = F_X4_passHours tx (setS T 5 (T.1 5 ||| x)) n := ⟨_, rfl⟩
        rw [← hG] at u2 uk ⊢
        rw [← hP] at u2 ⊢
        clear hG hP u1
        rw [liars_eq u2, strikes_eq u2, o1]
        have e30 : G.2.2 30 = r.2 30 := (uk.2 30 (by decide) (by decide) (by decide) (by decide)).trans (g3 30 (by decide))
        have hL : sM m (F_X6_lays G.2) := sM_lays (fun j hj => by rw [e30]; exact ha j hj) (fun j hj => by rw [e30]; exact hb j hj) (fun k a b => by rw [uk.1 k a b, g2]; exact hr.1 k a b) (fun k a1 a2 a3 a4 a5 => by rw [uk.2 k a1 a2 a4 a5, g3 k a1]; exact hr.2.2.2 k a1 a2 a3 a4 a5)
        have l30 : (F_X6_lays G.2).2 30 = r.2 30 := ((lays_all G.2).2.2.2 30 (by decide) (by decide)).trans e30
        unfold F_X5_council_b134 F_X6_council_c173 F_X6_council_b188 F_X6_council_b205 F_X6_council_b207
        rw [← hv0]
        by_cases s : F_X6_strikesBy G.2 (F_X6_liars G.2) = l
        · rw [if_pos s, if_pos s]
          simp only [if_neg n10]
          exact ih _ _ _ _ _ _ hL (fun j hj => by rw [l30]; exact ha j hj) (fun j hj => by rw [l30]; exact hb j hj) (by omega) (by omega) (Or.inr ⟨hxn, rfl⟩)
        · rw [if_neg s, if_neg s]
          simp only [if_true]
          exact ih _ _ _ _ _ _ hL (fun j hj => by rw [l30]; exact ha j hj) (fun j hj => by rw [l30]; exact hb j hj) (by omega) (by omega) hbm
      by_cases v : x &&& (tn 0).1 5 = 0
      · rw [if_pos v, if_pos v, o1]
        rw [o1] at try1
        rcases hbm with ⟨b1, b2, b3⟩ | ⟨b1, b2⟩
        · rw [if_pos b1, if_pos (show F_X6_onesOf x < c5 from by rw [b2]; exact i_lt.mpr (by have e7 : (7 : Int32).toInt = 7 := rfl; omega))]
          exact try1
        · rw [if_neg b1, ← b2]
          rw [← b2] at try1 skip
          by_cases g : c5 ≤ F_X6_onesOf x
          · rw [if_pos g, if_neg (show ¬ F_X6_onesOf x < c5 from fun z => by have := i_lt.mp z; have := i_le.mp g; omega)]
            exact skip
          · rw [if_neg g, if_pos (i_lt.mpr (i_nle g))]
            exact try1
      · rw [if_neg v, if_neg v]
        exact skip
  obtain ⟨kp1, kp2, _⟩ := keeps_all m
  unfold F_X6_council_c46
  exact k 65 (tn 1) (F_X6_keeps m) (-1) 7 (-1) 0 (sM_keeps m) kp1 kp2 (by decide) (by decide) (Or.inl ⟨rfl, rfl, rfl⟩)
end CALLSE
