-- PURE: a reading leaves the older texts' codes
def eQ (tt : Int32) (m r : Ob) : Prop := r.1 9 = tt ∧ ∀ j : Nat, (j : Int) < 200 * tt.toInt → r.2 7 j = m.2 7 j
theorem eQ.keep {tt : Int32} {m r v : Ob} (h : eQ tt m r) (h9 : v.1 9 = r.1 9) (h7 : v.2 7 = r.2 7) : eQ tt m v := ⟨h9.trans h.1, fun j hj => by rw [h7]; exact h.2 j hj⟩
theorem eQ.puts {tt : Int32} {m r : Ob} (ht : 0 ≤ tt.toInt ∧ tt.toInt ≤ 5) (h : eQ tt m r) (ho : uOK r) (v : Int32) : eQ tt m (F_X6_puts r v) := by
  have h1 := ho.1
  have h2 := ho.2.1
  have h3 := ho.2.2
  refine ⟨h.1, fun j hj => ?_⟩
  show upd (r.2 7) (Int32.toNatClampNeg ((200 * (r.1 9)) + (r.1 26))) v j = _
  rw [h.1, i200 ht.1 (by omega) h2 (by omega), upd_n _ (by rw [tcn_i]; omega)]
  exact h.2 j hj
theorem eQ.holds {tt : Int32} {m r : Ob} (h : eQ tt m r) (v : Int32) : eQ tt m (F_X6_holds r v) := h.keep rfl rfl
theorem eQ.opens {tt : Int32} {m r : Ob} (h : eQ tt m r) (v : Int32) : eQ tt m (F_X6_opensOne r v).2 := by
  unfold F_X6_opensOne
  split
  · exact h
  · unfold F_X6_opensOne_c22
    exact h.keep rfl rfl
theorem eQ.unw0 {tt : Int32} {m : Ob} (ht : 0 ≤ tt.toInt ∧ tt.toInt ≤ 5) (p : Int32) : ∀ (n : Nat) (r : Ob), eQ tt m r → uOK r → eQ tt m (F_X6_unwinds_l0 n r p) := by
  intro n
  induction n with
  | zero => intro r h _; exact h
  | succ n ih =>
    intro r h hu
    have k : ∀ (c : ¬ r.1 24 ≤ 0) (o v : Int32), eQ tt m (F_X6_unwinds_l0 n (F_X6_puts (setS (setS r 24 (r.1 24 - 1)) 25 o) v) p) := fun c o v => by
      have c2 := i_nle c
      have e0 : (0 : Int32).toInt = 0 := rfl
      have h1 := hu.1
      have h2 := hu.2.1
      have h3 := hu.2.2
      have e : (r.1 24 - 1).toInt = (r.1 24).toInt - 1 := subL (k := 1) (by decide +kernel) (by omega) (by omega)
      have hq : uOK (setS (setS r 24 (r.1 24 - 1)) 25 o) := ⟨by show 0 ≤ (r.1 24 - 1).toInt; omega, hu.2.1, by show (r.1 24 - 1).toInt + (r.1 26).toInt ≤ 160; omega⟩
      have hw : eR 1 (setS (setS r 24 (r.1 24 - 1)) 25 o) (F_X6_puts (setS (setS r 24 (r.1 24 - 1)) 25 o) v) := puts_ok rfl hq (by show (r.1 24 - 1).toInt + (r.1 26).toInt < 160; omega)
      have hk : eQ tt m (setS (setS r 24 (r.1 24 - 1)) 25 o) := h.keep rfl rfl
      have hx : (r.1 24 - 1).toInt + (r.1 26).toInt + 1 ≤ 160 := by omega
      exact ih _ (hk.puts ht hq v) (hw.ok hx)
    unfold F_X6_unwinds_l0
    split
    · exact h
    · rename_i c
      split
      · exact h
      · split
        · exact k c _ _
        · split
          · exact k c _ _
          · exact k c _ _
theorem eQ.unw {tt : Int32} {m r : Ob} (ht : 0 ≤ tt.toInt ∧ tt.toInt ≤ 5) (h : eQ tt m r) (hu : uOK r) (p : Int32) : eQ tt m (F_X6_unwinds r p) := eQ.unw0 ht p 161 r h hu
theorem eQ.betw {tt : Int32} {m r : Ob} (ht : 0 ≤ tt.toInt ∧ tt.toInt ≤ 5) (h : eQ tt m r) (hu : uOK r) (v : Int32) : eQ tt m (F_X6_between r v).2 := by
  have k : ∀ p : Int32, eQ tt m (F_X6_between_b17 r v p).2 := fun p => by
    have hk := h.unw ht hu p
    unfold F_X6_between_b17 F_X6_between_c17
    split
    · split
      · exact hk.holds v
      · split
        · exact hk
        · exact hk.holds v
    · exact hk.holds v
  unfold F_X6_between
  split
  · exact k _
  · exact k _
def eJ (tt : Int32) (m r : Ob) : Prop := eI m r ∧ eQ tt m r
theorem eJ_l14 {tt : Int32} (ht5 : 0 ≤ tt.toInt ∧ tt.toInt ≤ 5) (m : Ob) : ∀ (n : Nat) (r : Ob) (x1 x2 : Int32), eI m r → eQ tt m r → 160 < (r.1 18).toInt + n → eJ tt m (F_X6_eRead_l14 n r x1 x2).2 := by
  intro n
  induction n with
  | zero => intro r x1 x2 h hQ hn; have := h.1; omega
  | succ n ih =>
    intro r x1 x2 h hQ hn
    show eJ tt m (F_X6_eRead_c15 (F_X6_eRead_l14 n) (F_X6_next r) x1 x2).2
    have hx := next_ok (m := r) rfl h.1
    generalize F_X6_next r = u at hx ⊢
    obtain ⟨⟨x1a, x1b, x1c, x1d⟩, x2a⟩ := hx
    have e24 : u.1 24 = r.1 24 := x1d 24 (by decide) (by decide) (by decide) (by decide)
    have e26 : u.1 26 = r.1 26 := x1d 26 (by decide) (by decide) (by decide) (by decide)
    have hr := h.2.1
    have hu : eI m u := ⟨x1a, ⟨by rw [e24]; exact hr.1, by rw [e26]; exact hr.2.1, by rw [e24, e26]; omega⟩, fun k k1 k2 k3 k4 k5 k6 k7 => (x1d k k1 k2 k3 k4).trans (h.2.2.1 k k1 k2 k3 k4 k5 k6 k7), fun k k1 k2 => by rw [x1c]; exact h.2.2.2 k k1 k2⟩
    have hok := hu.ok
    have hv : eQ tt m u := hQ.keep (x1d 9 (by decide) (by decide) (by decide) (by decide)) (by rw [x1c])
    have go : ∀ (b : Int) (v : Ob) (y1 y2 : Int32), ¬ u.1 20 = 0 → b ≤ 1 → eR b u v → eQ tt m v → eJ tt m (F_X6_eRead_l14 n v y1 y2).2 := fun b v y1 y2 ht hb k kq => by
      have hlt := x2a ht
      have e18 : v.1 18 = u.1 18 := k.2.1 18 (by decide) (by decide) (by decide)
      exact ih v y1 y2 (hu.step (by rw [e24, e26]; omega) k) kq (by rw [e18]; omega)
    have st : ∀ (b : Int) (v : Ob), ¬ u.1 20 = 0 → b ≤ 1 → eR b u v → eQ tt m v → eJ tt m v := fun b v ht hb k kq => ⟨hu.step (by have := x2a ht; rw [e24, e26]; omega) k, kq⟩
    have lt160 : ¬ u.1 20 = 0 → (u.1 24).toInt + (u.1 26).toInt < 160 := fun ht => by have := x2a ht; have := x1a; rw [e24, e26]; omega
    have ho : ∀ s : Int32, ¬ u.1 20 = 0 → eR 1 u (F_X6_opensOne u s).2 := fun s ht => opensOne_ok (z := (F_X6_opensOne u s).1) rfl hok (lt160 ht)
    have tne : ∀ v : Int32, u.1 20 = v → ¬ v = 0 → ¬ u.1 20 = 0 := fun v h1 h2 h3 => h2 (h1.symm.trans h3)
    have k61 : ∀ z y2 : Int32, ¬ u.1 20 = 0 → eJ tt m (F_X6_eRead_b61 (F_X6_eRead_l14 n) u y2 z).2 := fun z y2 ht => by
      unfold F_X6_eRead_b61 F_X6_eRead_c61 F_X6_eRead_c67
      have hp : eR 1 u (F_X6_puts u z) := puts_ok rfl hok (lt160 ht)
      have hq : eR 0 (F_X6_puts u z) (F_X6_unwinds (F_X6_puts u z) 7) := unwinds_ok rfl (hp.ok (by have := lt160 ht; omega))
      exact go _ _ _ _ ht (by omega) (hp.trans hq) ((hv.puts ht5 hok z).unw ht5 (hp.ok (by have := lt160 ht; omega)) 7)
    have k38 : ∀ y2 : Int32, ¬ u.1 20 = 0 → eJ tt m (F_X6_eRead_b38 (F_X6_eRead_l14 n) u y2).2 := fun y2 ht => by
      unfold F_X6_eRead_b38
      split
      · exact k61 _ _ ht
      · exact k61 _ _ ht
    have k99 : ∀ y1 : Int32, eJ tt m (F_X6_eRead_b99 (F_X6_eRead_l14 n) u y1).2 := fun y1 => by
      unfold F_X6_eRead_b99
      split
      · rename_i c
        have ht := tne _ c (by decide)
        unfold F_X6_eRead_c111
        split
        · exact st _ _ ht (by omega) (ho _ ht) (hv.opens _)
        · exact go _ _ _ _ ht (by omega) (ho _ ht) (hv.opens _)
      · split
        · rename_i c
          have ht := tne _ c (by decide)
          unfold F_X6_eRead_c135
          split
          · exact st _ _ ht (by omega) (ho _ ht) (hv.opens _)
          · exact go _ _ _ _ ht (by omega) (ho _ ht) (hv.opens _)
        · exact ⟨hu, hv⟩
    have hw1 : ¬ u.1 20 = 0 → eR 0 u (F_X6_unwinds u 1) := fun ht => unwinds_ok rfl hok
    unfold F_X6_eRead_c15
    split
    · split
      · rename_i c
        have ht := tne _ c (by decide)
        unfold F_X6_eRead_c161
        split
        · exact st _ _ ht (by omega) (hw1 ht) (hv.unw ht5 hok 1)
        · exact st _ _ ht (by omega) (hw1 ht) (hv.unw ht5 hok 1)
      · split
        · rename_i c
          have ht := tne _ c (by decide)
          have hq := hw1 ht
          have hvq := hv.unw ht5 hok 1
          generalize F_X6_unwinds u 1 = v at hq hvq ⊢
          unfold F_X6_eRead_c188
          split
          · exact st _ _ ht (by omega) hq hvq
          · rename_i c0
            have e0 : (0 : Int32).toInt = 0 := rfl
            have hne : (v.1 24).toInt ≠ 0 := fun z => c0 (Int32.toInt_inj.mp (z.trans e0.symm))
            have h1 := hq.1.1
            have h2 := hq.1.2.1
            have h3 := hq.1.2.2
            have h4 := lt160 ht
            have e : (v.1 24 - 1).toInt = (v.1 24).toInt - 1 := subL (k := 1) (by decide +kernel) (by omega) (by omega)
            have hr1 : eR 0 v (setS (setS v 24 (v.1 24 - 1)) 25 (v.1 25 - 1)) := ⟨⟨by show 0 ≤ (v.1 24 - 1).toInt; omega, h2, by show (v.1 24 - 1).toInt + (v.1 26).toInt ≤ _; omega⟩, fun q q1 q2 q3 => (s_ne _ q2).trans (s_ne _ q1), fun _ _ _ => rfl⟩
            have hr2 := hq.trans hr1
            unfold F_X6_eRead_c223
            have hvr : eQ tt m (setS (setS v 24 (v.1 24 - 1)) 25 (v.1 25 - 1)) := hvq.keep rfl rfl
            exact go _ _ _ _ ht (by omega) (hr2.trans (unwinds_ok rfl (hr2.ok (by omega)))) (hvr.unw ht5 (hr2.ok (by omega)) 7)
        · split
          · exact ⟨hu, hv⟩
          · rename_i c
            have ht := signOf_ne c
            have hb : eR 1 u (F_X6_between u (F_X6_signOf u)).2 := between_ok (z := (F_X6_between u (F_X6_signOf u)).1) rfl hok (lt160 ht)
            unfold F_X6_eRead_c241 F_X6_eRead_b262
            split
            · exact st _ _ ht (by omega) hb (hv.betw ht5 hok _)
            · split
              · exact go _ _ _ _ ht (by omega) hb (hv.betw ht5 hok _)
              · exact go _ _ _ _ ht (by omega) hb (hv.betw ht5 hok _)
    · split
      · rename_i c
        exact k38 _ (tne _ c (by decide))
      · split
        · rename_i c
          exact k38 _ (tne _ c (by decide))
        · split
          · rename_i c
            have ht := tne _ c (by decide)
            split
            · exact k99 _
            · unfold F_X6_eRead_c91
              split
              · exact st _ _ ht (by omega) (ho _ ht) (hv.opens _)
              · exact go _ _ _ _ ht (by omega) (ho _ ht) (hv.opens _)
          · exact k99 _
theorem eRead_Q {tt : Int32} {m r : Ob} {z : Int32} (ht : 0 ≤ tt.toInt ∧ tt.toInt ≤ 5) (h9 : m.1 9 = tt) (hp : F_X6_eRead m = (z, r)) (h : nOK m) (ho : 0 ≤ (m.1 26).toInt) (ha : (m.1 26).toInt ≤ (m.1 18).toInt) : eI m r ∧ ∀ j : Nat, (j : Int) < 200 * tt.toInt → r.2 7 j = m.2 7 j := by
  have e : r = (F_X6_eRead m).2 := by rw [hp]
  have k : eJ tt m (F_X6_eRead m).2 := by
    refine eJ_l14 ht m 161 (setS (setS m 24 0) 25 0) 1 1 ⟨h, ⟨by show 0 ≤ (0 : Int32).toInt; decide, ho, ?_⟩, fun k _ _ _ _ k5 k6 _ => (s_ne _ k6).trans (s_ne _ k5), fun _ _ _ => rfl⟩ ⟨h9, fun _ _ => rfl⟩ ?_
    · have e0 : (0 : Int32).toInt = 0 := rfl
      show (0 : Int32).toInt + (m.1 26).toInt ≤ (m.1 18).toInt
      omega
    · have := h.1
      show 160 < (m.1 18).toInt + ((161 : Nat) : Int)
      omega
  rw [e]
  exact ⟨k.1, k.2.2⟩
