def F_X2_expect_c16 (u : Ob) : Ob :=
  u
def F_X2_expect_c9 (u : Ob) : Ob :=
  u
def F_X2_expect (sb : Ob) (p1 : Int32) : Ob :=
  (if (sb.1 4) = p1 then (F_X2_expect_c9 (F_X2_step sb)) else (F_X2_expect_c16 (F_X2_fail sb)))
set_option maxHeartbeats 4000000 in
set_option maxRecDepth 100000 in
theorem c_X2_expect {l : Launch} {g : GG} {sz : Nat} {bb : Ob} {tx rw : Nat → Ob} {sb dy : Ob} {tn : Nat → Ob} {mo : Ob} {jk : Nat → Nat → Int32}  (p1 : Int32) (hok : 0 ≤ (sb.1 2).toInt ∧ (sb.1 2).toInt ≤ 160 ∧ (sb.1 1).toInt ≤ 160) : Met l yX2_expect (Cond.code yX2_expect cX2_expect 2 none :: TT) (rmL 8) (va_Pc [.ref (gA g 35), .int p1] (gB g sz (gW g bb tx rw sb dy tn mo jk))) (va_Qv (fun (u : Ob) => (F_X2_expect sb p1) = (u)) (fun u t => gC g (va_A (gW g bb tx rw sb dy tn mo jk) sz) (gW g bb tx rw u dy tn mo jk) t) (va_A (gW g bb tx rw sb dy tn mo jk) sz)) 0 0 (va_A (gW g bb tx rw sb dy tn mo jk) sz) := by
  generalize hE : F_X2_expect sb p1 = EE
  refine g_of (Qf := fun A => (va_Qv (fun (u : Ob) => EE = (u)) (fun u t => gC g A (gW g bb tx rw u dy tn mo jk) t) A)) (cc := cX2_expect) (maxL := 2) (ret := none) (by decide) (Nat.le_of_ble_eq_true rfl) ?_
  intro p e s m below meth c A ls hx hb hml hr hlocks hts hown hA hG hl
  replace hown : s.vm.findClass RX2 = some m.cls := hown
  replace hl : lv_has ls 2 [(0, .ref (gA g 35)), (1, .int p1)] := hl
  show W p l e (rmL 8) s m [.ref (gA g 35), .int p1].toArray below meth c s.heap [] 0 0 (MQ below (va_Qv (fun (u : Ob) => EE = (u)) (fun u t => gC g A (gW g bb tx rw u dy tn mo jk) t) A) [.ref (gA g 35), .int p1].toArray s 0 0 A) (F0 m 0 ls [])
  generalize hQ : MQ below (va_Qv (fun (u : Ob) => EE = (u)) (fun u t => gC g A (gW g bb tx rw u dy tn mo jk) t) A) [.ref (gA g 35), .int p1].toArray s 0 0 A = Q
  unfold F_X2_expect at hE
  refine lv_aload_n hx hb dX2_expect_0 rfl (lv_at hl 0 rfl) ?_
  refine g_get hx hb hts hiX2 hown hG gw_Scribe rfl 4 (by decide) (index := 44) tw_fl_RX2_44 (v := .int (sb.1 4)) rfl dX2_expect_1 ?_
  refine lv_iload_n hx hb dX2_expect_4 rfl (lv_at hl 1 rfl) ?_
  refine lv_icmp_ne (tgt := 15) hx hb dX2_expect_5 (by decide) (fun c_5 => ?_) (fun c_5 => ?_)
  · replace hE := (if_neg c_5).symm.trans hE
    have i_5 : (sb.1 4).toInt ≠ p1.toInt := fun h => c_5 (Int32.toInt_inj.mp h)
    refine lv_aload_n hx hb dX2_expect_15 rfl (lv_at hl 0 rfl) ?_
    refine g_cv (g_runV (n := 0) (rest := []) hx hb hml hown hts hG (c_X2_fail) tw_ml_RX2_47 tw_im_X2_fail tw_se_X2_fail tw_in_RX2 tw_cd_X2_fail (by decide +kernel) ⟨rfl, rfl, Nat.le_of_ble_eq_true rfl, Nat.le_of_ble_eq_true rfl⟩ gw_Scribe rfl rfl hl.1 rfl (Nat.le_of_ble_eq_true rfl) dX2_expect_16 ⟨Nat.le_refl _, Nat.le_refl _⟩) hG hA (fun u H locs hp hG => ?_)
    obtain ⟨sb_16, rfl⟩ : ∃ z, z = u := ⟨u, rfl⟩
    replace hG : gS g A s H locs (gW g bb tx rw sb_16 dy tn mo jk) := by simpa only [up_up] using hG
    have hp_16 := hp
    rw [hp] at hE
    unfold F_X2_expect_c16 at hE
    try dsimp only at hE
    subst hQ
    exact g_vret hx hb hr hlocks hG ((sb_16) : Ob) rfl hE.symm dX2_expect_19
  replace hE := (if_pos c_5).symm.trans hE
  have i_5 : (sb.1 4).toInt = p1.toInt := congrArg Int32.toInt c_5
  refine lv_aload_n hx hb dX2_expect_8 rfl (lv_at hl 0 rfl) ?_
  refine g_cv (g_runV (n := 0) (rest := []) hx hb hml hown hts hG (c_X2_step (by clear hE; omega)) tw_ml_RX2_30 tw_im_X2_step tw_se_X2_step tw_in_RX2 tw_cd_X2_step (by decide +kernel) ⟨rfl, rfl, Nat.le_of_ble_eq_true rfl, Nat.le_of_ble_eq_true rfl⟩ gw_Scribe rfl rfl hl.1 rfl (Nat.le_of_ble_eq_true rfl) dX2_expect_9 ⟨Nat.le_refl _, Nat.le_refl _⟩) hG hA (fun u H locs hp hG => ?_)
  obtain ⟨sb_9, rfl⟩ : ∃ z, z = u := ⟨u, rfl⟩
  replace hG : gS g A s H locs (gW g bb tx rw sb_9 dy tn mo jk) := by simpa only [up_up] using hG
  have hp_9 := hp
  rw [hp] at hE
  unfold F_X2_expect_c9 at hE
  try dsimp only at hE
  refine lv_goto (tgt := 19) hx hb dX2_expect_12 (by decide) ?_
  subst hQ
  exact g_vret hx hb hr hlocks hG ((sb_9) : Ob) rfl hE.symm dX2_expect_19
def F_X2_mayOpen_c6 (u : Ob) : Int32 × Ob :=
  (0, u)
def F_X2_mayOpen (sb : Ob) (p1 : Int32) : Int32 × Ob :=
  (if p1 < 5 then (1, sb) else (F_X2_mayOpen_c6 (F_X2_fail sb)))
set_option maxHeartbeats 4000000 in
set_option maxRecDepth 100000 in
theorem c_X2_mayOpen {l : Launch} {g : GG} {sz : Nat} {bb : Ob} {tx rw : Nat → Ob} {sb dy : Ob} {tn : Nat → Ob} {mo : Ob} {jk : Nat → Nat → Int32}  (p1 : Int32)  : Met l yX2_mayOpen (Cond.code yX2_mayOpen cX2_mayOpen 2 (some .boolean) :: TT) (rmL 2) (va_Pc [.ref (gA g 35), .int p1] (gB g sz (gW g bb tx rw sb dy tn mo jk))) (va_Qi (fun r (u : Ob) => (F_X2_mayOpen sb p1) = (r, u)) (fun u t => gC g (va_A (gW g bb tx rw sb dy tn mo jk) sz) (gW g bb tx rw u dy tn mo jk) t) (va_A (gW g bb tx rw sb dy tn mo jk) sz)) 0 0 (va_A (gW g bb tx rw sb dy tn mo jk) sz) := by
  generalize hE : F_X2_mayOpen sb p1 = EE
  refine g_of (Qf := fun A => (va_Qi (fun r (u : Ob) => EE = (r, u)) (fun u t => gC g A (gW g bb tx rw u dy tn mo jk) t) A)) (cc := cX2_mayOpen) (maxL := 2) (ret := (some .boolean)) (by decide) (Nat.le_of_ble_eq_true rfl) ?_
  intro p e s m below meth c A ls hx hb hml hr hlocks hts hown hA hG hl
  replace hown : s.vm.findClass RX2 = some m.cls := hown
  replace hl : lv_has ls 2 [(0, .ref (gA g 35)), (1, .int p1)] := hl
  show W p l e (rmL 2) s m [.ref (gA g 35), .int p1].toArray below meth c s.heap [] 0 0 (MQ below (va_Qi (fun r (u : Ob) => EE = (r, u)) (fun u t => gC g A (gW g bb tx rw u dy tn mo jk) t) A) [.ref (gA g 35), .int p1].toArray s 0 0 A) (F0 m 0 ls [])
  generalize hQ : MQ below (va_Qi (fun r (u : Ob) => EE = (r, u)) (fun u t => gC g A (gW g bb tx rw u dy tn mo jk) t) A) [.ref (gA g 35), .int p1].toArray s 0 0 A = Q
  unfold F_X2_mayOpen at hE
  refine lv_iload_n hx hb dX2_mayOpen_0 rfl (lv_at hl 1 rfl) ?_
  refine lv_iconst (v := 5) hx hb dX2_mayOpen_1 (by decide) ?_
  refine lv_icmp_lt (tgt := 11) hx hb dX2_mayOpen_2 (by decide) (fun c_2 => ?_) (fun c_2 => ?_)
  · replace hE := (if_pos c_2).symm.trans hE
    have i_2 : p1.toInt < 5 := i_lt.mp c_2
    refine lv_iconst (v := 1) hx hb dX2_mayOpen_11 (by decide) ?_
    subst hQ
    exact g_zret hx hb hr hlocks hG (Or.inr rfl) ((sb) : Ob) rfl hE.symm dX2_mayOpen_12
  replace hE := (if_neg c_2).symm.trans hE
  have i_2 : 5 ≤ p1.toInt := i_nlt c_2
  refine lv_aload_n hx hb dX2_mayOpen_5 rfl (lv_at hl 0 rfl) ?_
  refine g_cv (g_runV (n := 0) (rest := []) hx hb hml hown hts hG (c_X2_fail) tw_ml_RX2_47 tw_im_X2_fail tw_se_X2_fail tw_in_RX2 tw_cd_X2_fail (by decide +kernel) ⟨rfl, rfl, Nat.le_of_ble_eq_true rfl, Nat.le_of_ble_eq_true rfl⟩ gw_Scribe rfl rfl hl.1 rfl (Nat.le_of_ble_eq_true rfl) dX2_mayOpen_6 ⟨Nat.le_refl _, Nat.le_refl _⟩) hG hA (fun u H locs hp hG => ?_)
  obtain ⟨sb_6, rfl⟩ : ∃ z, z = u := ⟨u, rfl⟩
  replace hG : gS g A s H locs (gW g bb tx rw sb_6 dy tn mo jk) := by simpa only [up_up] using hG
  have hp_6 := hp
  rw [hp] at hE
  unfold F_X2_mayOpen_c6 at hE
  try dsimp only at hE
  refine lv_iconst (v := 0) hx hb dX2_mayOpen_9 (by decide) ?_
  subst hQ
  exact g_zret hx hb hr hlocks hG (Or.inl rfl) ((sb_6) : Ob) rfl hE.symm dX2_mayOpen_10
abbrev sOK (sb : Ob) : Prop := 0 ≤ (sb.1 2).toInt ∧ (sb.1 2).toInt ≤ 160 ∧ (sb.1 1).toInt ≤ 160
theorem up160 {x y : Int32} (c : ¬ y ≤ x) (h0 : 0 ≤ x.toInt) (hy : y.toInt ≤ 160) : 0 ≤ (x + 1).toInt ∧ (x + 1).toInt ≤ 160 := by
  obtain ⟨a, b⟩ := up1 c (B := 160) hy h0 (by decide)
  rw [a]
  omega
theorem tw77 : ∀ (n : Nat) (sb : Ob) (x : Int32), sOK sb → sOK (F_X2_takeWord_l77 n sb x) := by
  intro n
  induction n with
  | zero => intro sb x h; exact h
  | succ n ih =>
    intro sb x h
    unfold F_X2_takeWord_l77
    split
    · exact h
    · split
      · unfold F_X2_takeWord_b100
        exact ih _ _ h
      · unfold F_X2_takeWord_b100
        exact ih _ _ h
theorem tw46 : ∀ (n : Nat) (sb : Ob) (x : Int32), sOK sb → sOK (F_X2_takeWord_l46 n sb x) := by
  intro n
  induction n with
  | zero => intro sb x h; exact h
  | succ n ih =>
    intro sb x h
    unfold F_X2_takeWord_l46
    split
    · exact tw77 _ _ _ h
    · split
      · unfold F_X2_takeWord_b67
        exact ih _ _ h
      · unfold F_X2_takeWord_b67
        exact ih _ _ h
theorem tw0 : ∀ (n : Nat) (sb : Ob), sOK sb → sOK (F_X2_takeWord_l0 n sb) := by
  intro n
  induction n with
  | zero => intro sb h; exact h
  | succ n ih =>
    intro sb h
    unfold F_X2_takeWord_l0
    split
    · unfold F_X2_takeWord_b38
      exact tw46 _ _ _ h
    · rename_i c
      split
      · unfold F_X2_takeWord_b38
        exact tw46 _ _ _ h
      · have q := up160 c h.1 h.2.2
        exact ih _ ⟨q.1, q.2, h.2.2⟩
theorem tn5 : ∀ (n : Nat) (sb : Ob), sOK sb → sOK (F_X2_takeNumber_l5 n sb) := by
  have k66 : ∀ sb : Ob, sOK sb → sOK (F_X2_takeNumber_b66 sb) := by
    intro sb h
    unfold F_X2_takeNumber_b66
    split
    · exact h
    · exact h
  intro n
  induction n with
  | zero => intro sb h; exact h
  | succ n ih =>
    intro sb h
    unfold F_X2_takeNumber_l5
    split
    · exact k66 _ h
    · rename_i c
      split
      · exact k66 _ h
      · have q := up160 c h.1 h.2.2
        exact ih _ ⟨q.1, q.2, h.2.2⟩
theorem st50 : ∀ sb : Ob, sOK sb → sOK (F_X2_step_b50 sb) := by
  intro sb h
  unfold F_X2_step_b50
  split
  · rename_i c
    have c2 : ¬ sb.1 1 ≤ sb.1 2 := fun z => by
      have a := i_lt.mp (show sb.1 2 < sb.1 1 from c)
      have b := i_le.mp z
      omega
    have q := up160 c2 h.1 h.2.2
    split
    · split
      · split
        · exact ⟨q.1, q.2, h.2.2⟩
        · exact ⟨q.1, q.2, h.2.2⟩
      · exact tn5 161 _ h
    · exact tw0 161 _ h
  · exact h
theorem st0 : ∀ (n : Nat) (sb : Ob), sOK sb → sOK (F_X2_step_l0 n sb) := by
  intro n
  induction n with
  | zero => intro sb h; exact h
  | succ n ih =>
    intro sb h
    unfold F_X2_step_l0
    split
    · exact st50 _ h
    · rename_i c
      have q := up160 c h.1 h.2.2
      split
      · exact ih _ ⟨q.1, q.2, h.2.2⟩
      · split
        · exact ih _ ⟨q.1, q.2, h.2.2⟩
        · exact st50 _ h
theorem step_ok {sb sb2 : Ob} (hp : F_X2_step sb = sb2) (h : sOK sb) : sOK sb2 := by
  subst hp
  exact st0 161 sb h
theorem fail_ok {sb sb2 : Ob} (hp : F_X2_fail sb = sb2) (h : sOK sb) : sOK sb2 := by
  subst hp
  unfold F_X2_fail
  split
  · exact h
  · exact h
theorem expect_ok {sb sb2 : Ob} {p : Int32} (hp : F_X2_expect sb p = sb2) (h : sOK sb) : sOK sb2 := by
  subst hp
  unfold F_X2_expect
  split
  · exact step_ok rfl h
  · exact fail_ok rfl h
theorem mayOpen_ok {sb sb2 : Ob} {p r : Int32} (hp : F_X2_mayOpen sb p = (r, sb2)) (h : sOK sb) : sOK sb2 := by
  unfold F_X2_mayOpen at hp
  split at hp
  · exact (Prod.mk.inj hp).2 ▸ h
  · exact fail_ok (Prod.mk.inj hp).2 h
theorem tadd_nn {T T2 : Ob} {z : Int32} (hp : F_X3_add T z = T2) (h : 0 ≤ (T.1 3).toInt) : 0 ≤ (T2.1 3).toInt := by
  subst hp
  unfold F_X3_add
  split
  · exact h
  · rename_i c
    have e : (setS (stA T 0 (T.1 3) z) 3 (((stA T 0 (T.1 3) z).1 3) + 1)).1 3 = T.1 3 + 1 := rfl
    rw [e]
    obtain ⟨u1, u2⟩ := up1 c (B := 160) (by decide) h (by decide)
    rw [u1]
    omega

