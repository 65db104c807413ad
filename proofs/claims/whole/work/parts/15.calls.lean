def F_X2_add (sb : Ob) (p1 : Int32) : Ob :=
  (if 160 ≤ (sb.1 1) then sb else (setS (stA sb 0 (sb.1 1) p1) 1 (((stA sb 0 (sb.1 1) p1).1 1) + 1)))
set_option maxHeartbeats 4000000 in
set_option maxRecDepth 100000 in
theorem c_X2_add {l : Launch} {g : GG} {sz : Nat} {bb : Ob} {tx rw : Nat → Ob} {sb dy : Ob} {tn : Nat → Ob} {mo : Ob} {jk : Nat → Nat → Int32}  (p1 : Int32) (hsb : 0 ≤ (sb.1 1).toInt) : Met l yX2_add (Cond.code yX2_add cX2_add 2 none :: TT) (rmL 1) (va_Pc [.ref (gA g 35), .int p1] (gB g sz (gW g bb tx rw sb dy tn mo jk))) (va_Qv (fun (u : Ob) => (F_X2_add sb p1) = (u)) (fun u t => gC g (va_A (gW g bb tx rw sb dy tn mo jk) sz) (gW g bb tx rw u dy tn mo jk) t) (va_A (gW g bb tx rw sb dy tn mo jk) sz)) 0 0 (va_A (gW g bb tx rw sb dy tn mo jk) sz) := by
  generalize hE : F_X2_add sb p1 = EE
  refine g_of (Qf := fun A => (va_Qv (fun (u : Ob) => EE = (u)) (fun u t => gC g A (gW g bb tx rw u dy tn mo jk) t) A)) (cc := cX2_add) (maxL := 2) (ret := none) (by decide) (Nat.le_of_ble_eq_true rfl) ?_
  intro p e s m below meth c A ls hx hb hml hr hlocks hts hown hA hG hl
  replace hown : s.vm.findClass RX2 = some m.cls := hown
  replace hl : lv_has ls 2 [(0, .ref (gA g 35)), (1, .int p1)] := hl
  show W p l e (rmL 1) s m [.ref (gA g 35), .int p1].toArray below meth c s.heap [] 0 0 (MQ below (va_Qv (fun (u : Ob) => EE = (u)) (fun u t => gC g A (gW g bb tx rw u dy tn mo jk) t) A) [.ref (gA g 35), .int p1].toArray s 0 0 A) (F0 m 0 ls [])
  generalize hQ : MQ below (va_Qv (fun (u : Ob) => EE = (u)) (fun u t => gC g A (gW g bb tx rw u dy tn mo jk) t) A) [.ref (gA g 35), .int p1].toArray s 0 0 A = Q
  unfold F_X2_add at hE
  refine lv_aload_n hx hb dX2_add_0 rfl (lv_at hl 0 rfl) ?_
  refine g_get hx hb hts hiX2 hown hG gw_Scribe rfl 1 (by decide) (index := 15) tw_fl_RX2_15 (v := .int (sb.1 1)) rfl dX2_add_1 ?_
  refine lv_sipush (v := 160) hx hb dX2_add_4 (by decide) ?_
  refine lv_icmp_ge (tgt := 30) hx hb dX2_add_7 (by decide) (fun c_7 => ?_) (fun c_7 => ?_)
  · replace hE := (if_pos c_7).symm.trans hE
    have i_7 : 160 ≤ (sb.1 1).toInt := i_le.mp c_7
    subst hQ
    exact g_vret hx hb hr hlocks hG ((sb) : Ob) rfl hE.symm dX2_add_30
  replace hE := (if_neg c_7).symm.trans hE
  have i_7 : (sb.1 1).toInt < 160 := i_nle c_7
  refine lv_aload_n hx hb dX2_add_10 rfl (lv_at hl 0 rfl) ?_
  refine g_get hx hb hts hiX2 hown hG gw_Scribe rfl 0 (by decide) (index := 9) tw_fl_RX2_9 (v := .ref (gA g 36)) rfl dX2_add_11 ?_
  refine lv_aload_n hx hb dX2_add_14 rfl (lv_at hl 0 rfl) ?_
  refine g_get hx hb hts hiX2 hown hG gw_Scribe rfl 1 (by decide) (index := 15) tw_fl_RX2_15 (v := .int (sb.1 1)) rfl dX2_add_15 ?_
  refine lv_iload_n hx hb dX2_add_18 rfl (lv_at hl 1 rfl) ?_
  refine g_ist hx hb hG gw_Scribe_a0 (vp_i (by clear hE; omega) (by clear hE; omega)) gs_Scribe_a0 dX2_add_19 (fun H locs hG => ?_)
  refine lv_aload_n hx hb dX2_add_20 rfl (lv_at hl 0 rfl) ?_
  refine lv_dup hx hb dX2_add_21 rfl ?_
  refine g_get hx hb hts hiX2 hown hG gw_Scribe rfl 1 (by decide) (index := 15) tw_fl_RX2_15 (v := .int ((stA sb 0 (sb.1 1) p1).1 1)) rfl dX2_add_22 ?_
  refine lv_iconst (v := 1) hx hb dX2_add_25 (by decide) ?_
  refine lv_iadd hx hb dX2_add_26 ?_
  refine g_put hx hb hts hiX2 tyX2 tyX2_ok nmX2 hown hG gw_Scribe rfl 1 (by decide) (index := 15) tw_fl_RX2_15 rfl rfl rfl (Nat.le_of_ble_eq_true rfl) gs_Scribe_f1 dX2_add_27 (fun H locs hG => ?_)
  subst hQ
  exact g_vret hx hb hr hlocks hG (((setS (stA sb 0 (sb.1 1) p1) 1 (((stA sb 0 (sb.1 1) p1).1 1) + 1))) : Ob) rfl hE.symm dX2_add_30
def F_X5_startThought_c8 (u : Ob) (tn : Nat → Ob) : Ob :=
  u
def F_X5_startThought (tn : Nat → Ob) : Ob :=
  (F_X5_startThought_c8 (F_X4_become (tn 1) (tn 0)) tn)
set_option maxHeartbeats 4000000 in
set_option maxRecDepth 100000 in
theorem c_X5_startThought {l : Launch} {g : GG} {sz : Nat} {bb : Ob} {tx rw : Nat → Ob} {sb dy : Ob} {tn : Nat → Ob} {mo : Ob} {jk : Nat → Nat → Int32}   (hl0 : ((tn 0).1 11).toNatClampNeg < 6) : Met l yX5_startThought (Cond.code yX5_startThought cX5_startThought 1 (some (.object "BellOfLies$Town")) :: TT) (rmL 3) (va_Pc [.ref (gA g 0)] (gB g sz (gW g bb tx rw sb dy tn mo jk))) (va_Qr (fun (u : Ob) => (F_X5_startThought tn) = (u)) (fun u x t => x = gA g (40 + 6 * 1) ∧ gC g (va_A (gW g bb tx rw sb dy tn mo jk) sz) (gW g bb tx rw sb dy (va_up tn 1 u) mo jk) t) (va_A (gW g bb tx rw sb dy tn mo jk) sz)) 0 0 (va_A (gW g bb tx rw sb dy tn mo jk) sz) := by
  generalize hE : F_X5_startThought tn = EE
  refine g_of (Qf := fun A => (va_Qr (fun (u : Ob) => EE = (u)) (fun u x t => x = gA g (40 + 6 * 1) ∧ gC g A (gW g bb tx rw sb dy (va_up tn 1 u) mo jk) t) A)) (cc := cX5_startThought) (maxL := 1) (ret := (some (.object "BellOfLies$Town"))) (by decide) (Nat.le_of_ble_eq_true rfl) ?_
  intro p e s m below meth c A ls hx hb hml hr hlocks hts hown hA hG hl
  replace hown : s.vm.findClass RX5 = some m.cls := hown
  replace hl : lv_has ls 1 [(0, .ref (gA g 0))] := hl
  show W p l e (rmL 3) s m [.ref (gA g 0)].toArray below meth c s.heap [] 0 0 (MQ below (va_Qr (fun (u : Ob) => EE = (u)) (fun u x t => x = gA g (40 + 6 * 1) ∧ gC g A (gW g bb tx rw sb dy (va_up tn 1 u) mo jk) t) A) [.ref (gA g 0)].toArray s 0 0 A) (F0 m 0 ls [])
  generalize hQ : MQ below (va_Qr (fun (u : Ob) => EE = (u)) (fun u x t => x = gA g (40 + 6 * 1) ∧ gC g A (gW g bb tx rw sb dy (va_up tn 1 u) mo jk) t) A) [.ref (gA g 0)].toArray s 0 0 A = Q
  replace hG : gS g A s s.heap [] (gW g bb tx rw sb dy (va_up tn 1 (tn 1)) mo jk) := by simpa only [up_self] using hG
  unfold F_X5_startThought at hE
  refine lv_aload_n hx hb dX5_startThought_0 rfl (lv_at hl 0 rfl) ?_
  refine g_get hx hb hts hiX5 hown hG gw_Bell rfl 5 (by decide) (index := 57) tw_fl_RX5_57 (v := .ref (gA g (40 + 6 * 1))) rfl dX5_startThought_1 ?_
  refine lv_aload_n hx hb dX5_startThought_4 rfl (lv_at hl 0 rfl) ?_
  refine g_get hx hb hts hiX5 hown hG gw_Bell rfl 4 (by decide) (index := 53) tw_fl_RX5_53 (v := .ref (gA g (40 + 6 * 0))) rfl dX5_startThought_5 ?_
  refine g_cv (g_runV (n := 1) (rest := []) hx hb hml hown hts hG (c_X4_become (by decide) (up_same _ _ _) (by decide) (show _ = (tn 0) from rfl) (by decide) hl0) tw_ml_RX5_230 tw_im_X4_become tw_se_X4_become tw_in_RX4 tw_cd_X4_become (by decide +kernel) ⟨rfl, rfl, Nat.le_of_ble_eq_true rfl, Nat.le_of_ble_eq_true rfl⟩ (gw_Town (o := 1) (by decide) (up_same _ _ _)) rfl rfl hl.1 rfl (Nat.le_of_ble_eq_true rfl) dX5_startThought_8 ⟨Nat.le_refl _, Nat.le_refl _⟩) hG hA (fun u H locs hp hG => ?_)
  obtain ⟨t_m_8, rfl⟩ : ∃ z, z = u := ⟨u, rfl⟩
  replace hG : gS g A s H locs (gW g bb tx rw sb dy (va_up tn 1 t_m_8) mo jk) := by simpa only [up_up] using hG
  have hp_8 := hp
  rw [hp] at hE
  unfold F_X5_startThought_c8 at hE
  try dsimp only at hE
  refine lv_aload_n hx hb dX5_startThought_11 rfl (lv_at hl 0 rfl) ?_
  refine g_get hx hb hts hiX5 hown hG gw_Bell rfl 5 (by decide) (index := 57) tw_fl_RX5_57 (v := .ref (gA g (40 + 6 * 1))) rfl dX5_startThought_12 ?_
  subst hQ
  exact g_aret hx hb hr hlocks hG ((t_m_8) : Ob) rfl hE.symm dX5_startThought_15
theorem tEv_of {tx : Nat → Ob} {T T2 : Ob} (h : tEv tx T) (h6 : T2.1 6 = T.1 6) (h11 : T2.1 11 = T.1 11) : tEv tx T2 := by
  unfold tEv
  rw [h6, h11]
  exact h
theorem tEv_pH {tx : Nat → Ob} {T T2 : Ob} {p r : Int32} (hp : F_X4_passHour tx T p = (r, T2)) (h : tEv tx T) : tEv tx T2 := by
  have k := tEv_passHour h p
  rw [hp] at k
  exact k
theorem passHours_l4 (tx : Nat → Ob) : ∀ (n : Nat) (T : Ob) (x1 x2 x3 : Int32), tEv tx T → tEv tx (F_X4_passHours_l4 n tx T x1 x2 x3).2 := by
  intro n
  induction n with
  | zero => intro T x1 x2 x3 h; exact h
  | succ n ih =>
    intro T x1 x2 x3 h
    unfold F_X4_passHours_l4
    split
    · exact h
    · unfold F_X4_passHours_c15
      exact ih _ _ _ _ (tEv_passHour h _)
theorem tEv_pHs {tx : Nat → Ob} {T T2 : Ob} {p r : Int32} (hp : F_X4_passHours tx T p = (r, T2)) (h : tEv tx T) : tEv tx T2 := by
  have k := passHours_l4 tx 49 T p 0 0 h
  have e : F_X4_passHours_l4 49 tx T p 0 0 = (r, T2) := hp
  rw [e] at k
  exact k
theorem tEv_tv {tx : Nat → Ob} {T T2 : Ob} {p : Int32} (hp : F_X4_turnVow T p = T2) (h : tEv tx T) : tEv tx T2 := by
  subst hp
  unfold F_X4_turnVow
  split
  · exact h
  · exact tEv_of h rfl rfl
theorem tEv_th {tx : Nat → Ob} {T T2 : Ob} {p q : Int32} (hp : F_X4_turnHour T p q = T2) (h : tEv tx T) : tEv tx T2 := by
  subst hp
  unfold F_X4_turnHour
  split
  · exact h
  · exact tEv_of h rfl rfl
theorem nI_b {n : Nat} (h : n < 6) : (nI n).toNatClampNeg = n := by
  match n, h with
  | 0, _ => rfl
  | 1, _ => rfl
  | 2, _ => rfl
  | 3, _ => rfl
  | 4, _ => rfl
  | 5, _ => rfl
theorem tEv_ob {tx : Nat → Ob} {T T2 : Ob} {t : Nat} {p : Int32} (hp : F_X4_obey T t p = T2) (h : tEv tx T) (ht : t < 6) (hx : xOK (tx t)) : tEv tx T2 := by
  subst hp
  have e : ((F_X4_obey T t p).1 11).toNatClampNeg = t := nI_b ht
  unfold tEv
  rw [e]
  exact ⟨h.1, ht, hx⟩
theorem become_l2 (T2 : Ob) : ∀ (n : Nat) (T : Ob) (x2 : Int32), 0 ≤ x2.toInt → x2.toInt ≤ 6 → 6 < x2.toInt + n → (F_X4_become_l2 n T T2 x2).1 6 = T2.1 6 ∧ (F_X4_become_l2 n T T2 x2).1 11 = nI (T2.1 11).toNatClampNeg := by
  intro n
  induction n with
  | zero => intro T x2 h0 h1 h2; omega
  | succ n ih =>
    intro T x2 h0 h1 h2
    unfold F_X4_become_l2
    split
    · exact ⟨rfl, rfl⟩
    · rename_i c
      obtain ⟨u1, u2⟩ := up1 c (B := 6) (by decide) h0 (by decide)
      exact ih _ _ (by rw [u1]; omega) (by rw [u1]; omega) (by rw [u1]; omega)
theorem become_f (T T2 : Ob) : (F_X4_become T T2).1 6 = T2.1 6 ∧ (F_X4_become T T2).1 11 = nI (T2.1 11).toNatClampNeg :=
  become_l2 T2 7 T 0 (by decide) (by decide) (by decide)
theorem tEv_be {tx : Nat → Ob} {T T2 : Ob} (h : tEv tx T2) : tEv tx (F_X4_become T T2) := by
  obtain ⟨k6, k11⟩ := become_f T T2
  have e : ((F_X4_become T T2).1 11).toNatClampNeg = (T2.1 11).toNatClampNeg := by rw [k11]; exact nI_b h.2.1
  unfold tEv
  rw [e, k6]
  exact h
theorem tEv_st {tx tn : Nat → Ob} {X T2 : Ob} (hp : F_X5_startThought (va_up tn 1 X) = T2) (h : tEv tx (tn 0)) : tEv tx T2 := by
  subst hp
  unfold F_X5_startThought F_X5_startThought_c8
  exact tEv_be (T2 := va_up tn 1 X 0) h
theorem add_nn {sb sb2 : Ob} {z : Int32} (hp : F_X2_add sb z = sb2) (h : 0 ≤ (sb.1 1).toInt) : 0 ≤ (sb2.1 1).toInt := by
  subst hp
  unfold F_X2_add
  split
  · exact h
  · rename_i c
    have e : (setS (stA sb 0 (sb.1 1) z) 1 (((stA sb 0 (sb.1 1) z).1 1) + 1)).1 1 = sb.1 1 + 1 := rfl
    rw [e]
    obtain ⟨u1, u2⟩ := up1 c (B := 160) (by decide) h (by decide)
    rw [u1]; omega
theorem isSheet_f {p : Int32} (h : ¬ F_X5_isSheet p = 0) : 0 ≤ p.toInt ∧ p.toInt < 4 := by
  have k := within_f (v := p) (a := 0) (b := 3) h
  have e0 : (0 : Int32).toInt = 0 := rfl
  have e3 : (3 : Int32).toInt = 3 := rfl
  omega
theorem shl_le {T : Ob} (h : 0 ≤ (T.1 6).toInt ∧ (T.1 6).toInt ≤ 6) : (1 <<< ((T.1 6) &&& 31) : Int32).toInt ≤ 64 := by
  generalize T.1 6 = x at *
  have k : x = 0 ∨ x = 1 ∨ x = 2 ∨ x = 3 ∨ x = 4 ∨ x = 5 ∨ x = 6 := by
    have e0 : (0 : Int32).toInt = 0 := rfl
    have e1 : (1 : Int32).toInt = 1 := rfl
    have e2 : (2 : Int32).toInt = 2 := rfl
    have e3 : (3 : Int32).toInt = 3 := rfl
    have e4 : (4 : Int32).toInt = 4 := rfl
    have e5 : (5 : Int32).toInt = 5 := rfl
    have e6 : (6 : Int32).toInt = 6 := rfl
    simp only [← Int32.toInt_inj, e0, e1, e2, e3, e4, e5, e6]
    omega
  rcases k with k | k | k | k | k | k | k <;> subst k <;> decide
theorem lcmp_ne {y : Int64} (h : ¬ lg_cmp y 0 = 0) : y ≠ 0 := by
  intro q
  subst q
  exact h rfl
def F_X5_count (tn : Nat → Ob) (bb : Ob) (sb : Ob) (p1 : Int32) : Int32 :=
  (if p1 = 0 then ((tn 0).1 6) else (if p1 = 1 then ((tn 0).1 7) else (if p1 = 2 then ((tn 0).1 8) else (if p1 = 3 then (bb.1 7) else (if p1 = 4 then ((tn 0).1 10) else (if p1 = 5 then (sb.1 1) else (if p1 = 6 then ((tn 0).1 9) else (-2))))))))
set_option maxHeartbeats 4000000 in
set_option maxRecDepth 100000 in
theorem c_X5_count {l : Launch} {g : GG} {sz : Nat} {bb : Ob} {tx rw : Nat → Ob} {sb dy : Ob} {tn : Nat → Ob} {mo : Ob} {jk : Nat → Nat → Int32}  (p1 : Int32)  : Met l yX5_count (Cond.code yX5_count cX5_count 2 (some .int) :: TT) (rmL 1) (va_Pc [.ref (gA g 0), .int p1] (gB g sz (gW g bb tx rw sb dy tn mo jk))) (va_Qi (fun r (_ : Unit) => r = (F_X5_count tn bb sb p1)) (fun u t => gC g (va_A (gW g bb tx rw sb dy tn mo jk) sz) (gW g bb tx rw sb dy tn mo jk) t) (va_A (gW g bb tx rw sb dy tn mo jk) sz)) 0 0 (va_A (gW g bb tx rw sb dy tn mo jk) sz) := by
  generalize hE : F_X5_count tn bb sb p1 = EE
  refine g_of (Qf := fun A => (va_Qi (fun r (_ : Unit) => r = EE) (fun u t => gC g A (gW g bb tx rw sb dy tn mo jk) t) A)) (cc := cX5_count) (maxL := 2) (ret := (some .int)) (by decide) (Nat.le_of_ble_eq_true rfl) ?_
  intro p e s m below meth c A ls hx hb hml hr hlocks hts hown hA hG hl
  replace hown : s.vm.findClass RX5 = some m.cls := hown
  replace hl : lv_has ls 2 [(0, .ref (gA g 0)), (1, .int p1)] := hl
  show W p l e (rmL 1) s m [.ref (gA g 0), .int p1].toArray below meth c s.heap [] 0 0 (MQ below (va_Qi (fun r (_ : Unit) => r = EE) (fun u t => gC g A (gW g bb tx rw sb dy tn mo jk) t) A) [.ref (gA g 0), .int p1].toArray s 0 0 A) (F0 m 0 ls [])
  generalize hQ : MQ below (va_Qi (fun r (_ : Unit) => r = EE) (fun u t => gC g A (gW g bb tx rw sb dy tn mo jk) t) A) [.ref (gA g 0), .int p1].toArray s 0 0 A = Q
  unfold F_X5_count at hE
  refine lv_iload_n hx hb dX5_count_0 rfl (lv_at hl 1 rfl) ?_
  by_cases c_1_0 : p1 = 0
  · replace hE := (if_pos c_1_0).symm.trans hE
    refine lv_tableIn (off := 43) (tgt := 44) hx hb dX5_count_1 (by rw [c_1_0]; decide) (by rw [c_1_0]; decide) (by rw [c_1_0]; decide) (by decide) ?_
    have i_1_0 : p1.toInt = 0 := congrArg Int32.toInt c_1_0
    refine lv_aload_n hx hb dX5_count_44 rfl (lv_at hl 0 rfl) ?_
    refine g_get hx hb hts hiX5 hown hG gw_Bell rfl 4 (by decide) (index := 53) tw_fl_RX5_53 (v := .ref (gA g (40 + 6 * 0))) rfl dX5_count_45 ?_
    refine g_get hx hb hts hiX4 hown hG (gw_Town (o := 0) (by decide) rfl) rfl 6 (by decide) (index := 63) tw_fl_RX5_63 (v := .int ((tn 0).1 6)) rfl dX5_count_48 ?_
    subst hQ
    exact g_iret hx hb hr hlocks hG () rfl hE dX5_count_51
  replace hE := (if_neg c_1_0).symm.trans hE
  by_cases c_1_1 : p1 = 1
  · replace hE := (if_pos c_1_1).symm.trans hE
    refine lv_tableIn (off := 51) (tgt := 52) hx hb dX5_count_1 (by rw [c_1_1]; decide) (by rw [c_1_1]; decide) (by rw [c_1_1]; decide) (by decide) ?_
    have i_1_1 : p1.toInt = 1 := congrArg Int32.toInt c_1_1
    refine lv_aload_n hx hb dX5_count_52 rfl (lv_at hl 0 rfl) ?_
    refine g_get hx hb hts hiX5 hown hG gw_Bell rfl 4 (by decide) (index := 53) tw_fl_RX5_53 (v := .ref (gA g (40 + 6 * 0))) rfl dX5_count_53 ?_
    refine g_get hx hb hts hiX4 hown hG (gw_Town (o := 0) (by decide) rfl) rfl 7 (by decide) (index := 66) tw_fl_RX5_66 (v := .int ((tn 0).1 7)) rfl dX5_count_56 ?_
    subst hQ
    exact g_iret hx hb hr hlocks hG () rfl hE dX5_count_59
  replace hE := (if_neg c_1_1).symm.trans hE
  by_cases c_1_2 : p1 = 2
  · replace hE := (if_pos c_1_2).symm.trans hE
    refine lv_tableIn (off := 59) (tgt := 60) hx hb dX5_count_1 (by rw [c_1_2]; decide) (by rw [c_1_2]; decide) (by rw [c_1_2]; decide) (by decide) ?_
    have i_1_2 : p1.toInt = 2 := congrArg Int32.toInt c_1_2
    refine lv_aload_n hx hb dX5_count_60 rfl (lv_at hl 0 rfl) ?_
    refine g_get hx hb hts hiX5 hown hG gw_Bell rfl 4 (by decide) (index := 53) tw_fl_RX5_53 (v := .ref (gA g (40 + 6 * 0))) rfl dX5_count_61 ?_
    refine g_get hx hb hts hiX4 hown hG (gw_Town (o := 0) (by decide) rfl) rfl 8 (by decide) (index := 69) tw_fl_RX5_69 (v := .int ((tn 0).1 8)) rfl dX5_count_64 ?_
    subst hQ
    exact g_iret hx hb hr hlocks hG () rfl hE dX5_count_67
  replace hE := (if_neg c_1_2).symm.trans hE
  by_cases c_1_3 : p1 = 3
  · replace hE := (if_pos c_1_3).symm.trans hE
    refine lv_tableIn (off := 67) (tgt := 68) hx hb dX5_count_1 (by rw [c_1_3]; decide) (by rw [c_1_3]; decide) (by rw [c_1_3]; decide) (by decide) ?_
    have i_1_3 : p1.toInt = 3 := congrArg Int32.toInt c_1_3
    refine lv_aload_n hx hb dX5_count_68 rfl (lv_at hl 0 rfl) ?_
    refine g_get hx hb hts hiX5 hown hG gw_Bell rfl 7 (by decide) (index := 35) tw_fl_RX5_35 (v := .int (bb.1 7)) rfl dX5_count_69 ?_
    subst hQ
    exact g_iret hx hb hr hlocks hG () rfl hE dX5_count_72
  replace hE := (if_neg c_1_3).symm.trans hE
  by_cases c_1_4 : p1 = 4
  · replace hE := (if_pos c_1_4).symm.trans hE
    refine lv_tableIn (off := 72) (tgt := 73) hx hb dX5_count_1 (by rw [c_1_4]; decide) (by rw [c_1_4]; decide) (by rw [c_1_4]; decide) (by decide) ?_
    have i_1_4 : p1.toInt = 4 := congrArg Int32.toInt c_1_4
    refine lv_aload_n hx hb dX5_count_73 rfl (lv_at hl 0 rfl) ?_
    refine g_get hx hb hts hiX5 hown hG gw_Bell rfl 4 (by decide) (index := 53) tw_fl_RX5_53 (v := .ref (gA g (40 + 6 * 0))) rfl dX5_count_74 ?_
    refine g_get hx hb hts hiX4 hown hG (gw_Town (o := 0) (by decide) rfl) rfl 10 (by decide) (index := 72) tw_fl_RX5_72 (v := .int ((tn 0).1 10)) rfl dX5_count_77 ?_
    subst hQ
    exact g_iret hx hb hr hlocks hG () rfl hE dX5_count_80
  replace hE := (if_neg c_1_4).symm.trans hE
  by_cases c_1_5 : p1 = 5
  · replace hE := (if_pos c_1_5).symm.trans hE
    refine lv_tableIn (off := 80) (tgt := 81) hx hb dX5_count_1 (by rw [c_1_5]; decide) (by rw [c_1_5]; decide) (by rw [c_1_5]; decide) (by decide) ?_
    have i_1_5 : p1.toInt = 5 := congrArg Int32.toInt c_1_5
    refine lv_aload_n hx hb dX5_count_81 rfl (lv_at hl 0 rfl) ?_
    refine g_get hx hb hts hiX5 hown hG gw_Bell rfl 2 (by decide) (index := 24) tw_fl_RX5_24 (v := .ref (gA g 35)) rfl dX5_count_82 ?_
    refine g_get hx hb hts hiX2 hown hG gw_Scribe rfl 1 (by decide) (index := 75) tw_fl_RX5_75 (v := .int (sb.1 1)) rfl dX5_count_85 ?_
    subst hQ
    exact g_iret hx hb hr hlocks hG () rfl hE dX5_count_88
  replace hE := (if_neg c_1_5).symm.trans hE
  by_cases c_1_6 : p1 = 6
  · replace hE := (if_pos c_1_6).symm.trans hE
    refine lv_tableIn (off := 88) (tgt := 89) hx hb dX5_count_1 (by rw [c_1_6]; decide) (by rw [c_1_6]; decide) (by rw [c_1_6]; decide) (by decide) ?_
    have i_1_6 : p1.toInt = 6 := congrArg Int32.toInt c_1_6
    refine lv_aload_n hx hb dX5_count_89 rfl (lv_at hl 0 rfl) ?_
    refine g_get hx hb hts hiX5 hown hG gw_Bell rfl 4 (by decide) (index := 53) tw_fl_RX5_53 (v := .ref (gA g (40 + 6 * 0))) rfl dX5_count_90 ?_
    refine g_get hx hb hts hiX4 hown hG (gw_Town (o := 0) (by decide) rfl) rfl 9 (by decide) (index := 78) tw_fl_RX5_78 (v := .int ((tn 0).1 9)) rfl dX5_count_93 ?_
    subst hQ
    exact g_iret hx hb hr hlocks hG () rfl hE dX5_count_96
  replace hE := (if_neg c_1_6).symm.trans hE
  refine lv_tableOut (tgt := 97) hx hb dX5_count_1 (by have k0 := lv_neT c_1_0 (a := 0) (by decide); have k1 := lv_neT c_1_1 (a := 1) (by decide); have k2 := lv_neT c_1_2 (a := 2) (by decide); have k3 := lv_neT c_1_3 (a := 3) (by decide); have k4 := lv_neT c_1_4 (a := 4) (by decide); have k5 := lv_neT c_1_5 (a := 5) (by decide); have k6 := lv_neT c_1_6 (a := 6) (by decide); omega) (by decide) ?_
  refine lv_bipush (v := (-2)) hx hb dX5_count_97 (by decide) ?_
  subst hQ
  exact g_iret hx hb hr hlocks hG () rfl hE dX5_count_99
def F_X5_clock (tn : Nat → Ob) (p1 : Int32) : Int32 × Ob :=
  (if (F_X5_isWithin p1 0 9999) = 0 then ((-2), (tn 0)) else (((tn 0).1 7), (setS (tn 0) 7 p1)))
set_option maxHeartbeats 4000000 in
set_option maxRecDepth 100000 in
theorem c_X5_clock {l : Launch} {g : GG} {sz : Nat} {bb : Ob} {tx rw : Nat → Ob} {sb dy : Ob} {tn : Nat → Ob} {mo : Ob} {jk : Nat → Nat → Int32}  (p1 : Int32)  : Met l yX5_clock (Cond.code yX5_clock cX5_clock 3 (some .int) :: TT) (rmL 2) (va_Pc [.ref (gA g 0), .int p1] (gB g sz (gW g bb tx rw sb dy tn mo jk))) (va_Qi (fun r (u : Ob) => (F_X5_clock tn p1) = (r, u)) (fun u t => gC g (va_A (gW g bb tx rw sb dy tn mo jk) sz) (gW g bb tx rw sb dy (va_up tn 0 u) mo jk) t) (va_A (gW g bb tx rw sb dy tn mo jk) sz)) 0 0 (va_A (gW g bb tx rw sb dy tn mo jk) sz) := by
  generalize hE : F_X5_clock tn p1 = EE
  refine g_of (Qf := fun A => (va_Qi (fun r (u : Ob) => EE = (r, u)) (fun u t => gC g A (gW g bb tx rw sb dy (va_up tn 0 u) mo jk) t) A)) (cc := cX5_clock) (maxL := 3) (ret := (some .int)) (by decide) (Nat.le_of_ble_eq_true rfl) ?_
  intro p e s m below meth c A ls hx hb hml hr hlocks hts hown hA hG hl
  replace hown : s.vm.findClass RX5 = some m.cls := hown
  replace hl : lv_has ls 3 [(0, .ref (gA g 0)), (1, .int p1)] := hl
  show W p l e (rmL 2) s m [.ref (gA g 0), .int p1].toArray below meth c s.heap [] 0 0 (MQ below (va_Qi (fun r (u : Ob) => EE = (r, u)) (fun u t => gC g A (gW g bb tx rw sb dy (va_up tn 0 u) mo jk) t) A) [.ref (gA g 0), .int p1].toArray s 0 0 A) (F0 m 0 ls [])
  generalize hQ : MQ below (va_Qi (fun r (u : Ob) => EE = (r, u)) (fun u t => gC g A (gW g bb tx rw sb dy (va_up tn 0 u) mo jk) t) A) [.ref (gA g 0), .int p1].toArray s 0 0 A = Q
  replace hG : gS g A s s.heap [] (gW g bb tx rw sb dy (va_up tn 0 (tn 0)) mo jk) := by simpa only [up_self] using hG
  unfold F_X5_clock at hE
  refine lv_iload_n hx hb dX5_clock_0 rfl (lv_at hl 1 rfl) ?_
  refine lv_iconst (v := 0) hx hb dX5_clock_1 (by decide) ?_
  refine lv_sipush (v := 9999) hx hb dX5_clock_2 (by decide) ?_
  refine g_si (g_runS (n := 3) (rest := []) hx hb hml hown hts hG (c_X5_isWithin p1 0 9999) tw_ml_RX5_81 tw_st_X5_isWithin tw_in_RX5 tw_cd_X5_isWithin (by decide +kernel) ⟨rfl, rfl, Nat.le_of_ble_eq_true rfl, Nat.le_of_ble_eq_true rfl⟩ rfl hl.1 rfl (Nat.le_of_ble_eq_true rfl) dX5_clock_5 ⟨Nat.le_refl _, Nat.le_refl _⟩) hG hA (fun H locs hG => ?_)
  refine lv_if_ne (tgt := 14) hx hb dX5_clock_8 (by decide) (fun c_8 => ?_) (fun c_8 => ?_)
  · replace hE := (if_neg c_8).symm.trans hE
    have i_8 : 0 ≤ p1.toInt ∧ p1.toInt ≤ 9999 := within_f c_8
    refine lv_aload_n hx hb dX5_clock_14 rfl (lv_at hl 0 rfl) ?_
    refine g_get hx hb hts hiX5 hown hG gw_Bell rfl 4 (by decide) (index := 53) tw_fl_RX5_53 (v := .ref (gA g (40 + 6 * 0))) rfl dX5_clock_15 ?_
    refine g_get hx hb hts hiX4 hown hG (gw_Town (o := 0) (by decide) (up_same _ _ _)) rfl 7 (by decide) (index := 66) tw_fl_RX5_66 (v := .int ((tn 0).1 7)) rfl dX5_clock_18 ?_
    refine lv_istore_n (lv' := [(2, .int ((tn 0).1 7)), (0, .ref (gA g 0)), (1, .int p1)]) hx hb dX5_clock_21 rfl hl (by decide) rfl (fun ls hl => ?_)
    replace hl := lv_sub hl [1, 2, 0] (l' := [(0, .ref (gA g 0)), (1, .int p1), (2, .int ((tn 0).1 7))]) rfl
    refine lv_aload_n hx hb dX5_clock_22 rfl (lv_at hl 0 rfl) ?_
    refine g_get hx hb hts hiX5 hown hG gw_Bell rfl 4 (by decide) (index := 53) tw_fl_RX5_53 (v := .ref (gA g (40 + 6 * 0))) rfl dX5_clock_23 ?_
    refine lv_iload_n hx hb dX5_clock_26 rfl (lv_at hl 1 rfl) ?_
    refine g_put hx hb hts hiX4 tyX4 tyX4_ok nmX4 hown hG (gw_Town (o := 0) (by decide) (up_same _ _ _)) rfl 7 (by decide) (index := 66) tw_fl_RX5_66 rfl rfl rfl (Nat.le_of_ble_eq_true rfl) (gt_Town_f7 (o := 0) (by decide)) dX5_clock_27 (fun H locs hG => ?_)
    refine lv_iload_n hx hb dX5_clock_30 rfl (lv_at hl 2 rfl) ?_
    subst hQ
    exact g_iret hx hb hr hlocks hG (((setS (tn 0) 7 p1)) : Ob) rfl hE.symm dX5_clock_31
  replace hE := (if_pos c_8).symm.trans hE
  refine lv_bipush (v := (-2)) hx hb dX5_clock_11 (by decide) ?_
  subst hQ
  exact g_iret hx hb hr hlocks hG (((tn 0)) : Ob) rfl hE.symm dX5_clock_13
def F_X5_force_c40 (u : Ob) (tn : Nat → Ob) (bb : Ob) (x2 : Int32) : Int32 × Ob :=
  (x2, u)
def F_X5_force (tn : Nat → Ob) (bb : Ob) (p1 : Int32) : Int32 × Ob :=
  (if p1 < 0 then ((-2), (tn 0)) else (if (bb.1 7) ≤ p1 then ((-2), (tn 0)) else (if p1 < 6 then (F_X5_force_c40 (F_X4_obey (tn 0) (Int32.toNatClampNeg p1) p1) tn bb ((tn 0).1 10)) else ((-2), (tn 0)))))
set_option maxHeartbeats 4000000 in
set_option maxRecDepth 100000 in
theorem c_X5_force {l : Launch} {g : GG} {sz : Nat} {bb : Ob} {tx rw : Nat → Ob} {sb dy : Ob} {tn : Nat → Ob} {mo : Ob} {jk : Nat → Nat → Int32}  (p1 : Int32)  : Met l yX5_force (Cond.code yX5_force cX5_force 3 (some .int) :: TT) (rmL 2) (va_Pc [.ref (gA g 0), .int p1] (gB g sz (gW g bb tx rw sb dy tn mo jk))) (va_Qi (fun r (u : Ob) => (F_X5_force tn bb p1) = (r, u)) (fun u t => gC g (va_A (gW g bb tx rw sb dy tn mo jk) sz) (gW g bb tx rw sb dy (va_up tn 0 u) mo jk) t) (va_A (gW g bb tx rw sb dy tn mo jk) sz)) 0 0 (va_A (gW g bb tx rw sb dy tn mo jk) sz) := by
  generalize hE : F_X5_force tn bb p1 = EE
  refine g_of (Qf := fun A => (va_Qi (fun r (u : Ob) => EE = (r, u)) (fun u t => gC g A (gW g bb tx rw sb dy (va_up tn 0 u) mo jk) t) A)) (cc := cX5_force) (maxL := 3) (ret := (some .int)) (by decide) (Nat.le_of_ble_eq_true rfl) ?_
  intro p e s m below meth c A ls hx hb hml hr hlocks hts hown hA hG hl
  replace hown : s.vm.findClass RX5 = some m.cls := hown
  replace hl : lv_has ls 3 [(0, .ref (gA g 0)), (1, .int p1)] := hl
  show W p l e (rmL 2) s m [.ref (gA g 0), .int p1].toArray below meth c s.heap [] 0 0 (MQ below (va_Qi (fun r (u : Ob) => EE = (r, u)) (fun u t => gC g A (gW g bb tx rw sb dy (va_up tn 0 u) mo jk) t) A) [.ref (gA g 0), .int p1].toArray s 0 0 A) (F0 m 0 ls [])
  generalize hQ : MQ below (va_Qi (fun r (u : Ob) => EE = (r, u)) (fun u t => gC g A (gW g bb tx rw sb dy (va_up tn 0 u) mo jk) t) A) [.ref (gA g 0), .int p1].toArray s 0 0 A = Q
  replace hG : gS g A s s.heap [] (gW g bb tx rw sb dy (va_up tn 0 (tn 0)) mo jk) := by simpa only [up_self] using hG
  unfold F_X5_force at hE
  refine lv_iload_n hx hb dX5_force_0 rfl (lv_at hl 1 rfl) ?_
  refine lv_if_lt (tgt := 18) hx hb dX5_force_1 (by decide) (fun c_1 => ?_) (fun c_1 => ?_)
  · replace hE := (if_pos c_1).symm.trans hE
    have i_1 : p1.toInt < 0 := i_lt.mp c_1
    refine lv_bipush (v := (-2)) hx hb dX5_force_18 (by decide) ?_
    subst hQ
    exact g_iret hx hb hr hlocks hG (((tn 0)) : Ob) rfl hE.symm dX5_force_20
  replace hE := (if_neg c_1).symm.trans hE
  have i_1 : 0 ≤ p1.toInt := i_nlt c_1
  refine lv_iload_n hx hb dX5_force_4 rfl (lv_at hl 1 rfl) ?_
  refine lv_aload_n hx hb dX5_force_5 rfl (lv_at hl 0 rfl) ?_
  refine g_get hx hb hts hiX5 hown hG gw_Bell rfl 7 (by decide) (index := 35) tw_fl_RX5_35 (v := .int (bb.1 7)) rfl dX5_force_6 ?_
  refine lv_icmp_ge (tgt := 18) hx hb dX5_force_9 (by decide) (fun c_9 => ?_) (fun c_9 => ?_)
  · replace hE := (if_pos c_9).symm.trans hE
    have i_9 : (bb.1 7).toInt ≤ p1.toInt := i_le.mp c_9
    refine lv_bipush (v := (-2)) hx hb dX5_force_18 (by decide) ?_
    subst hQ
    exact g_iret hx hb hr hlocks hG (((tn 0)) : Ob) rfl hE.symm dX5_force_20
  replace hE := (if_neg c_9).symm.trans hE
  have i_9 : p1.toInt < (bb.1 7).toInt := i_nle c_9
  refine lv_iload_n hx hb dX5_force_12 rfl (lv_at hl 1 rfl) ?_
  refine lv_bipush (v := 6) hx hb dX5_force_13 (by decide) ?_
  refine lv_icmp_lt (tgt := 21) hx hb dX5_force_15 (by decide) (fun c_15 => ?_) (fun c_15 => ?_)
  · replace hE := (if_pos c_15).symm.trans hE
    have i_15 : p1.toInt < 6 := i_lt.mp c_15
    refine lv_aload_n hx hb dX5_force_21 rfl (lv_at hl 0 rfl) ?_
    refine g_get hx hb hts hiX5 hown hG gw_Bell rfl 4 (by decide) (index := 53) tw_fl_RX5_53 (v := .ref (gA g (40 + 6 * 0))) rfl dX5_force_22 ?_
    refine g_get hx hb hts hiX4 hown hG (gw_Town (o := 0) (by decide) (up_same _ _ _)) rfl 10 (by decide) (index := 72) tw_fl_RX5_72 (v := .int ((tn 0).1 10)) rfl dX5_force_25 ?_
    refine lv_istore_n (lv' := [(2, .int ((tn 0).1 10)), (0, .ref (gA g 0)), (1, .int p1)]) hx hb dX5_force_28 rfl hl (by decide) rfl (fun ls hl => ?_)
    replace hl := lv_sub hl [1, 2, 0] (l' := [(0, .ref (gA g 0)), (1, .int p1), (2, .int ((tn 0).1 10))]) rfl
    refine lv_aload_n hx hb dX5_force_29 rfl (lv_at hl 0 rfl) ?_
    refine g_get hx hb hts hiX5 hown hG gw_Bell rfl 4 (by decide) (index := 53) tw_fl_RX5_53 (v := .ref (gA g (40 + 6 * 0))) rfl dX5_force_30 ?_
    refine lv_aload_n hx hb dX5_force_33 rfl (lv_at hl 0 rfl) ?_
    refine g_get hx hb hts hiX5 hown hG gw_Bell rfl 0 (by decide) (index := 11) tw_fl_RX5_11 (v := .ref (gA g 1)) rfl dX5_force_34 ?_
    refine lv_iload_n hx hb dX5_force_37 rfl (lv_at hl 1 rfl) ?_
    have hi_38 : vp_in p1 6 := (vp_i (by clear hE; omega) (by clear hE; omega))
    have hj_38 := vp_lt hi_38
    refine g_ald hx hb hG (q0 := 1) (t0 := 2) rfl rfl hi_38 (b := gA g (3 + 4 * (Int32.toNatClampNeg p1))) rfl dX5_force_38 ?_
    refine lv_iload_n hx hb dX5_force_39 rfl (lv_at hl 1 rfl) ?_
    refine g_cv (g_runV (n := 2) (rest := []) hx hb hml hown hts hG (c_X4_obey (by decide) (up_same _ _ _) hj_38 p1) tw_ml_RX5_97 tw_im_X4_obey tw_se_X4_obey tw_in_RX4 tw_cd_X4_obey (by decide +kernel) ⟨rfl, rfl, Nat.le_of_ble_eq_true rfl, Nat.le_of_ble_eq_true rfl⟩ (gw_Town (o := 0) (by decide) (up_same _ _ _)) rfl rfl hl.1 rfl (Nat.le_of_ble_eq_true rfl) dX5_force_40 ⟨Nat.le_refl _, Nat.le_refl _⟩) hG hA (fun u H locs hp hG => ?_)
    obtain ⟨t_m_40, rfl⟩ : ∃ z, z = u := ⟨u, rfl⟩
    replace hG : gS g A s H locs (gW g bb tx rw sb dy (va_up tn 0 t_m_40) mo jk) := by simpa only [up_up] using hG
    have hp_40 := hp
    rw [hp] at hE
    unfold F_X5_force_c40 at hE
    try dsimp only at hE
    refine lv_iload_n hx hb dX5_force_43 rfl (lv_at hl 2 rfl) ?_
    subst hQ
    exact g_iret hx hb hr hlocks hG ((t_m_40) : Ob) rfl hE.symm dX5_force_44
  replace hE := (if_neg c_15).symm.trans hE
  have i_15 : 6 ≤ p1.toInt := i_nlt c_15
  refine lv_bipush (v := (-2)) hx hb dX5_force_18 (by decide) ?_
  subst hQ
  exact g_iret hx hb hr hlocks hG (((tn 0)) : Ob) rfl hE.symm dX5_force_20
def F_X5_asks (tx : Nat → Ob) (tn : Nat → Ob) (p1 : Int32) (p2 : Int32) : Int32 :=
  (if (F_X5_isWithin p1 0 2) = 0 then (-1000) else (if (F_X4_has (tn 0) p2) = 0 then (-1000) else (F_X3_says (tx (((tn 0).1 11).toNatClampNeg)) (tn 0) p1 p2)))
set_option maxHeartbeats 4000000 in
set_option maxRecDepth 100000 in
theorem c_X5_asks {l : Launch} {g : GG} {sz : Nat} {bb : Ob} {tx rw : Nat → Ob} {sb dy : Ob} {tn : Nat → Ob} {mo : Ob} {jk : Nat → Nat → Int32}  (p1 : Int32) (p2 : Int32) (hv : tEv tx (tn 0)) : Met l yX5_asks (Cond.code yX5_asks cX5_asks 3 (some .int) :: TT) (rmL 5) (va_Pc [.ref (gA g 0), .int p1, .int p2] (gB g sz (gW g bb tx rw sb dy tn mo jk))) (va_Qi (fun r (_ : (Nat → Nat → Int32)) => r = (F_X5_asks tx tn p1 p2)) (fun u t => gC g (va_A (gW g bb tx rw sb dy tn mo jk) sz) (gW g bb tx rw sb dy tn mo u) t) (va_A (gW g bb tx rw sb dy tn mo jk) sz)) 0 0 (va_A (gW g bb tx rw sb dy tn mo jk) sz) := by
  generalize hE : F_X5_asks tx tn p1 p2 = EE
  refine g_of (Qf := fun A => (va_Qi (fun r (_ : (Nat → Nat → Int32)) => r = EE) (fun u t => gC g A (gW g bb tx rw sb dy tn mo u) t) A)) (cc := cX5_asks) (maxL := 3) (ret := (some .int)) (by decide) (Nat.le_of_ble_eq_true rfl) ?_
  intro p e s m below meth c A ls hx hb hml hr hlocks hts hown hA hG hl
  replace hown : s.vm.findClass RX5 = some m.cls := hown
  replace hl : lv_has ls 3 [(0, .ref (gA g 0)), (1, .int p1), (2, .int p2)] := hl
  show W p l e (rmL 5) s m [.ref (gA g 0), .int p1, .int p2].toArray below meth c s.heap [] 0 0 (MQ below (va_Qi (fun r (_ : (Nat → Nat → Int32)) => r = EE) (fun u t => gC g A (gW g bb tx rw sb dy tn mo u) t) A) [.ref (gA g 0), .int p1, .int p2].toArray s 0 0 A) (F0 m 0 ls [])
  generalize hQ : MQ below (va_Qi (fun r (_ : (Nat → Nat → Int32)) => r = EE) (fun u t => gC g A (gW g bb tx rw sb dy tn mo u) t) A) [.ref (gA g 0), .int p1, .int p2].toArray s 0 0 A = Q
  unfold F_X5_asks at hE
  refine lv_iload_n hx hb dX5_asks_0 rfl (lv_at hl 1 rfl) ?_
  refine lv_iconst (v := 0) hx hb dX5_asks_1 (by decide) ?_
  refine lv_iconst (v := 2) hx hb dX5_asks_2 (by decide) ?_
  refine g_si (g_runS (n := 3) (rest := []) hx hb hml hown hts hG (c_X5_isWithin p1 0 2) tw_ml_RX5_81 tw_st_X5_isWithin tw_in_RX5 tw_cd_X5_isWithin (by decide +kernel) ⟨rfl, rfl, Nat.le_of_ble_eq_true rfl, Nat.le_of_ble_eq_true rfl⟩ rfl hl.1 rfl (Nat.le_of_ble_eq_true rfl) dX5_asks_3 ⟨Nat.le_refl _, Nat.le_refl _⟩) hG hA (fun H locs hG => ?_)
  refine lv_if_eq (tgt := 20) hx hb dX5_asks_6 (by decide) (fun c_6 => ?_) (fun c_6 => ?_)
  · replace hE := (if_pos c_6).symm.trans hE
    refine lv_sipush (v := (-1000)) hx hb dX5_asks_20 (by decide) ?_
    subst hQ
    exact g_iret hx hb hr hlocks hG ((jk) : (Nat → Nat → Int32)) rfl hE dX5_asks_23
  replace hE := (if_neg c_6).symm.trans hE
  have i_6 : 0 ≤ p1.toInt ∧ p1.toInt ≤ 2 := within_f c_6
  refine lv_aload_n hx hb dX5_asks_9 rfl (lv_at hl 0 rfl) ?_
  refine g_get hx hb hts hiX5 hown hG gw_Bell rfl 4 (by decide) (index := 53) tw_fl_RX5_53 (v := .ref (gA g (40 + 6 * 0))) rfl dX5_asks_10 ?_
  refine lv_iload_n hx hb dX5_asks_13 rfl (lv_at hl 2 rfl) ?_
  refine g_ci (g_runV (n := 1) (rest := []) hx hb hml hown hts hG (c_X4_has (by decide) rfl p2) tw_ml_RX5_101 tw_im_X4_has tw_se_X4_has tw_in_RX4 tw_cd_X4_has (by decide +kernel) ⟨rfl, rfl, Nat.le_of_ble_eq_true rfl, Nat.le_of_ble_eq_true rfl⟩ (gw_Town (o := 0) (by decide) rfl) rfl rfl hl.1 rfl (Nat.le_of_ble_eq_true rfl) dX5_asks_14 ⟨Nat.le_refl _, Nat.le_refl _⟩) hG hA (fun r _ H locs hp hG => ?_)
  subst hp
  replace hG : gS g A s H locs (gW g bb tx rw sb dy tn mo jk) := hG
  refine lv_if_ne (tgt := 24) hx hb dX5_asks_17 (by decide) (fun c_17 => ?_) (fun c_17 => ?_)
  · replace hE := (if_neg c_17).symm.trans hE
    have i_17 := has_f c_17
    refine lv_aload_n hx hb dX5_asks_24 rfl (lv_at hl 0 rfl) ?_
    refine g_get hx hb hts hiX5 hown hG gw_Bell rfl 4 (by decide) (index := 53) tw_fl_RX5_53 (v := .ref (gA g (40 + 6 * 0))) rfl dX5_asks_25 ?_
    refine g_get hx hb hts hiX4 hown hG (gw_Town (o := 0) (by decide) rfl) rfl 11 (by decide) (index := 104) tw_fl_RX5_104 (v := .ref (gA g (3 + 4 * (((tn 0).1 11).toNatClampNeg)))) rfl dX5_asks_28 ?_
    refine lv_iload_n hx hb dX5_asks_31 rfl (lv_at hl 1 rfl) ?_
    refine lv_aload_n hx hb dX5_asks_32 rfl (lv_at hl 0 rfl) ?_
    refine g_get hx hb hts hiX5 hown hG gw_Bell rfl 4 (by decide) (index := 53) tw_fl_RX5_53 (v := .ref (gA g (40 + 6 * 0))) rfl dX5_asks_33 ?_
    refine lv_iload_n hx hb dX5_asks_36 rfl (lv_at hl 2 rfl) ?_
    refine g_ci (g_runV (n := 3) (rest := []) hx hb hml hown hts hG (c_X3_says hv.2.1 rfl (by decide) rfl p1 p2 hv.2.2) tw_ml_RX5_108 tw_im_X3_says tw_se_X3_says tw_in_RX3 tw_cd_X3_says (by decide +kernel) ⟨rfl, rfl, Nat.le_of_ble_eq_true rfl, Nat.le_of_ble_eq_true rfl⟩ (gw_Text hv.2.1 rfl) rfl rfl hl.1 rfl (Nat.le_of_ble_eq_true rfl) dX5_asks_37 ⟨Nat.le_refl _, Nat.le_refl _⟩) hG hA (fun r jk H locs hp hG => ?_)
    subst hp
    replace hG : gS g A s H locs (gW g bb tx rw sb dy tn mo jk) := hG
    subst hQ
    exact g_iret hx hb hr hlocks hG ((jk) : (Nat → Nat → Int32)) rfl hE dX5_asks_40
  replace hE := (if_pos c_17).symm.trans hE
  refine lv_sipush (v := (-1000)) hx hb dX5_asks_20 (by decide) ?_
  subst hQ
  exact g_iret hx hb hr hlocks hG ((jk) : (Nat → Nat → Int32)) rfl hE dX5_asks_23
def F_X5_put_c56 (u : Ob) (tn : Nat → Ob) (x5 : Int32) : Int32 × Ob :=
  (x5, u)
def F_X5_put (tn : Nat → Ob) (p1 : Int32) (p2 : Int32) (p3 : Int32) : Int32 × Ob :=
  (if (F_X4_has (tn 0) p1) = 0 then ((-5), (tn 0)) else (if (F_X5_mostOf p2) < 0 then ((-7), (tn 0)) else (if (F_X5_isWithin p3 0 (F_X5_mostOf p2)) = 0 then ((-7), (tn 0)) else (F_X5_put_c56 (F_X4_change (tn 0) p1 p2 p3) tn (F_X4_known (tn 0) p1 p2)))))
set_option maxHeartbeats 4000000 in
set_option maxRecDepth 100000 in
theorem c_X5_put {l : Launch} {g : GG} {sz : Nat} {bb : Ob} {tx rw : Nat → Ob} {sb dy : Ob} {tn : Nat → Ob} {mo : Ob} {jk : Nat → Nat → Int32}  (p1 : Int32) (p2 : Int32) (p3 : Int32)  : Met l yX5_put (Cond.code yX5_put cX5_put 6 (some .int) :: TT) (rmL 4) (va_Pc [.ref (gA g 0), .int p1, .int p2, .int p3] (gB g sz (gW g bb tx rw sb dy tn mo jk))) (va_Qi (fun r (u : Ob) => (F_X5_put tn p1 p2 p3) = (r, u)) (fun u t => gC g (va_A (gW g bb tx rw sb dy tn mo jk) sz) (gW g bb tx rw sb dy (va_up tn 0 u) mo jk) t) (va_A (gW g bb tx rw sb dy tn mo jk) sz)) 0 0 (va_A (gW g bb tx rw sb dy tn mo jk) sz) := by
  generalize hE : F_X5_put tn p1 p2 p3 = EE
  refine g_of (Qf := fun A => (va_Qi (fun r (u : Ob) => EE = (r, u)) (fun u t => gC g A (gW g bb tx rw sb dy (va_up tn 0 u) mo jk) t) A)) (cc := cX5_put) (maxL := 6) (ret := (some .int)) (by decide) (Nat.le_of_ble_eq_true rfl) ?_
  intro p e s m below meth c A ls hx hb hml hr hlocks hts hown hA hG hl
  replace hown : s.vm.findClass RX5 = some m.cls := hown
  replace hl : lv_has ls 6 [(0, .ref (gA g 0)), (1, .int p1), (2, .int p2), (3, .int p3)] := hl
  show W p l e (rmL 4) s m [.ref (gA g 0), .int p1, .int p2, .int p3].toArray below meth c s.heap [] 0 0 (MQ below (va_Qi (fun r (u : Ob) => EE = (r, u)) (fun u t => gC g A (gW g bb tx rw sb dy (va_up tn 0 u) mo jk) t) A) [.ref (gA g 0), .int p1, .int p2, .int p3].toArray s 0 0 A) (F0 m 0 ls [])
  generalize hQ : MQ below (va_Qi (fun r (u : Ob) => EE = (r, u)) (fun u t => gC g A (gW g bb tx rw sb dy (va_up tn 0 u) mo jk) t) A) [.ref (gA g 0), .int p1, .int p2, .int p3].toArray s 0 0 A = Q
  replace hG : gS g A s s.heap [] (gW g bb tx rw sb dy (va_up tn 0 (tn 0)) mo jk) := by simpa only [up_self] using hG
  unfold F_X5_put at hE
  refine lv_aload_n hx hb dX5_put_0 rfl (lv_at hl 0 rfl) ?_
  refine g_get hx hb hts hiX5 hown hG gw_Bell rfl 4 (by decide) (index := 53) tw_fl_RX5_53 (v := .ref (gA g (40 + 6 * 0))) rfl dX5_put_1 ?_
  refine lv_iload_n hx hb dX5_put_4 rfl (lv_at hl 1 rfl) ?_
  refine g_ci (g_runV (n := 1) (rest := []) hx hb hml hown hts hG (c_X4_has (by decide) (up_same _ _ _) p1) tw_ml_RX5_101 tw_im_X4_has tw_se_X4_has tw_in_RX4 tw_cd_X4_has (by decide +kernel) ⟨rfl, rfl, Nat.le_of_ble_eq_true rfl, Nat.le_of_ble_eq_true rfl⟩ (gw_Town (o := 0) (by decide) (up_same _ _ _)) rfl rfl hl.1 rfl (Nat.le_of_ble_eq_true rfl) dX5_put_5 ⟨Nat.le_refl _, Nat.le_refl _⟩) hG hA (fun r _ H locs hp hG => ?_)
  subst hp
  replace hG : gS g A s H locs (gW g bb tx rw sb dy (va_up tn 0 (tn 0)) mo jk) := hG
  refine lv_if_ne (tgt := 14) hx hb dX5_put_8 (by decide) (fun c_8 => ?_) (fun c_8 => ?_)
  · replace hE := (if_neg c_8).symm.trans hE
    have i_8 := has_f c_8
    refine lv_iload_n hx hb dX5_put_14 rfl (lv_at hl 2 rfl) ?_
    refine g_si (g_runS (n := 1) (rest := []) hx hb hml hown hts hG (c_X5_mostOf p2) tw_ml_RX5_116 tw_st_X5_mostOf tw_in_RX5 tw_cd_X5_mostOf (by decide +kernel) ⟨rfl, rfl, Nat.le_of_ble_eq_true rfl, Nat.le_of_ble_eq_true rfl⟩ rfl hl.1 rfl (Nat.le_of_ble_eq_true rfl) dX5_put_15 ⟨Nat.le_refl _, Nat.le_refl _⟩) hG hA (fun H locs hG => ?_)
    refine lv_istore (lv' := [(4, .int (F_X5_mostOf p2)), (0, .ref (gA g 0)), (1, .int p1), (2, .int p2), (3, .int p3)]) hx hb dX5_put_18 hl (by decide) rfl (fun ls hl => ?_)
    replace hl := lv_sub hl [1, 2, 3, 4, 0] (l' := [(0, .ref (gA g 0)), (1, .int p1), (2, .int p2), (3, .int p3), (4, .int (F_X5_mostOf p2))]) rfl
    refine lv_iload hx hb dX5_put_20 (lv_at hl 4 rfl) ?_
    refine lv_if_lt (tgt := 35) hx hb dX5_put_22 (by decide) (fun c_22 => ?_) (fun c_22 => ?_)
    · replace hE := (if_pos c_22).symm.trans hE
      refine lv_bipush (v := (-7)) hx hb dX5_put_35 (by decide) ?_
      subst hQ
      exact g_iret hx hb hr hlocks hG (((tn 0)) : Ob) rfl hE.symm dX5_put_37
    replace hE := (if_neg c_22).symm.trans hE
    refine lv_iload_n hx hb dX5_put_25 rfl (lv_at hl 3 rfl) ?_
    refine lv_iconst (v := 0) hx hb dX5_put_26 (by decide) ?_
    refine lv_iload hx hb dX5_put_27 (lv_at hl 4 rfl) ?_
    refine g_si (g_runS (n := 3) (rest := []) hx hb hml hown hts hG (c_X5_isWithin p3 0 (F_X5_mostOf p2)) tw_ml_RX5_81 tw_st_X5_isWithin tw_in_RX5 tw_cd_X5_isWithin (by decide +kernel) ⟨rfl, rfl, Nat.le_of_ble_eq_true rfl, Nat.le_of_ble_eq_true rfl⟩ rfl hl.1 rfl (Nat.le_of_ble_eq_true rfl) dX5_put_29 ⟨Nat.le_refl _, Nat.le_refl _⟩) hG hA (fun H locs hG => ?_)
    refine lv_if_ne (tgt := 38) hx hb dX5_put_32 (by decide) (fun c_32 => ?_) (fun c_32 => ?_)
    · replace hE := (if_neg c_32).symm.trans hE
      have i_32 : 0 ≤ p3.toInt ∧ p3.toInt ≤ (F_X5_mostOf p2).toInt := within_f c_32
      refine lv_aload_n hx hb dX5_put_38 rfl (lv_at hl 0 rfl) ?_
      refine g_get hx hb hts hiX5 hown hG gw_Bell rfl 4 (by decide) (index := 53) tw_fl_RX5_53 (v := .ref (gA g (40 + 6 * 0))) rfl dX5_put_39 ?_
      refine lv_iload_n hx hb dX5_put_42 rfl (lv_at hl 1 rfl) ?_
      refine lv_iload_n hx hb dX5_put_43 rfl (lv_at hl 2 rfl) ?_
      refine g_ci (g_runV (n := 2) (rest := []) hx hb hml hown hts hG (c_X4_known (by decide) (up_same _ _ _) p1 p2) tw_ml_RX5_120 tw_im_X4_known tw_se_X4_known tw_in_RX4 tw_cd_X4_known (by decide +kernel) ⟨rfl, rfl, Nat.le_of_ble_eq_true rfl, Nat.le_of_ble_eq_true rfl⟩ (gw_Town (o := 0) (by decide) (up_same _ _ _)) rfl rfl hl.1 rfl (Nat.le_of_ble_eq_true rfl) dX5_put_44 ⟨Nat.le_refl _, Nat.le_refl _⟩) hG hA (fun r _ H locs hp hG => ?_)
      subst hp
      replace hG : gS g A s H locs (gW g bb tx rw sb dy (va_up tn 0 (tn 0)) mo jk) := hG
      refine lv_istore (lv' := [(5, .int (F_X4_known (tn 0) p1 p2)), (0, .ref (gA g 0)), (1, .int p1), (2, .int p2), (3, .int p3), (4, .int (F_X5_mostOf p2))]) hx hb dX5_put_47 hl (by decide) rfl (fun ls hl => ?_)
      replace hl := lv_sub hl [1, 2, 3, 4, 5, 0] (l' := [(0, .ref (gA g 0)), (1, .int p1), (2, .int p2), (3, .int p3), (4, .int (F_X5_mostOf p2)), (5, .int (F_X4_known (tn 0) p1 p2))]) rfl
      refine lv_aload_n hx hb dX5_put_49 rfl (lv_at hl 0 rfl) ?_
      refine g_get hx hb hts hiX5 hown hG gw_Bell rfl 4 (by decide) (index := 53) tw_fl_RX5_53 (v := .ref (gA g (40 + 6 * 0))) rfl dX5_put_50 ?_
      refine lv_iload_n hx hb dX5_put_53 rfl (lv_at hl 1 rfl) ?_
      refine lv_iload_n hx hb dX5_put_54 rfl (lv_at hl 2 rfl) ?_
      refine lv_iload_n hx hb dX5_put_55 rfl (lv_at hl 3 rfl) ?_
      refine g_cv (g_runV (n := 3) (rest := []) hx hb hml hown hts hG (c_X4_change (by decide) (up_same _ _ _) p1 p2 p3) tw_ml_RX5_124 tw_im_X4_change tw_se_X4_change tw_in_RX4 tw_cd_X4_change (by decide +kernel) ⟨rfl, rfl, Nat.le_of_ble_eq_true rfl, Nat.le_of_ble_eq_true rfl⟩ (gw_Town (o := 0) (by decide) (up_same _ _ _)) rfl rfl hl.1 rfl (Nat.le_of_ble_eq_true rfl) dX5_put_56 ⟨Nat.le_refl _, Nat.le_refl _⟩) hG hA (fun u H locs hp hG => ?_)
      obtain ⟨t_m_56, rfl⟩ : ∃ z, z = u := ⟨u, rfl⟩
      replace hG : gS g A s H locs (gW g bb tx rw sb dy (va_up tn 0 t_m_56) mo jk) := by simpa only [up_up] using hG
      have hp_56 := hp
      rw [hp] at hE
      unfold F_X5_put_c56 at hE
      try dsimp only at hE
      refine lv_iload hx hb dX5_put_59 (lv_at hl 5 rfl) ?_
      subst hQ
      exact g_iret hx hb hr hlocks hG ((t_m_56) : Ob) rfl hE.symm dX5_put_61
    replace hE := (if_pos c_32).symm.trans hE
    refine lv_bipush (v := (-7)) hx hb dX5_put_35 (by decide) ?_
    subst hQ
    exact g_iret hx hb hr hlocks hG (((tn 0)) : Ob) rfl hE.symm dX5_put_37
  replace hE := (if_pos c_8).symm.trans hE
  refine lv_bipush (v := (-5)) hx hb dX5_put_11 (by decide) ?_
  subst hQ
  exact g_iret hx hb hr hlocks hG (((tn 0)) : Ob) rfl hE.symm dX5_put_13
def F_X5_tells (tx : Nat → Ob) (tn : Nat → Ob) (p1 : Int32) (p2 : Int32) : Int32 :=
  (if (F_X4_has (tn 0) p1) = 0 then (-5) else (if p2 = 0 then (F_X4_known (tn 0) p1 p2) else (if p2 = 1 then (F_X4_known (tn 0) p1 p2) else (if p2 = 2 then (F_X4_known (tn 0) p1 p2) else (if p2 = 3 then (F_X4_known (tn 0) p1 p2) else (if p2 = 4 then (((tn 0).2 0) (Int32.toNatClampNeg p1)) else (if p2 = 5 then (((tn 0).2 1) (Int32.toNatClampNeg p1)) else (if p2 = 6 then (if (F_X4_isLying tx (tn 0) p1) = 0 then 0 else 1) else (if p2 = 7 then ((F_X4_costOf tx (tn 0) p1) + 1000) else (if p2 = 8 then (F_X4_strokesOf tx (tn 0) p1) else (-7)))))))))))
set_option maxHeartbeats 4000000 in
set_option maxRecDepth 100000 in
theorem c_X5_tells {l : Launch} {g : GG} {sz : Nat} {bb : Ob} {tx rw : Nat → Ob} {sb dy : Ob} {tn : Nat → Ob} {mo : Ob} {jk : Nat → Nat → Int32}  (p1 : Int32) (p2 : Int32) (hv : tEv tx (tn 0)) : Met l yX5_tells (Cond.code yX5_tells cX5_tells 3 (some .int) :: TT) (rmL 6) (va_Pc [.ref (gA g 0), .int p1, .int p2] (gB g sz (gW g bb tx rw sb dy tn mo jk))) (va_Qi (fun r (_ : (Nat → Nat → Int32)) => r = (F_X5_tells tx tn p1 p2)) (fun u t => gC g (va_A (gW g bb tx rw sb dy tn mo jk) sz) (gW g bb tx rw sb dy tn mo u) t) (va_A (gW g bb tx rw sb dy tn mo jk) sz)) 0 0 (va_A (gW g bb tx rw sb dy tn mo jk) sz) := by
  generalize hE : F_X5_tells tx tn p1 p2 = EE
  refine g_of (Qf := fun A => (va_Qi (fun r (_ : (Nat → Nat → Int32)) => r = EE) (fun u t => gC g A (gW g bb tx rw sb dy tn mo u) t) A)) (cc := cX5_tells) (maxL := 3) (ret := (some .int)) (by decide) (Nat.le_of_ble_eq_true rfl) ?_
  intro p e s m below meth c A ls hx hb hml hr hlocks hts hown hA hG hl
  replace hown : s.vm.findClass RX5 = some m.cls := hown
  replace hl : lv_has ls 3 [(0, .ref (gA g 0)), (1, .int p1), (2, .int p2)] := hl
  show W p l e (rmL 6) s m [.ref (gA g 0), .int p1, .int p2].toArray below meth c s.heap [] 0 0 (MQ below (va_Qi (fun r (_ : (Nat → Nat → Int32)) => r = EE) (fun u t => gC g A (gW g bb tx rw sb dy tn mo u) t) A) [.ref (gA g 0), .int p1, .int p2].toArray s 0 0 A) (F0 m 0 ls [])
  generalize hQ : MQ below (va_Qi (fun r (_ : (Nat → Nat → Int32)) => r = EE) (fun u t => gC g A (gW g bb tx rw sb dy tn mo u) t) A) [.ref (gA g 0), .int p1, .int p2].toArray s 0 0 A = Q
  unfold F_X5_tells at hE
  refine lv_aload_n hx hb dX5_tells_0 rfl (lv_at hl 0 rfl) ?_
  refine g_get hx hb hts hiX5 hown hG gw_Bell rfl 4 (by decide) (index := 53) tw_fl_RX5_53 (v := .ref (gA g (40 + 6 * 0))) rfl dX5_tells_1 ?_
  refine lv_iload_n hx hb dX5_tells_4 rfl (lv_at hl 1 rfl) ?_
  refine g_ci (g_runV (n := 1) (rest := []) hx hb hml hown hts hG (c_X4_has (by decide) rfl p1) tw_ml_RX5_101 tw_im_X4_has tw_se_X4_has tw_in_RX4 tw_cd_X4_has (by decide +kernel) ⟨rfl, rfl, Nat.le_of_ble_eq_true rfl, Nat.le_of_ble_eq_true rfl⟩ (gw_Town (o := 0) (by decide) rfl) rfl rfl hl.1 rfl (Nat.le_of_ble_eq_true rfl) dX5_tells_5 ⟨Nat.le_refl _, Nat.le_refl _⟩) hG hA (fun r _ H locs hp hG => ?_)
  subst hp
  replace hG : gS g A s H locs (gW g bb tx rw sb dy tn mo jk) := hG
  refine lv_if_ne (tgt := 14) hx hb dX5_tells_8 (by decide) (fun c_8 => ?_) (fun c_8 => ?_)
  · replace hE := (if_neg c_8).symm.trans hE
    have i_8 := has_f c_8
    refine lv_iload_n hx hb dX5_tells_14 rfl (lv_at hl 2 rfl) ?_
    by_cases c_15_0 : p2 = 0
    · replace hE := (if_pos c_15_0).symm.trans hE
      refine lv_tableIn (off := 49) (tgt := 64) hx hb dX5_tells_15 (by rw [c_15_0]; decide) (by rw [c_15_0]; decide) (by rw [c_15_0]; decide) (by decide) ?_
      have i_15_0 : p2.toInt = 0 := congrArg Int32.toInt c_15_0
      refine lv_aload_n hx hb dX5_tells_64 rfl (lv_at hl 0 rfl) ?_
      refine g_get hx hb hts hiX5 hown hG gw_Bell rfl 4 (by decide) (index := 53) tw_fl_RX5_53 (v := .ref (gA g (40 + 6 * 0))) rfl dX5_tells_65 ?_
      refine lv_iload_n hx hb dX5_tells_68 rfl (lv_at hl 1 rfl) ?_
      refine lv_iload_n hx hb dX5_tells_69 rfl (lv_at hl 2 rfl) ?_
      refine g_ci (g_runV (n := 2) (rest := []) hx hb hml hown hts hG (c_X4_known (by decide) rfl p1 p2) tw_ml_RX5_120 tw_im_X4_known tw_se_X4_known tw_in_RX4 tw_cd_X4_known (by decide +kernel) ⟨rfl, rfl, Nat.le_of_ble_eq_true rfl, Nat.le_of_ble_eq_true rfl⟩ (gw_Town (o := 0) (by decide) rfl) rfl rfl hl.1 rfl (Nat.le_of_ble_eq_true rfl) dX5_tells_70 ⟨Nat.le_refl _, Nat.le_refl _⟩) hG hA (fun r _ H locs hp hG => ?_)
      subst hp
      replace hG : gS g A s H locs (gW g bb tx rw sb dy tn mo jk) := hG
      subst hQ
      exact g_iret hx hb hr hlocks hG ((jk) : (Nat → Nat → Int32)) rfl hE dX5_tells_73
    replace hE := (if_neg c_15_0).symm.trans hE
    by_cases c_15_1 : p2 = 1
    · replace hE := (if_pos c_15_1).symm.trans hE
      refine lv_tableIn (off := 49) (tgt := 64) hx hb dX5_tells_15 (by rw [c_15_1]; decide) (by rw [c_15_1]; decide) (by rw [c_15_1]; decide) (by decide) ?_
      have i_15_1 : p2.toInt = 1 := congrArg Int32.toInt c_15_1
      refine lv_aload_n hx hb dX5_tells_64 rfl (lv_at hl 0 rfl) ?_
      refine g_get hx hb hts hiX5 hown hG gw_Bell rfl 4 (by decide) (index := 53) tw_fl_RX5_53 (v := .ref (gA g (40 + 6 * 0))) rfl dX5_tells_65 ?_
      refine lv_iload_n hx hb dX5_tells_68 rfl (lv_at hl 1 rfl) ?_
      refine lv_iload_n hx hb dX5_tells_69 rfl (lv_at hl 2 rfl) ?_
      refine g_ci (g_runV (n := 2) (rest := []) hx hb hml hown hts hG (c_X4_known (by decide) rfl p1 p2) tw_ml_RX5_120 tw_im_X4_known tw_se_X4_known tw_in_RX4 tw_cd_X4_known (by decide +kernel) ⟨rfl, rfl, Nat.le_of_ble_eq_true rfl, Nat.le_of_ble_eq_true rfl⟩ (gw_Town (o := 0) (by decide) rfl) rfl rfl hl.1 rfl (Nat.le_of_ble_eq_true rfl) dX5_tells_70 ⟨Nat.le_refl _, Nat.le_refl _⟩) hG hA (fun r _ H locs hp hG => ?_)
      subst hp
      replace hG : gS g A s H locs (gW g bb tx rw sb dy tn mo jk) := hG
      subst hQ
      exact g_iret hx hb hr hlocks hG ((jk) : (Nat → Nat → Int32)) rfl hE dX5_tells_73
    replace hE := (if_neg c_15_1).symm.trans hE
    by_cases c_15_2 : p2 = 2
    · replace hE := (if_pos c_15_2).symm.trans hE
      refine lv_tableIn (off := 49) (tgt := 64) hx hb dX5_tells_15 (by rw [c_15_2]; decide) (by rw [c_15_2]; decide) (by rw [c_15_2]; decide) (by decide) ?_
      have i_15_2 : p2.toInt = 2 := congrArg Int32.toInt c_15_2
      refine lv_aload_n hx hb dX5_tells_64 rfl (lv_at hl 0 rfl) ?_
      refine g_get hx hb hts hiX5 hown hG gw_Bell rfl 4 (by decide) (index := 53) tw_fl_RX5_53 (v := .ref (gA g (40 + 6 * 0))) rfl dX5_tells_65 ?_
      refine lv_iload_n hx hb dX5_tells_68 rfl (lv_at hl 1 rfl) ?_
      refine lv_iload_n hx hb dX5_tells_69 rfl (lv_at hl 2 rfl) ?_
      refine g_ci (g_runV (n := 2) (rest := []) hx hb hml hown hts hG (c_X4_known (by decide) rfl p1 p2) tw_ml_RX5_120 tw_im_X4_known tw_se_X4_known tw_in_RX4 tw_cd_X4_known (by decide +kernel) ⟨rfl, rfl, Nat.le_of_ble_eq_true rfl, Nat.le_of_ble_eq_true rfl⟩ (gw_Town (o := 0) (by decide) rfl) rfl rfl hl.1 rfl (Nat.le_of_ble_eq_true rfl) dX5_tells_70 ⟨Nat.le_refl _, Nat.le_refl _⟩) hG hA (fun r _ H locs hp hG => ?_)
      subst hp
      replace hG : gS g A s H locs (gW g bb tx rw sb dy tn mo jk) := hG
      subst hQ
      exact g_iret hx hb hr hlocks hG ((jk) : (Nat → Nat → Int32)) rfl hE dX5_tells_73
    replace hE := (if_neg c_15_2).symm.trans hE
    by_cases c_15_3 : p2 = 3
    · replace hE := (if_pos c_15_3).symm.trans hE
      refine lv_tableIn (off := 49) (tgt := 64) hx hb dX5_tells_15 (by rw [c_15_3]; decide) (by rw [c_15_3]; decide) (by rw [c_15_3]; decide) (by decide) ?_
      have i_15_3 : p2.toInt = 3 := congrArg Int32.toInt c_15_3
      refine lv_aload_n hx hb dX5_tells_64 rfl (lv_at hl 0 rfl) ?_
      refine g_get hx hb hts hiX5 hown hG gw_Bell rfl 4 (by decide) (index := 53) tw_fl_RX5_53 (v := .ref (gA g (40 + 6 * 0))) rfl dX5_tells_65 ?_
      refine lv_iload_n hx hb dX5_tells_68 rfl (lv_at hl 1 rfl) ?_
      refine lv_iload_n hx hb dX5_tells_69 rfl (lv_at hl 2 rfl) ?_
      refine g_ci (g_runV (n := 2) (rest := []) hx hb hml hown hts hG (c_X4_known (by decide) rfl p1 p2) tw_ml_RX5_120 tw_im_X4_known tw_se_X4_known tw_in_RX4 tw_cd_X4_known (by decide +kernel) ⟨rfl, rfl, Nat.le_of_ble_eq_true rfl, Nat.le_of_ble_eq_true rfl⟩ (gw_Town (o := 0) (by decide) rfl) rfl rfl hl.1 rfl (Nat.le_of_ble_eq_true rfl) dX5_tells_70 ⟨Nat.le_refl _, Nat.le_refl _⟩) hG hA (fun r _ H locs hp hG => ?_)
      subst hp
      replace hG : gS g A s H locs (gW g bb tx rw sb dy tn mo jk) := hG
      subst hQ
      exact g_iret hx hb hr hlocks hG ((jk) : (Nat → Nat → Int32)) rfl hE dX5_tells_73
    replace hE := (if_neg c_15_3).symm.trans hE
    by_cases c_15_4 : p2 = 4
    · replace hE := (if_pos c_15_4).symm.trans hE
      refine lv_tableIn (off := 59) (tgt := 74) hx hb dX5_tells_15 (by rw [c_15_4]; decide) (by rw [c_15_4]; decide) (by rw [c_15_4]; decide) (by decide) ?_
      have i_15_4 : p2.toInt = 4 := congrArg Int32.toInt c_15_4
      refine lv_aload_n hx hb dX5_tells_74 rfl (lv_at hl 0 rfl) ?_
      refine g_get hx hb hts hiX5 hown hG gw_Bell rfl 4 (by decide) (index := 53) tw_fl_RX5_53 (v := .ref (gA g (40 + 6 * 0))) rfl dX5_tells_75 ?_
      refine g_get hx hb hts hiX4 hown hG (gw_Town (o := 0) (by decide) rfl) rfl 0 (by decide) (index := 128) tw_fl_RX5_128 (v := .ref (gA g (40 + 6 * 0 + 1))) rfl dX5_tells_78 ?_
      refine lv_iload_n hx hb dX5_tells_81 rfl (lv_at hl 1 rfl) ?_
      refine g_ild hx hb hG (gw_Town_a0 (o := 0) (by decide) rfl) (vp_i (by clear hE; omega) (by clear hE; omega)) dX5_tells_82 ?_
      subst hQ
      exact g_iret hx hb hr hlocks hG ((jk) : (Nat → Nat → Int32)) rfl hE dX5_tells_83
    replace hE := (if_neg c_15_4).symm.trans hE
    by_cases c_15_5 : p2 = 5
    · replace hE := (if_pos c_15_5).symm.trans hE
      refine lv_tableIn (off := 69) (tgt := 84) hx hb dX5_tells_15 (by rw [c_15_5]; decide) (by rw [c_15_5]; decide) (by rw [c_15_5]; decide) (by decide) ?_
      have i_15_5 : p2.toInt = 5 := congrArg Int32.toInt c_15_5
      refine lv_aload_n hx hb dX5_tells_84 rfl (lv_at hl 0 rfl) ?_
      refine g_get hx hb hts hiX5 hown hG gw_Bell rfl 4 (by decide) (index := 53) tw_fl_RX5_53 (v := .ref (gA g (40 + 6 * 0))) rfl dX5_tells_85 ?_
      refine g_get hx hb hts hiX4 hown hG (gw_Town (o := 0) (by decide) rfl) rfl 1 (by decide) (index := 132) tw_fl_RX5_132 (v := .ref (gA g (40 + 6 * 0 + 2))) rfl dX5_tells_88 ?_
      refine lv_iload_n hx hb dX5_tells_91 rfl (lv_at hl 1 rfl) ?_
      refine g_ild hx hb hG (gw_Town_a1 (o := 0) (by decide) rfl) (vp_i (by clear hE; omega) (by clear hE; omega)) dX5_tells_92 ?_
      subst hQ
      exact g_iret hx hb hr hlocks hG ((jk) : (Nat → Nat → Int32)) rfl hE dX5_tells_93
    replace hE := (if_neg c_15_5).symm.trans hE
    by_cases c_15_6 : p2 = 6
    · replace hE := (if_pos c_15_6).symm.trans hE
      refine lv_tableIn (off := 79) (tgt := 94) hx hb dX5_tells_15 (by rw [c_15_6]; decide) (by rw [c_15_6]; decide) (by rw [c_15_6]; decide) (by decide) ?_
      have i_15_6 : p2.toInt = 6 := congrArg Int32.toInt c_15_6
      refine lv_aload_n hx hb dX5_tells_94 rfl (lv_at hl 0 rfl) ?_
      refine g_get hx hb hts hiX5 hown hG gw_Bell rfl 4 (by decide) (index := 53) tw_fl_RX5_53 (v := .ref (gA g (40 + 6 * 0))) rfl dX5_tells_95 ?_
      refine lv_iload_n hx hb dX5_tells_98 rfl (lv_at hl 1 rfl) ?_
      refine g_ci (g_runV (n := 1) (rest := []) hx hb hml hown hts hG (c_X4_isLying (by decide) rfl p1 hv) tw_ml_RX5_135 tw_im_X4_isLying tw_se_X4_isLying tw_in_RX4 tw_cd_X4_isLying (by decide +kernel) ⟨rfl, rfl, Nat.le_of_ble_eq_true rfl, Nat.le_of_ble_eq_true rfl⟩ (gw_Town (o := 0) (by decide) rfl) rfl rfl hl.1 rfl (Nat.le_of_ble_eq_true rfl) dX5_tells_99 ⟨Nat.le_refl _, Nat.le_refl _⟩) hG hA (fun r jk H locs hp hG => ?_)
      subst hp
      replace hG : gS g A s H locs (gW g bb tx rw sb dy tn mo jk) := hG
      refine lv_if_eq (tgt := 109) hx hb dX5_tells_102 (by decide) (fun c_102 => ?_) (fun c_102 => ?_)
      · replace hE := (if_pos c_102).symm.trans hE
        refine lv_iconst (v := 0) hx hb dX5_tells_109 (by decide) ?_
        subst hQ
        exact g_iret hx hb hr hlocks hG ((jk) : (Nat → Nat → Int32)) rfl hE dX5_tells_110
      replace hE := (if_neg c_102).symm.trans hE
      refine lv_iconst (v := 1) hx hb dX5_tells_105 (by decide) ?_
      refine lv_goto (tgt := 110) hx hb dX5_tells_106 (by decide) ?_
      subst hQ
      exact g_iret hx hb hr hlocks hG ((jk) : (Nat → Nat → Int32)) rfl hE dX5_tells_110
    replace hE := (if_neg c_15_6).symm.trans hE
    by_cases c_15_7 : p2 = 7
    · replace hE := (if_pos c_15_7).symm.trans hE
      refine lv_tableIn (off := 96) (tgt := 111) hx hb dX5_tells_15 (by rw [c_15_7]; decide) (by rw [c_15_7]; decide) (by rw [c_15_7]; decide) (by decide) ?_
      have i_15_7 : p2.toInt = 7 := congrArg Int32.toInt c_15_7
      refine lv_aload_n hx hb dX5_tells_111 rfl (lv_at hl 0 rfl) ?_
      refine g_get hx hb hts hiX5 hown hG gw_Bell rfl 4 (by decide) (index := 53) tw_fl_RX5_53 (v := .ref (gA g (40 + 6 * 0))) rfl dX5_tells_112 ?_
      refine lv_iload_n hx hb dX5_tells_115 rfl (lv_at hl 1 rfl) ?_
      refine g_ci (g_runV (n := 1) (rest := []) hx hb hml hown hts hG (c_X4_costOf (by decide) rfl p1 hv) tw_ml_RX5_138 tw_im_X4_costOf tw_se_X4_costOf tw_in_RX4 tw_cd_X4_costOf (by decide +kernel) ⟨rfl, rfl, Nat.le_of_ble_eq_true rfl, Nat.le_of_ble_eq_true rfl⟩ (gw_Town (o := 0) (by decide) rfl) rfl rfl hl.1 rfl (Nat.le_of_ble_eq_true rfl) dX5_tells_116 ⟨Nat.le_refl _, Nat.le_refl _⟩) hG hA (fun r jk H locs hp hG => ?_)
      subst hp
      replace hG : gS g A s H locs (gW g bb tx rw sb dy tn mo jk) := hG
      refine lv_sipush (v := 1000) hx hb dX5_tells_119 (by decide) ?_
      refine lv_iadd hx hb dX5_tells_122 ?_
      subst hQ
      exact g_iret hx hb hr hlocks hG ((jk) : (Nat → Nat → Int32)) rfl hE dX5_tells_123
    replace hE := (if_neg c_15_7).symm.trans hE
    by_cases c_15_8 : p2 = 8
    · replace hE := (if_pos c_15_8).symm.trans hE
      refine lv_tableIn (off := 109) (tgt := 124) hx hb dX5_tells_15 (by rw [c_15_8]; decide) (by rw [c_15_8]; decide) (by rw [c_15_8]; decide) (by decide) ?_
      have i_15_8 : p2.toInt = 8 := congrArg Int32.toInt c_15_8
      refine lv_aload_n hx hb dX5_tells_124 rfl (lv_at hl 0 rfl) ?_
      refine g_get hx hb hts hiX5 hown hG gw_Bell rfl 4 (by decide) (index := 53) tw_fl_RX5_53 (v := .ref (gA g (40 + 6 * 0))) rfl dX5_tells_125 ?_
      refine lv_iload_n hx hb dX5_tells_128 rfl (lv_at hl 1 rfl) ?_
      refine g_ci (g_runV (n := 1) (rest := []) hx hb hml hown hts hG (c_X4_strokesOf (by decide) rfl p1 hv) tw_ml_RX5_141 tw_im_X4_strokesOf tw_se_X4_strokesOf tw_in_RX4 tw_cd_X4_strokesOf (by decide +kernel) ⟨rfl, rfl, Nat.le_of_ble_eq_true rfl, Nat.le_of_ble_eq_true rfl⟩ (gw_Town (o := 0) (by decide) rfl) rfl rfl hl.1 rfl (Nat.le_of_ble_eq_true rfl) dX5_tells_129 ⟨Nat.le_refl _, Nat.le_refl _⟩) hG hA (fun r jk H locs hp hG => ?_)
      subst hp
      replace hG : gS g A s H locs (gW g bb tx rw sb dy tn mo jk) := hG
      subst hQ
      exact g_iret hx hb hr hlocks hG ((jk) : (Nat → Nat → Int32)) rfl hE dX5_tells_132
    replace hE := (if_neg c_15_8).symm.trans hE
    refine lv_tableOut (tgt := 133) hx hb dX5_tells_15 (by have k0 := lv_neT c_15_0 (a := 0) (by decide); have k1 := lv_neT c_15_1 (a := 1) (by decide); have k2 := lv_neT c_15_2 (a := 2) (by decide); have k3 := lv_neT c_15_3 (a := 3) (by decide); have k4 := lv_neT c_15_4 (a := 4) (by decide); have k5 := lv_neT c_15_5 (a := 5) (by decide); have k6 := lv_neT c_15_6 (a := 6) (by decide); have k7 := lv_neT c_15_7 (a := 7) (by decide); have k8 := lv_neT c_15_8 (a := 8) (by decide); omega) (by decide) ?_
    refine lv_bipush (v := (-7)) hx hb dX5_tells_133 (by decide) ?_
    subst hQ
    exact g_iret hx hb hr hlocks hG ((jk) : (Nat → Nat → Int32)) rfl hE dX5_tells_135
  replace hE := (if_pos c_8).symm.trans hE
  refine lv_bipush (v := (-5)) hx hb dX5_tells_11 (by decide) ?_
  subst hQ
  exact g_iret hx hb hr hlocks hG ((jk) : (Nat → Nat → Int32)) rfl hE dX5_tells_13
def F_X5_bell (tx : Nat → Ob) (tn : Nat → Ob) (p1 : Int32) : Int32 :=
  (if p1 = 0 then (F_X4_liars tx (tn 0)) else (if p1 = 1 then (F_X4_strikesOf tx (tn 0) (F_X4_liars tx (tn 0))) else (if p1 = 2 then ((tn 0).1 8) else (if p1 = 3 then ((tn 0).1 5) else (-2)))))
set_option maxHeartbeats 4000000 in
set_option maxRecDepth 100000 in
theorem c_X5_bell {l : Launch} {g : GG} {sz : Nat} {bb : Ob} {tx rw : Nat → Ob} {sb dy : Ob} {tn : Nat → Ob} {mo : Ob} {jk : Nat → Nat → Int32}  (p1 : Int32) (hv : tEv tx (tn 0)) : Met l yX5_bell (Cond.code yX5_bell cX5_bell 2 (some .int) :: TT) (rmL 7) (va_Pc [.ref (gA g 0), .int p1] (gB g sz (gW g bb tx rw sb dy tn mo jk))) (va_Qi (fun r (_ : (Nat → Nat → Int32)) => r = (F_X5_bell tx tn p1)) (fun u t => gC g (va_A (gW g bb tx rw sb dy tn mo jk) sz) (gW g bb tx rw sb dy tn mo u) t) (va_A (gW g bb tx rw sb dy tn mo jk) sz)) 0 0 (va_A (gW g bb tx rw sb dy tn mo jk) sz) := by
  generalize hE : F_X5_bell tx tn p1 = EE
  refine g_of (Qf := fun A => (va_Qi (fun r (_ : (Nat → Nat → Int32)) => r = EE) (fun u t => gC g A (gW g bb tx rw sb dy tn mo u) t) A)) (cc := cX5_bell) (maxL := 2) (ret := (some .int)) (by decide) (Nat.le_of_ble_eq_true rfl) ?_
  intro p e s m below meth c A ls hx hb hml hr hlocks hts hown hA hG hl
  replace hown : s.vm.findClass RX5 = some m.cls := hown
  replace hl : lv_has ls 2 [(0, .ref (gA g 0)), (1, .int p1)] := hl
  show W p l e (rmL 7) s m [.ref (gA g 0), .int p1].toArray below meth c s.heap [] 0 0 (MQ below (va_Qi (fun r (_ : (Nat → Nat → Int32)) => r = EE) (fun u t => gC g A (gW g bb tx rw sb dy tn mo u) t) A) [.ref (gA g 0), .int p1].toArray s 0 0 A) (F0 m 0 ls [])
  generalize hQ : MQ below (va_Qi (fun r (_ : (Nat → Nat → Int32)) => r = EE) (fun u t => gC g A (gW g bb tx rw sb dy tn mo u) t) A) [.ref (gA g 0), .int p1].toArray s 0 0 A = Q
  unfold F_X5_bell at hE
  refine lv_iload_n hx hb dX5_bell_0 rfl (lv_at hl 1 rfl) ?_
  by_cases c_1_0 : p1 = 0
  · replace hE := (if_pos c_1_0).symm.trans hE
    refine lv_tableIn (off := 31) (tgt := 32) hx hb dX5_bell_1 (by rw [c_1_0]; decide) (by rw [c_1_0]; decide) (by rw [c_1_0]; decide) (by decide) ?_
    have i_1_0 : p1.toInt = 0 := congrArg Int32.toInt c_1_0
    refine lv_aload_n hx hb dX5_bell_32 rfl (lv_at hl 0 rfl) ?_
    refine g_get hx hb hts hiX5 hown hG gw_Bell rfl 4 (by decide) (index := 53) tw_fl_RX5_53 (v := .ref (gA g (40 + 6 * 0))) rfl dX5_bell_33 ?_
    refine g_ci (g_runV (n := 0) (rest := []) hx hb hml hown hts hG (c_X4_liars (by decide) rfl hv) tw_ml_RX5_144 tw_im_X4_liars tw_se_X4_liars tw_in_RX4 tw_cd_X4_liars (by decide +kernel) ⟨rfl, rfl, Nat.le_of_ble_eq_true rfl, Nat.le_of_ble_eq_true rfl⟩ (gw_Town (o := 0) (by decide) rfl) rfl rfl hl.1 rfl (Nat.le_of_ble_eq_true rfl) dX5_bell_36 ⟨Nat.le_refl _, Nat.le_refl _⟩) hG hA (fun r jk H locs hp hG => ?_)
    subst hp
    replace hG : gS g A s H locs (gW g bb tx rw sb dy tn mo jk) := hG
    subst hQ
    exact g_iret hx hb hr hlocks hG ((jk) : (Nat → Nat → Int32)) rfl hE dX5_bell_39
  replace hE := (if_neg c_1_0).symm.trans hE
  by_cases c_1_1 : p1 = 1
  · replace hE := (if_pos c_1_1).symm.trans hE
    refine lv_tableIn (off := 39) (tgt := 40) hx hb dX5_bell_1 (by rw [c_1_1]; decide) (by rw [c_1_1]; decide) (by rw [c_1_1]; decide) (by decide) ?_
    have i_1_1 : p1.toInt = 1 := congrArg Int32.toInt c_1_1
    refine lv_aload_n hx hb dX5_bell_40 rfl (lv_at hl 0 rfl) ?_
    refine g_get hx hb hts hiX5 hown hG gw_Bell rfl 4 (by decide) (index := 53) tw_fl_RX5_53 (v := .ref (gA g (40 + 6 * 0))) rfl dX5_bell_41 ?_
    refine lv_aload_n hx hb dX5_bell_44 rfl (lv_at hl 0 rfl) ?_
    refine g_get hx hb hts hiX5 hown hG gw_Bell rfl 4 (by decide) (index := 53) tw_fl_RX5_53 (v := .ref (gA g (40 + 6 * 0))) rfl dX5_bell_45 ?_
    refine g_ci (g_runV (n := 0) (rest := [.ref (gA g (40 + 6 * 0))]) hx hb hml hown hts hG (c_X4_liars (by decide) rfl hv) tw_ml_RX5_144 tw_im_X4_liars tw_se_X4_liars tw_in_RX4 tw_cd_X4_liars (by decide +kernel) ⟨rfl, rfl, Nat.le_of_ble_eq_true rfl, Nat.le_of_ble_eq_true rfl⟩ (gw_Town (o := 0) (by decide) rfl) rfl rfl hl.1 rfl (Nat.le_of_ble_eq_true rfl) dX5_bell_48 ⟨Nat.le_refl _, Nat.le_refl _⟩) hG hA (fun r jk H locs hp hG => ?_)
    subst hp
    replace hG : gS g A s H locs (gW g bb tx rw sb dy tn mo jk) := hG
    refine g_ci (g_runV (n := 1) (rest := []) hx hb hml hown hts hG (c_X4_strikesOf (by decide) rfl (F_X4_liars tx (tn 0)) hv) tw_ml_RX5_148 tw_im_X4_strikesOf tw_se_X4_strikesOf tw_in_RX4 tw_cd_X4_strikesOf (by decide +kernel) ⟨rfl, rfl, Nat.le_of_ble_eq_true rfl, Nat.le_of_ble_eq_true rfl⟩ (gw_Town (o := 0) (by decide) rfl) rfl rfl hl.1 rfl (Nat.le_of_ble_eq_true rfl) dX5_bell_51 ⟨Nat.le_refl _, Nat.le_refl _⟩) hG hA (fun r jk H locs hp hG => ?_)
    subst hp
    replace hG : gS g A s H locs (gW g bb tx rw sb dy tn mo jk) := hG
    subst hQ
    exact g_iret hx hb hr hlocks hG ((jk) : (Nat → Nat → Int32)) rfl hE dX5_bell_54
  replace hE := (if_neg c_1_1).symm.trans hE
  by_cases c_1_2 : p1 = 2
  · replace hE := (if_pos c_1_2).symm.trans hE
    refine lv_tableIn (off := 54) (tgt := 55) hx hb dX5_bell_1 (by rw [c_1_2]; decide) (by rw [c_1_2]; decide) (by rw [c_1_2]; decide) (by decide) ?_
    have i_1_2 : p1.toInt = 2 := congrArg Int32.toInt c_1_2
    refine lv_aload_n hx hb dX5_bell_55 rfl (lv_at hl 0 rfl) ?_
    refine g_get hx hb hts hiX5 hown hG gw_Bell rfl 4 (by decide) (index := 53) tw_fl_RX5_53 (v := .ref (gA g (40 + 6 * 0))) rfl dX5_bell_56 ?_
    refine g_get hx hb hts hiX4 hown hG (gw_Town (o := 0) (by decide) rfl) rfl 8 (by decide) (index := 69) tw_fl_RX5_69 (v := .int ((tn 0).1 8)) rfl dX5_bell_59 ?_
    subst hQ
    exact g_iret hx hb hr hlocks hG ((jk) : (Nat → Nat → Int32)) rfl hE dX5_bell_62
  replace hE := (if_neg c_1_2).symm.trans hE
  by_cases c_1_3 : p1 = 3
  · replace hE := (if_pos c_1_3).symm.trans hE
    refine lv_tableIn (off := 62) (tgt := 63) hx hb dX5_bell_1 (by rw [c_1_3]; decide) (by rw [c_1_3]; decide) (by rw [c_1_3]; decide) (by decide) ?_
    have i_1_3 : p1.toInt = 3 := congrArg Int32.toInt c_1_3
    refine lv_aload_n hx hb dX5_bell_63 rfl (lv_at hl 0 rfl) ?_
    refine g_get hx hb hts hiX5 hown hG gw_Bell rfl 4 (by decide) (index := 53) tw_fl_RX5_53 (v := .ref (gA g (40 + 6 * 0))) rfl dX5_bell_64 ?_
    refine g_get hx hb hts hiX4 hown hG (gw_Town (o := 0) (by decide) rfl) rfl 5 (by decide) (index := 151) tw_fl_RX5_151 (v := .int ((tn 0).1 5)) rfl dX5_bell_67 ?_
    subst hQ
    exact g_iret hx hb hr hlocks hG ((jk) : (Nat → Nat → Int32)) rfl hE dX5_bell_70
  replace hE := (if_neg c_1_3).symm.trans hE
  refine lv_tableOut (tgt := 71) hx hb dX5_bell_1 (by have k0 := lv_neT c_1_0 (a := 0) (by decide); have k1 := lv_neT c_1_1 (a := 1) (by decide); have k2 := lv_neT c_1_2 (a := 2) (by decide); have k3 := lv_neT c_1_3 (a := 3) (by decide); omega) (by decide) ?_
  refine lv_bipush (v := (-2)) hx hb dX5_bell_71 (by decide) ?_
  subst hQ
  exact g_iret hx hb hr hlocks hG ((jk) : (Nat → Nat → Int32)) rfl hE dX5_bell_73
def F_X5_strike_c27 (u : Int32 × Ob) (tx : Nat → Ob) (tn : Nat → Ob) : Int32 × Ob :=
  (u.1, u.2)
def F_X5_strike (tx : Nat → Ob) (tn : Nat → Ob) : Int32 × Ob :=
  (if ((tn 0).1 7) < 9999 then (F_X5_strike_c27 (F_X4_passHour tx (tn 0) (F_X4_liars tx (tn 0))) tx tn) else ((-3), (tn 0)))
set_option maxHeartbeats 4000000 in
set_option maxRecDepth 100000 in
theorem c_X5_strike {l : Launch} {g : GG} {sz : Nat} {bb : Ob} {tx rw : Nat → Ob} {sb dy : Ob} {tn : Nat → Ob} {mo : Ob} {jk : Nat → Nat → Int32}   (hv : tEv tx (tn 0)) : Met l yX5_strike (Cond.code yX5_strike cX5_strike 1 (some .int) :: TT) (rmL 8) (va_Pc [.ref (gA g 0)] (gB g sz (gW g bb tx rw sb dy tn mo jk))) (va_Qi (fun r (u : Ob × (Nat → Nat → Int32)) => (F_X5_strike tx tn) = (r, u.1)) (fun u t => gC g (va_A (gW g bb tx rw sb dy tn mo jk) sz) (gW g bb tx rw sb dy (va_up tn 0 u.1) mo u.2) t) (va_A (gW g bb tx rw sb dy tn mo jk) sz)) 0 0 (va_A (gW g bb tx rw sb dy tn mo jk) sz) := by
  generalize hE : F_X5_strike tx tn = EE
  refine g_of (Qf := fun A => (va_Qi (fun r (u : Ob × (Nat → Nat → Int32)) => EE = (r, u.1)) (fun u t => gC g A (gW g bb tx rw sb dy (va_up tn 0 u.1) mo u.2) t) A)) (cc := cX5_strike) (maxL := 1) (ret := (some .int)) (by decide) (Nat.le_of_ble_eq_true rfl) ?_
  intro p e s m below meth c A ls hx hb hml hr hlocks hts hown hA hG hl
  replace hown : s.vm.findClass RX5 = some m.cls := hown
  replace hl : lv_has ls 1 [(0, .ref (gA g 0))] := hl
  show W p l e (rmL 8) s m [.ref (gA g 0)].toArray below meth c s.heap [] 0 0 (MQ below (va_Qi (fun r (u : Ob × (Nat → Nat → Int32)) => EE = (r, u.1)) (fun u t => gC g A (gW g bb tx rw sb dy (va_up tn 0 u.1) mo u.2) t) A) [.ref (gA g 0)].toArray s 0 0 A) (F0 m 0 ls [])
  generalize hQ : MQ below (va_Qi (fun r (u : Ob × (Nat → Nat → Int32)) => EE = (r, u.1)) (fun u t => gC g A (gW g bb tx rw sb dy (va_up tn 0 u.1) mo u.2) t) A) [.ref (gA g 0)].toArray s 0 0 A = Q
  replace hG : gS g A s s.heap [] (gW g bb tx rw sb dy (va_up tn 0 (tn 0)) mo jk) := by simpa only [up_self] using hG
  unfold F_X5_strike at hE
  refine lv_aload_n hx hb dX5_strike_0 rfl (lv_at hl 0 rfl) ?_
  refine g_get hx hb hts hiX5 hown hG gw_Bell rfl 4 (by decide) (index := 53) tw_fl_RX5_53 (v := .ref (gA g (40 + 6 * 0))) rfl dX5_strike_1 ?_
  refine g_get hx hb hts hiX4 hown hG (gw_Town (o := 0) (by decide) (up_same _ _ _)) rfl 7 (by decide) (index := 66) tw_fl_RX5_66 (v := .int ((tn 0).1 7)) rfl dX5_strike_4 ?_
  refine lv_sipush (v := 9999) hx hb dX5_strike_7 (by decide) ?_
  refine lv_icmp_lt (tgt := 16) hx hb dX5_strike_10 (by decide) (fun c_10 => ?_) (fun c_10 => ?_)
  · replace hE := (if_pos c_10).symm.trans hE
    have i_10 : ((tn 0).1 7).toInt < 9999 := i_lt.mp c_10
    refine lv_aload_n hx hb dX5_strike_16 rfl (lv_at hl 0 rfl) ?_
    refine g_get hx hb hts hiX5 hown hG gw_Bell rfl 4 (by decide) (index := 53) tw_fl_RX5_53 (v := .ref (gA g (40 + 6 * 0))) rfl dX5_strike_17 ?_
    refine lv_aload_n hx hb dX5_strike_20 rfl (lv_at hl 0 rfl) ?_
    refine g_get hx hb hts hiX5 hown hG gw_Bell rfl 4 (by decide) (index := 53) tw_fl_RX5_53 (v := .ref (gA g (40 + 6 * 0))) rfl dX5_strike_21 ?_
    refine g_ci (g_runV (n := 0) (rest := [.ref (gA g (40 + 6 * 0))]) hx hb hml hown hts hG (c_X4_liars (by decide) (up_same _ _ _) hv) tw_ml_RX5_144 tw_im_X4_liars tw_se_X4_liars tw_in_RX4 tw_cd_X4_liars (by decide +kernel) ⟨rfl, rfl, Nat.le_of_ble_eq_true rfl, Nat.le_of_ble_eq_true rfl⟩ (gw_Town (o := 0) (by decide) (up_same _ _ _)) rfl rfl hl.1 rfl (Nat.le_of_ble_eq_true rfl) dX5_strike_24 ⟨Nat.le_refl _, Nat.le_refl _⟩) hG hA (fun r jk H locs hp hG => ?_)
    subst hp
    replace hG : gS g A s H locs (gW g bb tx rw sb dy (va_up tn 0 (tn 0)) mo jk) := hG
    refine g_ci (g_runV (n := 1) (rest := []) hx hb hml hown hts hG (c_X4_passHour (by decide) (up_same _ _ _) (F_X4_liars tx (tn 0)) hv) tw_ml_RX5_154 tw_im_X4_passHour tw_se_X4_passHour tw_in_RX4 tw_cd_X4_passHour (by decide +kernel) ⟨rfl, rfl, Nat.le_of_ble_eq_true rfl, Nat.le_of_ble_eq_true rfl⟩ (gw_Town (o := 0) (by decide) (up_same _ _ _)) rfl rfl hl.1 rfl (Nat.le_of_ble_eq_true rfl) dX5_strike_27 ⟨Nat.le_refl _, Nat.le_refl _⟩) hG hA (fun r_27 u H locs hp hG => ?_)
    obtain ⟨t_m_27, jk⟩ := u
    replace hG : gS g A s H locs (gW g bb tx rw sb dy (va_up tn 0 t_m_27) mo jk) := by simpa only [up_up] using hG
    have hp_27 := hp
    rw [hp] at hE
    unfold F_X5_strike_c27 at hE
    try dsimp only at hE
    subst hQ
    exact g_iret hx hb hr hlocks hG ((t_m_27, jk) : Ob × (Nat → Nat → Int32)) rfl hE.symm dX5_strike_30
  replace hE := (if_neg c_10).symm.trans hE
  have i_10 : 9999 ≤ ((tn 0).1 7).toInt := i_nlt c_10
  refine lv_bipush (v := (-3)) hx hb dX5_strike_13 (by decide) ?_
  subst hQ
  exact g_iret hx hb hr hlocks hG (((tn 0), jk) : Ob × (Nat → Nat → Int32)) rfl hE.symm dX5_strike_15
def F_X5_taken_b50 (tn : Nat → Ob) (x2 : Int32) (x3 : Int32) (z0 : Int32) : Int32 :=
  (if (F_X4_has (tn 0) z0) = 0 then (-11) else (if x3 = 0 then (if (F_X5_isKindOf (((tn 0).2 0) (Int32.toNatClampNeg z0)) x2) = 0 then (-13) else z0) else (if x2 = 6 then (((tn 0).2 4) (Int32.toNatClampNeg z0)) else (-13))))
def F_X5_taken_b37 (tn : Nat → Ob) (x1 : Int32) (x2 : Int32) (z0 : Int32) : Int32 :=
  (if z0 = 0 then (F_X5_taken_b50  tn x2 z0 x1) else (F_X5_taken_b50  tn x2 z0 (x1 - 6)))
def F_X5_taken (tn : Nat → Ob) (p1 : Int32) (p2 : Int32) : Int32 :=
  (if (F_X5_isWithin p2 0 6) = 0 then (-2) else (if (F_X5_isWithin p1 0 11) = 0 then (-12) else (if p1 < 6 then (F_X5_taken_b37  tn p1 p2 0) else (F_X5_taken_b37  tn p1 p2 1))))
set_option maxHeartbeats 4000000 in
set_option maxRecDepth 100000 in
theorem c_X5_taken {l : Launch} {g : GG} {sz : Nat} {bb : Ob} {tx rw : Nat → Ob} {sb dy : Ob} {tn : Nat → Ob} {mo : Ob} {jk : Nat → Nat → Int32}  (p1 : Int32) (p2 : Int32)  : Met l yX5_taken (Cond.code yX5_taken cX5_taken 5 (some .int) :: TT) (rmL 3) (va_Pc [.ref (gA g 0), .int p1, .int p2] (gB g sz (gW g bb tx rw sb dy tn mo jk))) (va_Qi (fun r (_ : Unit) => r = (F_X5_taken tn p1 p2)) (fun u t => gC g (va_A (gW g bb tx rw sb dy tn mo jk) sz) (gW g bb tx rw sb dy tn mo jk) t) (va_A (gW g bb tx rw sb dy tn mo jk) sz)) 0 0 (va_A (gW g bb tx rw sb dy tn mo jk) sz) := by
  generalize hE : F_X5_taken tn p1 p2 = EE
  refine g_of (Qf := fun A => (va_Qi (fun r (_ : Unit) => r = EE) (fun u t => gC g A (gW g bb tx rw sb dy tn mo jk) t) A)) (cc := cX5_taken) (maxL := 5) (ret := (some .int)) (by decide) (Nat.le_of_ble_eq_true rfl) ?_
  intro p e s m below meth c A ls hx hb hml hr hlocks hts hown hA hG hl
  replace hown : s.vm.findClass RX5 = some m.cls := hown
  replace hl : lv_has ls 5 [(0, .ref (gA g 0)), (1, .int p1), (2, .int p2)] := hl
  show W p l e (rmL 3) s m [.ref (gA g 0), .int p1, .int p2].toArray below meth c s.heap [] 0 0 (MQ below (va_Qi (fun r (_ : Unit) => r = EE) (fun u t => gC g A (gW g bb tx rw sb dy tn mo jk) t) A) [.ref (gA g 0), .int p1, .int p2].toArray s 0 0 A) (F0 m 0 ls [])
  generalize hQ : MQ below (va_Qi (fun r (_ : Unit) => r = EE) (fun u t => gC g A (gW g bb tx rw sb dy tn mo jk) t) A) [.ref (gA g 0), .int p1, .int p2].toArray s 0 0 A = Q
  unfold F_X5_taken at hE
  refine lv_iload_n hx hb dX5_taken_0 rfl (lv_at hl 2 rfl) ?_
  refine lv_iconst (v := 0) hx hb dX5_taken_1 (by decide) ?_
  refine lv_bipush (v := 6) hx hb dX5_taken_2 (by decide) ?_
  refine g_si (g_runS (n := 3) (rest := []) hx hb hml hown hts hG (c_X5_isWithin p2 0 6) tw_ml_RX5_81 tw_st_X5_isWithin tw_in_RX5 tw_cd_X5_isWithin (by decide +kernel) ⟨rfl, rfl, Nat.le_of_ble_eq_true rfl, Nat.le_of_ble_eq_true rfl⟩ rfl hl.1 rfl (Nat.le_of_ble_eq_true rfl) dX5_taken_4 ⟨Nat.le_refl _, Nat.le_refl _⟩) hG hA (fun H locs hG => ?_)
  refine lv_if_ne (tgt := 13) hx hb dX5_taken_7 (by decide) (fun c_7 => ?_) (fun c_7 => ?_)
  · replace hE := (if_neg c_7).symm.trans hE
    have i_7 : 0 ≤ p2.toInt ∧ p2.toInt ≤ 6 := within_f c_7
    refine lv_iload_n hx hb dX5_taken_13 rfl (lv_at hl 1 rfl) ?_
    refine lv_iconst (v := 0) hx hb dX5_taken_14 (by decide) ?_
    refine lv_bipush (v := 11) hx hb dX5_taken_15 (by decide) ?_
    refine g_si (g_runS (n := 3) (rest := []) hx hb hml hown hts hG (c_X5_isWithin p1 0 11) tw_ml_RX5_81 tw_st_X5_isWithin tw_in_RX5 tw_cd_X5_isWithin (by decide +kernel) ⟨rfl, rfl, Nat.le_of_ble_eq_true rfl, Nat.le_of_ble_eq_true rfl⟩ rfl hl.1 rfl (Nat.le_of_ble_eq_true rfl) dX5_taken_17 ⟨Nat.le_refl _, Nat.le_refl _⟩) hG hA (fun H locs hG => ?_)
    refine lv_if_ne (tgt := 26) hx hb dX5_taken_20 (by decide) (fun c_20 => ?_) (fun c_20 => ?_)
    · replace hE := (if_neg c_20).symm.trans hE
      have i_20 : 0 ≤ p1.toInt ∧ p1.toInt ≤ 11 := within_f c_20
      refine lv_iload_n hx hb dX5_taken_26 rfl (lv_at hl 1 rfl) ?_
      refine lv_bipush (v := 6) hx hb dX5_taken_27 (by decide) ?_
      have J37 : ∀ (z0_37 : Int32) (H : Heap) (locs : List Loc), gS g A s H locs (gW g bb tx rw sb dy tn mo jk) → ∀ ls : Array Slot, lv_has ls 5 [(0, .ref (gA g 0)), (1, .int p1), (2, .int p2)] → F_X5_taken_b37   tn p1 p2 z0_37 = EE → W p l e (rmL 3) s m [.ref (gA g 0), .int p1, .int p2].toArray below meth c H locs 0 0 Q (F0 m 37 ls [.int z0_37]) := by
        intro z0_37 H locs hG ls hl  hE
        unfold F_X5_taken_b37 at hE
        refine lv_istore_n (lv' := [(3, .int z0_37), (0, .ref (gA g 0)), (1, .int p1), (2, .int p2)]) hx hb dX5_taken_37 rfl hl (by decide) rfl (fun ls hl => ?_)
        replace hl := lv_sub hl [1, 2, 3, 0] (l' := [(0, .ref (gA g 0)), (1, .int p1), (2, .int p2), (3, .int z0_37)]) rfl
        refine lv_iload_n hx hb dX5_taken_38 rfl (lv_at hl 3 rfl) ?_
        have J50 : ∀ (z0_50 : Int32) (H : Heap) (locs : List Loc), gS g A s H locs (gW g bb tx rw sb dy tn mo jk) → ∀ ls : Array Slot, lv_has ls 5 [(0, .ref (gA g 0)), (2, .int p2), (3, .int z0_37)] → F_X5_taken_b50   tn p2 z0_37 z0_50 = EE → W p l e (rmL 3) s m [.ref (gA g 0), .int p1, .int p2].toArray below meth c H locs 0 0 Q (F0 m 50 ls [.int z0_50]) := by
          intro z0_50 H locs hG ls hl  hE
          unfold F_X5_taken_b50 at hE
          refine lv_istore (lv' := [(4, .int z0_50), (0, .ref (gA g 0)), (2, .int p2), (3, .int z0_37)]) hx hb dX5_taken_50 hl (by decide) rfl (fun ls hl => ?_)
          replace hl := lv_sub hl [1, 2, 3, 0] (l' := [(0, .ref (gA g 0)), (2, .int p2), (3, .int z0_37), (4, .int z0_50)]) rfl
          refine lv_aload_n hx hb dX5_taken_52 rfl (lv_at hl 0 rfl) ?_
          refine g_get hx hb hts hiX5 hown hG gw_Bell rfl 4 (by decide) (index := 53) tw_fl_RX5_53 (v := .ref (gA g (40 + 6 * 0))) rfl dX5_taken_53 ?_
          refine lv_iload hx hb dX5_taken_56 (lv_at hl 3 rfl) ?_
          refine g_ci (g_runV (n := 1) (rest := []) hx hb hml hown hts hG (c_X4_has (by decide) rfl z0_50) tw_ml_RX5_101 tw_im_X4_has tw_se_X4_has tw_in_RX4 tw_cd_X4_has (by decide +kernel) ⟨rfl, rfl, Nat.le_of_ble_eq_true rfl, Nat.le_of_ble_eq_true rfl⟩ (gw_Town (o := 0) (by decide) rfl) rfl rfl hl.1 rfl (Nat.le_of_ble_eq_true rfl) dX5_taken_58 ⟨Nat.le_refl _, Nat.le_refl _⟩) hG hA (fun r _ H locs hp hG => ?_)
          subst hp
          replace hG : gS g A s H locs (gW g bb tx rw sb dy tn mo jk) := hG
          refine lv_if_ne (tgt := 67) hx hb dX5_taken_61 (by decide) (fun c_61 => ?_) (fun c_61 => ?_)
          · replace hE := (if_neg c_61).symm.trans hE
            have i_61 := has_f c_61
            refine lv_iload_n hx hb dX5_taken_67 rfl (lv_at hl 2 rfl) ?_
            refine lv_if_eq (tgt := 93) hx hb dX5_taken_68 (by decide) (fun c_68 => ?_) (fun c_68 => ?_)
            · replace hE := (if_pos c_68).symm.trans hE
              have i_68 : z0_37.toInt = 0 := congrArg Int32.toInt c_68
              refine lv_aload_n hx hb dX5_taken_93 rfl (lv_at hl 0 rfl) ?_
              refine g_get hx hb hts hiX5 hown hG gw_Bell rfl 4 (by decide) (index := 53) tw_fl_RX5_53 (v := .ref (gA g (40 + 6 * 0))) rfl dX5_taken_94 ?_
              refine g_get hx hb hts hiX4 hown hG (gw_Town (o := 0) (by decide) rfl) rfl 0 (by decide) (index := 128) tw_fl_RX5_128 (v := .ref (gA g (40 + 6 * 0 + 1))) rfl dX5_taken_97 ?_
              refine lv_iload hx hb dX5_taken_100 (lv_at hl 3 rfl) ?_
              refine g_ild hx hb hG (gw_Town_a0 (o := 0) (by decide) rfl) (vp_i (by clear hE; omega) (by clear hE; omega)) dX5_taken_102 ?_
              refine lv_iload_n hx hb dX5_taken_103 rfl (lv_at hl 1 rfl) ?_
              refine g_si (g_runS (n := 2) (rest := []) hx hb hml hown hts hG (c_X5_isKindOf (((tn 0).2 0) (Int32.toNatClampNeg z0_50)) p2) tw_ml_RX5_254 tw_st_X5_isKindOf tw_in_RX5 tw_cd_X5_isKindOf (by decide +kernel) ⟨rfl, rfl, Nat.le_of_ble_eq_true rfl, Nat.le_of_ble_eq_true rfl⟩ rfl hl.1 rfl (Nat.le_of_ble_eq_true rfl) dX5_taken_104 ⟨Nat.le_refl _, Nat.le_refl _⟩) hG hA (fun H locs hG => ?_)
              refine lv_if_eq (tgt := 115) hx hb dX5_taken_107 (by decide) (fun c_107 => ?_) (fun c_107 => ?_)
              · replace hE := (if_pos c_107).symm.trans hE
                refine lv_bipush (v := (-13)) hx hb dX5_taken_115 (by decide) ?_
                subst hQ
                exact g_iret hx hb hr hlocks hG () rfl hE dX5_taken_117
              replace hE := (if_neg c_107).symm.trans hE
              refine lv_iload hx hb dX5_taken_110 (lv_at hl 3 rfl) ?_
              refine lv_goto (tgt := 117) hx hb dX5_taken_112 (by decide) ?_
              subst hQ
              exact g_iret hx hb hr hlocks hG () rfl hE dX5_taken_117
            replace hE := (if_neg c_68).symm.trans hE
            have i_68 : z0_37.toInt ≠ 0 := fun h => c_68 (Int32.toInt_inj.mp h)
            refine lv_iload_n hx hb dX5_taken_71 rfl (lv_at hl 1 rfl) ?_
            refine lv_bipush (v := 6) hx hb dX5_taken_72 (by decide) ?_
            refine lv_icmp_ne (tgt := 90) hx hb dX5_taken_74 (by decide) (fun c_74 => ?_) (fun c_74 => ?_)
            · replace hE := (if_neg c_74).symm.trans hE
              have i_74 : p2.toInt ≠ 6 := fun h => c_74 (Int32.toInt_inj.mp h)
              refine lv_bipush (v := (-13)) hx hb dX5_taken_90 (by decide) ?_
              subst hQ
              exact g_iret hx hb hr hlocks hG () rfl hE dX5_taken_92
            replace hE := (if_pos c_74).symm.trans hE
            have i_74 : p2.toInt = 6 := congrArg Int32.toInt c_74
            refine lv_aload_n hx hb dX5_taken_77 rfl (lv_at hl 0 rfl) ?_
            refine g_get hx hb hts hiX5 hown hG gw_Bell rfl 4 (by decide) (index := 53) tw_fl_RX5_53 (v := .ref (gA g (40 + 6 * 0))) rfl dX5_taken_78 ?_
            refine g_get hx hb hts hiX4 hown hG (gw_Town (o := 0) (by decide) rfl) rfl 4 (by decide) (index := 251) tw_fl_RX5_251 (v := .ref (gA g (40 + 6 * 0 + 5))) rfl dX5_taken_81 ?_
            refine lv_iload hx hb dX5_taken_84 (lv_at hl 3 rfl) ?_
            refine g_ild hx hb hG (gw_Town_a4 (o := 0) (by decide) rfl) (vp_i (by clear hE; omega) (by clear hE; omega)) dX5_taken_86 ?_
            refine lv_goto (tgt := 92) hx hb dX5_taken_87 (by decide) ?_
            subst hQ
            exact g_iret hx hb hr hlocks hG () rfl hE dX5_taken_92
          replace hE := (if_pos c_61).symm.trans hE
          refine lv_bipush (v := (-11)) hx hb dX5_taken_64 (by decide) ?_
          subst hQ
          exact g_iret hx hb hr hlocks hG () rfl hE dX5_taken_66
        refine lv_if_eq (tgt := 49) hx hb dX5_taken_39 (by decide) (fun c_39 => ?_) (fun c_39 => ?_)
        · replace hE := (if_pos c_39).symm.trans hE
          have i_39 : z0_37.toInt = 0 := congrArg Int32.toInt c_39
          refine lv_iload_n hx hb dX5_taken_49 rfl (lv_at hl 1 rfl) ?_
          exact J50 p1 _ _ hG _ (lv_sub hl [0, 2, 3] rfl) hE
        replace hE := (if_neg c_39).symm.trans hE
        have i_39 : z0_37.toInt ≠ 0 := fun h => c_39 (Int32.toInt_inj.mp h)
        refine lv_iload_n hx hb dX5_taken_42 rfl (lv_at hl 1 rfl) ?_
        refine lv_bipush (v := 6) hx hb dX5_taken_43 (by decide) ?_
        refine lv_isub hx hb dX5_taken_45 ?_
        refine lv_goto (tgt := 50) hx hb dX5_taken_46 (by decide) ?_
        exact J50 (p1 - 6) _ _ hG _ (lv_sub hl [0, 2, 3] rfl) hE
      refine lv_icmp_lt (tgt := 36) hx hb dX5_taken_29 (by decide) (fun c_29 => ?_) (fun c_29 => ?_)
      · replace hE := (if_pos c_29).symm.trans hE
        have i_29 : p1.toInt < 6 := i_lt.mp c_29
        refine lv_iconst (v := 0) hx hb dX5_taken_36 (by decide) ?_
        exact J37 0 _ _ hG _ (lv_sub hl [0, 1, 2] rfl) hE
      replace hE := (if_neg c_29).symm.trans hE
      have i_29 : 6 ≤ p1.toInt := i_nlt c_29
      refine lv_iconst (v := 1) hx hb dX5_taken_32 (by decide) ?_
      refine lv_goto (tgt := 37) hx hb dX5_taken_33 (by decide) ?_
      exact J37 1 _ _ hG _ (lv_sub hl [0, 1, 2] rfl) hE
    replace hE := (if_pos c_20).symm.trans hE
    refine lv_bipush (v := (-12)) hx hb dX5_taken_23 (by decide) ?_
    subst hQ
    exact g_iret hx hb hr hlocks hG () rfl hE dX5_taken_25
  replace hE := (if_pos c_7).symm.trans hE
  refine lv_bipush (v := (-2)) hx hb dX5_taken_10 (by decide) ?_
  subst hQ
  exact g_iret hx hb hr hlocks hG () rfl hE dX5_taken_12
def F_X5_feed_c124 (K71 : Ob → Int32 → Int32 → Int32 → Int32 → Int32 → Int32 → Int32 → Int32 × Ob) (u : Ob) (x1 : Int32) (x2 : Int32) (x3 : Int32) (x4 : Int32) (x5 : Int32) (x6 : Int32) (x7 : Int32) : Int32 × Ob :=
  (K71 u x1 x2 x3 x4 x5 x6 (x7 + 1))
def F_X5_feed_b124 (K71 : Ob → Int32 → Int32 → Int32 → Int32 → Int32 → Int32 → Int32 → Int32 × Ob) (sb : Ob) (x1 : Int32) (x2 : Int32) (x3 : Int32) (x4 : Int32) (x5 : Int32) (x6 : Int32) (x7 : Int32) (z1 : Int32) : Int32 × Ob :=
  (F_X5_feed_c124 K71 (F_X2_add sb z1) x1 x2 x3 x4 x5 x6 x7)
def F_X5_feed_l71 : Nat → Ob → Int32 → Int32 → Int32 → Int32 → Int32 → Int32 → Int32 → Int32 × Ob
  | 0, sb, _, _, _, _, _, _, _ => (0, sb)
  | n + 1, sb, x1, x2, x3, x4, x5, x6, x7 =>
    (if x1 ≤ x7 then ((sb.1 1), sb) else (if x7 = 0 then (F_X5_feed_b124 (F_X5_feed_l71 n ) sb x1 x2 x3 x4 x5 x6 x7 x2) else (if x7 = 1 then (F_X5_feed_b124 (F_X5_feed_l71 n ) sb x1 x2 x3 x4 x5 x6 x7 x3) else (if x7 = 2 then (F_X5_feed_b124 (F_X5_feed_l71 n ) sb x1 x2 x3 x4 x5 x6 x7 x4) else (if x7 = 3 then (F_X5_feed_b124 (F_X5_feed_l71 n ) sb x1 x2 x3 x4 x5 x6 x7 x5) else (F_X5_feed_b124 (F_X5_feed_l71 n ) sb x1 x2 x3 x4 x5 x6 x7 x6))))))
def F_X5_feed (sb : Ob) (p1 : Int32) (p2 : Int32) (p3 : Int32) (p4 : Int32) (p5 : Int32) (p6 : Int32) : Int32 × Ob :=
  (if (F_X5_isWithin p1 1 5) = 0 then ((-2), sb) else (if (F_X5_isByte p2) = 0 then ((-2), sb) else (if (F_X5_isByte p3) = 0 then ((-2), sb) else (if (F_X5_isByte p4) = 0 then ((-2), sb) else (if (F_X5_isByte p5) = 0 then ((-2), sb) else (if (F_X5_isByte p6) = 0 then ((-2), sb) else (if ((sb.1 1) + p1) ≤ 160 then (F_X5_feed_l71 6  sb p1 p2 p3 p4 p5 p6 0) else ((-4), sb))))))))
set_option maxHeartbeats 4000000 in
set_option maxRecDepth 100000 in
theorem c_X5_feed {l : Launch} {g : GG} {sz : Nat} {bb : Ob} {tx rw : Nat → Ob} {sb dy : Ob} {tn : Nat → Ob} {mo : Ob} {jk : Nat → Nat → Int32}  (p1 : Int32) (p2 : Int32) (p3 : Int32) (p4 : Int32) (p5 : Int32) (p6 : Int32) (hsb : 0 ≤ (sb.1 1).toInt) : Met l yX5_feed (Cond.code yX5_feed cX5_feed 8 (some .int) :: TT) (rmL 3) (va_Pc [.ref (gA g 0), .int p1, .int p2, .int p3, .int p4, .int p5, .int p6] (gB g sz (gW g bb tx rw sb dy tn mo jk))) (va_Qi (fun r (u : Ob) => (F_X5_feed sb p1 p2 p3 p4 p5 p6) = (r, u)) (fun u t => gC g (va_A (gW g bb tx rw sb dy tn mo jk) sz) (gW g bb tx rw u dy tn mo jk) t) (va_A (gW g bb tx rw sb dy tn mo jk) sz)) 0 0 (va_A (gW g bb tx rw sb dy tn mo jk) sz) := by
  generalize hE : F_X5_feed sb p1 p2 p3 p4 p5 p6 = EE
  refine g_of (Qf := fun A => (va_Qi (fun r (u : Ob) => EE = (r, u)) (fun u t => gC g A (gW g bb tx rw u dy tn mo jk) t) A)) (cc := cX5_feed) (maxL := 8) (ret := (some .int)) (by decide) (Nat.le_of_ble_eq_true rfl) ?_
  intro p e s m below meth c A ls hx hb hml hr hlocks hts hown hA hG hl
  replace hown : s.vm.findClass RX5 = some m.cls := hown
  replace hl : lv_has ls 8 [(0, .ref (gA g 0)), (1, .int p1), (2, .int p2), (3, .int p3), (4, .int p4), (5, .int p5), (6, .int p6)] := hl
  show W p l e (rmL 3) s m [.ref (gA g 0), .int p1, .int p2, .int p3, .int p4, .int p5, .int p6].toArray below meth c s.heap [] 0 0 (MQ below (va_Qi (fun r (u : Ob) => EE = (r, u)) (fun u t => gC g A (gW g bb tx rw u dy tn mo jk) t) A) [.ref (gA g 0), .int p1, .int p2, .int p3, .int p4, .int p5, .int p6].toArray s 0 0 A) (F0 m 0 ls [])
  generalize hQ : MQ below (va_Qi (fun r (u : Ob) => EE = (r, u)) (fun u t => gC g A (gW g bb tx rw u dy tn mo jk) t) A) [.ref (gA g 0), .int p1, .int p2, .int p3, .int p4, .int p5, .int p6].toArray s 0 0 A = Q
  unfold F_X5_feed at hE
  refine lv_iload_n hx hb dX5_feed_0 rfl (lv_at hl 1 rfl) ?_
  refine lv_iconst (v := 1) hx hb dX5_feed_1 (by decide) ?_
  refine lv_iconst (v := 5) hx hb dX5_feed_2 (by decide) ?_
  refine g_si (g_runS (n := 3) (rest := []) hx hb hml hown hts hG (c_X5_isWithin p1 1 5) tw_ml_RX5_81 tw_st_X5_isWithin tw_in_RX5 tw_cd_X5_isWithin (by decide +kernel) ⟨rfl, rfl, Nat.le_of_ble_eq_true rfl, Nat.le_of_ble_eq_true rfl⟩ rfl hl.1 rfl (Nat.le_of_ble_eq_true rfl) dX5_feed_3 ⟨Nat.le_refl _, Nat.le_refl _⟩) hG hA (fun H locs hG => ?_)
  refine lv_if_eq (tgt := 47) hx hb dX5_feed_6 (by decide) (fun c_6 => ?_) (fun c_6 => ?_)
  · replace hE := (if_pos c_6).symm.trans hE
    refine lv_bipush (v := (-2)) hx hb dX5_feed_47 (by decide) ?_
    subst hQ
    exact g_iret hx hb hr hlocks hG ((sb) : Ob) rfl hE.symm dX5_feed_49
  replace hE := (if_neg c_6).symm.trans hE
  have i_6 : 1 ≤ p1.toInt ∧ p1.toInt ≤ 5 := within_f c_6
  refine lv_iload_n hx hb dX5_feed_9 rfl (lv_at hl 2 rfl) ?_
  refine g_si (g_runS (n := 1) (rest := []) hx hb hml hown hts hG (c_X5_isByte p2) tw_ml_RX5_85 tw_st_X5_isByte tw_in_RX5 tw_cd_X5_isByte (by decide +kernel) ⟨rfl, rfl, Nat.le_of_ble_eq_true rfl, Nat.le_of_ble_eq_true rfl⟩ rfl hl.1 rfl (Nat.le_of_ble_eq_true rfl) dX5_feed_10 ⟨Nat.le_refl _, Nat.le_refl _⟩) hG hA (fun H locs hG => ?_)
  refine lv_if_eq (tgt := 47) hx hb dX5_feed_13 (by decide) (fun c_13 => ?_) (fun c_13 => ?_)
  · replace hE := (if_pos c_13).symm.trans hE
    refine lv_bipush (v := (-2)) hx hb dX5_feed_47 (by decide) ?_
    subst hQ
    exact g_iret hx hb hr hlocks hG ((sb) : Ob) rfl hE.symm dX5_feed_49
  replace hE := (if_neg c_13).symm.trans hE
  refine lv_iload_n hx hb dX5_feed_16 rfl (lv_at hl 3 rfl) ?_
  refine g_si (g_runS (n := 1) (rest := []) hx hb hml hown hts hG (c_X5_isByte p3) tw_ml_RX5_85 tw_st_X5_isByte tw_in_RX5 tw_cd_X5_isByte (by decide +kernel) ⟨rfl, rfl, Nat.le_of_ble_eq_true rfl, Nat.le_of_ble_eq_true rfl⟩ rfl hl.1 rfl (Nat.le_of_ble_eq_true rfl) dX5_feed_17 ⟨Nat.le_refl _, Nat.le_refl _⟩) hG hA (fun H locs hG => ?_)
  refine lv_if_eq (tgt := 47) hx hb dX5_feed_20 (by decide) (fun c_20 => ?_) (fun c_20 => ?_)
  · replace hE := (if_pos c_20).symm.trans hE
    refine lv_bipush (v := (-2)) hx hb dX5_feed_47 (by decide) ?_
    subst hQ
    exact g_iret hx hb hr hlocks hG ((sb) : Ob) rfl hE.symm dX5_feed_49
  replace hE := (if_neg c_20).symm.trans hE
  refine lv_iload hx hb dX5_feed_23 (lv_at hl 4 rfl) ?_
  refine g_si (g_runS (n := 1) (rest := []) hx hb hml hown hts hG (c_X5_isByte p4) tw_ml_RX5_85 tw_st_X5_isByte tw_in_RX5 tw_cd_X5_isByte (by decide +kernel) ⟨rfl, rfl, Nat.le_of_ble_eq_true rfl, Nat.le_of_ble_eq_true rfl⟩ rfl hl.1 rfl (Nat.le_of_ble_eq_true rfl) dX5_feed_25 ⟨Nat.le_refl _, Nat.le_refl _⟩) hG hA (fun H locs hG => ?_)
  refine lv_if_eq (tgt := 47) hx hb dX5_feed_28 (by decide) (fun c_28 => ?_) (fun c_28 => ?_)
  · replace hE := (if_pos c_28).symm.trans hE
    refine lv_bipush (v := (-2)) hx hb dX5_feed_47 (by decide) ?_
    subst hQ
    exact g_iret hx hb hr hlocks hG ((sb) : Ob) rfl hE.symm dX5_feed_49
  replace hE := (if_neg c_28).symm.trans hE
  refine lv_iload hx hb dX5_feed_31 (lv_at hl 5 rfl) ?_
  refine g_si (g_runS (n := 1) (rest := []) hx hb hml hown hts hG (c_X5_isByte p5) tw_ml_RX5_85 tw_st_X5_isByte tw_in_RX5 tw_cd_X5_isByte (by decide +kernel) ⟨rfl, rfl, Nat.le_of_ble_eq_true rfl, Nat.le_of_ble_eq_true rfl⟩ rfl hl.1 rfl (Nat.le_of_ble_eq_true rfl) dX5_feed_33 ⟨Nat.le_refl _, Nat.le_refl _⟩) hG hA (fun H locs hG => ?_)
  refine lv_if_eq (tgt := 47) hx hb dX5_feed_36 (by decide) (fun c_36 => ?_) (fun c_36 => ?_)
  · replace hE := (if_pos c_36).symm.trans hE
    refine lv_bipush (v := (-2)) hx hb dX5_feed_47 (by decide) ?_
    subst hQ
    exact g_iret hx hb hr hlocks hG ((sb) : Ob) rfl hE.symm dX5_feed_49
  replace hE := (if_neg c_36).symm.trans hE
  refine lv_iload hx hb dX5_feed_39 (lv_at hl 6 rfl) ?_
  refine g_si (g_runS (n := 1) (rest := []) hx hb hml hown hts hG (c_X5_isByte p6) tw_ml_RX5_85 tw_st_X5_isByte tw_in_RX5 tw_cd_X5_isByte (by decide +kernel) ⟨rfl, rfl, Nat.le_of_ble_eq_true rfl, Nat.le_of_ble_eq_true rfl⟩ rfl hl.1 rfl (Nat.le_of_ble_eq_true rfl) dX5_feed_41 ⟨Nat.le_refl _, Nat.le_refl _⟩) hG hA (fun H locs hG => ?_)
  refine lv_if_ne (tgt := 50) hx hb dX5_feed_44 (by decide) (fun c_44 => ?_) (fun c_44 => ?_)
  · replace hE := (if_neg c_44).symm.trans hE
    refine lv_aload_n hx hb dX5_feed_50 rfl (lv_at hl 0 rfl) ?_
    refine g_get hx hb hts hiX5 hown hG gw_Bell rfl 2 (by decide) (index := 24) tw_fl_RX5_24 (v := .ref (gA g 35)) rfl dX5_feed_51 ?_
    refine g_get hx hb hts hiX2 hown hG gw_Scribe rfl 1 (by decide) (index := 75) tw_fl_RX5_75 (v := .int (sb.1 1)) rfl dX5_feed_54 ?_
    refine lv_iload_n hx hb dX5_feed_57 rfl (lv_at hl 1 rfl) ?_
    refine lv_iadd hx hb dX5_feed_58 ?_
    refine lv_sipush (v := 160) hx hb dX5_feed_59 (by decide) ?_
    refine lv_icmp_le (tgt := 68) hx hb dX5_feed_62 (by decide) (fun c_62 => ?_) (fun c_62 => ?_)
    · replace hE := (if_pos c_62).symm.trans hE
      have i_62 : ((sb.1 1) + p1).toInt ≤ 160 := i_le.mp c_62
      refine lv_iconst (v := 0) hx hb dX5_feed_68 (by decide) ?_
      refine lv_istore (lv' := [(7, .int 0), (0, .ref (gA g 0)), (1, .int p1), (2, .int p2), (3, .int p3), (4, .int p4), (5, .int p5), (6, .int p6)]) hx hb dX5_feed_69 hl (by decide) rfl (fun ls hl => ?_)
      replace hl := lv_sub hl [1, 2, 3, 4, 5, 6, 7, 0] (l' := [(0, .ref (gA g 0)), (1, .int p1), (2, .int p2), (3, .int p3), (4, .int p4), (5, .int p5), (6, .int p6), (7, .int 0)]) rfl
      have L71 : ∀ (n : Nat) (x7_71 : Int32) (sb_71 : Ob) (H : Heap) (locs : List Loc), gS g A s H locs (gW g bb tx rw sb_71 dy tn mo jk) → ∀ ls : Array Slot, lv_has ls 8 [(0, .ref (gA g 0)), (1, .int p1), (2, .int p2), (3, .int p3), (4, .int p4), (5, .int p5), (6, .int p6), (7, .int x7_71)] → 0 ≤ x7_71.toInt → x7_71.toInt ≤ 5 → 5 < x7_71.toInt + n → 0 ≤ (sb_71.1 1).toInt → F_X5_feed_l71 n  sb_71 p1 p2 p3 p4 p5 p6 x7_71 = EE → W p l e (rmL 3) s m [.ref (gA g 0), .int p1, .int p2, .int p3, .int p4, .int p5, .int p6].toArray below meth c H locs 0 0 Q (F0 m 71 ls []) := by
        intro n
        induction n with
        | zero =>
          intro x7_71 sb_71 H locs hG ls hl h0_71 h1_71 hm_71 hs71 hE
          omega
        | succ n ih71 =>
          intro x7_71 sb_71 H locs hG ls hl h0_71 h1_71 hm_71 hs71 hE
          unfold F_X5_feed_l71 at hE
          refine lv_iload hx hb dX5_feed_71 (lv_at hl 7 rfl) ?_
          refine lv_iload_n hx hb dX5_feed_73 rfl (lv_at hl 1 rfl) ?_
          refine lv_icmp_ge (tgt := 133) hx hb dX5_feed_74 (by decide) (fun c_74 => ?_) (fun c_74 => ?_)
          · replace hE := (if_pos c_74).symm.trans hE
            have i_74 : p1.toInt ≤ x7_71.toInt := i_le.mp c_74
            refine lv_aload_n hx hb dX5_feed_133 rfl (lv_at hl 0 rfl) ?_
            refine g_get hx hb hts hiX5 hown hG gw_Bell rfl 2 (by decide) (index := 24) tw_fl_RX5_24 (v := .ref (gA g 35)) rfl dX5_feed_134 ?_
            refine g_get hx hb hts hiX2 hown hG gw_Scribe rfl 1 (by decide) (index := 75) tw_fl_RX5_75 (v := .int (sb_71.1 1)) rfl dX5_feed_137 ?_
            subst hQ
            exact g_iret hx hb hr hlocks hG ((sb_71) : Ob) rfl hE.symm dX5_feed_140
          replace hE := (if_neg c_74).symm.trans hE
          have i_74 : x7_71.toInt < p1.toInt := i_nle c_74
          refine lv_aload_n hx hb dX5_feed_77 rfl (lv_at hl 0 rfl) ?_
          refine g_get hx hb hts hiX5 hown hG gw_Bell rfl 2 (by decide) (index := 24) tw_fl_RX5_24 (v := .ref (gA g 35)) rfl dX5_feed_78 ?_
          refine lv_iload hx hb dX5_feed_81 (lv_at hl 7 rfl) ?_
          have J124 : ∀ (z1_124 : Int32) (H : Heap) (locs : List Loc), gS g A s H locs (gW g bb tx rw sb_71 dy tn mo jk) → ∀ ls : Array Slot, lv_has ls 8 [(0, .ref (gA g 0)), (1, .int p1), (2, .int p2), (3, .int p3), (4, .int p4), (5, .int p5), (6, .int p6), (7, .int x7_71)] → F_X5_feed_b124  (F_X5_feed_l71 n ) sb_71 p1 p2 p3 p4 p5 p6 x7_71 z1_124 = EE → W p l e (rmL 3) s m [.ref (gA g 0), .int p1, .int p2, .int p3, .int p4, .int p5, .int p6].toArray below meth c H locs 0 0 Q (F0 m 124 ls [.int z1_124, .ref (gA g 35)]) := by
            intro z1_124 H locs hG ls hl  hE
            unfold F_X5_feed_b124 at hE
            refine g_cv (g_runV (n := 1) (rest := []) hx hb hml hown hts hG (c_X2_add z1_124 hs71) tw_ml_RX5_89 tw_im_X2_add tw_se_X2_add tw_in_RX2 tw_cd_X2_add (by decide +kernel) ⟨rfl, rfl, Nat.le_of_ble_eq_true rfl, Nat.le_of_ble_eq_true rfl⟩ gw_Scribe rfl rfl hl.1 rfl (Nat.le_of_ble_eq_true rfl) dX5_feed_124 ⟨Nat.le_refl _, Nat.le_refl _⟩) hG hA (fun u H locs hp hG => ?_)
            obtain ⟨sb_124, rfl⟩ : ∃ z, z = u := ⟨u, rfl⟩
            replace hG : gS g A s H locs (gW g bb tx rw sb_124 dy tn mo jk) := by simpa only [up_up] using hG
            have hp_124 := hp
            rw [hp] at hE
            unfold F_X5_feed_c124 at hE
            try dsimp only at hE
            have hs124 : 0 ≤ (sb_124.1 1).toInt := by
              exact add_nn hp_124 hs71
            refine lv_iinc (v := (x7_71 + 1)) (lv' := [(7, .int (x7_71 + 1)), (0, .ref (gA g 0)), (1, .int p1), (2, .int p2), (3, .int p3), (4, .int p4), (5, .int p5), (6, .int p6)]) hx hb dX5_feed_127 hl (k := 7) rfl rfl (by decide) rfl (fun ls hl => ?_)
            replace hl := lv_sub hl [1, 2, 3, 4, 5, 6, 7, 0] (l' := [(0, .ref (gA g 0)), (1, .int p1), (2, .int p2), (3, .int p3), (4, .int p4), (5, .int p5), (6, .int p6), (7, .int (x7_71 + 1))]) rfl
            refine lv_goto (tgt := 71) hx hb dX5_feed_130 (by decide) ?_
            have e1 : (x7_71 + 1).toInt = x7_71.toInt + 1 := addL (k := 1) (by decide +kernel) (by clear hE; omega) (by clear hE; omega)
            exact ih71 (x7_71 + 1) sb_124 _ _ hG _ (lv_sub hl [0, 1, 2, 3, 4, 5, 6, 7] rfl) (by clear hE; omega) (by clear hE; omega) (by clear hE; omega) hs124 hE
          refine lv_if_ne (tgt := 90) hx hb dX5_feed_83 (by decide) (fun c_83 => ?_) (fun c_83 => ?_)
          · replace hE := (if_neg c_83).symm.trans hE
            have i_83 : x7_71.toInt ≠ 0 := fun h => c_83 (Int32.toInt_inj.mp h)
            refine lv_iload hx hb dX5_feed_90 (lv_at hl 7 rfl) ?_
            refine lv_iconst (v := 1) hx hb dX5_feed_92 (by decide) ?_
            refine lv_icmp_ne (tgt := 100) hx hb dX5_feed_93 (by decide) (fun c_93 => ?_) (fun c_93 => ?_)
            · replace hE := (if_neg c_93).symm.trans hE
              have i_93 : x7_71.toInt ≠ 1 := fun h => c_93 (Int32.toInt_inj.mp h)
              refine lv_iload hx hb dX5_feed_100 (lv_at hl 7 rfl) ?_
              refine lv_iconst (v := 2) hx hb dX5_feed_102 (by decide) ?_
              refine lv_icmp_ne (tgt := 111) hx hb dX5_feed_103 (by decide) (fun c_103 => ?_) (fun c_103 => ?_)
              · replace hE := (if_neg c_103).symm.trans hE
                have i_103 : x7_71.toInt ≠ 2 := fun h => c_103 (Int32.toInt_inj.mp h)
                refine lv_iload hx hb dX5_feed_111 (lv_at hl 7 rfl) ?_
                refine lv_iconst (v := 3) hx hb dX5_feed_113 (by decide) ?_
                refine lv_icmp_ne (tgt := 122) hx hb dX5_feed_114 (by decide) (fun c_114 => ?_) (fun c_114 => ?_)
                · replace hE := (if_neg c_114).symm.trans hE
                  have i_114 : x7_71.toInt ≠ 3 := fun h => c_114 (Int32.toInt_inj.mp h)
                  refine lv_iload hx hb dX5_feed_122 (lv_at hl 6 rfl) ?_
                  exact J124 p6 _ _ hG _ (lv_sub hl [0, 1, 2, 3, 4, 5, 6, 7] rfl) hE
                replace hE := (if_pos c_114).symm.trans hE
                have i_114 : x7_71.toInt = 3 := congrArg Int32.toInt c_114
                refine lv_iload hx hb dX5_feed_117 (lv_at hl 5 rfl) ?_
                refine lv_goto (tgt := 124) hx hb dX5_feed_119 (by decide) ?_
                exact J124 p5 _ _ hG _ (lv_sub hl [0, 1, 2, 3, 4, 5, 6, 7] rfl) hE
              replace hE := (if_pos c_103).symm.trans hE
              have i_103 : x7_71.toInt = 2 := congrArg Int32.toInt c_103
              refine lv_iload hx hb dX5_feed_106 (lv_at hl 4 rfl) ?_
              refine lv_goto (tgt := 124) hx hb dX5_feed_108 (by decide) ?_
              exact J124 p4 _ _ hG _ (lv_sub hl [0, 1, 2, 3, 4, 5, 6, 7] rfl) hE
            replace hE := (if_pos c_93).symm.trans hE
            have i_93 : x7_71.toInt = 1 := congrArg Int32.toInt c_93
            refine lv_iload_n hx hb dX5_feed_96 rfl (lv_at hl 3 rfl) ?_
            refine lv_goto (tgt := 124) hx hb dX5_feed_97 (by decide) ?_
            exact J124 p3 _ _ hG _ (lv_sub hl [0, 1, 2, 3, 4, 5, 6, 7] rfl) hE
          replace hE := (if_pos c_83).symm.trans hE
          have i_83 : x7_71.toInt = 0 := congrArg Int32.toInt c_83
          refine lv_iload_n hx hb dX5_feed_86 rfl (lv_at hl 2 rfl) ?_
          refine lv_goto (tgt := 124) hx hb dX5_feed_87 (by decide) ?_
          exact J124 p2 _ _ hG _ (lv_sub hl [0, 1, 2, 3, 4, 5, 6, 7] rfl) hE
      exact L71 6 0 sb _ _ hG _ (lv_sub hl [0, 1, 2, 3, 4, 5, 6, 7] rfl) (by decide) (by decide) (by decide) hsb hE
    replace hE := (if_neg c_62).symm.trans hE
    have i_62 : 160 < ((sb.1 1) + p1).toInt := i_nle c_62
    refine lv_bipush (v := (-4)) hx hb dX5_feed_65 (by decide) ?_
    subst hQ
    exact g_iret hx hb hr hlocks hG ((sb) : Ob) rfl hE.symm dX5_feed_67
  replace hE := (if_pos c_44).symm.trans hE
  refine lv_bipush (v := (-2)) hx hb dX5_feed_47 (by decide) ?_
  subst hQ
  exact g_iret hx hb hr hlocks hG ((sb) : Ob) rfl hE.symm dX5_feed_49
