theorem isOne_f {m : Ob} {p : Int32} (h : ¬ F_X6_isOne m p = 0) : 0 ≤ p.toInt ∧ p.toInt ≤ (m.1 0 - 1).toInt := in_f h
def F_X6_asks (mo : Ob) (p1 : Int32) (p2 : Int32) : Int32 :=
  (if (F_X6_in p1 0 2) = 0 then (-1000) else (if (F_X6_isOne mo p2) = 0 then (-1000) else (F_X6_asksOf mo p1 p2)))
set_option maxHeartbeats 4000000 in
set_option maxRecDepth 100000 in
theorem c_X6_asks {l : Launch} {g : GG} {sz : Nat} {bb : Ob} {tx rw : Nat → Ob} {sb dy : Ob} {tn : Nat → Ob} {mo : Ob} {jk : Nat → Nat → Int32}  (p1 : Int32) (p2 : Int32) (hv : mEv mo) : Met l yX6_asks (Cond.code yX6_asks cX6_asks 3 (some .int) :: TT) (rmL (4)) (va_Pc [.ref (gA g 58), .int p1, .int p2] (gB g sz (gW g bb tx rw sb dy tn mo jk))) (va_Qi (fun r (_ : (Nat → Nat → Int32)) => r = (F_X6_asks mo p1 p2)) (fun u t => gC g (va_A (gW g bb tx rw sb dy tn mo jk) sz) (gW g bb tx rw sb dy tn mo u) t) (va_A (gW g bb tx rw sb dy tn mo jk) sz)) 0 0 (va_A (gW g bb tx rw sb dy tn mo jk) sz) := by
  generalize hE : F_X6_asks mo p1 p2 = EE
  refine g_of (Qf := fun A => (va_Qi (fun r (_ : (Nat → Nat → Int32)) => r = EE) (fun u t => gC g A (gW g bb tx rw sb dy tn mo u) t) A)) (cc := cX6_asks) (maxL := 3) (ret := (some .int)) (by decide) (Nat.le_of_ble_eq_true rfl) ?_
  intro p e s m below meth c A ls hx hb hml hr hlocks hts hown hA hG hl
  replace hown : s.vm.findClass RX6 = some m.cls := hown
  replace hl : lv_has ls 3 [(0, .ref (gA g 58)), (1, .int p1), (2, .int p2)] := hl
  show W p l e (rmL (4)) s m [.ref (gA g 58), .int p1, .int p2].toArray below meth c s.heap [] 0 0 (MQ below (va_Qi (fun r (_ : (Nat → Nat → Int32)) => r = EE) (fun u t => gC g A (gW g bb tx rw sb dy tn mo u) t) A) [.ref (gA g 58), .int p1, .int p2].toArray s 0 0 A) (F0 m 0 ls [])
  generalize hQ : MQ below (va_Qi (fun r (_ : (Nat → Nat → Int32)) => r = EE) (fun u t => gC g A (gW g bb tx rw sb dy tn mo u) t) A) [.ref (gA g 58), .int p1, .int p2].toArray s 0 0 A = Q
  have hpo := hv.1
  have e_pe : ((mo.1 0) - 1).toInt = (mo.1 0).toInt - 1 := subL (k := 1) (by decide +kernel) (by omega) (by omega)
  unfold F_X6_asks at hE
  refine lv_iload_n hx hb dX6_asks_0 rfl (lv_at hl 1 rfl) ?_
  refine lv_iconst (v := 0) hx hb dX6_asks_1 (by decide) ?_
  refine lv_iconst (v := 2) hx hb dX6_asks_2 (by decide) ?_
  refine g_si (g_runS (n := 3) (rest := []) hx hb hml hown hts hG (c_X6_in p1 0 2) tw_ml_RX6_81 tw_st_X6_in tw_in_RX6 tw_cd_X6_in (by decide +kernel) ⟨rfl, rfl, Nat.le_of_ble_eq_true rfl, Nat.le_of_ble_eq_true rfl⟩ rfl hl.1 rfl (Nat.le_of_ble_eq_true rfl) dX6_asks_3 ⟨Nat.le_refl _, Nat.le_refl _⟩) hG hA (fun H locs hG => ?_)
  refine lv_if_eq (tgt := 26) hx hb dX6_asks_6 (by decide) (fun c_6 => ?_) (fun c_6 => ?_)
  · replace hE := (if_pos c_6).symm.trans hE
    refine lv_sipush (v := (-1000)) hx hb dX6_asks_26 (by decide) ?_
    subst hQ
    exact g_iret hx hb hr hlocks hG ((jk) : (Nat → Nat → Int32)) rfl hE dX6_asks_29
  replace hE := (if_neg c_6).symm.trans hE
  have i_6 : 0 ≤ p1.toInt ∧ p1.toInt ≤ 2 := in_f c_6
  refine lv_aload_n hx hb dX6_asks_9 rfl (lv_at hl 0 rfl) ?_
  refine lv_iload_n hx hb dX6_asks_10 rfl (lv_at hl 2 rfl) ?_
  refine g_ci (g_runV (n := 1) (rest := []) hx hb hml hown hts hG (c_X6_isOne p2) tw_ml_RX6_164 tw_im_X6_isOne tw_se_X6_isOne tw_in_RX6 tw_cd_X6_isOne (by decide +kernel) ⟨rfl, rfl, Nat.le_of_ble_eq_true rfl, Nat.le_of_ble_eq_true rfl⟩ gw_Model rfl rfl hl.1 rfl (Nat.le_of_ble_eq_true rfl) dX6_asks_11 ⟨Nat.le_refl _, Nat.le_refl _⟩) hG hA (fun r _ H locs hp hG => ?_)
  subst hp
  replace hG : gS g A s H locs (gW g bb tx rw sb dy tn mo jk) := hG
  refine lv_if_eq (tgt := 26) hx hb dX6_asks_14 (by decide) (fun c_14 => ?_) (fun c_14 => ?_)
  · replace hE := (if_pos c_14).symm.trans hE
    refine lv_sipush (v := (-1000)) hx hb dX6_asks_26 (by decide) ?_
    subst hQ
    exact g_iret hx hb hr hlocks hG ((jk) : (Nat → Nat → Int32)) rfl hE dX6_asks_29
  replace hE := (if_neg c_14).symm.trans hE
  have i_14 := isOne_f c_14
  refine lv_aload_n hx hb dX6_asks_17 rfl (lv_at hl 0 rfl) ?_
  refine lv_iload_n hx hb dX6_asks_18 rfl (lv_at hl 1 rfl) ?_
  refine lv_iload_n hx hb dX6_asks_19 rfl (lv_at hl 2 rfl) ?_
  refine g_ci (g_runV (n := 2) (rest := []) hx hb hml hown hts hG (c_X6_asksOf p1 p2 hv (show 0 ≤ p1.toInt ∧ p1.toInt ≤ 2 from by clear hE; omega) (show 0 ≤ p2.toInt ∧ p2.toInt < 6 from by clear hE; omega)) tw_ml_RX6_167 tw_im_X6_asksOf tw_se_X6_asksOf tw_in_RX6 tw_cd_X6_asksOf (by decide +kernel) ⟨rfl, rfl, Nat.le_of_ble_eq_true rfl, Nat.le_of_ble_eq_true rfl⟩ gw_Model rfl rfl hl.1 rfl (Nat.le_of_ble_eq_true rfl) dX6_asks_20 ⟨Nat.le_refl _, Nat.le_refl _⟩) hG hA (fun r jk H locs hp hG => ?_)
  subst hp
  replace hG : gS g A s H locs (gW g bb tx rw sb dy tn mo jk) := hG
  refine lv_goto (tgt := 29) hx hb dX6_asks_23 (by decide) ?_
  subst hQ
  exact g_iret hx hb hr hlocks hG ((jk) : (Nat → Nat → Int32)) rfl hE dX6_asks_29
def F_X6_person (mo : Ob) (p1 : Int32) (p2 : Int32) (p3 : Int32) : Int32 × Ob :=
  (if (F_X6_in p1 0 59) = 0 then ((-2), mo) else (if (F_X6_in p2 0 99) = 0 then ((-2), mo) else (if (F_X6_in p3 0 16777215) = 0 then ((-2), mo) else (if (mo.1 0) = 6 then ((-4), mo) else ((((mo.1 0) + 1) - 1), (setS (stA (stA (stA (stA (stA (stA mo 1 (mo.1 0) (p1 / 10)) 2 (mo.1 0) (p1 - p1 / 10 * 10)) 3 (4 * (mo.1 0)) p2) 3 ((4 * (mo.1 0)) + 1) 0) 3 ((4 * (mo.1 0)) + 2) p3) 3 ((4 * (mo.1 0)) + 3) 0) 0 ((mo.1 0) + 1)))))))
set_option maxHeartbeats 4000000 in
set_option maxRecDepth 100000 in
theorem c_X6_person {l : Launch} {g : GG} {sz : Nat} {bb : Ob} {tx rw : Nat → Ob} {sb dy : Ob} {tn : Nat → Ob} {mo : Ob} {jk : Nat → Nat → Int32}  (p1 : Int32) (p2 : Int32) (p3 : Int32) (hpo : 0 ≤ (mo.1 0).toInt ∧ (mo.1 0).toInt ≤ 6) : Met l yX6_person (Cond.code yX6_person cX6_person 4 (some .int) :: TT) (rmL (2)) (va_Pc [.ref (gA g 58), .int p1, .int p2, .int p3] (gB g sz (gW g bb tx rw sb dy tn mo jk))) (va_Qi (fun r (u : Ob) => (F_X6_person mo p1 p2 p3) = (r, u)) (fun u t => gC g (va_A (gW g bb tx rw sb dy tn mo jk) sz) (gW g bb tx rw sb dy tn u jk) t) (va_A (gW g bb tx rw sb dy tn mo jk) sz)) 0 0 (va_A (gW g bb tx rw sb dy tn mo jk) sz) := by
  generalize hE : F_X6_person mo p1 p2 p3 = EE
  refine g_of (Qf := fun A => (va_Qi (fun r (u : Ob) => EE = (r, u)) (fun u t => gC g A (gW g bb tx rw sb dy tn u jk) t) A)) (cc := cX6_person) (maxL := 4) (ret := (some .int)) (by decide) (Nat.le_of_ble_eq_true rfl) ?_
  intro p e s m below meth c A ls hx hb hml hr hlocks hts hown hA hG hl
  replace hown : s.vm.findClass RX6 = some m.cls := hown
  replace hl : lv_has ls 4 [(0, .ref (gA g 58)), (1, .int p1), (2, .int p2), (3, .int p3)] := hl
  show W p l e (rmL (2)) s m [.ref (gA g 58), .int p1, .int p2, .int p3].toArray below meth c s.heap [] 0 0 (MQ below (va_Qi (fun r (u : Ob) => EE = (r, u)) (fun u t => gC g A (gW g bb tx rw sb dy tn u jk) t) A) [.ref (gA g 58), .int p1, .int p2, .int p3].toArray s 0 0 A) (F0 m 0 ls [])
  generalize hQ : MQ below (va_Qi (fun r (u : Ob) => EE = (r, u)) (fun u t => gC g A (gW g bb tx rw sb dy tn u jk) t) A) [.ref (gA g 58), .int p1, .int p2, .int p3].toArray s 0 0 A = Q
  unfold F_X6_person at hE
  refine lv_iload_n hx hb dX6_person_0 rfl (lv_at hl 1 rfl) ?_
  refine lv_iconst (v := 0) hx hb dX6_person_1 (by decide) ?_
  refine lv_bipush (v := 59) hx hb dX6_person_2 (by decide) ?_
  refine g_si (g_runS (n := 3) (rest := []) hx hb hml hown hts hG (c_X6_in p1 0 59) tw_ml_RX6_81 tw_st_X6_in tw_in_RX6 tw_cd_X6_in (by decide +kernel) ⟨rfl, rfl, Nat.le_of_ble_eq_true rfl, Nat.le_of_ble_eq_true rfl⟩ rfl hl.1 rfl (Nat.le_of_ble_eq_true rfl) dX6_person_4 ⟨Nat.le_refl _, Nat.le_refl _⟩) hG hA (fun H locs hG => ?_)
  refine lv_if_eq (tgt := 30) hx hb dX6_person_7 (by decide) (fun c_7 => ?_) (fun c_7 => ?_)
  · replace hE := (if_pos c_7).symm.trans hE
    refine lv_bipush (v := (-2)) hx hb dX6_person_30 (by decide) ?_
    subst hQ
    exact g_iret hx hb hr hlocks hG ((mo) : Ob) rfl hE.symm dX6_person_32
  replace hE := (if_neg c_7).symm.trans hE
  have i_7 : 0 ≤ p1.toInt ∧ p1.toInt ≤ 59 := in_f c_7
  refine lv_iload_n hx hb dX6_person_10 rfl (lv_at hl 2 rfl) ?_
  refine lv_iconst (v := 0) hx hb dX6_person_11 (by decide) ?_
  refine lv_bipush (v := 99) hx hb dX6_person_12 (by decide) ?_
  refine g_si (g_runS (n := 3) (rest := []) hx hb hml hown hts hG (c_X6_in p2 0 99) tw_ml_RX6_81 tw_st_X6_in tw_in_RX6 tw_cd_X6_in (by decide +kernel) ⟨rfl, rfl, Nat.le_of_ble_eq_true rfl, Nat.le_of_ble_eq_true rfl⟩ rfl hl.1 rfl (Nat.le_of_ble_eq_true rfl) dX6_person_14 ⟨Nat.le_refl _, Nat.le_refl _⟩) hG hA (fun H locs hG => ?_)
  refine lv_if_eq (tgt := 30) hx hb dX6_person_17 (by decide) (fun c_17 => ?_) (fun c_17 => ?_)
  · replace hE := (if_pos c_17).symm.trans hE
    refine lv_bipush (v := (-2)) hx hb dX6_person_30 (by decide) ?_
    subst hQ
    exact g_iret hx hb hr hlocks hG ((mo) : Ob) rfl hE.symm dX6_person_32
  replace hE := (if_neg c_17).symm.trans hE
  have i_17 : 0 ≤ p2.toInt ∧ p2.toInt ≤ 99 := in_f c_17
  refine lv_iload_n hx hb dX6_person_20 rfl (lv_at hl 3 rfl) ?_
  refine lv_iconst (v := 0) hx hb dX6_person_21 (by decide) ?_
  refine lv_ldc (v := 16777215) hx hb hown (hts _ tw_co_RX6_170) dX6_person_22 ?_
  refine g_si (g_runS (n := 3) (rest := []) hx hb hml hown hts hG (c_X6_in p3 0 16777215) tw_ml_RX6_81 tw_st_X6_in tw_in_RX6 tw_cd_X6_in (by decide +kernel) ⟨rfl, rfl, Nat.le_of_ble_eq_true rfl, Nat.le_of_ble_eq_true rfl⟩ rfl hl.1 rfl (Nat.le_of_ble_eq_true rfl) dX6_person_24 ⟨Nat.le_refl _, Nat.le_refl _⟩) hG hA (fun H locs hG => ?_)
  refine lv_if_ne (tgt := 33) hx hb dX6_person_27 (by decide) (fun c_27 => ?_) (fun c_27 => ?_)
  · replace hE := (if_neg c_27).symm.trans hE
    have i_27 : 0 ≤ p3.toInt ∧ p3.toInt ≤ 16777215 := in_f c_27
    refine lv_aload_n hx hb dX6_person_33 rfl (lv_at hl 0 rfl) ?_
    refine g_get hx hb hts hiX6 hown hG gw_Model rfl 0 (by decide) (index := 78) tw_fl_RX6_78 (v := .int (mo.1 0)) rfl dX6_person_34 ?_
    refine lv_bipush (v := 6) hx hb dX6_person_37 (by decide) ?_
    refine lv_icmp_ne (tgt := 45) hx hb dX6_person_39 (by decide) (fun c_39 => ?_) (fun c_39 => ?_)
    · replace hE := (if_neg c_39).symm.trans hE
      have i_39 : (mo.1 0).toInt ≠ 6 := fun h => c_39 (Int32.toInt_inj.mp h)
      refine lv_aload_n hx hb dX6_person_45 rfl (lv_at hl 0 rfl) ?_
      refine g_get hx hb hts hiX6 hown hG gw_Model rfl 1 (by decide) (index := 7) tw_fl_RX6_7 (v := .ref (gA g 59)) rfl dX6_person_46 ?_
      refine lv_aload_n hx hb dX6_person_49 rfl (lv_at hl 0 rfl) ?_
      refine g_get hx hb hts hiX6 hown hG gw_Model rfl 0 (by decide) (index := 78) tw_fl_RX6_78 (v := .int (mo.1 0)) rfl dX6_person_50 ?_
      refine lv_iload_n hx hb dX6_person_53 rfl (lv_at hl 1 rfl) ?_
      refine lv_bipush (v := 10) hx hb dX6_person_54 (by decide) ?_
      refine lv_idiv hx hb dX6_person_56 (by decide) ?_
      refine g_ist hx hb hG gw_Model_a1 (show vp_in (mo.1 0) 6 from (vp_i (by clear hE; omega) (by clear hE; omega))) gs_Model_a1 dX6_person_57 (fun H locs hG => ?_)
      refine lv_aload_n hx hb dX6_person_58 rfl (lv_at hl 0 rfl) ?_
      refine g_get hx hb hts hiX6 hown hG gw_Model rfl 2 (by decide) (index := 13) tw_fl_RX6_13 (v := .ref (gA g 60)) rfl dX6_person_59 ?_
      refine lv_aload_n hx hb dX6_person_62 rfl (lv_at hl 0 rfl) ?_
      refine g_get hx hb hts hiX6 hown hG gw_Model rfl 0 (by decide) (index := 78) tw_fl_RX6_78 (v := .int (mo.1 0)) rfl dX6_person_63 ?_
      refine lv_iload_n hx hb dX6_person_66 rfl (lv_at hl 1 rfl) ?_
      refine lv_bipush (v := 10) hx hb dX6_person_67 (by decide) ?_
      refine lv_irem hx hb dX6_person_69 (by decide) ?_
      refine g_ist hx hb hG gw_Model_a2 (show vp_in (mo.1 0) 6 from (vp_i (by clear hE; omega) (by clear hE; omega))) gs_Model_a2 dX6_person_70 (fun H locs hG => ?_)
      refine lv_aload_n hx hb dX6_person_71 rfl (lv_at hl 0 rfl) ?_
      refine g_get hx hb hts hiX6 hown hG gw_Model rfl 3 (by decide) (index := 16) tw_fl_RX6_16 (v := .ref (gA g 61)) rfl dX6_person_72 ?_
      refine lv_iconst (v := 4) hx hb dX6_person_75 (by decide) ?_
      refine lv_aload_n hx hb dX6_person_76 rfl (lv_at hl 0 rfl) ?_
      refine g_get hx hb hts hiX6 hown hG gw_Model rfl 0 (by decide) (index := 78) tw_fl_RX6_78 (v := .int (mo.1 0)) rfl dX6_person_77 ?_
      refine lv_imul hx hb dX6_person_80 ?_
      refine lv_iload_n hx hb dX6_person_81 rfl (lv_at hl 2 rfl) ?_
      have e1 : (4 * (mo.1 0)).toInt = 4 * (mo.1 0).toInt := mulL (k := 4) (by decide +kernel) (by clear hE; omega) (by clear hE; omega)
      refine g_ist hx hb hG gw_Model_a3 (show vp_in (4 * (mo.1 0)) 24 from (vp_i (by clear hE; omega) (by clear hE; omega))) gs_Model_a3 dX6_person_82 (fun H locs hG => ?_)
      refine lv_aload_n hx hb dX6_person_83 rfl (lv_at hl 0 rfl) ?_
      refine g_get hx hb hts hiX6 hown hG gw_Model rfl 3 (by decide) (index := 16) tw_fl_RX6_16 (v := .ref (gA g 61)) rfl dX6_person_84 ?_
      refine lv_iconst (v := 4) hx hb dX6_person_87 (by decide) ?_
      refine lv_aload_n hx hb dX6_person_88 rfl (lv_at hl 0 rfl) ?_
      refine g_get hx hb hts hiX6 hown hG gw_Model rfl 0 (by decide) (index := 78) tw_fl_RX6_78 (v := .int (mo.1 0)) rfl dX6_person_89 ?_
      refine lv_imul hx hb dX6_person_92 ?_
      refine lv_iconst (v := 1) hx hb dX6_person_93 (by decide) ?_
      refine lv_iadd hx hb dX6_person_94 ?_
      refine lv_iconst (v := 0) hx hb dX6_person_95 (by decide) ?_
      have e2 : (4 * (mo.1 0)).toInt = 4 * (mo.1 0).toInt := mulL (k := 4) (by decide +kernel) (by clear hE; omega) (by clear hE; omega)
      have e3 : ((4 * (mo.1 0)) + 1).toInt = (4 * (mo.1 0)).toInt + 1 := addL (k := 1) (by decide +kernel) (by clear hE; omega) (by clear hE; omega)
      refine g_ist hx hb hG gw_Model_a3 (show vp_in ((4 * (mo.1 0)) + 1) 24 from (vp_i (by clear hE; omega) (by clear hE; omega))) gs_Model_a3 dX6_person_96 (fun H locs hG => ?_)
      refine lv_aload_n hx hb dX6_person_97 rfl (lv_at hl 0 rfl) ?_
      refine g_get hx hb hts hiX6 hown hG gw_Model rfl 3 (by decide) (index := 16) tw_fl_RX6_16 (v := .ref (gA g 61)) rfl dX6_person_98 ?_
      refine lv_iconst (v := 4) hx hb dX6_person_101 (by decide) ?_
      refine lv_aload_n hx hb dX6_person_102 rfl (lv_at hl 0 rfl) ?_
      refine g_get hx hb hts hiX6 hown hG gw_Model rfl 0 (by decide) (index := 78) tw_fl_RX6_78 (v := .int (mo.1 0)) rfl dX6_person_103 ?_
      refine lv_imul hx hb dX6_person_106 ?_
      refine lv_iconst (v := 2) hx hb dX6_person_107 (by decide) ?_
      refine lv_iadd hx hb dX6_person_108 ?_
      refine lv_iload_n hx hb dX6_person_109 rfl (lv_at hl 3 rfl) ?_
      have e4 : (4 * (mo.1 0)).toInt = 4 * (mo.1 0).toInt := mulL (k := 4) (by decide +kernel) (by clear hE; omega) (by clear hE; omega)
      have e5 : ((4 * (mo.1 0)) + 2).toInt = (4 * (mo.1 0)).toInt + 2 := addL (k := 2) (by decide +kernel) (by clear hE; omega) (by clear hE; omega)
      refine g_ist hx hb hG gw_Model_a3 (show vp_in ((4 * (mo.1 0)) + 2) 24 from (vp_i (by clear hE; omega) (by clear hE; omega))) gs_Model_a3 dX6_person_110 (fun H locs hG => ?_)
      refine lv_aload_n hx hb dX6_person_111 rfl (lv_at hl 0 rfl) ?_
      refine g_get hx hb hts hiX6 hown hG gw_Model rfl 3 (by decide) (index := 16) tw_fl_RX6_16 (v := .ref (gA g 61)) rfl dX6_person_112 ?_
      refine lv_iconst (v := 4) hx hb dX6_person_115 (by decide) ?_
      refine lv_aload_n hx hb dX6_person_116 rfl (lv_at hl 0 rfl) ?_
      refine g_get hx hb hts hiX6 hown hG gw_Model rfl 0 (by decide) (index := 78) tw_fl_RX6_78 (v := .int (mo.1 0)) rfl dX6_person_117 ?_
      refine lv_imul hx hb dX6_person_120 ?_
      refine lv_iconst (v := 3) hx hb dX6_person_121 (by decide) ?_
      refine lv_iadd hx hb dX6_person_122 ?_
      refine lv_iconst (v := 0) hx hb dX6_person_123 (by decide) ?_
      have e6 : (4 * (mo.1 0)).toInt = 4 * (mo.1 0).toInt := mulL (k := 4) (by decide +kernel) (by clear hE; omega) (by clear hE; omega)
      have e7 : ((4 * (mo.1 0)) + 3).toInt = (4 * (mo.1 0)).toInt + 3 := addL (k := 3) (by decide +kernel) (by clear hE; omega) (by clear hE; omega)
      refine g_ist hx hb hG gw_Model_a3 (show vp_in ((4 * (mo.1 0)) + 3) 24 from (vp_i (by clear hE; omega) (by clear hE; omega))) gs_Model_a3 dX6_person_124 (fun H locs hG => ?_)
      refine lv_aload_n hx hb dX6_person_125 rfl (lv_at hl 0 rfl) ?_
      refine lv_dup hx hb dX6_person_126 rfl ?_
      refine g_get hx hb hts hiX6 hown hG gw_Model rfl 0 (by decide) (index := 78) tw_fl_RX6_78 (v := .int (mo.1 0)) rfl dX6_person_127 ?_
      refine lv_iconst (v := 1) hx hb dX6_person_130 (by decide) ?_
      refine lv_iadd hx hb dX6_person_131 ?_
      refine g_put hx hb hts hiX6 tyX6 tyX6_ok nmX6 hown hG gw_Model rfl 0 (by decide) (index := 78) tw_fl_RX6_78 rfl rfl rfl (Nat.le_of_ble_eq_true rfl) gs_Model_f0 dX6_person_132 (fun H locs hG => ?_)
      refine lv_aload_n hx hb dX6_person_135 rfl (lv_at hl 0 rfl) ?_
      refine g_get hx hb hts hiX6 hown hG gw_Model rfl 0 (by decide) (index := 78) tw_fl_RX6_78 (v := .int ((mo.1 0) + 1)) rfl dX6_person_136 ?_
      refine lv_iconst (v := 1) hx hb dX6_person_139 (by decide) ?_
      refine lv_isub hx hb dX6_person_140 ?_
      subst hQ
      exact g_iret hx hb hr hlocks hG (((setS (stA (stA (stA (stA (stA (stA mo 1 (mo.1 0) (p1 / 10)) 2 (mo.1 0) (p1 - p1 / 10 * 10)) 3 (4 * (mo.1 0)) p2) 3 ((4 * (mo.1 0)) + 1) 0) 3 ((4 * (mo.1 0)) + 2) p3) 3 ((4 * (mo.1 0)) + 3) 0) 0 ((mo.1 0) + 1))) : Ob) rfl hE.symm dX6_person_141
    replace hE := (if_pos c_39).symm.trans hE
    have i_39 : (mo.1 0).toInt = 6 := congrArg Int32.toInt c_39
    refine lv_bipush (v := (-4)) hx hb dX6_person_42 (by decide) ?_
    subst hQ
    exact g_iret hx hb hr hlocks hG ((mo) : Ob) rfl hE.symm dX6_person_44
  replace hE := (if_pos c_27).symm.trans hE
  refine lv_bipush (v := (-2)) hx hb dX6_person_30 (by decide) ?_
  subst hQ
  exact g_iret hx hb hr hlocks hG ((mo) : Ob) rfl hE.symm dX6_person_32
def F_X6_put (mo : Ob) (p1 : Int32) (p2 : Int32) (p3 : Int32) : Int32 × Ob :=
  (if (F_X6_isOne mo p1) = 0 then ((-5), mo) else (if (F_X6_in p2 0 3) = 0 then ((-7), mo) else (if (F_X6_in p3 0 (F_X6_mostOf p2)) = 0 then ((-7), mo) else (((mo.2 3) (Int32.toNatClampNeg ((4 * p1) + p2))), (stA mo 3 ((4 * p1) + p2) p3)))))
set_option maxHeartbeats 4000000 in
set_option maxRecDepth 100000 in
theorem c_X6_put {l : Launch} {g : GG} {sz : Nat} {bb : Ob} {tx rw : Nat → Ob} {sb dy : Ob} {tn : Nat → Ob} {mo : Ob} {jk : Nat → Nat → Int32}  (p1 : Int32) (p2 : Int32) (p3 : Int32) (hpo : 0 ≤ (mo.1 0).toInt ∧ (mo.1 0).toInt ≤ 6) : Met l yX6_put (Cond.code yX6_put cX6_put 5 (some .int) :: TT) (rmL (3)) (va_Pc [.ref (gA g 58), .int p1, .int p2, .int p3] (gB g sz (gW g bb tx rw sb dy tn mo jk))) (va_Qi (fun r (u : Ob) => (F_X6_put mo p1 p2 p3) = (r, u)) (fun u t => gC g (va_A (gW g bb tx rw sb dy tn mo jk) sz) (gW g bb tx rw sb dy tn u jk) t) (va_A (gW g bb tx rw sb dy tn mo jk) sz)) 0 0 (va_A (gW g bb tx rw sb dy tn mo jk) sz) := by
  generalize hE : F_X6_put mo p1 p2 p3 = EE
  refine g_of (Qf := fun A => (va_Qi (fun r (u : Ob) => EE = (r, u)) (fun u t => gC g A (gW g bb tx rw sb dy tn u jk) t) A)) (cc := cX6_put) (maxL := 5) (ret := (some .int)) (by decide) (Nat.le_of_ble_eq_true rfl) ?_
  intro p e s m below meth c A ls hx hb hml hr hlocks hts hown hA hG hl
  replace hown : s.vm.findClass RX6 = some m.cls := hown
  replace hl : lv_has ls 5 [(0, .ref (gA g 58)), (1, .int p1), (2, .int p2), (3, .int p3)] := hl
  show W p l e (rmL (3)) s m [.ref (gA g 58), .int p1, .int p2, .int p3].toArray below meth c s.heap [] 0 0 (MQ below (va_Qi (fun r (u : Ob) => EE = (r, u)) (fun u t => gC g A (gW g bb tx rw sb dy tn u jk) t) A) [.ref (gA g 58), .int p1, .int p2, .int p3].toArray s 0 0 A) (F0 m 0 ls [])
  generalize hQ : MQ below (va_Qi (fun r (u : Ob) => EE = (r, u)) (fun u t => gC g A (gW g bb tx rw sb dy tn u jk) t) A) [.ref (gA g 58), .int p1, .int p2, .int p3].toArray s 0 0 A = Q
  have e_pe : ((mo.1 0) - 1).toInt = (mo.1 0).toInt - 1 := subL (k := 1) (by decide +kernel) (by omega) (by omega)
  unfold F_X6_put at hE
  refine lv_aload_n hx hb dX6_put_0 rfl (lv_at hl 0 rfl) ?_
  refine lv_iload_n hx hb dX6_put_1 rfl (lv_at hl 1 rfl) ?_
  refine g_ci (g_runV (n := 1) (rest := []) hx hb hml hown hts hG (c_X6_isOne p1) tw_ml_RX6_164 tw_im_X6_isOne tw_se_X6_isOne tw_in_RX6 tw_cd_X6_isOne (by decide +kernel) ⟨rfl, rfl, Nat.le_of_ble_eq_true rfl, Nat.le_of_ble_eq_true rfl⟩ gw_Model rfl rfl hl.1 rfl (Nat.le_of_ble_eq_true rfl) dX6_put_2 ⟨Nat.le_refl _, Nat.le_refl _⟩) hG hA (fun r _ H locs hp hG => ?_)
  subst hp
  replace hG : gS g A s H locs (gW g bb tx rw sb dy tn mo jk) := hG
  refine lv_if_ne (tgt := 11) hx hb dX6_put_5 (by decide) (fun c_5 => ?_) (fun c_5 => ?_)
  · replace hE := (if_neg c_5).symm.trans hE
    have i_5 := isOne_f c_5
    refine lv_iload_n hx hb dX6_put_11 rfl (lv_at hl 2 rfl) ?_
    refine lv_iconst (v := 0) hx hb dX6_put_12 (by decide) ?_
    refine lv_iconst (v := 3) hx hb dX6_put_13 (by decide) ?_
    refine g_si (g_runS (n := 3) (rest := []) hx hb hml hown hts hG (c_X6_in p2 0 3) tw_ml_RX6_81 tw_st_X6_in tw_in_RX6 tw_cd_X6_in (by decide +kernel) ⟨rfl, rfl, Nat.le_of_ble_eq_true rfl, Nat.le_of_ble_eq_true rfl⟩ rfl hl.1 rfl (Nat.le_of_ble_eq_true rfl) dX6_put_14 ⟨Nat.le_refl _, Nat.le_refl _⟩) hG hA (fun H locs hG => ?_)
    refine lv_if_eq (tgt := 32) hx hb dX6_put_17 (by decide) (fun c_17 => ?_) (fun c_17 => ?_)
    · replace hE := (if_pos c_17).symm.trans hE
      refine lv_bipush (v := (-7)) hx hb dX6_put_32 (by decide) ?_
      subst hQ
      exact g_iret hx hb hr hlocks hG ((mo) : Ob) rfl hE.symm dX6_put_34
    replace hE := (if_neg c_17).symm.trans hE
    have i_17 : 0 ≤ p2.toInt ∧ p2.toInt ≤ 3 := in_f c_17
    refine lv_iload_n hx hb dX6_put_20 rfl (lv_at hl 3 rfl) ?_
    refine lv_iconst (v := 0) hx hb dX6_put_21 (by decide) ?_
    refine lv_iload_n hx hb dX6_put_22 rfl (lv_at hl 2 rfl) ?_
    refine g_si (g_runS (n := 1) (rest := [.int 0, .int p3]) hx hb hml hown hts hG (c_X6_mostOf p2) tw_ml_RX6_171 tw_st_X6_mostOf tw_in_RX6 tw_cd_X6_mostOf (by decide +kernel) ⟨rfl, rfl, Nat.le_of_ble_eq_true rfl, Nat.le_of_ble_eq_true rfl⟩ rfl hl.1 rfl (Nat.le_of_ble_eq_true rfl) dX6_put_23 ⟨Nat.le_refl _, Nat.le_refl _⟩) hG hA (fun H locs hG => ?_)
    refine g_si (g_runS (n := 3) (rest := []) hx hb hml hown hts hG (c_X6_in p3 0 (F_X6_mostOf p2)) tw_ml_RX6_81 tw_st_X6_in tw_in_RX6 tw_cd_X6_in (by decide +kernel) ⟨rfl, rfl, Nat.le_of_ble_eq_true rfl, Nat.le_of_ble_eq_true rfl⟩ rfl hl.1 rfl (Nat.le_of_ble_eq_true rfl) dX6_put_26 ⟨Nat.le_refl _, Nat.le_refl _⟩) hG hA (fun H locs hG => ?_)
    refine lv_if_ne (tgt := 35) hx hb dX6_put_29 (by decide) (fun c_29 => ?_) (fun c_29 => ?_)
    · replace hE := (if_neg c_29).symm.trans hE
      have i_29 : 0 ≤ p3.toInt ∧ p3.toInt ≤ (F_X6_mostOf p2).toInt := in_f c_29
      refine lv_aload_n hx hb dX6_put_35 rfl (lv_at hl 0 rfl) ?_
      refine g_get hx hb hts hiX6 hown hG gw_Model rfl 3 (by decide) (index := 16) tw_fl_RX6_16 (v := .ref (gA g 61)) rfl dX6_put_36 ?_
      refine lv_iconst (v := 4) hx hb dX6_put_39 (by decide) ?_
      refine lv_iload_n hx hb dX6_put_40 rfl (lv_at hl 1 rfl) ?_
      refine lv_imul hx hb dX6_put_41 ?_
      refine lv_iload_n hx hb dX6_put_42 rfl (lv_at hl 2 rfl) ?_
      refine lv_iadd hx hb dX6_put_43 ?_
      have e1 : (4 * p1).toInt = 4 * p1.toInt := mulL (k := 4) (by decide +kernel) (by clear hE; omega) (by clear hE; omega)
      have e2 : ((4 * p1) + p2).toInt = (4 * p1).toInt + p2.toInt := fb_addI (by clear hE; omega) (by clear hE; omega)
      refine g_ild (f := (mo.2 3)) hx hb hG gw_Model_a3 (show vp_in ((4 * p1) + p2) 24 from (vp_i (by clear hE; omega) (by clear hE; omega))) dX6_put_44 ?_
      refine lv_istore (lv' := [(4, .int ((mo.2 3) (Int32.toNatClampNeg ((4 * p1) + p2)))), (0, .ref (gA g 58)), (1, .int p1), (2, .int p2), (3, .int p3)]) hx hb dX6_put_45 hl (by decide) rfl (fun ls hl => ?_)
      replace hl := lv_sub hl [1, 2, 3, 4, 0] (l' := [(0, .ref (gA g 58)), (1, .int p1), (2, .int p2), (3, .int p3), (4, .int ((mo.2 3) (Int32.toNatClampNeg ((4 * p1) + p2))))]) rfl
      refine lv_aload_n hx hb dX6_put_47 rfl (lv_at hl 0 rfl) ?_
      refine g_get hx hb hts hiX6 hown hG gw_Model rfl 3 (by decide) (index := 16) tw_fl_RX6_16 (v := .ref (gA g 61)) rfl dX6_put_48 ?_
      refine lv_iconst (v := 4) hx hb dX6_put_51 (by decide) ?_
      refine lv_iload_n hx hb dX6_put_52 rfl (lv_at hl 1 rfl) ?_
      refine lv_imul hx hb dX6_put_53 ?_
      refine lv_iload_n hx hb dX6_put_54 rfl (lv_at hl 2 rfl) ?_
      refine lv_iadd hx hb dX6_put_55 ?_
      refine lv_iload_n hx hb dX6_put_56 rfl (lv_at hl 3 rfl) ?_
      have e3 : (4 * p1).toInt = 4 * p1.toInt := mulL (k := 4) (by decide +kernel) (by clear hE; omega) (by clear hE; omega)
      have e4 : ((4 * p1) + p2).toInt = (4 * p1).toInt + p2.toInt := fb_addI (by clear hE; omega) (by clear hE; omega)
      refine g_ist hx hb hG gw_Model_a3 (show vp_in ((4 * p1) + p2) 24 from (vp_i (by clear hE; omega) (by clear hE; omega))) gs_Model_a3 dX6_put_57 (fun H locs hG => ?_)
      refine lv_iload hx hb dX6_put_58 (lv_at hl 4 rfl) ?_
      subst hQ
      exact g_iret hx hb hr hlocks hG (((stA mo 3 ((4 * p1) + p2) p3)) : Ob) rfl hE.symm dX6_put_60
    replace hE := (if_pos c_29).symm.trans hE
    refine lv_bipush (v := (-7)) hx hb dX6_put_32 (by decide) ?_
    subst hQ
    exact g_iret hx hb hr hlocks hG ((mo) : Ob) rfl hE.symm dX6_put_34
  replace hE := (if_pos c_5).symm.trans hE
  refine lv_bipush (v := (-5)) hx hb dX6_put_8 (by decide) ?_
  subst hQ
  exact g_iret hx hb hr hlocks hG ((mo) : Ob) rfl hE.symm dX6_put_10
def F_X6_lies_b111 (mo : Ob) (x1 : Int32) (x2 : Int32) (x3 : Int32) (z0 : Int32) : Int32 :=
  (if ((mo.2 1) (Int32.toNatClampNeg x1)) = 1 then z0 else (if ((mo.2 1) (Int32.toNatClampNeg x1)) = 3 then (if z0 = 0 then 0 else (if ((mo.2 4) (Int32.toNatClampNeg 2)) ≤ ((mo.2 2) (Int32.toNatClampNeg x1)) then 0 else 1)) else (if x3 = 0 then 0 else (if x2 = 0 then 0 else 1))))
def F_X6_lies_b110 (mo : Ob) (x1 : Int32) (x2 : Int32) (x3 : Int32) : Int32 :=
  (F_X6_lies_b111  mo x1 x2 x3 0)
def F_X6_lies_b106 (mo : Ob) (x1 : Int32) (x2 : Int32) (x3 : Int32) : Int32 :=
  (F_X6_lies_b111  mo x1 x2 x3 1)
def F_X6_lies_b81 (mo : Ob) (x1 : Int32) (x2 : Int32) (z0 : Int32) : Int32 :=
  (if z0 = 0 then (F_X6_lies_b110  mo x1 x2 z0) else (if x2 = 0 then (if ((F_X6_ofDay mo) - (F_X6_ofDay mo) / 12 * 12) = ((mo.2 2) (Int32.toNatClampNeg x1)) then (F_X6_lies_b106  mo x1 x2 z0) else (F_X6_lies_b110  mo x1 x2 z0)) else (F_X6_lies_b106  mo x1 x2 z0)))
def F_X6_lies_b42 (mo : Ob) (x1 : Int32) (z0 : Int32) : Int32 :=
  (if ((mo.2 1) (Int32.toNatClampNeg x1)) = 5 then 1 else (if ((mo.2 1) (Int32.toNatClampNeg x1)) = 4 then z0 else (if (F_X6_asksOf mo 0 x1) = 0 then (F_X6_lies_b81  mo x1 z0 0) else (F_X6_lies_b81  mo x1 z0 1))))
def F_X6_lies (mo : Ob) (p1 : Int32) : Int32 :=
  (if ((mo.2 3) (Int32.toNatClampNeg ((4 * p1) + 3))) = 1 then 0 else (if ((((mo.2 3) (Int32.toNatClampNeg ((4 * p1) + 2))) >>> ((F_X6_ofDay mo) &&& 31)) &&& 1) = 1 then (F_X6_lies_b42  mo p1 1) else (F_X6_lies_b42  mo p1 0)))
set_option maxHeartbeats 4000000 in
set_option maxRecDepth 100000 in
theorem c_X6_lies {l : Launch} {g : GG} {sz : Nat} {bb : Ob} {tx rw : Nat → Ob} {sb dy : Ob} {tn : Nat → Ob} {mo : Ob} {jk : Nat → Nat → Int32}  (p1 : Int32) (hv : mEv mo) (hp : 0 ≤ p1.toInt ∧ p1.toInt < 6) : Met l yX6_lies (Cond.code yX6_lies cX6_lies 5 (some .boolean) :: TT) (rmL (4)) (va_Pc [.ref (gA g 58), .int p1] (gB g sz (gW g bb tx rw sb dy tn mo jk))) (va_Qi (fun r (_ : (Nat → Nat → Int32)) => r = (F_X6_lies mo p1)) (fun u t => gC g (va_A (gW g bb tx rw sb dy tn mo jk) sz) (gW g bb tx rw sb dy tn mo u) t) (va_A (gW g bb tx rw sb dy tn mo jk) sz)) 0 0 (va_A (gW g bb tx rw sb dy tn mo jk) sz) := by
  generalize hE : F_X6_lies mo p1 = EE
  refine g_of (Qf := fun A => (va_Qi (fun r (_ : (Nat → Nat → Int32)) => r = EE) (fun u t => gC g A (gW g bb tx rw sb dy tn mo u) t) A)) (cc := cX6_lies) (maxL := 5) (ret := (some .boolean)) (by decide) (Nat.le_of_ble_eq_true rfl) ?_
  intro p e s m below meth c A ls hx hb hml hr hlocks hts hown hA hG hl
  replace hown : s.vm.findClass RX6 = some m.cls := hown
  replace hl : lv_has ls 5 [(0, .ref (gA g 58)), (1, .int p1)] := hl
  show W p l e (rmL (4)) s m [.ref (gA g 58), .int p1].toArray below meth c s.heap [] 0 0 (MQ below (va_Qi (fun r (_ : (Nat → Nat → Int32)) => r = EE) (fun u t => gC g A (gW g bb tx rw sb dy tn mo u) t) A) [.ref (gA g 58), .int p1].toArray s 0 0 A) (F0 m 0 ls [])
  generalize hQ : MQ below (va_Qi (fun r (_ : (Nat → Nat → Int32)) => r = EE) (fun u t => gC g A (gW g bb tx rw sb dy tn mo u) t) A) [.ref (gA g 58), .int p1].toArray s 0 0 A = Q
  unfold F_X6_lies at hE
  refine lv_aload_n hx hb dX6_lies_0 rfl (lv_at hl 0 rfl) ?_
  refine g_get hx hb hts hiX6 hown hG gw_Model rfl 3 (by decide) (index := 16) tw_fl_RX6_16 (v := .ref (gA g 61)) rfl dX6_lies_1 ?_
  refine lv_iconst (v := 4) hx hb dX6_lies_4 (by decide) ?_
  refine lv_iload_n hx hb dX6_lies_5 rfl (lv_at hl 1 rfl) ?_
  refine lv_imul hx hb dX6_lies_6 ?_
  refine lv_iconst (v := 3) hx hb dX6_lies_7 (by decide) ?_
  refine lv_iadd hx hb dX6_lies_8 ?_
  have e1 : (4 * p1).toInt = 4 * p1.toInt := mulL (k := 4) (by decide +kernel) (by clear hE; omega) (by clear hE; omega)
  have e2 : ((4 * p1) + 3).toInt = (4 * p1).toInt + 3 := addL (k := 3) (by decide +kernel) (by clear hE; omega) (by clear hE; omega)
  refine g_ild (f := (mo.2 3)) hx hb hG gw_Model_a3 (show vp_in ((4 * p1) + 3) 24 from (vp_i (by clear hE; omega) (by clear hE; omega))) dX6_lies_9 ?_
  refine lv_iconst (v := 1) hx hb dX6_lies_10 (by decide) ?_
  refine lv_icmp_ne (tgt := 16) hx hb dX6_lies_11 (by decide) (fun c_11 => ?_) (fun c_11 => ?_)
  · replace hE := (if_neg c_11).symm.trans hE
    have i_11 : ((mo.2 3) (Int32.toNatClampNeg ((4 * p1) + 3))).toInt ≠ 1 := fun h => c_11 (Int32.toInt_inj.mp h)
    refine lv_aload_n hx hb dX6_lies_16 rfl (lv_at hl 0 rfl) ?_
    refine g_get hx hb hts hiX6 hown hG gw_Model rfl 3 (by decide) (index := 16) tw_fl_RX6_16 (v := .ref (gA g 61)) rfl dX6_lies_17 ?_
    refine lv_iconst (v := 4) hx hb dX6_lies_20 (by decide) ?_
    refine lv_iload_n hx hb dX6_lies_21 rfl (lv_at hl 1 rfl) ?_
    refine lv_imul hx hb dX6_lies_22 ?_
    refine lv_iconst (v := 2) hx hb dX6_lies_23 (by decide) ?_
    refine lv_iadd hx hb dX6_lies_24 ?_
    have e3 : (4 * p1).toInt = 4 * p1.toInt := mulL (k := 4) (by decide +kernel) (by clear hE; omega) (by clear hE; omega)
    have e4 : ((4 * p1) + 2).toInt = (4 * p1).toInt + 2 := addL (k := 2) (by decide +kernel) (by clear hE; omega) (by clear hE; omega)
    refine g_ild (f := (mo.2 3)) hx hb hG gw_Model_a3 (show vp_in ((4 * p1) + 2) 24 from (vp_i (by clear hE; omega) (by clear hE; omega))) dX6_lies_25 ?_
    refine lv_aload_n hx hb dX6_lies_26 rfl (lv_at hl 0 rfl) ?_
    refine g_ci (g_runV (n := 0) (rest := [.int ((mo.2 3) (Int32.toNatClampNeg ((4 * p1) + 2)))]) hx hb hml hown hts hG (c_X6_ofDay) tw_ml_RX6_158 tw_im_X6_ofDay tw_se_X6_ofDay tw_in_RX6 tw_cd_X6_ofDay (by decide +kernel) ⟨rfl, rfl, Nat.le_of_ble_eq_true rfl, Nat.le_of_ble_eq_true rfl⟩ gw_Model rfl rfl hl.1 rfl (Nat.le_of_ble_eq_true rfl) dX6_lies_27 ⟨Nat.le_refl _, Nat.le_refl _⟩) hG hA (fun r _ H locs hp hG => ?_)
    subst hp
    replace hG : gS g A s H locs (gW g bb tx rw sb dy tn mo jk) := hG
    refine lv_ishr hx hb dX6_lies_30 ?_
    refine lv_iconst (v := 1) hx hb dX6_lies_31 (by decide) ?_
    refine lv_iand hx hb dX6_lies_32 ?_
    refine lv_iconst (v := 1) hx hb dX6_lies_33 (by decide) ?_
    have J42 : ∀ (z0_42 : Int32) (jk : (Nat → Nat → Int32)) (H : Heap) (locs : List Loc), gS g A s H locs (gW g bb tx rw sb dy tn mo jk) → ∀ ls : Array Slot, lv_has ls 5 [(0, .ref (gA g 58)), (1, .int p1)] → z0_42 = 0 ∨ z0_42 = 1 → F_X6_lies_b42   mo p1 z0_42 = EE → W p l e (rmL (4)) s m [.ref (gA g 58), .int p1].toArray below meth c H locs 0 0 Q (F0 m 42 ls [.int z0_42]) := by
      intro z0_42 jk H locs hG ls hl hz42 hE
      unfold F_X6_lies_b42 at hE
      refine lv_istore_n (lv' := [(2, .int z0_42), (0, .ref (gA g 58)), (1, .int p1)]) hx hb dX6_lies_42 rfl hl (by decide) rfl (fun ls hl => ?_)
      replace hl := lv_sub hl [1, 2, 0] (l' := [(0, .ref (gA g 58)), (1, .int p1), (2, .int z0_42)]) rfl
      refine lv_aload_n hx hb dX6_lies_43 rfl (lv_at hl 0 rfl) ?_
      refine g_get hx hb hts hiX6 hown hG gw_Model rfl 1 (by decide) (index := 7) tw_fl_RX6_7 (v := .ref (gA g 59)) rfl dX6_lies_44 ?_
      refine lv_iload_n hx hb dX6_lies_47 rfl (lv_at hl 1 rfl) ?_
      refine g_ild (f := (mo.2 1)) hx hb hG gw_Model_a1 (show vp_in p1 6 from (vp_i (by clear hE; omega) (by clear hE; omega))) dX6_lies_48 ?_
      refine lv_iconst (v := 5) hx hb dX6_lies_49 (by decide) ?_
      refine lv_icmp_ne (tgt := 55) hx hb dX6_lies_50 (by decide) (fun c_50 => ?_) (fun c_50 => ?_)
      · replace hE := (if_neg c_50).symm.trans hE
        have i_50 : ((mo.2 1) (Int32.toNatClampNeg p1)).toInt ≠ 5 := fun h => c_50 (Int32.toInt_inj.mp h)
        refine lv_aload_n hx hb dX6_lies_55 rfl (lv_at hl 0 rfl) ?_
        refine g_get hx hb hts hiX6 hown hG gw_Model rfl 1 (by decide) (index := 7) tw_fl_RX6_7 (v := .ref (gA g 59)) rfl dX6_lies_56 ?_
        refine lv_iload_n hx hb dX6_lies_59 rfl (lv_at hl 1 rfl) ?_
        refine g_ild (f := (mo.2 1)) hx hb hG gw_Model_a1 (show vp_in p1 6 from (vp_i (by clear hE; omega) (by clear hE; omega))) dX6_lies_60 ?_
        refine lv_iconst (v := 4) hx hb dX6_lies_61 (by decide) ?_
        refine lv_icmp_ne (tgt := 67) hx hb dX6_lies_62 (by decide) (fun c_62 => ?_) (fun c_62 => ?_)
        · replace hE := (if_neg c_62).symm.trans hE
          have i_62 : ((mo.2 1) (Int32.toNatClampNeg p1)).toInt ≠ 4 := fun h => c_62 (Int32.toInt_inj.mp h)
          refine lv_aload_n hx hb dX6_lies_67 rfl (lv_at hl 0 rfl) ?_
          refine lv_iconst (v := 0) hx hb dX6_lies_68 (by decide) ?_
          refine lv_iload_n hx hb dX6_lies_69 rfl (lv_at hl 1 rfl) ?_
          refine g_ci (g_runV (n := 2) (rest := []) hx hb hml hown hts hG (c_X6_asksOf 0 p1 hv (show 0 ≤ 0 ∧ 0 ≤ 2 from by clear hE; omega) (show 0 ≤ p1.toInt ∧ p1.toInt < 6 from by clear hE; omega)) tw_ml_RX6_167 tw_im_X6_asksOf tw_se_X6_asksOf tw_in_RX6 tw_cd_X6_asksOf (by decide +kernel) ⟨rfl, rfl, Nat.le_of_ble_eq_true rfl, Nat.le_of_ble_eq_true rfl⟩ gw_Model rfl rfl hl.1 rfl (Nat.le_of_ble_eq_true rfl) dX6_lies_70 ⟨Nat.le_refl _, Nat.le_refl _⟩) hG hA (fun r jk H locs hp hG => ?_)
          subst hp
          replace hG : gS g A s H locs (gW g bb tx rw sb dy tn mo jk) := hG
          have J81 : ∀ (z0_81 : Int32) (jk : (Nat → Nat → Int32)) (H : Heap) (locs : List Loc), gS g A s H locs (gW g bb tx rw sb dy tn mo jk) → ∀ ls : Array Slot, lv_has ls 5 [(0, .ref (gA g 58)), (1, .int p1), (2, .int z0_42)] → z0_81 = 0 ∨ z0_81 = 1 → F_X6_lies_b81   mo p1 z0_42 z0_81 = EE → W p l e (rmL (4)) s m [.ref (gA g 58), .int p1].toArray below meth c H locs 0 0 Q (F0 m 81 ls [.int z0_81]) := by
            intro z0_81 jk H locs hG ls hl hz81 hE
            unfold F_X6_lies_b81 at hE
            refine lv_istore_n (lv' := [(3, .int z0_81), (0, .ref (gA g 58)), (1, .int p1), (2, .int z0_42)]) hx hb dX6_lies_81 rfl hl (by decide) rfl (fun ls hl => ?_)
            replace hl := lv_sub hl [1, 2, 3, 0] (l' := [(0, .ref (gA g 58)), (1, .int p1), (2, .int z0_42), (3, .int z0_81)]) rfl
            refine lv_iload_n hx hb dX6_lies_82 rfl (lv_at hl 3 rfl) ?_
            have J111 : ∀ (z0_111 : Int32) (jk : (Nat → Nat → Int32)) (H : Heap) (locs : List Loc), gS g A s H locs (gW g bb tx rw sb dy tn mo jk) → ∀ ls : Array Slot, lv_has ls 5 [(0, .ref (gA g 58)), (1, .int p1), (2, .int z0_42), (3, .int z0_81)] → z0_111 = 0 ∨ z0_111 = 1 → F_X6_lies_b111   mo p1 z0_42 z0_81 z0_111 = EE → W p l e (rmL (4)) s m [.ref (gA g 58), .int p1].toArray below meth c H locs 0 0 Q (F0 m 111 ls [.int z0_111]) := by
              intro z0_111 jk H locs hG ls hl hz111 hE
              unfold F_X6_lies_b111 at hE
              refine lv_istore (lv' := [(4, .int z0_111), (0, .ref (gA g 58)), (1, .int p1), (2, .int z0_42), (3, .int z0_81)]) hx hb dX6_lies_111 hl (by decide) rfl (fun ls hl => ?_)
              replace hl := lv_sub hl [1, 2, 3, 4, 0] (l' := [(0, .ref (gA g 58)), (1, .int p1), (2, .int z0_42), (3, .int z0_81), (4, .int z0_111)]) rfl
              refine lv_aload_n hx hb dX6_lies_113 rfl (lv_at hl 0 rfl) ?_
              refine g_get hx hb hts hiX6 hown hG gw_Model rfl 1 (by decide) (index := 7) tw_fl_RX6_7 (v := .ref (gA g 59)) rfl dX6_lies_114 ?_
              refine lv_iload_n hx hb dX6_lies_117 rfl (lv_at hl 1 rfl) ?_
              refine g_ild (f := (mo.2 1)) hx hb hG gw_Model_a1 (show vp_in p1 6 from (vp_i (by clear hE; omega) (by clear hE; omega))) dX6_lies_118 ?_
              refine lv_iconst (v := 1) hx hb dX6_lies_119 (by decide) ?_
              refine lv_icmp_ne (tgt := 128) hx hb dX6_lies_120 (by decide) (fun c_120 => ?_) (fun c_120 => ?_)
              · replace hE := (if_neg c_120).symm.trans hE
                have i_120 : ((mo.2 1) (Int32.toNatClampNeg p1)).toInt ≠ 1 := fun h => c_120 (Int32.toInt_inj.mp h)
                refine lv_aload_n hx hb dX6_lies_128 rfl (lv_at hl 0 rfl) ?_
                refine g_get hx hb hts hiX6 hown hG gw_Model rfl 1 (by decide) (index := 7) tw_fl_RX6_7 (v := .ref (gA g 59)) rfl dX6_lies_129 ?_
                refine lv_iload_n hx hb dX6_lies_132 rfl (lv_at hl 1 rfl) ?_
                refine g_ild (f := (mo.2 1)) hx hb hG gw_Model_a1 (show vp_in p1 6 from (vp_i (by clear hE; omega) (by clear hE; omega))) dX6_lies_133 ?_
                refine lv_iconst (v := 3) hx hb dX6_lies_134 (by decide) ?_
                refine lv_icmp_ne (tgt := 166) hx hb dX6_lies_135 (by decide) (fun c_135 => ?_) (fun c_135 => ?_)
                · replace hE := (if_neg c_135).symm.trans hE
                  have i_135 : ((mo.2 1) (Int32.toNatClampNeg p1)).toInt ≠ 3 := fun h => c_135 (Int32.toInt_inj.mp h)
                  refine lv_iload_n hx hb dX6_lies_166 rfl (lv_at hl 3 rfl) ?_
                  refine lv_if_eq (tgt := 178) hx hb dX6_lies_167 (by decide) (fun c_167 => ?_) (fun c_167 => ?_)
                  · replace hE := (if_pos c_167).symm.trans hE
                    have i_167 : z0_81.toInt = 0 := congrArg Int32.toInt c_167
                    refine lv_iconst (v := 0) hx hb dX6_lies_178 (by decide) ?_
                    subst hQ
                    exact g_zret hx hb hr hlocks hG (Or.inl rfl) ((jk) : (Nat → Nat → Int32)) rfl hE dX6_lies_179
                  replace hE := (if_neg c_167).symm.trans hE
                  have i_167 : z0_81.toInt ≠ 0 := fun h => c_167 (Int32.toInt_inj.mp h)
                  refine lv_iload_n hx hb dX6_lies_170 rfl (lv_at hl 2 rfl) ?_
                  refine lv_if_eq (tgt := 178) hx hb dX6_lies_171 (by decide) (fun c_171 => ?_) (fun c_171 => ?_)
                  · replace hE := (if_pos c_171).symm.trans hE
                    have i_171 : z0_42.toInt = 0 := congrArg Int32.toInt c_171
                    refine lv_iconst (v := 0) hx hb dX6_lies_178 (by decide) ?_
                    subst hQ
                    exact g_zret hx hb hr hlocks hG (Or.inl rfl) ((jk) : (Nat → Nat → Int32)) rfl hE dX6_lies_179
                  replace hE := (if_neg c_171).symm.trans hE
                  have i_171 : z0_42.toInt ≠ 0 := fun h => c_171 (Int32.toInt_inj.mp h)
                  refine lv_iconst (v := 1) hx hb dX6_lies_174 (by decide) ?_
                  refine lv_goto (tgt := 179) hx hb dX6_lies_175 (by decide) ?_
                  subst hQ
                  exact g_zret hx hb hr hlocks hG (Or.inr rfl) ((jk) : (Nat → Nat → Int32)) rfl hE dX6_lies_179
                replace hE := (if_pos c_135).symm.trans hE
                have i_135 : ((mo.2 1) (Int32.toNatClampNeg p1)).toInt = 3 := congrArg Int32.toInt c_135
                refine lv_iload hx hb dX6_lies_138 (lv_at hl 4 rfl) ?_
                refine lv_if_eq (tgt := 162) hx hb dX6_lies_140 (by decide) (fun c_140 => ?_) (fun c_140 => ?_)
                · replace hE := (if_pos c_140).symm.trans hE
                  have i_140 : z0_111.toInt = 0 := congrArg Int32.toInt c_140
                  refine lv_iconst (v := 0) hx hb dX6_lies_162 (by decide) ?_
                  refine lv_goto (tgt := 179) hx hb dX6_lies_163 (by decide) ?_
                  subst hQ
                  exact g_zret hx hb hr hlocks hG (Or.inl rfl) ((jk) : (Nat → Nat → Int32)) rfl hE dX6_lies_179
                replace hE := (if_neg c_140).symm.trans hE
                have i_140 : z0_111.toInt ≠ 0 := fun h => c_140 (Int32.toInt_inj.mp h)
                refine lv_aload_n hx hb dX6_lies_143 rfl (lv_at hl 0 rfl) ?_
                refine g_get hx hb hts hiX6 hown hG gw_Model rfl 4 (by decide) (index := 19) tw_fl_RX6_19 (v := .ref (gA g 62)) rfl dX6_lies_144 ?_
                refine lv_iconst (v := 2) hx hb dX6_lies_147 (by decide) ?_
                refine g_ild (f := (mo.2 4)) hx hb hG gw_Model_a4 (show vp_in 2 3 from (by unfold vp_in; decide)) dX6_lies_148 ?_
                refine lv_aload_n hx hb dX6_lies_149 rfl (lv_at hl 0 rfl) ?_
                refine g_get hx hb hts hiX6 hown hG gw_Model rfl 2 (by decide) (index := 13) tw_fl_RX6_13 (v := .ref (gA g 60)) rfl dX6_lies_150 ?_
                refine lv_iload_n hx hb dX6_lies_153 rfl (lv_at hl 1 rfl) ?_
                refine g_ild (f := (mo.2 2)) hx hb hG gw_Model_a2 (show vp_in p1 6 from (vp_i (by clear hE; omega) (by clear hE; omega))) dX6_lies_154 ?_
                refine lv_icmp_le (tgt := 162) hx hb dX6_lies_155 (by decide) (fun c_155 => ?_) (fun c_155 => ?_)
                · replace hE := (if_pos c_155).symm.trans hE
                  have i_155 : ((mo.2 4) (Int32.toNatClampNeg 2)).toInt ≤ ((mo.2 2) (Int32.toNatClampNeg p1)).toInt := i_le.mp c_155
                  refine lv_iconst (v := 0) hx hb dX6_lies_162 (by decide) ?_
                  refine lv_goto (tgt := 179) hx hb dX6_lies_163 (by decide) ?_
                  subst hQ
                  exact g_zret hx hb hr hlocks hG (Or.inl rfl) ((jk) : (Nat → Nat → Int32)) rfl hE dX6_lies_179
                replace hE := (if_neg c_155).symm.trans hE
                have i_155 : ((mo.2 2) (Int32.toNatClampNeg p1)).toInt < ((mo.2 4) (Int32.toNatClampNeg 2)).toInt := i_nle c_155
                refine lv_iconst (v := 1) hx hb dX6_lies_158 (by decide) ?_
                refine lv_goto (tgt := 179) hx hb dX6_lies_159 (by decide) ?_
                subst hQ
                exact g_zret hx hb hr hlocks hG (Or.inr rfl) ((jk) : (Nat → Nat → Int32)) rfl hE dX6_lies_179
              replace hE := (if_pos c_120).symm.trans hE
              have i_120 : ((mo.2 1) (Int32.toNatClampNeg p1)).toInt = 1 := congrArg Int32.toInt c_120
              refine lv_iload hx hb dX6_lies_123 (lv_at hl 4 rfl) ?_
              refine lv_goto (tgt := 179) hx hb dX6_lies_125 (by decide) ?_
              subst hQ
              exact g_zret hx hb hr hlocks hG hz111 ((jk) : (Nat → Nat → Int32)) rfl hE dX6_lies_179
            have J110 : ∀  (jk : (Nat → Nat → Int32)) (H : Heap) (locs : List Loc), gS g A s H locs (gW g bb tx rw sb dy tn mo jk) → ∀ ls : Array Slot, lv_has ls 5 [(0, .ref (gA g 58)), (1, .int p1), (2, .int z0_42), (3, .int z0_81)] → F_X6_lies_b110   mo p1 z0_42 z0_81 = EE → W p l e (rmL (4)) s m [.ref (gA g 58), .int p1].toArray below meth c H locs 0 0 Q (F0 m 110 ls []) := by
              intro  jk H locs hG ls hl  hE
              unfold F_X6_lies_b110 at hE
              refine lv_iconst (v := 0) hx hb dX6_lies_110 (by decide) ?_
              exact J111 0 _ _ _ hG _ (lv_sub hl [0, 1, 2, 3] rfl) (by first | exact Or.inl rfl | exact Or.inr rfl | assumption) hE
            refine lv_if_eq (tgt := 110) hx hb dX6_lies_83 (by decide) (fun c_83 => ?_) (fun c_83 => ?_)
            · replace hE := (if_pos c_83).symm.trans hE
              have i_83 : z0_81.toInt = 0 := congrArg Int32.toInt c_83
              exact J110 _ _ _ hG _ (lv_sub hl [0, 1, 2, 3] rfl) hE
            replace hE := (if_neg c_83).symm.trans hE
            have i_83 : z0_81.toInt ≠ 0 := fun h => c_83 (Int32.toInt_inj.mp h)
            refine lv_iload_n hx hb dX6_lies_86 rfl (lv_at hl 2 rfl) ?_
            have J106 : ∀  (jk : (Nat → Nat → Int32)) (H : Heap) (locs : List Loc), gS g A s H locs (gW g bb tx rw sb dy tn mo jk) → ∀ ls : Array Slot, lv_has ls 5 [(0, .ref (gA g 58)), (1, .int p1), (2, .int z0_42), (3, .int z0_81)] → F_X6_lies_b106   mo p1 z0_42 z0_81 = EE → W p l e (rmL (4)) s m [.ref (gA g 58), .int p1].toArray below meth c H locs 0 0 Q (F0 m 106 ls []) := by
              intro  jk H locs hG ls hl  hE
              unfold F_X6_lies_b106 at hE
              refine lv_iconst (v := 1) hx hb dX6_lies_106 (by decide) ?_
              refine lv_goto (tgt := 111) hx hb dX6_lies_107 (by decide) ?_
              exact J111 1 _ _ _ hG _ (lv_sub hl [0, 1, 2, 3] rfl) (by first | exact Or.inl rfl | exact Or.inr rfl | assumption) hE
            refine lv_if_ne (tgt := 106) hx hb dX6_lies_87 (by decide) (fun c_87 => ?_) (fun c_87 => ?_)
            · replace hE := (if_neg c_87).symm.trans hE
              have i_87 : z0_42.toInt ≠ 0 := fun h => c_87 (Int32.toInt_inj.mp h)
              exact J106 _ _ _ hG _ (lv_sub hl [0, 1, 2, 3] rfl) hE
            replace hE := (if_pos c_87).symm.trans hE
            have i_87 : z0_42.toInt = 0 := congrArg Int32.toInt c_87
            refine lv_aload_n hx hb dX6_lies_90 rfl (lv_at hl 0 rfl) ?_
            refine g_ci (g_runV (n := 0) (rest := []) hx hb hml hown hts hG (c_X6_ofDay) tw_ml_RX6_158 tw_im_X6_ofDay tw_se_X6_ofDay tw_in_RX6 tw_cd_X6_ofDay (by decide +kernel) ⟨rfl, rfl, Nat.le_of_ble_eq_true rfl, Nat.le_of_ble_eq_true rfl⟩ gw_Model rfl rfl hl.1 rfl (Nat.le_of_ble_eq_true rfl) dX6_lies_91 ⟨Nat.le_refl _, Nat.le_refl _⟩) hG hA (fun r _ H locs hp hG => ?_)
            subst hp
            replace hG : gS g A s H locs (gW g bb tx rw sb dy tn mo jk) := hG
            refine lv_bipush (v := 12) hx hb dX6_lies_94 (by decide) ?_
            refine lv_irem hx hb dX6_lies_96 (by decide) ?_
            refine lv_aload_n hx hb dX6_lies_97 rfl (lv_at hl 0 rfl) ?_
            refine g_get hx hb hts hiX6 hown hG gw_Model rfl 2 (by decide) (index := 13) tw_fl_RX6_13 (v := .ref (gA g 60)) rfl dX6_lies_98 ?_
            refine lv_iload_n hx hb dX6_lies_101 rfl (lv_at hl 1 rfl) ?_
            refine g_ild (f := (mo.2 2)) hx hb hG gw_Model_a2 (show vp_in p1 6 from (vp_i (by clear hE; omega) (by clear hE; omega))) dX6_lies_102 ?_
            refine lv_icmp_ne (tgt := 110) hx hb dX6_lies_103 (by decide) (fun c_103 => ?_) (fun c_103 => ?_)
            · replace hE := (if_neg c_103).symm.trans hE
              have i_103 : ((F_X6_ofDay mo) - (F_X6_ofDay mo) / 12 * 12).toInt ≠ ((mo.2 2) (Int32.toNatClampNeg p1)).toInt := fun h => c_103 (Int32.toInt_inj.mp h)
              exact J110 _ _ _ hG _ (lv_sub hl [0, 1, 2, 3] rfl) hE
            replace hE := (if_pos c_103).symm.trans hE
            have i_103 : ((F_X6_ofDay mo) - (F_X6_ofDay mo) / 12 * 12).toInt = ((mo.2 2) (Int32.toNatClampNeg p1)).toInt := congrArg Int32.toInt c_103
            exact J106 _ _ _ hG _ (lv_sub hl [0, 1, 2, 3] rfl) hE
          refine lv_if_eq (tgt := 80) hx hb dX6_lies_73 (by decide) (fun c_73 => ?_) (fun c_73 => ?_)
          · replace hE := (if_pos c_73).symm.trans hE
            refine lv_iconst (v := 0) hx hb dX6_lies_80 (by decide) ?_
            exact J81 0 _ _ _ hG _ (lv_sub hl [0, 1, 2] rfl) (by first | exact Or.inl rfl | exact Or.inr rfl) hE
          replace hE := (if_neg c_73).symm.trans hE
          refine lv_iconst (v := 1) hx hb dX6_lies_76 (by decide) ?_
          refine lv_goto (tgt := 81) hx hb dX6_lies_77 (by decide) ?_
          exact J81 1 _ _ _ hG _ (lv_sub hl [0, 1, 2] rfl) (by first | exact Or.inl rfl | exact Or.inr rfl) hE
        replace hE := (if_pos c_62).symm.trans hE
        have i_62 : ((mo.2 1) (Int32.toNatClampNeg p1)).toInt = 4 := congrArg Int32.toInt c_62
        refine lv_iload_n hx hb dX6_lies_65 rfl (lv_at hl 2 rfl) ?_
        subst hQ
        exact g_zret hx hb hr hlocks hG hz42 ((jk) : (Nat → Nat → Int32)) rfl hE dX6_lies_66
      replace hE := (if_pos c_50).symm.trans hE
      have i_50 : ((mo.2 1) (Int32.toNatClampNeg p1)).toInt = 5 := congrArg Int32.toInt c_50
      refine lv_iconst (v := 1) hx hb dX6_lies_53 (by decide) ?_
      subst hQ
      exact g_zret hx hb hr hlocks hG (Or.inr rfl) ((jk) : (Nat → Nat → Int32)) rfl hE dX6_lies_54
    refine lv_icmp_ne (tgt := 41) hx hb dX6_lies_34 (by decide) (fun c_34 => ?_) (fun c_34 => ?_)
    · replace hE := (if_neg c_34).symm.trans hE
      have i_34 : ((((mo.2 3) (Int32.toNatClampNeg ((4 * p1) + 2))) >>> ((F_X6_ofDay mo) &&& 31)) &&& 1).toInt ≠ 1 := fun h => c_34 (Int32.toInt_inj.mp h)
      refine lv_iconst (v := 0) hx hb dX6_lies_41 (by decide) ?_
      exact J42 0 _ _ _ hG _ (lv_sub hl [0, 1] rfl) (by first | exact Or.inl rfl | exact Or.inr rfl) hE
    replace hE := (if_pos c_34).symm.trans hE
    have i_34 : ((((mo.2 3) (Int32.toNatClampNeg ((4 * p1) + 2))) >>> ((F_X6_ofDay mo) &&& 31)) &&& 1).toInt = 1 := congrArg Int32.toInt c_34
    refine lv_iconst (v := 1) hx hb dX6_lies_37 (by decide) ?_
    refine lv_goto (tgt := 42) hx hb dX6_lies_38 (by decide) ?_
    exact J42 1 _ _ _ hG _ (lv_sub hl [0, 1] rfl) (by first | exact Or.inl rfl | exact Or.inr rfl) hE
  replace hE := (if_pos c_11).symm.trans hE
  have i_11 : ((mo.2 3) (Int32.toNatClampNeg ((4 * p1) + 3))).toInt = 1 := congrArg Int32.toInt c_11
  refine lv_iconst (v := 0) hx hb dX6_lies_14 (by decide) ?_
  subst hQ
  exact g_zret hx hb hr hlocks hG (Or.inl rfl) ((jk) : (Nat → Nat → Int32)) rfl hE dX6_lies_15
def F_X6_costsOf (mo : Ob) (p1 : Int32) : Int32 :=
  (if ((mo.2 1) (Int32.toNatClampNeg p1)) = 1 then ((F_X6_asksOf mo 1 p1) / 2) else (if ((mo.2 1) (Int32.toNatClampNeg p1)) = 2 then (if ((mo.2 4) (Int32.toNatClampNeg 2)) < 5 then (F_X6_asksOf mo 1 p1) else 0) else (if ((mo.2 1) (Int32.toNatClampNeg p1)) = 3 then ((F_X6_asksOf mo 1 p1) / 2) else (if ((mo.2 1) (Int32.toNatClampNeg p1)) = 4 then (if ((mo.2 4) (Int32.toNatClampNeg 2)) < 5 then (F_X6_asksOf mo 1 p1) else 0) else (F_X6_asksOf mo 1 p1)))))
set_option maxHeartbeats 4000000 in
set_option maxRecDepth 100000 in
theorem c_X6_costsOf {l : Launch} {g : GG} {sz : Nat} {bb : Ob} {tx rw : Nat → Ob} {sb dy : Ob} {tn : Nat → Ob} {mo : Ob} {jk : Nat → Nat → Int32}  (p1 : Int32) (hv : mEv mo) (hp : 0 ≤ p1.toInt ∧ p1.toInt < 6) : Met l yX6_costsOf (Cond.code yX6_costsOf cX6_costsOf 3 (some .int) :: TT) (rmL (4)) (va_Pc [.ref (gA g 58), .int p1] (gB g sz (gW g bb tx rw sb dy tn mo jk))) (va_Qi (fun r (_ : (Nat → Nat → Int32)) => r = (F_X6_costsOf mo p1)) (fun u t => gC g (va_A (gW g bb tx rw sb dy tn mo jk) sz) (gW g bb tx rw sb dy tn mo u) t) (va_A (gW g bb tx rw sb dy tn mo jk) sz)) 0 0 (va_A (gW g bb tx rw sb dy tn mo jk) sz) := by
  generalize hE : F_X6_costsOf mo p1 = EE
  refine g_of (Qf := fun A => (va_Qi (fun r (_ : (Nat → Nat → Int32)) => r = EE) (fun u t => gC g A (gW g bb tx rw sb dy tn mo u) t) A)) (cc := cX6_costsOf) (maxL := 3) (ret := (some .int)) (by decide) (Nat.le_of_ble_eq_true rfl) ?_
  intro p e s m below meth c A ls hx hb hml hr hlocks hts hown hA hG hl
  replace hown : s.vm.findClass RX6 = some m.cls := hown
  replace hl : lv_has ls 3 [(0, .ref (gA g 58)), (1, .int p1)] := hl
  show W p l e (rmL (4)) s m [.ref (gA g 58), .int p1].toArray below meth c s.heap [] 0 0 (MQ below (va_Qi (fun r (_ : (Nat → Nat → Int32)) => r = EE) (fun u t => gC g A (gW g bb tx rw sb dy tn mo u) t) A) [.ref (gA g 58), .int p1].toArray s 0 0 A) (F0 m 0 ls [])
  generalize hQ : MQ below (va_Qi (fun r (_ : (Nat → Nat → Int32)) => r = EE) (fun u t => gC g A (gW g bb tx rw sb dy tn mo u) t) A) [.ref (gA g 58), .int p1].toArray s 0 0 A = Q
  unfold F_X6_costsOf at hE
  refine lv_aload_n hx hb dX6_costsOf_0 rfl (lv_at hl 0 rfl) ?_
  refine lv_iconst (v := 1) hx hb dX6_costsOf_1 (by decide) ?_
  refine lv_iload_n hx hb dX6_costsOf_2 rfl (lv_at hl 1 rfl) ?_
  refine g_ci (g_runV (n := 2) (rest := []) hx hb hml hown hts hG (c_X6_asksOf 1 p1 hv (show 0 ≤ 1 ∧ 1 ≤ 2 from by clear hE; omega) (show 0 ≤ p1.toInt ∧ p1.toInt < 6 from by clear hE; omega)) tw_ml_RX6_167 tw_im_X6_asksOf tw_se_X6_asksOf tw_in_RX6 tw_cd_X6_asksOf (by decide +kernel) ⟨rfl, rfl, Nat.le_of_ble_eq_true rfl, Nat.le_of_ble_eq_true rfl⟩ gw_Model rfl rfl hl.1 rfl (Nat.le_of_ble_eq_true rfl) dX6_costsOf_3 ⟨Nat.le_refl _, Nat.le_refl _⟩) hG hA (fun r jk H locs hp hG => ?_)
  subst hp
  replace hG : gS g A s H locs (gW g bb tx rw sb dy tn mo jk) := hG
  refine lv_istore_n (lv' := [(2, .int (F_X6_asksOf mo 1 p1)), (0, .ref (gA g 58)), (1, .int p1)]) hx hb dX6_costsOf_6 rfl hl (by decide) rfl (fun ls hl => ?_)
  replace hl := lv_sub hl [1, 2, 0] (l' := [(0, .ref (gA g 58)), (1, .int p1), (2, .int (F_X6_asksOf mo 1 p1))]) rfl
  refine lv_aload_n hx hb dX6_costsOf_7 rfl (lv_at hl 0 rfl) ?_
  refine g_get hx hb hts hiX6 hown hG gw_Model rfl 1 (by decide) (index := 7) tw_fl_RX6_7 (v := .ref (gA g 59)) rfl dX6_costsOf_8 ?_
  refine lv_iload_n hx hb dX6_costsOf_11 rfl (lv_at hl 1 rfl) ?_
  refine g_ild (f := (mo.2 1)) hx hb hG gw_Model_a1 (show vp_in p1 6 from (vp_i (by clear hE; omega) (by clear hE; omega))) dX6_costsOf_12 ?_
  by_cases c_13_0 : ((mo.2 1) (Int32.toNatClampNeg p1)) = 1
  · replace hE := (if_pos c_13_0).symm.trans hE
    refine lv_tableIn (off := 31) (tgt := 44) hx hb dX6_costsOf_13 (by rw [c_13_0]; decide) (by rw [c_13_0]; decide) (by rw [c_13_0]; decide) (by decide) ?_
    have i_13_0 : ((mo.2 1) (Int32.toNatClampNeg p1)).toInt = 1 := congrArg Int32.toInt c_13_0
    refine lv_iload_n hx hb dX6_costsOf_44 rfl (lv_at hl 2 rfl) ?_
    refine lv_iconst (v := 2) hx hb dX6_costsOf_45 (by decide) ?_
    refine lv_idiv hx hb dX6_costsOf_46 (by decide) ?_
    subst hQ
    exact g_iret hx hb hr hlocks hG ((jk) : (Nat → Nat → Int32)) rfl hE dX6_costsOf_47
  replace hE := (if_neg c_13_0).symm.trans hE
  by_cases c_13_1 : ((mo.2 1) (Int32.toNatClampNeg p1)) = 2
  · replace hE := (if_pos c_13_1).symm.trans hE
    refine lv_tableIn (off := 35) (tgt := 48) hx hb dX6_costsOf_13 (by rw [c_13_1]; decide) (by rw [c_13_1]; decide) (by rw [c_13_1]; decide) (by decide) ?_
    have i_13_1 : ((mo.2 1) (Int32.toNatClampNeg p1)).toInt = 2 := congrArg Int32.toInt c_13_1
    refine lv_aload_n hx hb dX6_costsOf_48 rfl (lv_at hl 0 rfl) ?_
    refine g_get hx hb hts hiX6 hown hG gw_Model rfl 4 (by decide) (index := 19) tw_fl_RX6_19 (v := .ref (gA g 62)) rfl dX6_costsOf_49 ?_
    refine lv_iconst (v := 2) hx hb dX6_costsOf_52 (by decide) ?_
    refine g_ild (f := (mo.2 4)) hx hb hG gw_Model_a4 (show vp_in 2 3 from (by unfold vp_in; decide)) dX6_costsOf_53 ?_
    refine lv_iconst (v := 5) hx hb dX6_costsOf_54 (by decide) ?_
    refine lv_icmp_lt (tgt := 62) hx hb dX6_costsOf_55 (by decide) (fun c_55 => ?_) (fun c_55 => ?_)
    · replace hE := (if_pos c_55).symm.trans hE
      have i_55 : ((mo.2 4) (Int32.toNatClampNeg 2)).toInt < 5 := i_lt.mp c_55
      refine lv_iload_n hx hb dX6_costsOf_62 rfl (lv_at hl 2 rfl) ?_
      subst hQ
      exact g_iret hx hb hr hlocks hG ((jk) : (Nat → Nat → Int32)) rfl hE dX6_costsOf_63
    replace hE := (if_neg c_55).symm.trans hE
    have i_55 : 5 ≤ ((mo.2 4) (Int32.toNatClampNeg 2)).toInt := i_nlt c_55
    refine lv_iconst (v := 0) hx hb dX6_costsOf_58 (by decide) ?_
    refine lv_goto (tgt := 63) hx hb dX6_costsOf_59 (by decide) ?_
    subst hQ
    exact g_iret hx hb hr hlocks hG ((jk) : (Nat → Nat → Int32)) rfl hE dX6_costsOf_63
  replace hE := (if_neg c_13_1).symm.trans hE
  by_cases c_13_2 : ((mo.2 1) (Int32.toNatClampNeg p1)) = 3
  · replace hE := (if_pos c_13_2).symm.trans hE
    refine lv_tableIn (off := 31) (tgt := 44) hx hb dX6_costsOf_13 (by rw [c_13_2]; decide) (by rw [c_13_2]; decide) (by rw [c_13_2]; decide) (by decide) ?_
    have i_13_2 : ((mo.2 1) (Int32.toNatClampNeg p1)).toInt = 3 := congrArg Int32.toInt c_13_2
    refine lv_iload_n hx hb dX6_costsOf_44 rfl (lv_at hl 2 rfl) ?_
    refine lv_iconst (v := 2) hx hb dX6_costsOf_45 (by decide) ?_
    refine lv_idiv hx hb dX6_costsOf_46 (by decide) ?_
    subst hQ
    exact g_iret hx hb hr hlocks hG ((jk) : (Nat → Nat → Int32)) rfl hE dX6_costsOf_47
  replace hE := (if_neg c_13_2).symm.trans hE
  by_cases c_13_3 : ((mo.2 1) (Int32.toNatClampNeg p1)) = 4
  · replace hE := (if_pos c_13_3).symm.trans hE
    refine lv_tableIn (off := 35) (tgt := 48) hx hb dX6_costsOf_13 (by rw [c_13_3]; decide) (by rw [c_13_3]; decide) (by rw [c_13_3]; decide) (by decide) ?_
    have i_13_3 : ((mo.2 1) (Int32.toNatClampNeg p1)).toInt = 4 := congrArg Int32.toInt c_13_3
    refine lv_aload_n hx hb dX6_costsOf_48 rfl (lv_at hl 0 rfl) ?_
    refine g_get hx hb hts hiX6 hown hG gw_Model rfl 4 (by decide) (index := 19) tw_fl_RX6_19 (v := .ref (gA g 62)) rfl dX6_costsOf_49 ?_
    refine lv_iconst (v := 2) hx hb dX6_costsOf_52 (by decide) ?_
    refine g_ild (f := (mo.2 4)) hx hb hG gw_Model_a4 (show vp_in 2 3 from (by unfold vp_in; decide)) dX6_costsOf_53 ?_
    refine lv_iconst (v := 5) hx hb dX6_costsOf_54 (by decide) ?_
    refine lv_icmp_lt (tgt := 62) hx hb dX6_costsOf_55 (by decide) (fun c_55 => ?_) (fun c_55 => ?_)
    · replace hE := (if_pos c_55).symm.trans hE
      have i_55 : ((mo.2 4) (Int32.toNatClampNeg 2)).toInt < 5 := i_lt.mp c_55
      refine lv_iload_n hx hb dX6_costsOf_62 rfl (lv_at hl 2 rfl) ?_
      subst hQ
      exact g_iret hx hb hr hlocks hG ((jk) : (Nat → Nat → Int32)) rfl hE dX6_costsOf_63
    replace hE := (if_neg c_55).symm.trans hE
    have i_55 : 5 ≤ ((mo.2 4) (Int32.toNatClampNeg 2)).toInt := i_nlt c_55
    refine lv_iconst (v := 0) hx hb dX6_costsOf_58 (by decide) ?_
    refine lv_goto (tgt := 63) hx hb dX6_costsOf_59 (by decide) ?_
    subst hQ
    exact g_iret hx hb hr hlocks hG ((jk) : (Nat → Nat → Int32)) rfl hE dX6_costsOf_63
  replace hE := (if_neg c_13_3).symm.trans hE
  refine lv_tableOut (tgt := 64) hx hb dX6_costsOf_13 (by have k0 := lv_neT c_13_0 (a := 1) (by decide); have k1 := lv_neT c_13_1 (a := 2) (by decide); have k2 := lv_neT c_13_2 (a := 3) (by decide); have k3 := lv_neT c_13_3 (a := 4) (by decide); omega) (by decide) ?_
  refine lv_iload_n hx hb dX6_costsOf_64 rfl (lv_at hl 2 rfl) ?_
  subst hQ
  exact g_iret hx hb hr hlocks hG ((jk) : (Nat → Nat → Int32)) rfl hE dX6_costsOf_65
def F_X6_strokesOf (mo : Ob) (p1 : Int32) : Int32 :=
  (if ((mo.2 1) (Int32.toNatClampNeg p1)) = 2 then ((F_X6_asksOf mo 2 p1) + ((mo.2 2) (Int32.toNatClampNeg p1))) else (if ((mo.2 1) (Int32.toNatClampNeg p1)) = 3 then (2 * (F_X6_asksOf mo 2 p1)) else (if ((mo.2 1) (Int32.toNatClampNeg p1)) = 4 then (if ((F_X6_ofDay mo) - (F_X6_ofDay mo) / 3 * 3) = 0 then 0 else ((F_X6_asksOf mo 2 p1) + ((mo.2 2) (Int32.toNatClampNeg p1)))) else (if ((mo.2 1) (Int32.toNatClampNeg p1)) = 5 then 0 else (F_X6_asksOf mo 2 p1)))))
set_option maxHeartbeats 4000000 in
set_option maxRecDepth 100000 in
theorem c_X6_strokesOf {l : Launch} {g : GG} {sz : Nat} {bb : Ob} {tx rw : Nat → Ob} {sb dy : Ob} {tn : Nat → Ob} {mo : Ob} {jk : Nat → Nat → Int32}  (p1 : Int32) (hv : mEv mo) (hp : 0 ≤ p1.toInt ∧ p1.toInt < 6) : Met l yX6_strokesOf (Cond.code yX6_strokesOf cX6_strokesOf 3 (some .int) :: TT) (rmL (4)) (va_Pc [.ref (gA g 58), .int p1] (gB g sz (gW g bb tx rw sb dy tn mo jk))) (va_Qi (fun r (_ : (Nat → Nat → Int32)) => r = (F_X6_strokesOf mo p1)) (fun u t => gC g (va_A (gW g bb tx rw sb dy tn mo jk) sz) (gW g bb tx rw sb dy tn mo u) t) (va_A (gW g bb tx rw sb dy tn mo jk) sz)) 0 0 (va_A (gW g bb tx rw sb dy tn mo jk) sz) := by
  generalize hE : F_X6_strokesOf mo p1 = EE
  refine g_of (Qf := fun A => (va_Qi (fun r (_ : (Nat → Nat → Int32)) => r = EE) (fun u t => gC g A (gW g bb tx rw sb dy tn mo u) t) A)) (cc := cX6_strokesOf) (maxL := 3) (ret := (some .int)) (by decide) (Nat.le_of_ble_eq_true rfl) ?_
  intro p e s m below meth c A ls hx hb hml hr hlocks hts hown hA hG hl
  replace hown : s.vm.findClass RX6 = some m.cls := hown
  replace hl : lv_has ls 3 [(0, .ref (gA g 58)), (1, .int p1)] := hl
  show W p l e (rmL (4)) s m [.ref (gA g 58), .int p1].toArray below meth c s.heap [] 0 0 (MQ below (va_Qi (fun r (_ : (Nat → Nat → Int32)) => r = EE) (fun u t => gC g A (gW g bb tx rw sb dy tn mo u) t) A) [.ref (gA g 58), .int p1].toArray s 0 0 A) (F0 m 0 ls [])
  generalize hQ : MQ below (va_Qi (fun r (_ : (Nat → Nat → Int32)) => r = EE) (fun u t => gC g A (gW g bb tx rw sb dy tn mo u) t) A) [.ref (gA g 58), .int p1].toArray s 0 0 A = Q
  unfold F_X6_strokesOf at hE
  refine lv_aload_n hx hb dX6_strokesOf_0 rfl (lv_at hl 0 rfl) ?_
  refine lv_iconst (v := 2) hx hb dX6_strokesOf_1 (by decide) ?_
  refine lv_iload_n hx hb dX6_strokesOf_2 rfl (lv_at hl 1 rfl) ?_
  refine g_ci (g_runV (n := 2) (rest := []) hx hb hml hown hts hG (c_X6_asksOf 2 p1 hv (show 0 ≤ 2 ∧ 2 ≤ 2 from by clear hE; omega) (show 0 ≤ p1.toInt ∧ p1.toInt < 6 from by clear hE; omega)) tw_ml_RX6_167 tw_im_X6_asksOf tw_se_X6_asksOf tw_in_RX6 tw_cd_X6_asksOf (by decide +kernel) ⟨rfl, rfl, Nat.le_of_ble_eq_true rfl, Nat.le_of_ble_eq_true rfl⟩ gw_Model rfl rfl hl.1 rfl (Nat.le_of_ble_eq_true rfl) dX6_strokesOf_3 ⟨Nat.le_refl _, Nat.le_refl _⟩) hG hA (fun r jk H locs hp hG => ?_)
  subst hp
  replace hG : gS g A s H locs (gW g bb tx rw sb dy tn mo jk) := hG
  refine lv_istore_n (lv' := [(2, .int (F_X6_asksOf mo 2 p1)), (0, .ref (gA g 58)), (1, .int p1)]) hx hb dX6_strokesOf_6 rfl hl (by decide) rfl (fun ls hl => ?_)
  replace hl := lv_sub hl [1, 2, 0] (l' := [(0, .ref (gA g 58)), (1, .int p1), (2, .int (F_X6_asksOf mo 2 p1))]) rfl
  refine lv_aload_n hx hb dX6_strokesOf_7 rfl (lv_at hl 0 rfl) ?_
  refine g_get hx hb hts hiX6 hown hG gw_Model rfl 1 (by decide) (index := 7) tw_fl_RX6_7 (v := .ref (gA g 59)) rfl dX6_strokesOf_8 ?_
  refine lv_iload_n hx hb dX6_strokesOf_11 rfl (lv_at hl 1 rfl) ?_
  refine g_ild (f := (mo.2 1)) hx hb hG gw_Model_a1 (show vp_in p1 6 from (vp_i (by clear hE; omega) (by clear hE; omega))) dX6_strokesOf_12 ?_
  by_cases c_13_0 : ((mo.2 1) (Int32.toNatClampNeg p1)) = 2
  · replace hE := (if_pos c_13_0).symm.trans hE
    refine lv_tableIn (off := 31) (tgt := 44) hx hb dX6_strokesOf_13 (by rw [c_13_0]; decide) (by rw [c_13_0]; decide) (by rw [c_13_0]; decide) (by decide) ?_
    have i_13_0 : ((mo.2 1) (Int32.toNatClampNeg p1)).toInt = 2 := congrArg Int32.toInt c_13_0
    refine lv_iload_n hx hb dX6_strokesOf_44 rfl (lv_at hl 2 rfl) ?_
    refine lv_aload_n hx hb dX6_strokesOf_45 rfl (lv_at hl 0 rfl) ?_
    refine g_get hx hb hts hiX6 hown hG gw_Model rfl 2 (by decide) (index := 13) tw_fl_RX6_13 (v := .ref (gA g 60)) rfl dX6_strokesOf_46 ?_
    refine lv_iload_n hx hb dX6_strokesOf_49 rfl (lv_at hl 1 rfl) ?_
    refine g_ild (f := (mo.2 2)) hx hb hG gw_Model_a2 (show vp_in p1 6 from (vp_i (by clear hE; omega) (by clear hE; omega))) dX6_strokesOf_50 ?_
    refine lv_iadd hx hb dX6_strokesOf_51 ?_
    subst hQ
    exact g_iret hx hb hr hlocks hG ((jk) : (Nat → Nat → Int32)) rfl hE dX6_strokesOf_52
  replace hE := (if_neg c_13_0).symm.trans hE
  by_cases c_13_1 : ((mo.2 1) (Int32.toNatClampNeg p1)) = 3
  · replace hE := (if_pos c_13_1).symm.trans hE
    refine lv_tableIn (off := 40) (tgt := 53) hx hb dX6_strokesOf_13 (by rw [c_13_1]; decide) (by rw [c_13_1]; decide) (by rw [c_13_1]; decide) (by decide) ?_
    have i_13_1 : ((mo.2 1) (Int32.toNatClampNeg p1)).toInt = 3 := congrArg Int32.toInt c_13_1
    refine lv_iconst (v := 2) hx hb dX6_strokesOf_53 (by decide) ?_
    refine lv_iload_n hx hb dX6_strokesOf_54 rfl (lv_at hl 2 rfl) ?_
    refine lv_imul hx hb dX6_strokesOf_55 ?_
    subst hQ
    exact g_iret hx hb hr hlocks hG ((jk) : (Nat → Nat → Int32)) rfl hE dX6_strokesOf_56
  replace hE := (if_neg c_13_1).symm.trans hE
  by_cases c_13_2 : ((mo.2 1) (Int32.toNatClampNeg p1)) = 4
  · replace hE := (if_pos c_13_2).symm.trans hE
    refine lv_tableIn (off := 44) (tgt := 57) hx hb dX6_strokesOf_13 (by rw [c_13_2]; decide) (by rw [c_13_2]; decide) (by rw [c_13_2]; decide) (by decide) ?_
    have i_13_2 : ((mo.2 1) (Int32.toNatClampNeg p1)).toInt = 4 := congrArg Int32.toInt c_13_2
    refine lv_aload_n hx hb dX6_strokesOf_57 rfl (lv_at hl 0 rfl) ?_
    refine g_ci (g_runV (n := 0) (rest := []) hx hb hml hown hts hG (c_X6_ofDay) tw_ml_RX6_158 tw_im_X6_ofDay tw_se_X6_ofDay tw_in_RX6 tw_cd_X6_ofDay (by decide +kernel) ⟨rfl, rfl, Nat.le_of_ble_eq_true rfl, Nat.le_of_ble_eq_true rfl⟩ gw_Model rfl rfl hl.1 rfl (Nat.le_of_ble_eq_true rfl) dX6_strokesOf_58 ⟨Nat.le_refl _, Nat.le_refl _⟩) hG hA (fun r _ H locs hp hG => ?_)
    subst hp
    replace hG : gS g A s H locs (gW g bb tx rw sb dy tn mo jk) := hG
    refine lv_iconst (v := 3) hx hb dX6_strokesOf_61 (by decide) ?_
    refine lv_irem hx hb dX6_strokesOf_62 (by decide) ?_
    refine lv_if_ne (tgt := 70) hx hb dX6_strokesOf_63 (by decide) (fun c_63 => ?_) (fun c_63 => ?_)
    · replace hE := (if_neg c_63).symm.trans hE
      have i_63 : ((F_X6_ofDay mo) - (F_X6_ofDay mo) / 3 * 3).toInt ≠ 0 := fun h => c_63 (Int32.toInt_inj.mp h)
      refine lv_iload_n hx hb dX6_strokesOf_70 rfl (lv_at hl 2 rfl) ?_
      refine lv_aload_n hx hb dX6_strokesOf_71 rfl (lv_at hl 0 rfl) ?_
      refine g_get hx hb hts hiX6 hown hG gw_Model rfl 2 (by decide) (index := 13) tw_fl_RX6_13 (v := .ref (gA g 60)) rfl dX6_strokesOf_72 ?_
      refine lv_iload_n hx hb dX6_strokesOf_75 rfl (lv_at hl 1 rfl) ?_
      refine g_ild (f := (mo.2 2)) hx hb hG gw_Model_a2 (show vp_in p1 6 from (vp_i (by clear hE; omega) (by clear hE; omega))) dX6_strokesOf_76 ?_
      refine lv_iadd hx hb dX6_strokesOf_77 ?_
      subst hQ
      exact g_iret hx hb hr hlocks hG ((jk) : (Nat → Nat → Int32)) rfl hE dX6_strokesOf_78
    replace hE := (if_pos c_63).symm.trans hE
    have i_63 : ((F_X6_ofDay mo) - (F_X6_ofDay mo) / 3 * 3).toInt = 0 := congrArg Int32.toInt c_63
    refine lv_iconst (v := 0) hx hb dX6_strokesOf_66 (by decide) ?_
    refine lv_goto (tgt := 78) hx hb dX6_strokesOf_67 (by decide) ?_
    subst hQ
    exact g_iret hx hb hr hlocks hG ((jk) : (Nat → Nat → Int32)) rfl hE dX6_strokesOf_78
  replace hE := (if_neg c_13_2).symm.trans hE
  by_cases c_13_3 : ((mo.2 1) (Int32.toNatClampNeg p1)) = 5
  · replace hE := (if_pos c_13_3).symm.trans hE
    refine lv_tableIn (off := 66) (tgt := 79) hx hb dX6_strokesOf_13 (by rw [c_13_3]; decide) (by rw [c_13_3]; decide) (by rw [c_13_3]; decide) (by decide) ?_
    have i_13_3 : ((mo.2 1) (Int32.toNatClampNeg p1)).toInt = 5 := congrArg Int32.toInt c_13_3
    refine lv_iconst (v := 0) hx hb dX6_strokesOf_79 (by decide) ?_
    subst hQ
    exact g_iret hx hb hr hlocks hG ((jk) : (Nat → Nat → Int32)) rfl hE dX6_strokesOf_80
  replace hE := (if_neg c_13_3).symm.trans hE
  refine lv_tableOut (tgt := 81) hx hb dX6_strokesOf_13 (by have k0 := lv_neT c_13_0 (a := 2) (by decide); have k1 := lv_neT c_13_1 (a := 3) (by decide); have k2 := lv_neT c_13_2 (a := 4) (by decide); have k3 := lv_neT c_13_3 (a := 5) (by decide); omega) (by decide) ?_
  refine lv_iload_n hx hb dX6_strokesOf_81 rfl (lv_at hl 2 rfl) ?_
  subst hQ
  exact g_iret hx hb hr hlocks hG ((jk) : (Nat → Nat → Int32)) rfl hE dX6_strokesOf_82
def F_X6_liars_b28 (K4 : Ob → Int32 → Int32 → Int32) (mo : Ob) (x2 : Int32) (z0 : Int32) (z1 : Int32) : Int32 :=
  (K4 mo (z0 ||| z1) (x2 + 1))
def F_X6_liars_l4 : Nat → Ob → Int32 → Int32 → Int32
  | 0, _, _, _ => 0
  | n + 1, mo, x1, x2 =>
    (if (mo.1 0) ≤ x2 then x1 else (if (F_X6_lies mo x2) = 0 then (F_X6_liars_b28 (F_X6_liars_l4 n ) mo x2 x1 0) else (F_X6_liars_b28 (F_X6_liars_l4 n ) mo x2 x1 (1 <<< (x2 &&& 31)))))
def F_X6_liars (mo : Ob) : Int32 :=
  (F_X6_liars_l4 7  mo 0 0)
set_option maxHeartbeats 4000000 in
set_option maxRecDepth 100000 in
theorem c_X6_liars {l : Launch} {g : GG} {sz : Nat} {bb : Ob} {tx rw : Nat → Ob} {sb dy : Ob} {tn : Nat → Ob} {mo : Ob} {jk : Nat → Nat → Int32}   (hv : mEv mo) : Met l yX6_liars (Cond.code yX6_liars cX6_liars 3 (some .int) :: TT) (rmL (5)) (va_Pc [.ref (gA g 58)] (gB g sz (gW g bb tx rw sb dy tn mo jk))) (va_Qi (fun r (_ : (Nat → Nat → Int32)) => r = (F_X6_liars mo)) (fun u t => gC g (va_A (gW g bb tx rw sb dy tn mo jk) sz) (gW g bb tx rw sb dy tn mo u) t) (va_A (gW g bb tx rw sb dy tn mo jk) sz)) 0 0 (va_A (gW g bb tx rw sb dy tn mo jk) sz) := by
  generalize hE : F_X6_liars mo = EE
  refine g_of (Qf := fun A => (va_Qi (fun r (_ : (Nat → Nat → Int32)) => r = EE) (fun u t => gC g A (gW g bb tx rw sb dy tn mo u) t) A)) (cc := cX6_liars) (maxL := 3) (ret := (some .int)) (by decide) (Nat.le_of_ble_eq_true rfl) ?_
  intro p e s m below meth c A ls hx hb hml hr hlocks hts hown hA hG hl
  replace hown : s.vm.findClass RX6 = some m.cls := hown
  replace hl : lv_has ls 3 [(0, .ref (gA g 58))] := hl
  show W p l e (rmL (5)) s m [.ref (gA g 58)].toArray below meth c s.heap [] 0 0 (MQ below (va_Qi (fun r (_ : (Nat → Nat → Int32)) => r = EE) (fun u t => gC g A (gW g bb tx rw sb dy tn mo u) t) A) [.ref (gA g 58)].toArray s 0 0 A) (F0 m 0 ls [])
  generalize hQ : MQ below (va_Qi (fun r (_ : (Nat → Nat → Int32)) => r = EE) (fun u t => gC g A (gW g bb tx rw sb dy tn mo u) t) A) [.ref (gA g 58)].toArray s 0 0 A = Q
  have hpo := hv.1
  unfold F_X6_liars at hE
  refine lv_iconst (v := 0) hx hb dX6_liars_0 (by decide) ?_
  refine lv_istore_n (lv' := [(1, .int 0), (0, .ref (gA g 58))]) hx hb dX6_liars_1 rfl hl (by decide) rfl (fun ls hl => ?_)
  replace hl := lv_sub hl [1, 0] (l' := [(0, .ref (gA g 58)), (1, .int 0)]) rfl
  refine lv_iconst (v := 0) hx hb dX6_liars_2 (by decide) ?_
  refine lv_istore_n (lv' := [(2, .int 0), (0, .ref (gA g 58)), (1, .int 0)]) hx hb dX6_liars_3 rfl hl (by decide) rfl (fun ls hl => ?_)
  replace hl := lv_sub hl [1, 2, 0] (l' := [(0, .ref (gA g 58)), (1, .int 0), (2, .int 0)]) rfl
  have L4 : ∀ (n4 : Nat) (x1_4 : Int32) (x2_4 : Int32) (jk : (Nat → Nat → Int32)) (H : Heap) (locs : List Loc), gS g A s H locs (gW g bb tx rw sb dy tn mo jk) → ∀ ls : Array Slot, lv_has ls 3 [(0, .ref (gA g 58)), (1, .int x1_4), (2, .int x2_4)] → 0 ≤ x2_4.toInt → x2_4.toInt ≤ 6 → 6 < x2_4.toInt + n4 → F_X6_liars_l4 n4  mo x1_4 x2_4 = EE → W p l e (rmL (5)) s m [.ref (gA g 58)].toArray below meth c H locs 0 0 Q (F0 m 4 ls []) := by
    intro n4
    induction n4 with
    | zero =>
      intro x1_4 x2_4 jk H locs hG ls hl h0_4 h1_4 hm_4 hE
      clear hE; omega
    | succ n4 ih4 =>
      intro x1_4 x2_4 jk H locs hG ls hl h0_4 h1_4 hm_4 hE
      unfold F_X6_liars_l4 at hE
      refine lv_iload_n hx hb dX6_liars_4 rfl (lv_at hl 2 rfl) ?_
      refine lv_aload_n hx hb dX6_liars_5 rfl (lv_at hl 0 rfl) ?_
      refine g_get hx hb hts hiX6 hown hG gw_Model rfl 0 (by decide) (index := 78) tw_fl_RX6_78 (v := .int (mo.1 0)) rfl dX6_liars_6 ?_
      refine lv_icmp_ge (tgt := 36) hx hb dX6_liars_9 (by decide) (fun c_9 => ?_) (fun c_9 => ?_)
      · replace hE := (if_pos c_9).symm.trans hE
        have i_9 : (mo.1 0).toInt ≤ x2_4.toInt := i_le.mp c_9
        refine lv_iload_n hx hb dX6_liars_36 rfl (lv_at hl 1 rfl) ?_
        subst hQ
        exact g_iret hx hb hr hlocks hG ((jk) : (Nat → Nat → Int32)) rfl hE dX6_liars_37
      replace hE := (if_neg c_9).symm.trans hE
      have i_9 : x2_4.toInt < (mo.1 0).toInt := i_nle c_9
      refine lv_iload_n hx hb dX6_liars_12 rfl (lv_at hl 1 rfl) ?_
      refine lv_aload_n hx hb dX6_liars_13 rfl (lv_at hl 0 rfl) ?_
      refine lv_iload_n hx hb dX6_liars_14 rfl (lv_at hl 2 rfl) ?_
      refine g_ci (g_runV (n := 1) (rest := [.int x1_4]) hx hb hml hown hts hG (c_X6_lies x2_4 hv (show 0 ≤ x2_4.toInt ∧ x2_4.toInt < 6 from by clear hE; omega)) tw_ml_RX6_174 tw_im_X6_lies tw_se_X6_lies tw_in_RX6 tw_cd_X6_lies (by decide +kernel) ⟨rfl, rfl, Nat.le_of_ble_eq_true rfl, Nat.le_of_ble_eq_true rfl⟩ gw_Model rfl rfl hl.1 rfl (Nat.le_of_ble_eq_true rfl) dX6_liars_15 ⟨Nat.le_refl _, Nat.le_refl _⟩) hG hA (fun r jk H locs hp hG => ?_)
      subst hp
      replace hG : gS g A s H locs (gW g bb tx rw sb dy tn mo jk) := hG
      have J28 : ∀ (z1_28 : Int32) (jk : (Nat → Nat → Int32)) (H : Heap) (locs : List Loc), gS g A s H locs (gW g bb tx rw sb dy tn mo jk) → ∀ ls : Array Slot, lv_has ls 3 [(0, .ref (gA g 58)), (2, .int x2_4)] → F_X6_liars_b28  (F_X6_liars_l4 n4 ) mo x2_4 x1_4 z1_28 = EE → W p l e (rmL (5)) s m [.ref (gA g 58)].toArray below meth c H locs 0 0 Q (F0 m 28 ls [.int z1_28, .int x1_4]) := by
        intro z1_28 jk H locs hG ls hl  hE
        unfold F_X6_liars_b28 at hE
        refine lv_ior hx hb dX6_liars_28 ?_
        refine lv_istore_n (lv' := [(1, .int (x1_4 ||| z1_28)), (0, .ref (gA g 58)), (2, .int x2_4)]) hx hb dX6_liars_29 rfl hl (by decide) rfl (fun ls hl => ?_)
        replace hl := lv_sub hl [1, 0, 2] (l' := [(0, .ref (gA g 58)), (1, .int (x1_4 ||| z1_28)), (2, .int x2_4)]) rfl
        refine lv_iinc (v := (x2_4 + 1)) (lv' := [(2, .int (x2_4 + 1)), (0, .ref (gA g 58)), (1, .int (x1_4 ||| z1_28))]) hx hb dX6_liars_30 hl (k := 2) rfl rfl (by decide) rfl (fun ls hl => ?_)
        replace hl := lv_sub hl [1, 2, 0] (l' := [(0, .ref (gA g 58)), (1, .int (x1_4 ||| z1_28)), (2, .int (x2_4 + 1))]) rfl
        refine lv_goto (tgt := 4) hx hb dX6_liars_33 (by decide) ?_
        have e1 : (x2_4 + 1).toInt = x2_4.toInt + 1 := addL (k := 1) (by decide +kernel) (by clear hE; omega) (by clear hE; omega)
        exact ih4 (x1_4 ||| z1_28) (x2_4 + 1) _ _ _ hG _ (lv_sub hl [0, 1, 2] rfl) (by clear hE; omega) (by clear hE; omega) (by clear hE; omega) hE
      refine lv_if_eq (tgt := 27) hx hb dX6_liars_18 (by decide) (fun c_18 => ?_) (fun c_18 => ?_)
      · replace hE := (if_pos c_18).symm.trans hE
        refine lv_iconst (v := 0) hx hb dX6_liars_27 (by decide) ?_
        exact J28 0 _ _ _ hG _ (lv_sub hl [0, 2] rfl) hE
      replace hE := (if_neg c_18).symm.trans hE
      refine lv_iconst (v := 1) hx hb dX6_liars_21 (by decide) ?_
      refine lv_iload_n hx hb dX6_liars_22 rfl (lv_at hl 2 rfl) ?_
      refine lv_ishl hx hb dX6_liars_23 ?_
      refine lv_goto (tgt := 28) hx hb dX6_liars_24 (by decide) ?_
      exact J28 (1 <<< (x2_4 &&& 31)) _ _ _ hG _ (lv_sub hl [0, 2] rfl) hE
  exact L4 7 0 0 _ _ _ hG _ (lv_sub hl [0, 1, 2] rfl) (by decide) (by decide) (by decide) hE
def F_X6_strikesBy_b29 (K4 : Ob → Int32 → Int32 → Int32 → Int32) (mo : Ob) (x1 : Int32) (x2 : Int32) (x3 : Int32) : Int32 :=
  (K4 mo x1 x2 (x3 + 1))
def F_X6_strikesBy_l4 : Nat → Ob → Int32 → Int32 → Int32 → Int32
  | 0, _, _, _, _ => 0
  | n + 1, mo, x1, x2, x3 =>
    (if (mo.1 0) ≤ x3 then x2 else (if ((x1 >>> (x3 &&& 31)) &&& 1) = 1 then (F_X6_strikesBy_b29 (F_X6_strikesBy_l4 n ) mo x1 (x2 + (F_X6_strokesOf mo x3)) x3) else (F_X6_strikesBy_b29 (F_X6_strikesBy_l4 n ) mo x1 x2 x3)))
def F_X6_strikesBy (mo : Ob) (p1 : Int32) : Int32 :=
  (F_X6_strikesBy_l4 7  mo p1 0 0)
set_option maxHeartbeats 4000000 in
set_option maxRecDepth 100000 in
theorem c_X6_strikesBy {l : Launch} {g : GG} {sz : Nat} {bb : Ob} {tx rw : Nat → Ob} {sb dy : Ob} {tn : Nat → Ob} {mo : Ob} {jk : Nat → Nat → Int32}  (p1 : Int32) (hv : mEv mo) : Met l yX6_strikesBy (Cond.code yX6_strikesBy cX6_strikesBy 4 (some .int) :: TT) (rmL (5)) (va_Pc [.ref (gA g 58), .int p1] (gB g sz (gW g bb tx rw sb dy tn mo jk))) (va_Qi (fun r (_ : (Nat → Nat → Int32)) => r = (F_X6_strikesBy mo p1)) (fun u t => gC g (va_A (gW g bb tx rw sb dy tn mo jk) sz) (gW g bb tx rw sb dy tn mo u) t) (va_A (gW g bb tx rw sb dy tn mo jk) sz)) 0 0 (va_A (gW g bb tx rw sb dy tn mo jk) sz) := by
  generalize hE : F_X6_strikesBy mo p1 = EE
  refine g_of (Qf := fun A => (va_Qi (fun r (_ : (Nat → Nat → Int32)) => r = EE) (fun u t => gC g A (gW g bb tx rw sb dy tn mo u) t) A)) (cc := cX6_strikesBy) (maxL := 4) (ret := (some .int)) (by decide) (Nat.le_of_ble_eq_true rfl) ?_
  intro p e s m below meth c A ls hx hb hml hr hlocks hts hown hA hG hl
  replace hown : s.vm.findClass RX6 = some m.cls := hown
  replace hl : lv_has ls 4 [(0, .ref (gA g 58)), (1, .int p1)] := hl
  show W p l e (rmL (5)) s m [.ref (gA g 58), .int p1].toArray below meth c s.heap [] 0 0 (MQ below (va_Qi (fun r (_ : (Nat → Nat → Int32)) => r = EE) (fun u t => gC g A (gW g bb tx rw sb dy tn mo u) t) A) [.ref (gA g 58), .int p1].toArray s 0 0 A) (F0 m 0 ls [])
  generalize hQ : MQ below (va_Qi (fun r (_ : (Nat → Nat → Int32)) => r = EE) (fun u t => gC g A (gW g bb tx rw sb dy tn mo u) t) A) [.ref (gA g 58), .int p1].toArray s 0 0 A = Q
  have hpo := hv.1
  unfold F_X6_strikesBy at hE
  refine lv_iconst (v := 0) hx hb dX6_strikesBy_0 (by decide) ?_
  refine lv_istore_n (lv' := [(2, .int 0), (0, .ref (gA g 58)), (1, .int p1)]) hx hb dX6_strikesBy_1 rfl hl (by decide) rfl (fun ls hl => ?_)
  replace hl := lv_sub hl [1, 2, 0] (l' := [(0, .ref (gA g 58)), (1, .int p1), (2, .int 0)]) rfl
  refine lv_iconst (v := 0) hx hb dX6_strikesBy_2 (by decide) ?_
  refine lv_istore_n (lv' := [(3, .int 0), (0, .ref (gA g 58)), (1, .int p1), (2, .int 0)]) hx hb dX6_strikesBy_3 rfl hl (by decide) rfl (fun ls hl => ?_)
  replace hl := lv_sub hl [1, 2, 3, 0] (l' := [(0, .ref (gA g 58)), (1, .int p1), (2, .int 0), (3, .int 0)]) rfl
  have L4 : ∀ (n4 : Nat) (x2_4 : Int32) (x3_4 : Int32) (jk : (Nat → Nat → Int32)) (H : Heap) (locs : List Loc), gS g A s H locs (gW g bb tx rw sb dy tn mo jk) → ∀ ls : Array Slot, lv_has ls 4 [(0, .ref (gA g 58)), (1, .int p1), (2, .int x2_4), (3, .int x3_4)] → 0 ≤ x3_4.toInt → x3_4.toInt ≤ 6 → 6 < x3_4.toInt + n4 → F_X6_strikesBy_l4 n4  mo p1 x2_4 x3_4 = EE → W p l e (rmL (5)) s m [.ref (gA g 58), .int p1].toArray below meth c H locs 0 0 Q (F0 m 4 ls []) := by
    intro n4
    induction n4 with
    | zero =>
      intro x2_4 x3_4 jk H locs hG ls hl h0_4 h1_4 hm_4 hE
      clear hE; omega
    | succ n4 ih4 =>
      intro x2_4 x3_4 jk H locs hG ls hl h0_4 h1_4 hm_4 hE
      unfold F_X6_strikesBy_l4 at hE
      refine lv_iload_n hx hb dX6_strikesBy_4 rfl (lv_at hl 3 rfl) ?_
      refine lv_aload_n hx hb dX6_strikesBy_5 rfl (lv_at hl 0 rfl) ?_
      refine g_get hx hb hts hiX6 hown hG gw_Model rfl 0 (by decide) (index := 78) tw_fl_RX6_78 (v := .int (mo.1 0)) rfl dX6_strikesBy_6 ?_
      refine lv_icmp_ge (tgt := 35) hx hb dX6_strikesBy_9 (by decide) (fun c_9 => ?_) (fun c_9 => ?_)
      · replace hE := (if_pos c_9).symm.trans hE
        have i_9 : (mo.1 0).toInt ≤ x3_4.toInt := i_le.mp c_9
        refine lv_iload_n hx hb dX6_strikesBy_35 rfl (lv_at hl 2 rfl) ?_
        subst hQ
        exact g_iret hx hb hr hlocks hG ((jk) : (Nat → Nat → Int32)) rfl hE dX6_strikesBy_36
      replace hE := (if_neg c_9).symm.trans hE
      have i_9 : x3_4.toInt < (mo.1 0).toInt := i_nle c_9
      refine lv_iload_n hx hb dX6_strikesBy_12 rfl (lv_at hl 1 rfl) ?_
      refine lv_iload_n hx hb dX6_strikesBy_13 rfl (lv_at hl 3 rfl) ?_
      refine lv_ishr hx hb dX6_strikesBy_14 ?_
      refine lv_iconst (v := 1) hx hb dX6_strikesBy_15 (by decide) ?_
      refine lv_iand hx hb dX6_strikesBy_16 ?_
      refine lv_iconst (v := 1) hx hb dX6_strikesBy_17 (by decide) ?_
      have J29 : ∀ (x2_29 : Int32) (jk : (Nat → Nat → Int32)) (H : Heap) (locs : List Loc), gS g A s H locs (gW g bb tx rw sb dy tn mo jk) → ∀ ls : Array Slot, lv_has ls 4 [(0, .ref (gA g 58)), (1, .int p1), (2, .int x2_29), (3, .int x3_4)] → F_X6_strikesBy_b29  (F_X6_strikesBy_l4 n4 ) mo p1 x2_29 x3_4 = EE → W p l e (rmL (5)) s m [.ref (gA g 58), .int p1].toArray below meth c H locs 0 0 Q (F0 m 29 ls []) := by
        intro x2_29 jk H locs hG ls hl  hE
        unfold F_X6_strikesBy_b29 at hE
        refine lv_iinc (v := (x3_4 + 1)) (lv' := [(3, .int (x3_4 + 1)), (0, .ref (gA g 58)), (1, .int p1), (2, .int x2_29)]) hx hb dX6_strikesBy_29 hl (k := 3) rfl rfl (by decide) rfl (fun ls hl => ?_)
        replace hl := lv_sub hl [1, 2, 3, 0] (l' := [(0, .ref (gA g 58)), (1, .int p1), (2, .int x2_29), (3, .int (x3_4 + 1))]) rfl
        refine lv_goto (tgt := 4) hx hb dX6_strikesBy_32 (by decide) ?_
        have e1 : (x3_4 + 1).toInt = x3_4.toInt + 1 := addL (k := 1) (by decide +kernel) (by clear hE; omega) (by clear hE; omega)
        exact ih4 x2_29 (x3_4 + 1) _ _ _ hG _ (lv_sub hl [0, 1, 2, 3] rfl) (by clear hE; omega) (by clear hE; omega) (by clear hE; omega) hE
      refine lv_icmp_ne (tgt := 29) hx hb dX6_strikesBy_18 (by decide) (fun c_18 => ?_) (fun c_18 => ?_)
      · replace hE := (if_neg c_18).symm.trans hE
        have i_18 : ((p1 >>> (x3_4 &&& 31)) &&& 1).toInt ≠ 1 := fun h => c_18 (Int32.toInt_inj.mp h)
        exact J29 x2_4 _ _ _ hG _ (lv_sub hl [0, 1, 2, 3] rfl) hE
      replace hE := (if_pos c_18).symm.trans hE
      have i_18 : ((p1 >>> (x3_4 &&& 31)) &&& 1).toInt = 1 := congrArg Int32.toInt c_18
      refine lv_iload_n hx hb dX6_strikesBy_21 rfl (lv_at hl 2 rfl) ?_
      refine lv_aload_n hx hb dX6_strikesBy_22 rfl (lv_at hl 0 rfl) ?_
      refine lv_iload_n hx hb dX6_strikesBy_23 rfl (lv_at hl 3 rfl) ?_
      refine g_ci (g_runV (n := 1) (rest := [.int x2_4]) hx hb hml hown hts hG (c_X6_strokesOf x3_4 hv (show 0 ≤ x3_4.toInt ∧ x3_4.toInt < 6 from by clear hE; omega)) tw_ml_RX6_177 tw_im_X6_strokesOf tw_se_X6_strokesOf tw_in_RX6 tw_cd_X6_strokesOf (by decide +kernel) ⟨rfl, rfl, Nat.le_of_ble_eq_true rfl, Nat.le_of_ble_eq_true rfl⟩ gw_Model rfl rfl hl.1 rfl (Nat.le_of_ble_eq_true rfl) dX6_strikesBy_24 ⟨Nat.le_refl _, Nat.le_refl _⟩) hG hA (fun r jk H locs hp hG => ?_)
      subst hp
      replace hG : gS g A s H locs (gW g bb tx rw sb dy tn mo jk) := hG
      refine lv_iadd hx hb dX6_strikesBy_27 ?_
      refine lv_istore_n (lv' := [(2, .int (x2_4 + (F_X6_strokesOf mo x3_4))), (0, .ref (gA g 58)), (1, .int p1), (3, .int x3_4)]) hx hb dX6_strikesBy_28 rfl hl (by decide) rfl (fun ls hl => ?_)
      replace hl := lv_sub hl [1, 2, 0, 3] (l' := [(0, .ref (gA g 58)), (1, .int p1), (2, .int (x2_4 + (F_X6_strokesOf mo x3_4))), (3, .int x3_4)]) rfl
      exact J29 (x2_4 + (F_X6_strokesOf mo x3_4)) _ _ _ hG _ (lv_sub hl [0, 1, 2, 3] rfl) hE
  exact L4 7 0 0 _ _ _ hG _ (lv_sub hl [0, 1, 2, 3] rfl) (by decide) (by decide) (by decide) hE
def F_X6_vows_b34 (K4 : Ob → Int32 → Int32 → Int32) (mo : Ob) (x2 : Int32) (z0 : Int32) (z1 : Int32) : Int32 :=
  (K4 mo (z0 ||| z1) (x2 + 1))
def F_X6_vows_l4 : Nat → Ob → Int32 → Int32 → Int32
  | 0, _, _, _ => 0
  | n + 1, mo, x1, x2 =>
    (if (mo.1 0) ≤ x2 then x1 else (if ((mo.2 3) (Int32.toNatClampNeg ((4 * x2) + 3))) = 1 then (F_X6_vows_b34 (F_X6_vows_l4 n ) mo x2 x1 (1 <<< (x2 &&& 31))) else (F_X6_vows_b34 (F_X6_vows_l4 n ) mo x2 x1 0)))
def F_X6_vows (mo : Ob) : Int32 :=
  (F_X6_vows_l4 7  mo 0 0)
set_option maxHeartbeats 4000000 in
set_option maxRecDepth 100000 in
theorem c_X6_vows {l : Launch} {g : GG} {sz : Nat} {bb : Ob} {tx rw : Nat → Ob} {sb dy : Ob} {tn : Nat → Ob} {mo : Ob} {jk : Nat → Nat → Int32}   (hpo : 0 ≤ (mo.1 0).toInt ∧ (mo.1 0).toInt ≤ 6) : Met l yX6_vows (Cond.code yX6_vows cX6_vows 3 (some .int) :: TT) (rmL (1)) (va_Pc [.ref (gA g 58)] (gB g sz (gW g bb tx rw sb dy tn mo jk))) (va_Qi (fun r (_ : Unit) => r = (F_X6_vows mo)) (fun u t => gC g (va_A (gW g bb tx rw sb dy tn mo jk) sz) (gW g bb tx rw sb dy tn mo jk) t) (va_A (gW g bb tx rw sb dy tn mo jk) sz)) 0 0 (va_A (gW g bb tx rw sb dy tn mo jk) sz) := by
  generalize hE : F_X6_vows mo = EE
  refine g_of (Qf := fun A => (va_Qi (fun r (_ : Unit) => r = EE) (fun u t => gC g A (gW g bb tx rw sb dy tn mo jk) t) A)) (cc := cX6_vows) (maxL := 3) (ret := (some .int)) (by decide) (Nat.le_of_ble_eq_true rfl) ?_
  intro p e s m below meth c A ls hx hb hml hr hlocks hts hown hA hG hl
  replace hown : s.vm.findClass RX6 = some m.cls := hown
  replace hl : lv_has ls 3 [(0, .ref (gA g 58))] := hl
  show W p l e (rmL (1)) s m [.ref (gA g 58)].toArray below meth c s.heap [] 0 0 (MQ below (va_Qi (fun r (_ : Unit) => r = EE) (fun u t => gC g A (gW g bb tx rw sb dy tn mo jk) t) A) [.ref (gA g 58)].toArray s 0 0 A) (F0 m 0 ls [])
  generalize hQ : MQ below (va_Qi (fun r (_ : Unit) => r = EE) (fun u t => gC g A (gW g bb tx rw sb dy tn mo jk) t) A) [.ref (gA g 58)].toArray s 0 0 A = Q
  unfold F_X6_vows at hE
  refine lv_iconst (v := 0) hx hb dX6_vows_0 (by decide) ?_
  refine lv_istore_n (lv' := [(1, .int 0), (0, .ref (gA g 58))]) hx hb dX6_vows_1 rfl hl (by decide) rfl (fun ls hl => ?_)
  replace hl := lv_sub hl [1, 0] (l' := [(0, .ref (gA g 58)), (1, .int 0)]) rfl
  refine lv_iconst (v := 0) hx hb dX6_vows_2 (by decide) ?_
  refine lv_istore_n (lv' := [(2, .int 0), (0, .ref (gA g 58)), (1, .int 0)]) hx hb dX6_vows_3 rfl hl (by decide) rfl (fun ls hl => ?_)
  replace hl := lv_sub hl [1, 2, 0] (l' := [(0, .ref (gA g 58)), (1, .int 0), (2, .int 0)]) rfl
  have L4 : ∀ (n4 : Nat) (x1_4 : Int32) (x2_4 : Int32) (H : Heap) (locs : List Loc), gS g A s H locs (gW g bb tx rw sb dy tn mo jk) → ∀ ls : Array Slot, lv_has ls 3 [(0, .ref (gA g 58)), (1, .int x1_4), (2, .int x2_4)] → 0 ≤ x2_4.toInt → x2_4.toInt ≤ 6 → 6 < x2_4.toInt + n4 → F_X6_vows_l4 n4  mo x1_4 x2_4 = EE → W p l e (rmL (1)) s m [.ref (gA g 58)].toArray below meth c H locs 0 0 Q (F0 m 4 ls []) := by
    intro n4
    induction n4 with
    | zero =>
      intro x1_4 x2_4 H locs hG ls hl h0_4 h1_4 hm_4 hE
      clear hE; omega
    | succ n4 ih4 =>
      intro x1_4 x2_4 H locs hG ls hl h0_4 h1_4 hm_4 hE
      unfold F_X6_vows_l4 at hE
      refine lv_iload_n hx hb dX6_vows_4 rfl (lv_at hl 2 rfl) ?_
      refine lv_aload_n hx hb dX6_vows_5 rfl (lv_at hl 0 rfl) ?_
      refine g_get hx hb hts hiX6 hown hG gw_Model rfl 0 (by decide) (index := 78) tw_fl_RX6_78 (v := .int (mo.1 0)) rfl dX6_vows_6 ?_
      refine lv_icmp_ge (tgt := 42) hx hb dX6_vows_9 (by decide) (fun c_9 => ?_) (fun c_9 => ?_)
      · replace hE := (if_pos c_9).symm.trans hE
        have i_9 : (mo.1 0).toInt ≤ x2_4.toInt := i_le.mp c_9
        refine lv_iload_n hx hb dX6_vows_42 rfl (lv_at hl 1 rfl) ?_
        subst hQ
        exact g_iret hx hb hr hlocks hG () rfl hE dX6_vows_43
      replace hE := (if_neg c_9).symm.trans hE
      have i_9 : x2_4.toInt < (mo.1 0).toInt := i_nle c_9
      refine lv_iload_n hx hb dX6_vows_12 rfl (lv_at hl 1 rfl) ?_
      refine lv_aload_n hx hb dX6_vows_13 rfl (lv_at hl 0 rfl) ?_
      refine g_get hx hb hts hiX6 hown hG gw_Model rfl 3 (by decide) (index := 16) tw_fl_RX6_16 (v := .ref (gA g 61)) rfl dX6_vows_14 ?_
      refine lv_iconst (v := 4) hx hb dX6_vows_17 (by decide) ?_
      refine lv_iload_n hx hb dX6_vows_18 rfl (lv_at hl 2 rfl) ?_
      refine lv_imul hx hb dX6_vows_19 ?_
      refine lv_iconst (v := 3) hx hb dX6_vows_20 (by decide) ?_
      refine lv_iadd hx hb dX6_vows_21 ?_
      have e1 : (4 * x2_4).toInt = 4 * x2_4.toInt := mulL (k := 4) (by decide +kernel) (by clear hE; omega) (by clear hE; omega)
      have e2 : ((4 * x2_4) + 3).toInt = (4 * x2_4).toInt + 3 := addL (k := 3) (by decide +kernel) (by clear hE; omega) (by clear hE; omega)
      refine g_ild (f := (mo.2 3)) hx hb hG gw_Model_a3 (show vp_in ((4 * x2_4) + 3) 24 from (vp_i (by clear hE; omega) (by clear hE; omega))) dX6_vows_22 ?_
      refine lv_iconst (v := 1) hx hb dX6_vows_23 (by decide) ?_
      have J34 : ∀ (z1_34 : Int32) (H : Heap) (locs : List Loc), gS g A s H locs (gW g bb tx rw sb dy tn mo jk) → ∀ ls : Array Slot, lv_has ls 3 [(0, .ref (gA g 58)), (2, .int x2_4)] → F_X6_vows_b34  (F_X6_vows_l4 n4 ) mo x2_4 x1_4 z1_34 = EE → W p l e (rmL (1)) s m [.ref (gA g 58)].toArray below meth c H locs 0 0 Q (F0 m 34 ls [.int z1_34, .int x1_4]) := by
        intro z1_34 H locs hG ls hl  hE
        unfold F_X6_vows_b34 at hE
        refine lv_ior hx hb dX6_vows_34 ?_
        refine lv_istore_n (lv' := [(1, .int (x1_4 ||| z1_34)), (0, .ref (gA g 58)), (2, .int x2_4)]) hx hb dX6_vows_35 rfl hl (by decide) rfl (fun ls hl => ?_)
        replace hl := lv_sub hl [1, 0, 2] (l' := [(0, .ref (gA g 58)), (1, .int (x1_4 ||| z1_34)), (2, .int x2_4)]) rfl
        refine lv_iinc (v := (x2_4 + 1)) (lv' := [(2, .int (x2_4 + 1)), (0, .ref (gA g 58)), (1, .int (x1_4 ||| z1_34))]) hx hb dX6_vows_36 hl (k := 2) rfl rfl (by decide) rfl (fun ls hl => ?_)
        replace hl := lv_sub hl [1, 2, 0] (l' := [(0, .ref (gA g 58)), (1, .int (x1_4 ||| z1_34)), (2, .int (x2_4 + 1))]) rfl
        refine lv_goto (tgt := 4) hx hb dX6_vows_39 (by decide) ?_
        have e3 : (x2_4 + 1).toInt = x2_4.toInt + 1 := addL (k := 1) (by decide +kernel) (by clear hE; omega) (by clear hE; omega)
        exact ih4 (x1_4 ||| z1_34) (x2_4 + 1) _ _ hG _ (lv_sub hl [0, 1, 2] rfl) (by clear hE; omega) (by clear hE; omega) (by clear hE; omega) hE
      refine lv_icmp_ne (tgt := 33) hx hb dX6_vows_24 (by decide) (fun c_24 => ?_) (fun c_24 => ?_)
      · replace hE := (if_neg c_24).symm.trans hE
        have i_24 : ((mo.2 3) (Int32.toNatClampNeg ((4 * x2_4) + 3))).toInt ≠ 1 := fun h => c_24 (Int32.toInt_inj.mp h)
        refine lv_iconst (v := 0) hx hb dX6_vows_33 (by decide) ?_
        exact J34 0 _ _ hG _ (lv_sub hl [0, 2] rfl) hE
      replace hE := (if_pos c_24).symm.trans hE
      have i_24 : ((mo.2 3) (Int32.toNatClampNeg ((4 * x2_4) + 3))).toInt = 1 := congrArg Int32.toInt c_24
      refine lv_iconst (v := 1) hx hb dX6_vows_27 (by decide) ?_
      refine lv_iload_n hx hb dX6_vows_28 rfl (lv_at hl 2 rfl) ?_
      refine lv_ishl hx hb dX6_vows_29 ?_
      refine lv_goto (tgt := 34) hx hb dX6_vows_30 (by decide) ?_
      exact J34 (1 <<< (x2_4 &&& 31)) _ _ hG _ (lv_sub hl [0, 2] rfl) hE
  exact L4 7 0 0 _ _ hG _ (lv_sub hl [0, 1, 2] rfl) (by decide) (by decide) (by decide) hE
def F_X6_tells (mo : Ob) (p1 : Int32) (p2 : Int32) : Int32 :=
  (if (F_X6_isOne mo p1) = 0 then (-5) else (if p2 = 0 then ((mo.2 3) (Int32.toNatClampNeg ((4 * p1) + p2))) else (if p2 = 1 then ((mo.2 3) (Int32.toNatClampNeg ((4 * p1) + p2))) else (if p2 = 2 then ((mo.2 3) (Int32.toNatClampNeg ((4 * p1) + p2))) else (if p2 = 3 then ((mo.2 3) (Int32.toNatClampNeg ((4 * p1) + p2))) else (if p2 = 4 then ((mo.2 1) (Int32.toNatClampNeg p1)) else (if p2 = 5 then ((mo.2 2) (Int32.toNatClampNeg p1)) else (if p2 = 6 then (if (F_X6_lies mo p1) = 0 then 0 else 1) else (if p2 = 7 then (1000 + (F_X6_costsOf mo p1)) else (if p2 = 8 then (F_X6_strokesOf mo p1) else (-7)))))))))))
set_option maxHeartbeats 4000000 in
set_option maxRecDepth 100000 in
theorem c_X6_tells {l : Launch} {g : GG} {sz : Nat} {bb : Ob} {tx rw : Nat → Ob} {sb dy : Ob} {tn : Nat → Ob} {mo : Ob} {jk : Nat → Nat → Int32}  (p1 : Int32) (p2 : Int32) (hv : mEv mo) : Met l yX6_tells (Cond.code yX6_tells cX6_tells 3 (some .int) :: TT) (rmL (5)) (va_Pc [.ref (gA g 58), .int p1, .int p2] (gB g sz (gW g bb tx rw sb dy tn mo jk))) (va_Qi (fun r (_ : (Nat → Nat → Int32)) => r = (F_X6_tells mo p1 p2)) (fun u t => gC g (va_A (gW g bb tx rw sb dy tn mo jk) sz) (gW g bb tx rw sb dy tn mo u) t) (va_A (gW g bb tx rw sb dy tn mo jk) sz)) 0 0 (va_A (gW g bb tx rw sb dy tn mo jk) sz) := by
  generalize hE : F_X6_tells mo p1 p2 = EE
  refine g_of (Qf := fun A => (va_Qi (fun r (_ : (Nat → Nat → Int32)) => r = EE) (fun u t => gC g A (gW g bb tx rw sb dy tn mo u) t) A)) (cc := cX6_tells) (maxL := 3) (ret := (some .int)) (by decide) (Nat.le_of_ble_eq_true rfl) ?_
  intro p e s m below meth c A ls hx hb hml hr hlocks hts hown hA hG hl
  replace hown : s.vm.findClass RX6 = some m.cls := hown
  replace hl : lv_has ls 3 [(0, .ref (gA g 58)), (1, .int p1), (2, .int p2)] := hl
  show W p l e (rmL (5)) s m [.ref (gA g 58), .int p1, .int p2].toArray below meth c s.heap [] 0 0 (MQ below (va_Qi (fun r (_ : (Nat → Nat → Int32)) => r = EE) (fun u t => gC g A (gW g bb tx rw sb dy tn mo u) t) A) [.ref (gA g 58), .int p1, .int p2].toArray s 0 0 A) (F0 m 0 ls [])
  generalize hQ : MQ below (va_Qi (fun r (_ : (Nat → Nat → Int32)) => r = EE) (fun u t => gC g A (gW g bb tx rw sb dy tn mo u) t) A) [.ref (gA g 58), .int p1, .int p2].toArray s 0 0 A = Q
  have hpo := hv.1
  have e_pe : ((mo.1 0) - 1).toInt = (mo.1 0).toInt - 1 := subL (k := 1) (by decide +kernel) (by omega) (by omega)
  unfold F_X6_tells at hE
  refine lv_aload_n hx hb dX6_tells_0 rfl (lv_at hl 0 rfl) ?_
  refine lv_iload_n hx hb dX6_tells_1 rfl (lv_at hl 1 rfl) ?_
  refine g_ci (g_runV (n := 1) (rest := []) hx hb hml hown hts hG (c_X6_isOne p1) tw_ml_RX6_164 tw_im_X6_isOne tw_se_X6_isOne tw_in_RX6 tw_cd_X6_isOne (by decide +kernel) ⟨rfl, rfl, Nat.le_of_ble_eq_true rfl, Nat.le_of_ble_eq_true rfl⟩ gw_Model rfl rfl hl.1 rfl (Nat.le_of_ble_eq_true rfl) dX6_tells_2 ⟨Nat.le_refl _, Nat.le_refl _⟩) hG hA (fun r _ H locs hp hG => ?_)
  subst hp
  replace hG : gS g A s H locs (gW g bb tx rw sb dy tn mo jk) := hG
  refine lv_if_ne (tgt := 11) hx hb dX6_tells_5 (by decide) (fun c_5 => ?_) (fun c_5 => ?_)
  · replace hE := (if_neg c_5).symm.trans hE
    have i_5 := isOne_f c_5
    refine lv_iload_n hx hb dX6_tells_11 rfl (lv_at hl 2 rfl) ?_
    by_cases c_12_0 : p2 = 0
    · replace hE := (if_pos c_12_0).symm.trans hE
      refine lv_tableIn (off := 52) (tgt := 64) hx hb dX6_tells_12 (by rw [c_12_0]; decide) (by rw [c_12_0]; decide) (by rw [c_12_0]; decide) (by decide) ?_
      have i_12_0 : p2.toInt = 0 := congrArg Int32.toInt c_12_0
      refine lv_aload_n hx hb dX6_tells_64 rfl (lv_at hl 0 rfl) ?_
      refine g_get hx hb hts hiX6 hown hG gw_Model rfl 3 (by decide) (index := 16) tw_fl_RX6_16 (v := .ref (gA g 61)) rfl dX6_tells_65 ?_
      refine lv_iconst (v := 4) hx hb dX6_tells_68 (by decide) ?_
      refine lv_iload_n hx hb dX6_tells_69 rfl (lv_at hl 1 rfl) ?_
      refine lv_imul hx hb dX6_tells_70 ?_
      refine lv_iload_n hx hb dX6_tells_71 rfl (lv_at hl 2 rfl) ?_
      refine lv_iadd hx hb dX6_tells_72 ?_
      have e1 : (4 * p1).toInt = 4 * p1.toInt := mulL (k := 4) (by decide +kernel) (by clear hE; omega) (by clear hE; omega)
      have e2 : ((4 * p1) + p2).toInt = (4 * p1).toInt + p2.toInt := fb_addI (by clear hE; omega) (by clear hE; omega)
      refine g_ild (f := (mo.2 3)) hx hb hG gw_Model_a3 (show vp_in ((4 * p1) + p2) 24 from (vp_i (by clear hE; omega) (by clear hE; omega))) dX6_tells_73 ?_
      subst hQ
      exact g_iret hx hb hr hlocks hG ((jk) : (Nat → Nat → Int32)) rfl hE dX6_tells_74
    replace hE := (if_neg c_12_0).symm.trans hE
    by_cases c_12_1 : p2 = 1
    · replace hE := (if_pos c_12_1).symm.trans hE
      refine lv_tableIn (off := 52) (tgt := 64) hx hb dX6_tells_12 (by rw [c_12_1]; decide) (by rw [c_12_1]; decide) (by rw [c_12_1]; decide) (by decide) ?_
      have i_12_1 : p2.toInt = 1 := congrArg Int32.toInt c_12_1
      refine lv_aload_n hx hb dX6_tells_64 rfl (lv_at hl 0 rfl) ?_
      refine g_get hx hb hts hiX6 hown hG gw_Model rfl 3 (by decide) (index := 16) tw_fl_RX6_16 (v := .ref (gA g 61)) rfl dX6_tells_65 ?_
      refine lv_iconst (v := 4) hx hb dX6_tells_68 (by decide) ?_
      refine lv_iload_n hx hb dX6_tells_69 rfl (lv_at hl 1 rfl) ?_
      refine lv_imul hx hb dX6_tells_70 ?_
      refine lv_iload_n hx hb dX6_tells_71 rfl (lv_at hl 2 rfl) ?_
      refine lv_iadd hx hb dX6_tells_72 ?_
      have e3 : (4 * p1).toInt = 4 * p1.toInt := mulL (k := 4) (by decide +kernel) (by clear hE; omega) (by clear hE; omega)
      have e4 : ((4 * p1) + p2).toInt = (4 * p1).toInt + p2.toInt := fb_addI (by clear hE; omega) (by clear hE; omega)
      refine g_ild (f := (mo.2 3)) hx hb hG gw_Model_a3 (show vp_in ((4 * p1) + p2) 24 from (vp_i (by clear hE; omega) (by clear hE; omega))) dX6_tells_73 ?_
      subst hQ
      exact g_iret hx hb hr hlocks hG ((jk) : (Nat → Nat → Int32)) rfl hE dX6_tells_74
    replace hE := (if_neg c_12_1).symm.trans hE
    by_cases c_12_2 : p2 = 2
    · replace hE := (if_pos c_12_2).symm.trans hE
      refine lv_tableIn (off := 52) (tgt := 64) hx hb dX6_tells_12 (by rw [c_12_2]; decide) (by rw [c_12_2]; decide) (by rw [c_12_2]; decide) (by decide) ?_
      have i_12_2 : p2.toInt = 2 := congrArg Int32.toInt c_12_2
      refine lv_aload_n hx hb dX6_tells_64 rfl (lv_at hl 0 rfl) ?_
      refine g_get hx hb hts hiX6 hown hG gw_Model rfl 3 (by decide) (index := 16) tw_fl_RX6_16 (v := .ref (gA g 61)) rfl dX6_tells_65 ?_
      refine lv_iconst (v := 4) hx hb dX6_tells_68 (by decide) ?_
      refine lv_iload_n hx hb dX6_tells_69 rfl (lv_at hl 1 rfl) ?_
      refine lv_imul hx hb dX6_tells_70 ?_
      refine lv_iload_n hx hb dX6_tells_71 rfl (lv_at hl 2 rfl) ?_
      refine lv_iadd hx hb dX6_tells_72 ?_
      have e5 : (4 * p1).toInt = 4 * p1.toInt := mulL (k := 4) (by decide +kernel) (by clear hE; omega) (by clear hE; omega)
      have e6 : ((4 * p1) + p2).toInt = (4 * p1).toInt + p2.toInt := fb_addI (by clear hE; omega) (by clear hE; omega)
      refine g_ild (f := (mo.2 3)) hx hb hG gw_Model_a3 (show vp_in ((4 * p1) + p2) 24 from (vp_i (by clear hE; omega) (by clear hE; omega))) dX6_tells_73 ?_
      subst hQ
      exact g_iret hx hb hr hlocks hG ((jk) : (Nat → Nat → Int32)) rfl hE dX6_tells_74
    replace hE := (if_neg c_12_2).symm.trans hE
    by_cases c_12_3 : p2 = 3
    · replace hE := (if_pos c_12_3).symm.trans hE
      refine lv_tableIn (off := 52) (tgt := 64) hx hb dX6_tells_12 (by rw [c_12_3]; decide) (by rw [c_12_3]; decide) (by rw [c_12_3]; decide) (by decide) ?_
      have i_12_3 : p2.toInt = 3 := congrArg Int32.toInt c_12_3
      refine lv_aload_n hx hb dX6_tells_64 rfl (lv_at hl 0 rfl) ?_
      refine g_get hx hb hts hiX6 hown hG gw_Model rfl 3 (by decide) (index := 16) tw_fl_RX6_16 (v := .ref (gA g 61)) rfl dX6_tells_65 ?_
      refine lv_iconst (v := 4) hx hb dX6_tells_68 (by decide) ?_
      refine lv_iload_n hx hb dX6_tells_69 rfl (lv_at hl 1 rfl) ?_
      refine lv_imul hx hb dX6_tells_70 ?_
      refine lv_iload_n hx hb dX6_tells_71 rfl (lv_at hl 2 rfl) ?_
      refine lv_iadd hx hb dX6_tells_72 ?_
      have e7 : (4 * p1).toInt = 4 * p1.toInt := mulL (k := 4) (by decide +kernel) (by clear hE; omega) (by clear hE; omega)
      have e8 : ((4 * p1) + p2).toInt = (4 * p1).toInt + p2.toInt := fb_addI (by clear hE; omega) (by clear hE; omega)
      refine g_ild (f := (mo.2 3)) hx hb hG gw_Model_a3 (show vp_in ((4 * p1) + p2) 24 from (vp_i (by clear hE; omega) (by clear hE; omega))) dX6_tells_73 ?_
      subst hQ
      exact g_iret hx hb hr hlocks hG ((jk) : (Nat → Nat → Int32)) rfl hE dX6_tells_74
    replace hE := (if_neg c_12_3).symm.trans hE
    by_cases c_12_4 : p2 = 4
    · replace hE := (if_pos c_12_4).symm.trans hE
      refine lv_tableIn (off := 63) (tgt := 75) hx hb dX6_tells_12 (by rw [c_12_4]; decide) (by rw [c_12_4]; decide) (by rw [c_12_4]; decide) (by decide) ?_
      have i_12_4 : p2.toInt = 4 := congrArg Int32.toInt c_12_4
      refine lv_aload_n hx hb dX6_tells_75 rfl (lv_at hl 0 rfl) ?_
      refine g_get hx hb hts hiX6 hown hG gw_Model rfl 1 (by decide) (index := 7) tw_fl_RX6_7 (v := .ref (gA g 59)) rfl dX6_tells_76 ?_
      refine lv_iload_n hx hb dX6_tells_79 rfl (lv_at hl 1 rfl) ?_
      refine g_ild (f := (mo.2 1)) hx hb hG gw_Model_a1 (show vp_in p1 6 from (vp_i (by clear hE; omega) (by clear hE; omega))) dX6_tells_80 ?_
      subst hQ
      exact g_iret hx hb hr hlocks hG ((jk) : (Nat → Nat → Int32)) rfl hE dX6_tells_81
    replace hE := (if_neg c_12_4).symm.trans hE
    by_cases c_12_5 : p2 = 5
    · replace hE := (if_pos c_12_5).symm.trans hE
      refine lv_tableIn (off := 70) (tgt := 82) hx hb dX6_tells_12 (by rw [c_12_5]; decide) (by rw [c_12_5]; decide) (by rw [c_12_5]; decide) (by decide) ?_
      have i_12_5 : p2.toInt = 5 := congrArg Int32.toInt c_12_5
      refine lv_aload_n hx hb dX6_tells_82 rfl (lv_at hl 0 rfl) ?_
      refine g_get hx hb hts hiX6 hown hG gw_Model rfl 2 (by decide) (index := 13) tw_fl_RX6_13 (v := .ref (gA g 60)) rfl dX6_tells_83 ?_
      refine lv_iload_n hx hb dX6_tells_86 rfl (lv_at hl 1 rfl) ?_
      refine g_ild (f := (mo.2 2)) hx hb hG gw_Model_a2 (show vp_in p1 6 from (vp_i (by clear hE; omega) (by clear hE; omega))) dX6_tells_87 ?_
      subst hQ
      exact g_iret hx hb hr hlocks hG ((jk) : (Nat → Nat → Int32)) rfl hE dX6_tells_88
    replace hE := (if_neg c_12_5).symm.trans hE
    by_cases c_12_6 : p2 = 6
    · replace hE := (if_pos c_12_6).symm.trans hE
      refine lv_tableIn (off := 77) (tgt := 89) hx hb dX6_tells_12 (by rw [c_12_6]; decide) (by rw [c_12_6]; decide) (by rw [c_12_6]; decide) (by decide) ?_
      have i_12_6 : p2.toInt = 6 := congrArg Int32.toInt c_12_6
      refine lv_aload_n hx hb dX6_tells_89 rfl (lv_at hl 0 rfl) ?_
      refine lv_iload_n hx hb dX6_tells_90 rfl (lv_at hl 1 rfl) ?_
      refine g_ci (g_runV (n := 1) (rest := []) hx hb hml hown hts hG (c_X6_lies p1 hv (show 0 ≤ p1.toInt ∧ p1.toInt < 6 from by clear hE; omega)) tw_ml_RX6_174 tw_im_X6_lies tw_se_X6_lies tw_in_RX6 tw_cd_X6_lies (by decide +kernel) ⟨rfl, rfl, Nat.le_of_ble_eq_true rfl, Nat.le_of_ble_eq_true rfl⟩ gw_Model rfl rfl hl.1 rfl (Nat.le_of_ble_eq_true rfl) dX6_tells_91 ⟨Nat.le_refl _, Nat.le_refl _⟩) hG hA (fun r jk H locs hp hG => ?_)
      subst hp
      replace hG : gS g A s H locs (gW g bb tx rw sb dy tn mo jk) := hG
      refine lv_if_eq (tgt := 101) hx hb dX6_tells_94 (by decide) (fun c_94 => ?_) (fun c_94 => ?_)
      · replace hE := (if_pos c_94).symm.trans hE
        refine lv_iconst (v := 0) hx hb dX6_tells_101 (by decide) ?_
        subst hQ
        exact g_iret hx hb hr hlocks hG ((jk) : (Nat → Nat → Int32)) rfl hE dX6_tells_102
      replace hE := (if_neg c_94).symm.trans hE
      refine lv_iconst (v := 1) hx hb dX6_tells_97 (by decide) ?_
      refine lv_goto (tgt := 102) hx hb dX6_tells_98 (by decide) ?_
      subst hQ
      exact g_iret hx hb hr hlocks hG ((jk) : (Nat → Nat → Int32)) rfl hE dX6_tells_102
    replace hE := (if_neg c_12_6).symm.trans hE
    by_cases c_12_7 : p2 = 7
    · replace hE := (if_pos c_12_7).symm.trans hE
      refine lv_tableIn (off := 91) (tgt := 103) hx hb dX6_tells_12 (by rw [c_12_7]; decide) (by rw [c_12_7]; decide) (by rw [c_12_7]; decide) (by decide) ?_
      have i_12_7 : p2.toInt = 7 := congrArg Int32.toInt c_12_7
      refine lv_sipush (v := 1000) hx hb dX6_tells_103 (by decide) ?_
      refine lv_aload_n hx hb dX6_tells_106 rfl (lv_at hl 0 rfl) ?_
      refine lv_iload_n hx hb dX6_tells_107 rfl (lv_at hl 1 rfl) ?_
      refine g_ci (g_runV (n := 1) (rest := [.int 1000]) hx hb hml hown hts hG (c_X6_costsOf p1 hv (show 0 ≤ p1.toInt ∧ p1.toInt < 6 from by clear hE; omega)) tw_ml_RX6_180 tw_im_X6_costsOf tw_se_X6_costsOf tw_in_RX6 tw_cd_X6_costsOf (by decide +kernel) ⟨rfl, rfl, Nat.le_of_ble_eq_true rfl, Nat.le_of_ble_eq_true rfl⟩ gw_Model rfl rfl hl.1 rfl (Nat.le_of_ble_eq_true rfl) dX6_tells_108 ⟨Nat.le_refl _, Nat.le_refl _⟩) hG hA (fun r jk H locs hp hG => ?_)
      subst hp
      replace hG : gS g A s H locs (gW g bb tx rw sb dy tn mo jk) := hG
      refine lv_iadd hx hb dX6_tells_111 ?_
      subst hQ
      exact g_iret hx hb hr hlocks hG ((jk) : (Nat → Nat → Int32)) rfl hE dX6_tells_112
    replace hE := (if_neg c_12_7).symm.trans hE
    by_cases c_12_8 : p2 = 8
    · replace hE := (if_pos c_12_8).symm.trans hE
      refine lv_tableIn (off := 101) (tgt := 113) hx hb dX6_tells_12 (by rw [c_12_8]; decide) (by rw [c_12_8]; decide) (by rw [c_12_8]; decide) (by decide) ?_
      have i_12_8 : p2.toInt = 8 := congrArg Int32.toInt c_12_8
      refine lv_aload_n hx hb dX6_tells_113 rfl (lv_at hl 0 rfl) ?_
      refine lv_iload_n hx hb dX6_tells_114 rfl (lv_at hl 1 rfl) ?_
      refine g_ci (g_runV (n := 1) (rest := []) hx hb hml hown hts hG (c_X6_strokesOf p1 hv (show 0 ≤ p1.toInt ∧ p1.toInt < 6 from by clear hE; omega)) tw_ml_RX6_177 tw_im_X6_strokesOf tw_se_X6_strokesOf tw_in_RX6 tw_cd_X6_strokesOf (by decide +kernel) ⟨rfl, rfl, Nat.le_of_ble_eq_true rfl, Nat.le_of_ble_eq_true rfl⟩ gw_Model rfl rfl hl.1 rfl (Nat.le_of_ble_eq_true rfl) dX6_tells_115 ⟨Nat.le_refl _, Nat.le_refl _⟩) hG hA (fun r jk H locs hp hG => ?_)
      subst hp
      replace hG : gS g A s H locs (gW g bb tx rw sb dy tn mo jk) := hG
      subst hQ
      exact g_iret hx hb hr hlocks hG ((jk) : (Nat → Nat → Int32)) rfl hE dX6_tells_118
    replace hE := (if_neg c_12_8).symm.trans hE
    refine lv_tableOut (tgt := 119) hx hb dX6_tells_12 (by have k0 := lv_neT c_12_0 (a := 0) (by decide); have k1 := lv_neT c_12_1 (a := 1) (by decide); have k2 := lv_neT c_12_2 (a := 2) (by decide); have k3 := lv_neT c_12_3 (a := 3) (by decide); have k4 := lv_neT c_12_4 (a := 4) (by decide); have k5 := lv_neT c_12_5 (a := 5) (by decide); have k6 := lv_neT c_12_6 (a := 6) (by decide); have k7 := lv_neT c_12_7 (a := 7) (by decide); have k8 := lv_neT c_12_8 (a := 8) (by decide); omega) (by decide) ?_
    refine lv_bipush (v := (-7)) hx hb dX6_tells_119 (by decide) ?_
    subst hQ
    exact g_iret hx hb hr hlocks hG ((jk) : (Nat → Nat → Int32)) rfl hE dX6_tells_121
  replace hE := (if_pos c_5).symm.trans hE
  refine lv_bipush (v := (-5)) hx hb dX6_tells_8 (by decide) ?_
  subst hQ
  exact g_iret hx hb hr hlocks hG ((jk) : (Nat → Nat → Int32)) rfl hE dX6_tells_10
def F_X6_bell (mo : Ob) (p1 : Int32) : Int32 :=
  (if p1 = 0 then (F_X6_liars mo) else (if p1 = 1 then (F_X6_strikesBy mo (F_X6_liars mo)) else (if p1 = 2 then ((mo.2 4) (Int32.toNatClampNeg 1)) else (if p1 = 3 then (F_X6_vows mo) else (-2)))))
set_option maxHeartbeats 4000000 in
set_option maxRecDepth 100000 in
theorem c_X6_bell {l : Launch} {g : GG} {sz : Nat} {bb : Ob} {tx rw : Nat → Ob} {sb dy : Ob} {tn : Nat → Ob} {mo : Ob} {jk : Nat → Nat → Int32}  (p1 : Int32) (hv : mEv mo) : Met l yX6_bell (Cond.code yX6_bell cX6_bell 2 (some .int) :: TT) (rmL (6)) (va_Pc [.ref (gA g 58), .int p1] (gB g sz (gW g bb tx rw sb dy tn mo jk))) (va_Qi (fun r (_ : (Nat → Nat → Int32)) => r = (F_X6_bell mo p1)) (fun u t => gC g (va_A (gW g bb tx rw sb dy tn mo jk) sz) (gW g bb tx rw sb dy tn mo u) t) (va_A (gW g bb tx rw sb dy tn mo jk) sz)) 0 0 (va_A (gW g bb tx rw sb dy tn mo jk) sz) := by
  generalize hE : F_X6_bell mo p1 = EE
  refine g_of (Qf := fun A => (va_Qi (fun r (_ : (Nat → Nat → Int32)) => r = EE) (fun u t => gC g A (gW g bb tx rw sb dy tn mo u) t) A)) (cc := cX6_bell) (maxL := 2) (ret := (some .int)) (by decide) (Nat.le_of_ble_eq_true rfl) ?_
  intro p e s m below meth c A ls hx hb hml hr hlocks hts hown hA hG hl
  replace hown : s.vm.findClass RX6 = some m.cls := hown
  replace hl : lv_has ls 2 [(0, .ref (gA g 58)), (1, .int p1)] := hl
  show W p l e (rmL (6)) s m [.ref (gA g 58), .int p1].toArray below meth c s.heap [] 0 0 (MQ below (va_Qi (fun r (_ : (Nat → Nat → Int32)) => r = EE) (fun u t => gC g A (gW g bb tx rw sb dy tn mo u) t) A) [.ref (gA g 58), .int p1].toArray s 0 0 A) (F0 m 0 ls [])
  generalize hQ : MQ below (va_Qi (fun r (_ : (Nat → Nat → Int32)) => r = EE) (fun u t => gC g A (gW g bb tx rw sb dy tn mo u) t) A) [.ref (gA g 58), .int p1].toArray s 0 0 A = Q
  have hpo := hv.1
  unfold F_X6_bell at hE
  refine lv_iload_n hx hb dX6_bell_0 rfl (lv_at hl 1 rfl) ?_
  by_cases c_1_0 : p1 = 0
  · replace hE := (if_pos c_1_0).symm.trans hE
    refine lv_tableIn (off := 31) (tgt := 32) hx hb dX6_bell_1 (by rw [c_1_0]; decide) (by rw [c_1_0]; decide) (by rw [c_1_0]; decide) (by decide) ?_
    have i_1_0 : p1.toInt = 0 := congrArg Int32.toInt c_1_0
    refine lv_aload_n hx hb dX6_bell_32 rfl (lv_at hl 0 rfl) ?_
    refine g_ci (g_runV (n := 0) (rest := []) hx hb hml hown hts hG (c_X6_liars hv) tw_ml_RX6_183 tw_im_X6_liars tw_se_X6_liars tw_in_RX6 tw_cd_X6_liars (by decide +kernel) ⟨rfl, rfl, Nat.le_of_ble_eq_true rfl, Nat.le_of_ble_eq_true rfl⟩ gw_Model rfl rfl hl.1 rfl (Nat.le_of_ble_eq_true rfl) dX6_bell_33 ⟨Nat.le_refl _, Nat.le_refl _⟩) hG hA (fun r jk H locs hp hG => ?_)
    subst hp
    replace hG : gS g A s H locs (gW g bb tx rw sb dy tn mo jk) := hG
    subst hQ
    exact g_iret hx hb hr hlocks hG ((jk) : (Nat → Nat → Int32)) rfl hE dX6_bell_36
  replace hE := (if_neg c_1_0).symm.trans hE
  by_cases c_1_1 : p1 = 1
  · replace hE := (if_pos c_1_1).symm.trans hE
    refine lv_tableIn (off := 36) (tgt := 37) hx hb dX6_bell_1 (by rw [c_1_1]; decide) (by rw [c_1_1]; decide) (by rw [c_1_1]; decide) (by decide) ?_
    have i_1_1 : p1.toInt = 1 := congrArg Int32.toInt c_1_1
    refine lv_aload_n hx hb dX6_bell_37 rfl (lv_at hl 0 rfl) ?_
    refine lv_aload_n hx hb dX6_bell_38 rfl (lv_at hl 0 rfl) ?_
    refine g_ci (g_runV (n := 0) (rest := [.ref (gA g 58)]) hx hb hml hown hts hG (c_X6_liars hv) tw_ml_RX6_183 tw_im_X6_liars tw_se_X6_liars tw_in_RX6 tw_cd_X6_liars (by decide +kernel) ⟨rfl, rfl, Nat.le_of_ble_eq_true rfl, Nat.le_of_ble_eq_true rfl⟩ gw_Model rfl rfl hl.1 rfl (Nat.le_of_ble_eq_true rfl) dX6_bell_39 ⟨Nat.le_refl _, Nat.le_refl _⟩) hG hA (fun r jk H locs hp hG => ?_)
    subst hp
    replace hG : gS g A s H locs (gW g bb tx rw sb dy tn mo jk) := hG
    refine g_ci (g_runV (n := 1) (rest := []) hx hb hml hown hts hG (c_X6_strikesBy (F_X6_liars mo) hv) tw_ml_RX6_186 tw_im_X6_strikesBy tw_se_X6_strikesBy tw_in_RX6 tw_cd_X6_strikesBy (by decide +kernel) ⟨rfl, rfl, Nat.le_of_ble_eq_true rfl, Nat.le_of_ble_eq_true rfl⟩ gw_Model rfl rfl hl.1 rfl (Nat.le_of_ble_eq_true rfl) dX6_bell_42 ⟨Nat.le_refl _, Nat.le_refl _⟩) hG hA (fun r jk H locs hp hG => ?_)
    subst hp
    replace hG : gS g A s H locs (gW g bb tx rw sb dy tn mo jk) := hG
    subst hQ
    exact g_iret hx hb hr hlocks hG ((jk) : (Nat → Nat → Int32)) rfl hE dX6_bell_45
  replace hE := (if_neg c_1_1).symm.trans hE
  by_cases c_1_2 : p1 = 2
  · replace hE := (if_pos c_1_2).symm.trans hE
    refine lv_tableIn (off := 45) (tgt := 46) hx hb dX6_bell_1 (by rw [c_1_2]; decide) (by rw [c_1_2]; decide) (by rw [c_1_2]; decide) (by decide) ?_
    have i_1_2 : p1.toInt = 2 := congrArg Int32.toInt c_1_2
    refine lv_aload_n hx hb dX6_bell_46 rfl (lv_at hl 0 rfl) ?_
    refine g_get hx hb hts hiX6 hown hG gw_Model rfl 4 (by decide) (index := 19) tw_fl_RX6_19 (v := .ref (gA g 62)) rfl dX6_bell_47 ?_
    refine lv_iconst (v := 1) hx hb dX6_bell_50 (by decide) ?_
    refine g_ild (f := (mo.2 4)) hx hb hG gw_Model_a4 (show vp_in 1 3 from (by unfold vp_in; decide)) dX6_bell_51 ?_
    subst hQ
    exact g_iret hx hb hr hlocks hG ((jk) : (Nat → Nat → Int32)) rfl hE dX6_bell_52
  replace hE := (if_neg c_1_2).symm.trans hE
  by_cases c_1_3 : p1 = 3
  · replace hE := (if_pos c_1_3).symm.trans hE
    refine lv_tableIn (off := 52) (tgt := 53) hx hb dX6_bell_1 (by rw [c_1_3]; decide) (by rw [c_1_3]; decide) (by rw [c_1_3]; decide) (by decide) ?_
    have i_1_3 : p1.toInt = 3 := congrArg Int32.toInt c_1_3
    refine lv_aload_n hx hb dX6_bell_53 rfl (lv_at hl 0 rfl) ?_
    refine g_ci (g_runV (n := 0) (rest := []) hx hb hml hown hts hG (c_X6_vows (show 0 ≤ (mo.1 0).toInt ∧ (mo.1 0).toInt ≤ 6 from by clear hE; omega)) tw_ml_RX6_189 tw_im_X6_vows tw_se_X6_vows tw_in_RX6 tw_cd_X6_vows (by decide +kernel) ⟨rfl, rfl, Nat.le_of_ble_eq_true rfl, Nat.le_of_ble_eq_true rfl⟩ gw_Model rfl rfl hl.1 rfl (Nat.le_of_ble_eq_true rfl) dX6_bell_54 ⟨Nat.le_refl _, Nat.le_refl _⟩) hG hA (fun r _ H locs hp hG => ?_)
    subst hp
    replace hG : gS g A s H locs (gW g bb tx rw sb dy tn mo jk) := hG
    subst hQ
    exact g_iret hx hb hr hlocks hG ((jk) : (Nat → Nat → Int32)) rfl hE dX6_bell_57
  replace hE := (if_neg c_1_3).symm.trans hE
  refine lv_tableOut (tgt := 58) hx hb dX6_bell_1 (by have k0 := lv_neT c_1_0 (a := 0) (by decide); have k1 := lv_neT c_1_1 (a := 1) (by decide); have k2 := lv_neT c_1_2 (a := 2) (by decide); have k3 := lv_neT c_1_3 (a := 3) (by decide); omega) (by decide) ?_
  refine lv_bipush (v := (-2)) hx hb dX6_bell_58 (by decide) ?_
  subst hQ
  exact g_iret hx hb hr hlocks hG ((jk) : (Nat → Nat → Int32)) rfl hE dX6_bell_60
