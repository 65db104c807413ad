def F_X6_cell_b84 (mo : Ob) (z1 : Int32) (z2 : Int32) : Int32 × Ob :=
  (1, (stA mo 16 z1 z2))
def F_X6_cell (mo : Ob) (p1 : Int32) (p2 : Int32) (p3 : Int32) : Int32 × Ob :=
  (if (F_X6_in p1 0 3) = 0 then ((-2), mo) else (if ((mo.2 14) (Int32.toNatClampNeg p1)) = (-1) then ((-11), mo) else (if (F_X6_in p2 0 (((mo.2 15) (Int32.toNatClampNeg p1)) - 1)) = 0 then ((-12), mo) else (if ((mo.2 14) (Int32.toNatClampNeg p1)) = 0 then (F_X6_cell_b84  mo ((40 * p1) + p2) (Int8.toInt32 (Int32.toInt8 p3))) else (if ((mo.2 14) (Int32.toNatClampNeg p1)) = 1 then (F_X6_cell_b84  mo ((40 * p1) + p2) (Int16.toInt32 (Int32.toInt16 p3))) else (F_X6_cell_b84  mo ((40 * p1) + p2) p3))))))
set_option maxHeartbeats 4000000 in
set_option maxRecDepth 100000 in
theorem c_X6_cell {l : Launch} {g : GG} {sz : Nat} {bb : Ob} {tx rw : Nat → Ob} {sb dy : Ob} {tn : Nat → Ob} {mo : Ob} {jk : Nat → Nat → Int32}  (p1 : Int32) (p2 : Int32) (p3 : Int32) (hsz : ∀ s : Nat, s < 4 → 0 ≤ ((mo.2 15) s).toInt ∧ ((mo.2 15) s).toInt ≤ 40) : Met l yX6_cell (Cond.code yX6_cell cX6_cell 4 (some .int) :: TT) (rmL (2)) (va_Pc [.ref (gA g 58), .int p1, .int p2, .int p3] (gB g sz (gW g bb tx rw sb dy tn mo jk))) (va_Qi (fun r (u : Ob) => (F_X6_cell mo p1 p2 p3) = (r, u)) (fun u t => gC g (va_A (gW g bb tx rw sb dy tn mo jk) sz) (gW g bb tx rw sb dy tn u jk) t) (va_A (gW g bb tx rw sb dy tn mo jk) sz)) 0 0 (va_A (gW g bb tx rw sb dy tn mo jk) sz) := by
  generalize hE : F_X6_cell mo p1 p2 p3 = EE
  refine g_of (Qf := fun A => (va_Qi (fun r (u : Ob) => EE = (r, u)) (fun u t => gC g A (gW g bb tx rw sb dy tn u jk) t) A)) (cc := cX6_cell) (maxL := 4) (ret := (some .int)) (by decide) (Nat.le_of_ble_eq_true rfl) ?_
  intro p e s m below meth c A ls hx hb hml hr hlocks hts hown hA hG hl
  replace hown : s.vm.findClass RX6 = some m.cls := hown
  replace hl : lv_has ls 4 [(0, .ref (gA g 58)), (1, .int p1), (2, .int p2), (3, .int p3)] := hl
  show W p l e (rmL (2)) s m [.ref (gA g 58), .int p1, .int p2, .int p3].toArray below meth c s.heap [] 0 0 (MQ below (va_Qi (fun r (u : Ob) => EE = (r, u)) (fun u t => gC g A (gW g bb tx rw sb dy tn u jk) t) A) [.ref (gA g 58), .int p1, .int p2, .int p3].toArray s 0 0 A) (F0 m 0 ls [])
  generalize hQ : MQ below (va_Qi (fun r (u : Ob) => EE = (r, u)) (fun u t => gC g A (gW g bb tx rw sb dy tn u jk) t) A) [.ref (gA g 58), .int p1, .int p2, .int p3].toArray s 0 0 A = Q
  unfold F_X6_cell at hE
  refine lv_iload_n hx hb dX6_cell_0 rfl (lv_at hl 1 rfl) ?_
  refine lv_iconst (v := 0) hx hb dX6_cell_1 (by decide) ?_
  refine lv_iconst (v := 3) hx hb dX6_cell_2 (by decide) ?_
  refine g_si (g_runS (n := 3) (rest := []) hx hb hml hown hts hG (c_X6_in p1 0 3) tw_ml_RX6_81 tw_st_X6_in tw_in_RX6 tw_cd_X6_in (by decide +kernel) ⟨rfl, rfl, Nat.le_of_ble_eq_true rfl, Nat.le_of_ble_eq_true rfl⟩ rfl hl.1 rfl (Nat.le_of_ble_eq_true rfl) dX6_cell_3 ⟨Nat.le_refl _, Nat.le_refl _⟩) hG hA (fun H locs hG => ?_)
  refine lv_if_ne (tgt := 12) hx hb dX6_cell_6 (by decide) (fun c_6 => ?_) (fun c_6 => ?_)
  · replace hE := (if_neg c_6).symm.trans hE
    have i_6 : 0 ≤ p1.toInt ∧ p1.toInt ≤ 3 := in_f c_6
    refine lv_aload_n hx hb dX6_cell_12 rfl (lv_at hl 0 rfl) ?_
    refine g_get hx hb hts hiX6 hown hG gw_Model rfl 14 (by decide) (index := 37) tw_fl_RX6_37 (v := .ref (gA g 68)) rfl dX6_cell_13 ?_
    refine lv_iload_n hx hb dX6_cell_16 rfl (lv_at hl 1 rfl) ?_
    refine g_ild (f := (mo.2 14)) hx hb hG gw_Model_a14 (show vp_in p1 4 from (vp_i (by clear hE; omega) (by clear hE; omega))) dX6_cell_17 ?_
    refine lv_iconst (v := (-1)) hx hb dX6_cell_18 (by decide) ?_
    refine lv_icmp_ne (tgt := 25) hx hb dX6_cell_19 (by decide) (fun c_19 => ?_) (fun c_19 => ?_)
    · replace hE := (if_neg c_19).symm.trans hE
      have i_19 : ((mo.2 14) (Int32.toNatClampNeg p1)).toInt ≠ (-1) := fun h => c_19 (Int32.toInt_inj.mp h)
      refine lv_iload_n hx hb dX6_cell_25 rfl (lv_at hl 2 rfl) ?_
      refine lv_iconst (v := 0) hx hb dX6_cell_26 (by decide) ?_
      refine lv_aload_n hx hb dX6_cell_27 rfl (lv_at hl 0 rfl) ?_
      refine g_get hx hb hts hiX6 hown hG gw_Model rfl 15 (by decide) (index := 40) tw_fl_RX6_40 (v := .ref (gA g 69)) rfl dX6_cell_28 ?_
      refine lv_iload_n hx hb dX6_cell_31 rfl (lv_at hl 1 rfl) ?_
      refine g_ild (f := (mo.2 15)) hx hb hG gw_Model_a15 (show vp_in p1 4 from (vp_i (by clear hE; omega) (by clear hE; omega))) dX6_cell_32 ?_
      refine lv_iconst (v := 1) hx hb dX6_cell_33 (by decide) ?_
      refine lv_isub hx hb dX6_cell_34 ?_
      have q1 := hsz _ (show Int32.toNatClampNeg p1 < 4 by rw [tcn_i]; clear hE; omega)
      have e35 : (((mo.2 15) (Int32.toNatClampNeg p1)) - 1).toInt = ((mo.2 15) (Int32.toNatClampNeg p1)).toInt - 1 := subL (k := 1) (by decide +kernel) (by clear hE; omega) (by clear hE; omega)
      refine g_si (g_runS (n := 3) (rest := []) hx hb hml hown hts hG (c_X6_in p2 0 (((mo.2 15) (Int32.toNatClampNeg p1)) - 1)) tw_ml_RX6_81 tw_st_X6_in tw_in_RX6 tw_cd_X6_in (by decide +kernel) ⟨rfl, rfl, Nat.le_of_ble_eq_true rfl, Nat.le_of_ble_eq_true rfl⟩ rfl hl.1 rfl (Nat.le_of_ble_eq_true rfl) dX6_cell_35 ⟨Nat.le_refl _, Nat.le_refl _⟩) hG hA (fun H locs hG => ?_)
      refine lv_if_ne (tgt := 44) hx hb dX6_cell_38 (by decide) (fun c_38 => ?_) (fun c_38 => ?_)
      · replace hE := (if_neg c_38).symm.trans hE
        have i_38 : 0 ≤ p2.toInt ∧ p2.toInt ≤ (((mo.2 15) (Int32.toNatClampNeg p1)) - 1).toInt := in_f c_38
        refine lv_aload_n hx hb dX6_cell_44 rfl (lv_at hl 0 rfl) ?_
        refine g_get hx hb hts hiX6 hown hG gw_Model rfl 16 (by decide) (index := 43) tw_fl_RX6_43 (v := .ref (gA g 70)) rfl dX6_cell_45 ?_
        refine lv_bipush (v := 40) hx hb dX6_cell_48 (by decide) ?_
        refine lv_iload_n hx hb dX6_cell_50 rfl (lv_at hl 1 rfl) ?_
        refine lv_imul hx hb dX6_cell_51 ?_
        refine lv_iload_n hx hb dX6_cell_52 rfl (lv_at hl 2 rfl) ?_
        refine lv_iadd hx hb dX6_cell_53 ?_
        refine lv_aload_n hx hb dX6_cell_54 rfl (lv_at hl 0 rfl) ?_
        refine g_get hx hb hts hiX6 hown hG gw_Model rfl 14 (by decide) (index := 37) tw_fl_RX6_37 (v := .ref (gA g 68)) rfl dX6_cell_55 ?_
        refine lv_iload_n hx hb dX6_cell_58 rfl (lv_at hl 1 rfl) ?_
        refine g_ild (f := (mo.2 14)) hx hb hG gw_Model_a14 (show vp_in p1 4 from (vp_i (by clear hE; omega) (by clear hE; omega))) dX6_cell_59 ?_
        have J84 : ∀ (z2_84 : Int32) (H : Heap) (locs : List Loc), gS g A s H locs (gW g bb tx rw sb dy tn mo jk) → ∀ ls : Array Slot, lv_has ls 4 [] → F_X6_cell_b84   mo ((40 * p1) + p2) z2_84 = EE → W p l e (rmL (2)) s m [.ref (gA g 58), .int p1, .int p2, .int p3].toArray below meth c H locs 0 0 Q (F0 m 84 ls [.int z2_84, .int ((40 * p1) + p2), .ref (gA g 70)]) := by
          intro z2_84 H locs hG ls hl  hE
          unfold F_X6_cell_b84 at hE
          have e1 : (40 * p1).toInt = 40 * p1.toInt := mulL (k := 40) (by decide +kernel) (by clear hE; omega) (by clear hE; omega)
          have e2 : ((40 * p1) + p2).toInt = (40 * p1).toInt + p2.toInt := fb_addI (by clear hE; omega) (by clear hE; omega)
          refine g_ist hx hb hG gw_Model_a16 (show vp_in ((40 * p1) + p2) 160 from (vp_i (by clear hE; omega) (by clear hE; omega))) gs_Model_a16 dX6_cell_84 (fun H locs hG => ?_)
          refine lv_iconst (v := 1) hx hb dX6_cell_85 (by decide) ?_
          subst hQ
          exact g_iret hx hb hr hlocks hG (((stA mo 16 ((40 * p1) + p2) z2_84)) : Ob) rfl hE.symm dX6_cell_86
        refine lv_if_ne (tgt := 68) hx hb dX6_cell_60 (by decide) (fun c_60 => ?_) (fun c_60 => ?_)
        · replace hE := (if_neg c_60).symm.trans hE
          have i_60 : ((mo.2 14) (Int32.toNatClampNeg p1)).toInt ≠ 0 := fun h => c_60 (Int32.toInt_inj.mp h)
          refine lv_aload_n hx hb dX6_cell_68 rfl (lv_at hl 0 rfl) ?_
          refine g_get hx hb hts hiX6 hown hG gw_Model rfl 14 (by decide) (index := 37) tw_fl_RX6_37 (v := .ref (gA g 68)) rfl dX6_cell_69 ?_
          refine lv_iload_n hx hb dX6_cell_72 rfl (lv_at hl 1 rfl) ?_
          refine g_ild (f := (mo.2 14)) hx hb hG gw_Model_a14 (show vp_in p1 4 from (vp_i (by clear hE; omega) (by clear hE; omega))) dX6_cell_73 ?_
          refine lv_iconst (v := 1) hx hb dX6_cell_74 (by decide) ?_
          refine lv_icmp_ne (tgt := 83) hx hb dX6_cell_75 (by decide) (fun c_75 => ?_) (fun c_75 => ?_)
          · replace hE := (if_neg c_75).symm.trans hE
            have i_75 : ((mo.2 14) (Int32.toNatClampNeg p1)).toInt ≠ 1 := fun h => c_75 (Int32.toInt_inj.mp h)
            refine lv_iload_n hx hb dX6_cell_83 rfl (lv_at hl 3 rfl) ?_
            exact J84 p3 _ _ hG _ (lv_sub hl [] rfl) hE
          replace hE := (if_pos c_75).symm.trans hE
          have i_75 : ((mo.2 14) (Int32.toNatClampNeg p1)).toInt = 1 := congrArg Int32.toInt c_75
          refine lv_iload_n hx hb dX6_cell_78 rfl (lv_at hl 3 rfl) ?_
          refine lv_i2s (v := (Int16.toInt32 (Int32.toInt16 p3))) hx hb dX6_cell_79 rfl ?_
          refine lv_goto (tgt := 84) hx hb dX6_cell_80 (by decide) ?_
          exact J84 (Int16.toInt32 (Int32.toInt16 p3)) _ _ hG _ (lv_sub hl [] rfl) hE
        replace hE := (if_pos c_60).symm.trans hE
        have i_60 : ((mo.2 14) (Int32.toNatClampNeg p1)).toInt = 0 := congrArg Int32.toInt c_60
        refine lv_iload_n hx hb dX6_cell_63 rfl (lv_at hl 3 rfl) ?_
        refine lv_i2b (v := (Int8.toInt32 (Int32.toInt8 p3))) hx hb dX6_cell_64 rfl ?_
        refine lv_goto (tgt := 84) hx hb dX6_cell_65 (by decide) ?_
        exact J84 (Int8.toInt32 (Int32.toInt8 p3)) _ _ hG _ (lv_sub hl [] rfl) hE
      replace hE := (if_pos c_38).symm.trans hE
      refine lv_bipush (v := (-12)) hx hb dX6_cell_41 (by decide) ?_
      subst hQ
      exact g_iret hx hb hr hlocks hG ((mo) : Ob) rfl hE.symm dX6_cell_43
    replace hE := (if_pos c_19).symm.trans hE
    have i_19 : ((mo.2 14) (Int32.toNatClampNeg p1)).toInt = (-1) := congrArg Int32.toInt c_19
    refine lv_bipush (v := (-11)) hx hb dX6_cell_22 (by decide) ?_
    subst hQ
    exact g_iret hx hb hr hlocks hG ((mo) : Ob) rfl hE.symm dX6_cell_24
  replace hE := (if_pos c_6).symm.trans hE
  refine lv_bipush (v := (-2)) hx hb dX6_cell_9 (by decide) ?_
  subst hQ
  exact g_iret hx hb hr hlocks hG ((mo) : Ob) rfl hE.symm dX6_cell_11
def F_X6_copy_b173 (K147 : Ob → Int32 → Int32 → Int32 → Int32 → Int32 × Ob) (mo : Ob) (x5 : Int32) (x6 : Int32) (x7 : Int32) (x8 : Int32) (z0 : Int32) : Int32 × Ob :=
  (K147 (stA mo 16 (x7 + z0) ((mo.2 16) (Int32.toNatClampNeg (x6 + z0)))) x5 x6 x7 (x8 + 1))
def F_X6_copy_l147 : Nat → Ob → Int32 → Int32 → Int32 → Int32 → Int32 × Ob
  | 0, mo, _, _, _, _ => (0, mo)
  | n + 1, mo, x5, x6, x7, x8 =>
    (if x5 ≤ x8 then (x5, mo) else (if x7 ≤ x6 then (F_X6_copy_b173 (F_X6_copy_l147 n ) mo x5 x6 x7 x8 x8) else (F_X6_copy_b173 (F_X6_copy_l147 n ) mo x5 x6 x7 x8 ((x5 - 1) - x8))))
def F_X6_copy (mo : Ob) (p1 : Int32) (p2 : Int32) (p3 : Int32) (p4 : Int32) (p5 : Int32) : Int32 × Ob :=
  (if (F_X6_in p1 0 3) = 0 then ((-2), mo) else (if (F_X6_in p3 0 3) = 0 then ((-2), mo) else (if ((mo.2 14) (Int32.toNatClampNeg p1)) = (-1) then ((-11), mo) else (if ((mo.2 14) (Int32.toNatClampNeg p3)) = (-1) then ((-11), mo) else (if ((mo.2 14) (Int32.toNatClampNeg p1)) = ((mo.2 14) (Int32.toNatClampNeg p3)) then (if p5 < 0 then ((-12), mo) else (if p2 < 0 then ((-12), mo) else (if p4 < 0 then ((-12), mo) else (if ((mo.2 15) (Int32.toNatClampNeg p1)) < p2 then ((-12), mo) else (if ((mo.2 15) (Int32.toNatClampNeg p3)) < p4 then ((-12), mo) else (if (((mo.2 15) (Int32.toNatClampNeg p1)) - p2) < p5 then ((-12), mo) else (if p5 ≤ (((mo.2 15) (Int32.toNatClampNeg p3)) - p4) then (F_X6_copy_l147 41  mo p5 ((40 * p1) + p2) ((40 * p3) + p4) 0) else ((-12), mo)))))))) else ((-13), mo))))))
set_option maxHeartbeats 4000000 in
set_option maxRecDepth 100000 in
theorem c_X6_copy {l : Launch} {g : GG} {sz : Nat} {bb : Ob} {tx rw : Nat → Ob} {sb dy : Ob} {tn : Nat → Ob} {mo : Ob} {jk : Nat → Nat → Int32}  (p1 : Int32) (p2 : Int32) (p3 : Int32) (p4 : Int32) (p5 : Int32) (hsz : ∀ s : Nat, s < 4 → 0 ≤ ((mo.2 15) s).toInt ∧ ((mo.2 15) s).toInt ≤ 40) : Met l yX6_copy (Cond.code yX6_copy cX6_copy 10 (some .int) :: TT) (rmL (2)) (va_Pc [.ref (gA g 58), .int p1, .int p2, .int p3, .int p4, .int p5] (gB g sz (gW g bb tx rw sb dy tn mo jk))) (va_Qi (fun r (u : Ob) => (F_X6_copy mo p1 p2 p3 p4 p5) = (r, u)) (fun u t => gC g (va_A (gW g bb tx rw sb dy tn mo jk) sz) (gW g bb tx rw sb dy tn u jk) t) (va_A (gW g bb tx rw sb dy tn mo jk) sz)) 0 0 (va_A (gW g bb tx rw sb dy tn mo jk) sz) := by
  generalize hE : F_X6_copy mo p1 p2 p3 p4 p5 = EE
  refine g_of (Qf := fun A => (va_Qi (fun r (u : Ob) => EE = (r, u)) (fun u t => gC g A (gW g bb tx rw sb dy tn u jk) t) A)) (cc := cX6_copy) (maxL := 10) (ret := (some .int)) (by decide) (Nat.le_of_ble_eq_true rfl) ?_
  intro p e s m below meth c A ls hx hb hml hr hlocks hts hown hA hG hl
  replace hown : s.vm.findClass RX6 = some m.cls := hown
  replace hl : lv_has ls 10 [(0, .ref (gA g 58)), (1, .int p1), (2, .int p2), (3, .int p3), (4, .int p4), (5, .int p5)] := hl
  show W p l e (rmL (2)) s m [.ref (gA g 58), .int p1, .int p2, .int p3, .int p4, .int p5].toArray below meth c s.heap [] 0 0 (MQ below (va_Qi (fun r (u : Ob) => EE = (r, u)) (fun u t => gC g A (gW g bb tx rw sb dy tn u jk) t) A) [.ref (gA g 58), .int p1, .int p2, .int p3, .int p4, .int p5].toArray s 0 0 A) (F0 m 0 ls [])
  generalize hQ : MQ below (va_Qi (fun r (u : Ob) => EE = (r, u)) (fun u t => gC g A (gW g bb tx rw sb dy tn u jk) t) A) [.ref (gA g 58), .int p1, .int p2, .int p3, .int p4, .int p5].toArray s 0 0 A = Q
  unfold F_X6_copy at hE
  refine lv_iload_n hx hb dX6_copy_0 rfl (lv_at hl 1 rfl) ?_
  refine lv_iconst (v := 0) hx hb dX6_copy_1 (by decide) ?_
  refine lv_iconst (v := 3) hx hb dX6_copy_2 (by decide) ?_
  refine g_si (g_runS (n := 3) (rest := []) hx hb hml hown hts hG (c_X6_in p1 0 3) tw_ml_RX6_81 tw_st_X6_in tw_in_RX6 tw_cd_X6_in (by decide +kernel) ⟨rfl, rfl, Nat.le_of_ble_eq_true rfl, Nat.le_of_ble_eq_true rfl⟩ rfl hl.1 rfl (Nat.le_of_ble_eq_true rfl) dX6_copy_3 ⟨Nat.le_refl _, Nat.le_refl _⟩) hG hA (fun H locs hG => ?_)
  refine lv_if_eq (tgt := 18) hx hb dX6_copy_6 (by decide) (fun c_6 => ?_) (fun c_6 => ?_)
  · replace hE := (if_pos c_6).symm.trans hE
    refine lv_bipush (v := (-2)) hx hb dX6_copy_18 (by decide) ?_
    subst hQ
    exact g_iret hx hb hr hlocks hG ((mo) : Ob) rfl hE.symm dX6_copy_20
  replace hE := (if_neg c_6).symm.trans hE
  have i_6 : 0 ≤ p1.toInt ∧ p1.toInt ≤ 3 := in_f c_6
  refine lv_iload_n hx hb dX6_copy_9 rfl (lv_at hl 3 rfl) ?_
  refine lv_iconst (v := 0) hx hb dX6_copy_10 (by decide) ?_
  refine lv_iconst (v := 3) hx hb dX6_copy_11 (by decide) ?_
  refine g_si (g_runS (n := 3) (rest := []) hx hb hml hown hts hG (c_X6_in p3 0 3) tw_ml_RX6_81 tw_st_X6_in tw_in_RX6 tw_cd_X6_in (by decide +kernel) ⟨rfl, rfl, Nat.le_of_ble_eq_true rfl, Nat.le_of_ble_eq_true rfl⟩ rfl hl.1 rfl (Nat.le_of_ble_eq_true rfl) dX6_copy_12 ⟨Nat.le_refl _, Nat.le_refl _⟩) hG hA (fun H locs hG => ?_)
  refine lv_if_ne (tgt := 21) hx hb dX6_copy_15 (by decide) (fun c_15 => ?_) (fun c_15 => ?_)
  · replace hE := (if_neg c_15).symm.trans hE
    have i_15 : 0 ≤ p3.toInt ∧ p3.toInt ≤ 3 := in_f c_15
    refine lv_aload_n hx hb dX6_copy_21 rfl (lv_at hl 0 rfl) ?_
    refine g_get hx hb hts hiX6 hown hG gw_Model rfl 14 (by decide) (index := 37) tw_fl_RX6_37 (v := .ref (gA g 68)) rfl dX6_copy_22 ?_
    refine lv_iload_n hx hb dX6_copy_25 rfl (lv_at hl 1 rfl) ?_
    refine g_ild (f := (mo.2 14)) hx hb hG gw_Model_a14 (show vp_in p1 4 from (vp_i (by clear hE; omega) (by clear hE; omega))) dX6_copy_26 ?_
    refine lv_iconst (v := (-1)) hx hb dX6_copy_27 (by decide) ?_
    refine lv_icmp_eq (tgt := 41) hx hb dX6_copy_28 (by decide) (fun c_28 => ?_) (fun c_28 => ?_)
    · replace hE := (if_pos c_28).symm.trans hE
      have i_28 : ((mo.2 14) (Int32.toNatClampNeg p1)).toInt = (-1) := congrArg Int32.toInt c_28
      refine lv_bipush (v := (-11)) hx hb dX6_copy_41 (by decide) ?_
      subst hQ
      exact g_iret hx hb hr hlocks hG ((mo) : Ob) rfl hE.symm dX6_copy_43
    replace hE := (if_neg c_28).symm.trans hE
    have i_28 : ((mo.2 14) (Int32.toNatClampNeg p1)).toInt ≠ (-1) := fun h => c_28 (Int32.toInt_inj.mp h)
    refine lv_aload_n hx hb dX6_copy_31 rfl (lv_at hl 0 rfl) ?_
    refine g_get hx hb hts hiX6 hown hG gw_Model rfl 14 (by decide) (index := 37) tw_fl_RX6_37 (v := .ref (gA g 68)) rfl dX6_copy_32 ?_
    refine lv_iload_n hx hb dX6_copy_35 rfl (lv_at hl 3 rfl) ?_
    refine g_ild (f := (mo.2 14)) hx hb hG gw_Model_a14 (show vp_in p3 4 from (vp_i (by clear hE; omega) (by clear hE; omega))) dX6_copy_36 ?_
    refine lv_iconst (v := (-1)) hx hb dX6_copy_37 (by decide) ?_
    refine lv_icmp_ne (tgt := 44) hx hb dX6_copy_38 (by decide) (fun c_38 => ?_) (fun c_38 => ?_)
    · replace hE := (if_neg c_38).symm.trans hE
      have i_38 : ((mo.2 14) (Int32.toNatClampNeg p3)).toInt ≠ (-1) := fun h => c_38 (Int32.toInt_inj.mp h)
      refine lv_aload_n hx hb dX6_copy_44 rfl (lv_at hl 0 rfl) ?_
      refine g_get hx hb hts hiX6 hown hG gw_Model rfl 14 (by decide) (index := 37) tw_fl_RX6_37 (v := .ref (gA g 68)) rfl dX6_copy_45 ?_
      refine lv_iload_n hx hb dX6_copy_48 rfl (lv_at hl 1 rfl) ?_
      refine g_ild (f := (mo.2 14)) hx hb hG gw_Model_a14 (show vp_in p1 4 from (vp_i (by clear hE; omega) (by clear hE; omega))) dX6_copy_49 ?_
      refine lv_aload_n hx hb dX6_copy_50 rfl (lv_at hl 0 rfl) ?_
      refine g_get hx hb hts hiX6 hown hG gw_Model rfl 14 (by decide) (index := 37) tw_fl_RX6_37 (v := .ref (gA g 68)) rfl dX6_copy_51 ?_
      refine lv_iload_n hx hb dX6_copy_54 rfl (lv_at hl 3 rfl) ?_
      refine g_ild (f := (mo.2 14)) hx hb hG gw_Model_a14 (show vp_in p3 4 from (vp_i (by clear hE; omega) (by clear hE; omega))) dX6_copy_55 ?_
      refine lv_icmp_eq (tgt := 62) hx hb dX6_copy_56 (by decide) (fun c_56 => ?_) (fun c_56 => ?_)
      · replace hE := (if_pos c_56).symm.trans hE
        have i_56 : ((mo.2 14) (Int32.toNatClampNeg p1)).toInt = ((mo.2 14) (Int32.toNatClampNeg p3)).toInt := congrArg Int32.toInt c_56
        refine lv_iload hx hb dX6_copy_62 (lv_at hl 5 rfl) ?_
        refine lv_if_lt (tgt := 124) hx hb dX6_copy_64 (by decide) (fun c_64 => ?_) (fun c_64 => ?_)
        · replace hE := (if_pos c_64).symm.trans hE
          have i_64 : p5.toInt < 0 := i_lt.mp c_64
          refine lv_bipush (v := (-12)) hx hb dX6_copy_124 (by decide) ?_
          subst hQ
          exact g_iret hx hb hr hlocks hG ((mo) : Ob) rfl hE.symm dX6_copy_126
        replace hE := (if_neg c_64).symm.trans hE
        have i_64 : 0 ≤ p5.toInt := i_nlt c_64
        refine lv_iload_n hx hb dX6_copy_67 rfl (lv_at hl 2 rfl) ?_
        refine lv_if_lt (tgt := 124) hx hb dX6_copy_68 (by decide) (fun c_68 => ?_) (fun c_68 => ?_)
        · replace hE := (if_pos c_68).symm.trans hE
          have i_68 : p2.toInt < 0 := i_lt.mp c_68
          refine lv_bipush (v := (-12)) hx hb dX6_copy_124 (by decide) ?_
          subst hQ
          exact g_iret hx hb hr hlocks hG ((mo) : Ob) rfl hE.symm dX6_copy_126
        replace hE := (if_neg c_68).symm.trans hE
        have i_68 : 0 ≤ p2.toInt := i_nlt c_68
        refine lv_iload hx hb dX6_copy_71 (lv_at hl 4 rfl) ?_
        refine lv_if_lt (tgt := 124) hx hb dX6_copy_73 (by decide) (fun c_73 => ?_) (fun c_73 => ?_)
        · replace hE := (if_pos c_73).symm.trans hE
          have i_73 : p4.toInt < 0 := i_lt.mp c_73
          refine lv_bipush (v := (-12)) hx hb dX6_copy_124 (by decide) ?_
          subst hQ
          exact g_iret hx hb hr hlocks hG ((mo) : Ob) rfl hE.symm dX6_copy_126
        replace hE := (if_neg c_73).symm.trans hE
        have i_73 : 0 ≤ p4.toInt := i_nlt c_73
        have q1 := hsz _ (show Int32.toNatClampNeg p1 < 4 by rw [tcn_i]; clear hE; omega)
        have q3 := hsz _ (show Int32.toNatClampNeg p3 < 4 by rw [tcn_i]; clear hE; omega)
        refine lv_iload_n hx hb dX6_copy_76 rfl (lv_at hl 2 rfl) ?_
        refine lv_aload_n hx hb dX6_copy_77 rfl (lv_at hl 0 rfl) ?_
        refine g_get hx hb hts hiX6 hown hG gw_Model rfl 15 (by decide) (index := 40) tw_fl_RX6_40 (v := .ref (gA g 69)) rfl dX6_copy_78 ?_
        refine lv_iload_n hx hb dX6_copy_81 rfl (lv_at hl 1 rfl) ?_
        refine g_ild (f := (mo.2 15)) hx hb hG gw_Model_a15 (show vp_in p1 4 from (vp_i (by clear hE; omega) (by clear hE; omega))) dX6_copy_82 ?_
        refine lv_icmp_gt (tgt := 124) hx hb dX6_copy_83 (by decide) (fun c_83 => ?_) (fun c_83 => ?_)
        · replace hE := (if_pos c_83).symm.trans hE
          have i_83 : ((mo.2 15) (Int32.toNatClampNeg p1)).toInt < p2.toInt := i_lt.mp c_83
          refine lv_bipush (v := (-12)) hx hb dX6_copy_124 (by decide) ?_
          subst hQ
          exact g_iret hx hb hr hlocks hG ((mo) : Ob) rfl hE.symm dX6_copy_126
        replace hE := (if_neg c_83).symm.trans hE
        have i_83 : p2.toInt ≤ ((mo.2 15) (Int32.toNatClampNeg p1)).toInt := i_nlt c_83
        refine lv_iload hx hb dX6_copy_86 (lv_at hl 4 rfl) ?_
        refine lv_aload_n hx hb dX6_copy_88 rfl (lv_at hl 0 rfl) ?_
        refine g_get hx hb hts hiX6 hown hG gw_Model rfl 15 (by decide) (index := 40) tw_fl_RX6_40 (v := .ref (gA g 69)) rfl dX6_copy_89 ?_
        refine lv_iload_n hx hb dX6_copy_92 rfl (lv_at hl 3 rfl) ?_
        refine g_ild (f := (mo.2 15)) hx hb hG gw_Model_a15 (show vp_in p3 4 from (vp_i (by clear hE; omega) (by clear hE; omega))) dX6_copy_93 ?_
        refine lv_icmp_gt (tgt := 124) hx hb dX6_copy_94 (by decide) (fun c_94 => ?_) (fun c_94 => ?_)
        · replace hE := (if_pos c_94).symm.trans hE
          have i_94 : ((mo.2 15) (Int32.toNatClampNeg p3)).toInt < p4.toInt := i_lt.mp c_94
          refine lv_bipush (v := (-12)) hx hb dX6_copy_124 (by decide) ?_
          subst hQ
          exact g_iret hx hb hr hlocks hG ((mo) : Ob) rfl hE.symm dX6_copy_126
        replace hE := (if_neg c_94).symm.trans hE
        have i_94 : p4.toInt ≤ ((mo.2 15) (Int32.toNatClampNeg p3)).toInt := i_nlt c_94
        refine lv_iload hx hb dX6_copy_97 (lv_at hl 5 rfl) ?_
        refine lv_aload_n hx hb dX6_copy_99 rfl (lv_at hl 0 rfl) ?_
        refine g_get hx hb hts hiX6 hown hG gw_Model rfl 15 (by decide) (index := 40) tw_fl_RX6_40 (v := .ref (gA g 69)) rfl dX6_copy_100 ?_
        refine lv_iload_n hx hb dX6_copy_103 rfl (lv_at hl 1 rfl) ?_
        refine g_ild (f := (mo.2 15)) hx hb hG gw_Model_a15 (show vp_in p1 4 from (vp_i (by clear hE; omega) (by clear hE; omega))) dX6_copy_104 ?_
        refine lv_iload_n hx hb dX6_copy_105 rfl (lv_at hl 2 rfl) ?_
        refine lv_isub hx hb dX6_copy_106 ?_
        have e107 : (((mo.2 15) (Int32.toNatClampNeg p1)) - p2).toInt = ((mo.2 15) (Int32.toNatClampNeg p1)).toInt - p2.toInt := fb_subI (by clear hE; omega) (by clear hE; omega)
        refine lv_icmp_gt (tgt := 124) hx hb dX6_copy_107 (by decide) (fun c_107 => ?_) (fun c_107 => ?_)
        · replace hE := (if_pos c_107).symm.trans hE
          have i_107 : (((mo.2 15) (Int32.toNatClampNeg p1)) - p2).toInt < p5.toInt := i_lt.mp c_107
          refine lv_bipush (v := (-12)) hx hb dX6_copy_124 (by decide) ?_
          subst hQ
          exact g_iret hx hb hr hlocks hG ((mo) : Ob) rfl hE.symm dX6_copy_126
        replace hE := (if_neg c_107).symm.trans hE
        have i_107 : p5.toInt ≤ (((mo.2 15) (Int32.toNatClampNeg p1)) - p2).toInt := i_nlt c_107
        refine lv_iload hx hb dX6_copy_110 (lv_at hl 5 rfl) ?_
        refine lv_aload_n hx hb dX6_copy_112 rfl (lv_at hl 0 rfl) ?_
        refine g_get hx hb hts hiX6 hown hG gw_Model rfl 15 (by decide) (index := 40) tw_fl_RX6_40 (v := .ref (gA g 69)) rfl dX6_copy_113 ?_
        refine lv_iload_n hx hb dX6_copy_116 rfl (lv_at hl 3 rfl) ?_
        refine g_ild (f := (mo.2 15)) hx hb hG gw_Model_a15 (show vp_in p3 4 from (vp_i (by clear hE; omega) (by clear hE; omega))) dX6_copy_117 ?_
        refine lv_iload hx hb dX6_copy_118 (lv_at hl 4 rfl) ?_
        refine lv_isub hx hb dX6_copy_120 ?_
        have e121 : (((mo.2 15) (Int32.toNatClampNeg p3)) - p4).toInt = ((mo.2 15) (Int32.toNatClampNeg p3)).toInt - p4.toInt := fb_subI (by clear hE; omega) (by clear hE; omega)
        refine lv_icmp_le (tgt := 127) hx hb dX6_copy_121 (by decide) (fun c_121 => ?_) (fun c_121 => ?_)
        · replace hE := (if_pos c_121).symm.trans hE
          have i_121 : p5.toInt ≤ (((mo.2 15) (Int32.toNatClampNeg p3)) - p4).toInt := i_le.mp c_121
          refine lv_bipush (v := 40) hx hb dX6_copy_127 (by decide) ?_
          refine lv_iload_n hx hb dX6_copy_129 rfl (lv_at hl 1 rfl) ?_
          refine lv_imul hx hb dX6_copy_130 ?_
          refine lv_iload_n hx hb dX6_copy_131 rfl (lv_at hl 2 rfl) ?_
          refine lv_iadd hx hb dX6_copy_132 ?_
          refine lv_istore (lv' := [(6, .int ((40 * p1) + p2)), (0, .ref (gA g 58)), (1, .int p1), (2, .int p2), (3, .int p3), (4, .int p4), (5, .int p5)]) hx hb dX6_copy_133 hl (by decide) rfl (fun ls hl => ?_)
          replace hl := lv_sub hl [1, 2, 3, 4, 5, 6, 0] (l' := [(0, .ref (gA g 58)), (1, .int p1), (2, .int p2), (3, .int p3), (4, .int p4), (5, .int p5), (6, .int ((40 * p1) + p2))]) rfl
          refine lv_bipush (v := 40) hx hb dX6_copy_135 (by decide) ?_
          refine lv_iload_n hx hb dX6_copy_137 rfl (lv_at hl 3 rfl) ?_
          refine lv_imul hx hb dX6_copy_138 ?_
          refine lv_iload hx hb dX6_copy_139 (lv_at hl 4 rfl) ?_
          refine lv_iadd hx hb dX6_copy_141 ?_
          refine lv_istore (lv' := [(7, .int ((40 * p3) + p4)), (0, .ref (gA g 58)), (1, .int p1), (2, .int p2), (3, .int p3), (4, .int p4), (5, .int p5), (6, .int ((40 * p1) + p2))]) hx hb dX6_copy_142 hl (by decide) rfl (fun ls hl => ?_)
          replace hl := lv_sub hl [1, 2, 3, 4, 5, 6, 7, 0] (l' := [(0, .ref (gA g 58)), (1, .int p1), (2, .int p2), (3, .int p3), (4, .int p4), (5, .int p5), (6, .int ((40 * p1) + p2)), (7, .int ((40 * p3) + p4))]) rfl
          refine lv_iconst (v := 0) hx hb dX6_copy_144 (by decide) ?_
          refine lv_istore (lv' := [(8, .int 0), (0, .ref (gA g 58)), (1, .int p1), (2, .int p2), (3, .int p3), (4, .int p4), (5, .int p5), (6, .int ((40 * p1) + p2)), (7, .int ((40 * p3) + p4))]) hx hb dX6_copy_145 hl (by decide) rfl (fun ls hl => ?_)
          replace hl := lv_sub hl [1, 2, 3, 4, 5, 6, 7, 8, 0] (l' := [(0, .ref (gA g 58)), (1, .int p1), (2, .int p2), (3, .int p3), (4, .int p4), (5, .int p5), (6, .int ((40 * p1) + p2)), (7, .int ((40 * p3) + p4)), (8, .int 0)]) rfl
          have L147 : ∀ (n147 : Nat) (x8_147 : Int32) (mo_147 : Ob) (H : Heap) (locs : List Loc), gS g A s H locs (gW g bb tx rw sb dy tn mo_147 jk) → ∀ ls : Array Slot, lv_has ls 10 [(0, .ref (gA g 58)), (5, .int p5), (6, .int ((40 * p1) + p2)), (7, .int ((40 * p3) + p4)), (8, .int x8_147)] → 0 ≤ x8_147.toInt → x8_147.toInt ≤ 40 → 40 < x8_147.toInt + n147 → F_X6_copy_l147 n147  mo_147 p5 ((40 * p1) + p2) ((40 * p3) + p4) x8_147 = EE → W p l e (rmL (2)) s m [.ref (gA g 58), .int p1, .int p2, .int p3, .int p4, .int p5].toArray below meth c H locs 0 0 Q (F0 m 147 ls []) := by
            intro n147
            induction n147 with
            | zero =>
              intro x8_147 mo_147 H locs hG ls hl h0_147 h1_147 hm_147 hE
              clear hE; omega
            | succ n147 ih147 =>
              intro x8_147 mo_147 H locs hG ls hl h0_147 h1_147 hm_147 hE
              unfold F_X6_copy_l147 at hE
              refine lv_iload hx hb dX6_copy_147 (lv_at hl 4 rfl) ?_
              refine lv_iload hx hb dX6_copy_149 (lv_at hl 1 rfl) ?_
              refine lv_icmp_ge (tgt := 201) hx hb dX6_copy_151 (by decide) (fun c_151 => ?_) (fun c_151 => ?_)
              · replace hE := (if_pos c_151).symm.trans hE
                have i_151 : p5.toInt ≤ x8_147.toInt := i_le.mp c_151
                refine lv_iload hx hb dX6_copy_201 (lv_at hl 1 rfl) ?_
                subst hQ
                exact g_iret hx hb hr hlocks hG ((mo_147) : Ob) rfl hE.symm dX6_copy_203
              replace hE := (if_neg c_151).symm.trans hE
              have i_151 : x8_147.toInt < p5.toInt := i_nle c_151
              refine lv_iload hx hb dX6_copy_154 (lv_at hl 2 rfl) ?_
              refine lv_iload hx hb dX6_copy_156 (lv_at hl 3 rfl) ?_
              have J173 : ∀ (z0_173 : Int32) (H : Heap) (locs : List Loc), gS g A s H locs (gW g bb tx rw sb dy tn mo_147 jk) → ∀ ls : Array Slot, lv_has ls 10 [(0, .ref (gA g 58)), (5, .int p5), (6, .int ((40 * p1) + p2)), (7, .int ((40 * p3) + p4)), (8, .int x8_147)] → 0 ≤ z0_173.toInt ∧ z0_173.toInt < p5.toInt → F_X6_copy_b173  (F_X6_copy_l147 n147 ) mo_147 p5 ((40 * p1) + p2) ((40 * p3) + p4) x8_147 z0_173 = EE → W p l e (rmL (2)) s m [.ref (gA g 58), .int p1, .int p2, .int p3, .int p4, .int p5].toArray below meth c H locs 0 0 Q (F0 m 173 ls [.int z0_173]) := by
                intro z0_173 H locs hG ls hl hj173 hE
                unfold F_X6_copy_b173 at hE
                refine lv_istore (lv' := [(9, .int z0_173), (0, .ref (gA g 58)), (5, .int p5), (6, .int ((40 * p1) + p2)), (7, .int ((40 * p3) + p4)), (8, .int x8_147)]) hx hb dX6_copy_173 hl (by decide) rfl (fun ls hl => ?_)
                replace hl := lv_sub hl [1, 2, 3, 4, 5, 0] (l' := [(0, .ref (gA g 58)), (5, .int p5), (6, .int ((40 * p1) + p2)), (7, .int ((40 * p3) + p4)), (8, .int x8_147), (9, .int z0_173)]) rfl
                refine lv_aload_n hx hb dX6_copy_175 rfl (lv_at hl 0 rfl) ?_
                refine g_get hx hb hts hiX6 hown hG gw_Model rfl 16 (by decide) (index := 43) tw_fl_RX6_43 (v := .ref (gA g 70)) rfl dX6_copy_176 ?_
                refine lv_iload hx hb dX6_copy_179 (lv_at hl 3 rfl) ?_
                refine lv_iload hx hb dX6_copy_181 (lv_at hl 5 rfl) ?_
                refine lv_iadd hx hb dX6_copy_183 ?_
                refine lv_aload_n hx hb dX6_copy_184 rfl (lv_at hl 0 rfl) ?_
                refine g_get hx hb hts hiX6 hown hG gw_Model rfl 16 (by decide) (index := 43) tw_fl_RX6_43 (v := .ref (gA g 70)) rfl dX6_copy_185 ?_
                refine lv_iload hx hb dX6_copy_188 (lv_at hl 2 rfl) ?_
                refine lv_iload hx hb dX6_copy_190 (lv_at hl 5 rfl) ?_
                refine lv_iadd hx hb dX6_copy_192 ?_
                have e1 : (40 * p1).toInt = 40 * p1.toInt := mulL (k := 40) (by decide +kernel) (by clear hE; omega) (by clear hE; omega)
                have e2 : ((40 * p1) + p2).toInt = (40 * p1).toInt + p2.toInt := fb_addI (by clear hE; omega) (by clear hE; omega)
                have e3 : (((40 * p1) + p2) + z0_173).toInt = ((40 * p1) + p2).toInt + z0_173.toInt := fb_addI (by clear hE; omega) (by clear hE; omega)
                refine g_ild (f := (mo_147.2 16)) hx hb hG gw_Model_a16 (show vp_in (((40 * p1) + p2) + z0_173) 160 from (vp_i (by clear hE; omega) (by clear hE; omega))) dX6_copy_193 ?_
                have e4 : (40 * p3).toInt = 40 * p3.toInt := mulL (k := 40) (by decide +kernel) (by clear hE; omega) (by clear hE; omega)
                have e5 : ((40 * p3) + p4).toInt = (40 * p3).toInt + p4.toInt := fb_addI (by clear hE; omega) (by clear hE; omega)
                have e6 : (((40 * p3) + p4) + z0_173).toInt = ((40 * p3) + p4).toInt + z0_173.toInt := fb_addI (by clear hE; omega) (by clear hE; omega)
                refine g_ist hx hb hG gw_Model_a16 (show vp_in (((40 * p3) + p4) + z0_173) 160 from (vp_i (by clear hE; omega) (by clear hE; omega))) gs_Model_a16 dX6_copy_194 (fun H locs hG => ?_)
                refine lv_iinc (v := (x8_147 + 1)) (lv' := [(8, .int (x8_147 + 1)), (0, .ref (gA g 58)), (5, .int p5), (6, .int ((40 * p1) + p2)), (7, .int ((40 * p3) + p4)), (9, .int z0_173)]) hx hb dX6_copy_195 hl (k := 4) rfl rfl (by decide) rfl (fun ls hl => ?_)
                replace hl := lv_sub hl [1, 2, 3, 4, 0, 5] (l' := [(0, .ref (gA g 58)), (5, .int p5), (6, .int ((40 * p1) + p2)), (7, .int ((40 * p3) + p4)), (8, .int (x8_147 + 1)), (9, .int z0_173)]) rfl
                refine lv_goto (tgt := 147) hx hb dX6_copy_198 (by decide) ?_
                have e7 : (x8_147 + 1).toInt = x8_147.toInt + 1 := addL (k := 1) (by decide +kernel) (by clear hE; omega) (by clear hE; omega)
                exact ih147 (x8_147 + 1) (stA mo_147 16 (((40 * p3) + p4) + z0_173) ((mo_147.2 16) (Int32.toNatClampNeg (((40 * p1) + p2) + z0_173)))) _ _ hG _ (lv_sub hl [0, 1, 2, 3, 4] rfl) (by clear hE; omega) (by clear hE; omega) (by clear hE; omega) hE
              refine lv_icmp_ge (tgt := 171) hx hb dX6_copy_158 (by decide) (fun c_158 => ?_) (fun c_158 => ?_)
              · replace hE := (if_pos c_158).symm.trans hE
                have i_158 : ((40 * p3) + p4).toInt ≤ ((40 * p1) + p2).toInt := i_le.mp c_158
                refine lv_iload hx hb dX6_copy_171 (lv_at hl 4 rfl) ?_
                exact J173 x8_147 _ _ hG _ (lv_sub hl [0, 1, 2, 3, 4] rfl) (by have a1 : (p5 - 1).toInt = p5.toInt - 1 := subL (k := 1) (by decide +kernel) (by clear hE; omega) (by clear hE; omega); have a2 : ((p5 - 1) - x8_147).toInt = (p5 - 1).toInt - x8_147.toInt := fb_subI (by clear hE; omega) (by clear hE; omega); clear hE; omega) hE
              replace hE := (if_neg c_158).symm.trans hE
              have i_158 : ((40 * p1) + p2).toInt < ((40 * p3) + p4).toInt := i_nle c_158
              refine lv_iload hx hb dX6_copy_161 (lv_at hl 1 rfl) ?_
              refine lv_iconst (v := 1) hx hb dX6_copy_163 (by decide) ?_
              refine lv_isub hx hb dX6_copy_164 ?_
              refine lv_iload hx hb dX6_copy_165 (lv_at hl 4 rfl) ?_
              refine lv_isub hx hb dX6_copy_167 ?_
              refine lv_goto (tgt := 173) hx hb dX6_copy_168 (by decide) ?_
              exact J173 ((p5 - 1) - x8_147) _ _ hG _ (lv_sub hl [0, 1, 2, 3, 4] rfl) (by have a1 : (p5 - 1).toInt = p5.toInt - 1 := subL (k := 1) (by decide +kernel) (by clear hE; omega) (by clear hE; omega); have a2 : ((p5 - 1) - x8_147).toInt = (p5 - 1).toInt - x8_147.toInt := fb_subI (by clear hE; omega) (by clear hE; omega); clear hE; omega) hE
          exact L147 41 0 mo _ _ hG _ (lv_sub hl [0, 5, 6, 7, 8] rfl) (by decide) (by decide) (by decide) hE
        replace hE := (if_neg c_121).symm.trans hE
        have i_121 : (((mo.2 15) (Int32.toNatClampNeg p3)) - p4).toInt < p5.toInt := i_nle c_121
        refine lv_bipush (v := (-12)) hx hb dX6_copy_124 (by decide) ?_
        subst hQ
        exact g_iret hx hb hr hlocks hG ((mo) : Ob) rfl hE.symm dX6_copy_126
      replace hE := (if_neg c_56).symm.trans hE
      have i_56 : ((mo.2 14) (Int32.toNatClampNeg p1)).toInt ≠ ((mo.2 14) (Int32.toNatClampNeg p3)).toInt := fun h => c_56 (Int32.toInt_inj.mp h)
      refine lv_bipush (v := (-13)) hx hb dX6_copy_59 (by decide) ?_
      subst hQ
      exact g_iret hx hb hr hlocks hG ((mo) : Ob) rfl hE.symm dX6_copy_61
    replace hE := (if_pos c_38).symm.trans hE
    have i_38 : ((mo.2 14) (Int32.toNatClampNeg p3)).toInt = (-1) := congrArg Int32.toInt c_38
    refine lv_bipush (v := (-11)) hx hb dX6_copy_41 (by decide) ?_
    subst hQ
    exact g_iret hx hb hr hlocks hG ((mo) : Ob) rfl hE.symm dX6_copy_43
  replace hE := (if_pos c_15).symm.trans hE
  refine lv_bipush (v := (-2)) hx hb dX6_copy_18 (by decide) ?_
  subst hQ
  exact g_iret hx hb hr hlocks hG ((mo) : Ob) rfl hE.symm dX6_copy_20
theorem person_ok {m r : Ob} {v a b c : Int32} (hp : F_X6_person m a b c = (v, r)) (h : 0 ≤ (m.1 0).toInt ∧ (m.1 0).toInt ≤ 6) : (0 ≤ (r.1 0).toInt ∧ (r.1 0).toInt ≤ 6) ∧ r.2 15 = m.2 15 := by
  have e : r = (F_X6_person m a b c).2 := by rw [hp]
  rw [e]
  unfold F_X6_person
  split
  · exact ⟨h, rfl⟩
  · split
    · exact ⟨h, rfl⟩
    · split
      · exact ⟨h, rfl⟩
      · split
        · exact ⟨h, rfl⟩
        · rename_i k
          have e6 : (6 : Int32).toInt = 6 := rfl
          have hne : (m.1 0).toInt ≠ 6 := fun q => k (Int32.toInt_inj.mp (q.trans e6.symm))
          have e1 : (m.1 0 + 1).toInt = (m.1 0).toInt + 1 := addL (k := 1) (by decide +kernel) (by omega) (by omega)
          refine ⟨?_, rfl⟩
          show 0 ≤ (m.1 0 + 1).toInt ∧ (m.1 0 + 1).toInt ≤ 6
          omega

def F_X6_townBy_b153 (K64 : Ob → Int32 → Int32 → Int32 → Int32 → Int32 → Int32 × Ob) (mo : Ob) (x1 : Int32) (x3 : Int32) (x4 : Int32) (x6 : Int32) (z0 : Int32) (z1 : Int32) : Int32 × Ob :=
  (K64 mo x1 x3 x4 (z0 + z1) (x6 + 1))
def F_X6_townBy_c142 (K64 : Ob → Int32 → Int32 → Int32 → Int32 → Int32 → Int32 × Ob) (u : Int32 × Ob) (x1 : Int32) (x3 : Int32) (x4 : Int32) (x6 : Int32) (z0 : Int32) : Int32 × Ob :=
  (if u.1 < 0 then (F_X6_townBy_b153 K64 u.2 x1 x3 x4 x6 z0 0) else (F_X6_townBy_b153 K64 u.2 x1 x3 x4 x6 z0 1))
def F_X6_townBy_l64 : Nat → Ob → Int32 → Int32 → Int32 → Int32 → Int32 → Int32 × Ob
  | 0, mo, _, _, _, _, _ => (0, mo)
  | n + 1, mo, x1, x3, x4, x5, x6 =>
    (if x4 ≤ x6 then (x5, mo) else (if x3 < 0 then ((-12), mo) else (if (x3 + (3 * x6)) < x3 then ((-12), mo) else (if (x3 + (3 * x6)) ≤ (((mo.2 15) (Int32.toNatClampNeg x1)) - 3) then (F_X6_townBy_c142 (F_X6_townBy_l64 n ) (F_X6_person mo ((mo.2 16) (Int32.toNatClampNeg ((40 * x1) + (x3 + (3 * x6))))) ((mo.2 16) (Int32.toNatClampNeg (((40 * x1) + (x3 + (3 * x6))) + 1))) ((mo.2 16) (Int32.toNatClampNeg (((40 * x1) + (x3 + (3 * x6))) + 2)))) x1 x3 x4 x6 x5) else ((-12), mo)))))
def F_X6_townBy (mo : Ob) (p1 : Int32) (p2 : Int32) (p3 : Int32) (p4 : Int32) : Int32 × Ob :=
  (if (F_X6_in p1 0 3) = 0 then ((-2), mo) else (if (F_X6_in p2 0 2) = 0 then ((-2), mo) else (if (F_X6_in p4 0 6) = 0 then ((-2), mo) else (if ((mo.2 14) (Int32.toNatClampNeg p1)) = (-1) then ((-11), mo) else (if ((mo.2 14) (Int32.toNatClampNeg p1)) = p2 then (F_X6_townBy_l64 7  mo p1 p3 p4 0 0) else ((-13), mo))))))
set_option maxHeartbeats 4000000 in
set_option maxRecDepth 100000 in
theorem c_X6_townBy {l : Launch} {g : GG} {sz : Nat} {bb : Ob} {tx rw : Nat → Ob} {sb dy : Ob} {tn : Nat → Ob} {mo : Ob} {jk : Nat → Nat → Int32}  (p1 : Int32) (p2 : Int32) (p3 : Int32) (p4 : Int32) (hsz : ∀ s : Nat, s < 4 → 0 ≤ ((mo.2 15) s).toInt ∧ ((mo.2 15) s).toInt ≤ 40) (hpo : 0 ≤ (mo.1 0).toInt ∧ (mo.1 0).toInt ≤ 6) : Met l yX6_townBy (Cond.code yX6_townBy cX6_townBy 9 (some .int) :: TT) (rmL (3)) (va_Pc [.ref (gA g 58), .int p1, .int p2, .int p3, .int p4] (gB g sz (gW g bb tx rw sb dy tn mo jk))) (va_Qi (fun r (u : Ob) => (F_X6_townBy mo p1 p2 p3 p4) = (r, u)) (fun u t => gC g (va_A (gW g bb tx rw sb dy tn mo jk) sz) (gW g bb tx rw sb dy tn u jk) t) (va_A (gW g bb tx rw sb dy tn mo jk) sz)) 0 0 (va_A (gW g bb tx rw sb dy tn mo jk) sz) := by
  generalize hE : F_X6_townBy mo p1 p2 p3 p4 = EE
  refine g_of (Qf := fun A => (va_Qi (fun r (u : Ob) => EE = (r, u)) (fun u t => gC g A (gW g bb tx rw sb dy tn u jk) t) A)) (cc := cX6_townBy) (maxL := 9) (ret := (some .int)) (by decide) (Nat.le_of_ble_eq_true rfl) ?_
  intro p e s m below meth c A ls hx hb hml hr hlocks hts hown hA hG hl
  replace hown : s.vm.findClass RX6 = some m.cls := hown
  replace hl : lv_has ls 9 [(0, .ref (gA g 58)), (1, .int p1), (2, .int p2), (3, .int p3), (4, .int p4)] := hl
  show W p l e (rmL (3)) s m [.ref (gA g 58), .int p1, .int p2, .int p3, .int p4].toArray below meth c s.heap [] 0 0 (MQ below (va_Qi (fun r (u : Ob) => EE = (r, u)) (fun u t => gC g A (gW g bb tx rw sb dy tn u jk) t) A) [.ref (gA g 58), .int p1, .int p2, .int p3, .int p4].toArray s 0 0 A) (F0 m 0 ls [])
  generalize hQ : MQ below (va_Qi (fun r (u : Ob) => EE = (r, u)) (fun u t => gC g A (gW g bb tx rw sb dy tn u jk) t) A) [.ref (gA g 58), .int p1, .int p2, .int p3, .int p4].toArray s 0 0 A = Q
  unfold F_X6_townBy at hE
  refine lv_iload_n hx hb dX6_townBy_0 rfl (lv_at hl 1 rfl) ?_
  refine lv_iconst (v := 0) hx hb dX6_townBy_1 (by decide) ?_
  refine lv_iconst (v := 3) hx hb dX6_townBy_2 (by decide) ?_
  refine g_si (g_runS (n := 3) (rest := []) hx hb hml hown hts hG (c_X6_in p1 0 3) tw_ml_RX6_81 tw_st_X6_in tw_in_RX6 tw_cd_X6_in (by decide +kernel) ⟨rfl, rfl, Nat.le_of_ble_eq_true rfl, Nat.le_of_ble_eq_true rfl⟩ rfl hl.1 rfl (Nat.le_of_ble_eq_true rfl) dX6_townBy_3 ⟨Nat.le_refl _, Nat.le_refl _⟩) hG hA (fun H locs hG => ?_)
  refine lv_if_eq (tgt := 29) hx hb dX6_townBy_6 (by decide) (fun c_6 => ?_) (fun c_6 => ?_)
  · replace hE := (if_pos c_6).symm.trans hE
    refine lv_bipush (v := (-2)) hx hb dX6_townBy_29 (by decide) ?_
    subst hQ
    exact g_iret hx hb hr hlocks hG ((mo) : Ob) rfl hE.symm dX6_townBy_31
  replace hE := (if_neg c_6).symm.trans hE
  have i_6 : 0 ≤ p1.toInt ∧ p1.toInt ≤ 3 := in_f c_6
  refine lv_iload_n hx hb dX6_townBy_9 rfl (lv_at hl 2 rfl) ?_
  refine lv_iconst (v := 0) hx hb dX6_townBy_10 (by decide) ?_
  refine lv_iconst (v := 2) hx hb dX6_townBy_11 (by decide) ?_
  refine g_si (g_runS (n := 3) (rest := []) hx hb hml hown hts hG (c_X6_in p2 0 2) tw_ml_RX6_81 tw_st_X6_in tw_in_RX6 tw_cd_X6_in (by decide +kernel) ⟨rfl, rfl, Nat.le_of_ble_eq_true rfl, Nat.le_of_ble_eq_true rfl⟩ rfl hl.1 rfl (Nat.le_of_ble_eq_true rfl) dX6_townBy_12 ⟨Nat.le_refl _, Nat.le_refl _⟩) hG hA (fun H locs hG => ?_)
  refine lv_if_eq (tgt := 29) hx hb dX6_townBy_15 (by decide) (fun c_15 => ?_) (fun c_15 => ?_)
  · replace hE := (if_pos c_15).symm.trans hE
    refine lv_bipush (v := (-2)) hx hb dX6_townBy_29 (by decide) ?_
    subst hQ
    exact g_iret hx hb hr hlocks hG ((mo) : Ob) rfl hE.symm dX6_townBy_31
  replace hE := (if_neg c_15).symm.trans hE
  have i_15 : 0 ≤ p2.toInt ∧ p2.toInt ≤ 2 := in_f c_15
  refine lv_iload hx hb dX6_townBy_18 (lv_at hl 4 rfl) ?_
  refine lv_iconst (v := 0) hx hb dX6_townBy_20 (by decide) ?_
  refine lv_bipush (v := 6) hx hb dX6_townBy_21 (by decide) ?_
  refine g_si (g_runS (n := 3) (rest := []) hx hb hml hown hts hG (c_X6_in p4 0 6) tw_ml_RX6_81 tw_st_X6_in tw_in_RX6 tw_cd_X6_in (by decide +kernel) ⟨rfl, rfl, Nat.le_of_ble_eq_true rfl, Nat.le_of_ble_eq_true rfl⟩ rfl hl.1 rfl (Nat.le_of_ble_eq_true rfl) dX6_townBy_23 ⟨Nat.le_refl _, Nat.le_refl _⟩) hG hA (fun H locs hG => ?_)
  refine lv_if_ne (tgt := 32) hx hb dX6_townBy_26 (by decide) (fun c_26 => ?_) (fun c_26 => ?_)
  · replace hE := (if_neg c_26).symm.trans hE
    have i_26 : 0 ≤ p4.toInt ∧ p4.toInt ≤ 6 := in_f c_26
    refine lv_aload_n hx hb dX6_townBy_32 rfl (lv_at hl 0 rfl) ?_
    refine g_get hx hb hts hiX6 hown hG gw_Model rfl 14 (by decide) (index := 37) tw_fl_RX6_37 (v := .ref (gA g 68)) rfl dX6_townBy_33 ?_
    refine lv_iload_n hx hb dX6_townBy_36 rfl (lv_at hl 1 rfl) ?_
    refine g_ild (f := (mo.2 14)) hx hb hG gw_Model_a14 (show vp_in p1 4 from (vp_i (by clear hE; omega) (by clear hE; omega))) dX6_townBy_37 ?_
    refine lv_iconst (v := (-1)) hx hb dX6_townBy_38 (by decide) ?_
    refine lv_icmp_ne (tgt := 45) hx hb dX6_townBy_39 (by decide) (fun c_39 => ?_) (fun c_39 => ?_)
    · replace hE := (if_neg c_39).symm.trans hE
      have i_39 : ((mo.2 14) (Int32.toNatClampNeg p1)).toInt ≠ (-1) := fun h => c_39 (Int32.toInt_inj.mp h)
      refine lv_aload_n hx hb dX6_townBy_45 rfl (lv_at hl 0 rfl) ?_
      refine g_get hx hb hts hiX6 hown hG gw_Model rfl 14 (by decide) (index := 37) tw_fl_RX6_37 (v := .ref (gA g 68)) rfl dX6_townBy_46 ?_
      refine lv_iload_n hx hb dX6_townBy_49 rfl (lv_at hl 1 rfl) ?_
      refine g_ild (f := (mo.2 14)) hx hb hG gw_Model_a14 (show vp_in p1 4 from (vp_i (by clear hE; omega) (by clear hE; omega))) dX6_townBy_50 ?_
      refine lv_iload_n hx hb dX6_townBy_51 rfl (lv_at hl 2 rfl) ?_
      refine lv_icmp_eq (tgt := 58) hx hb dX6_townBy_52 (by decide) (fun c_52 => ?_) (fun c_52 => ?_)
      · replace hE := (if_pos c_52).symm.trans hE
        have i_52 : ((mo.2 14) (Int32.toNatClampNeg p1)).toInt = p2.toInt := congrArg Int32.toInt c_52
        refine lv_iconst (v := 0) hx hb dX6_townBy_58 (by decide) ?_
        refine lv_istore (lv' := [(5, .int 0), (0, .ref (gA g 58)), (1, .int p1), (2, .int p2), (3, .int p3), (4, .int p4)]) hx hb dX6_townBy_59 hl (by decide) rfl (fun ls hl => ?_)
        replace hl := lv_sub hl [1, 2, 3, 4, 5, 0] (l' := [(0, .ref (gA g 58)), (1, .int p1), (2, .int p2), (3, .int p3), (4, .int p4), (5, .int 0)]) rfl
        refine lv_iconst (v := 0) hx hb dX6_townBy_61 (by decide) ?_
        refine lv_istore (lv' := [(6, .int 0), (0, .ref (gA g 58)), (1, .int p1), (2, .int p2), (3, .int p3), (4, .int p4), (5, .int 0)]) hx hb dX6_townBy_62 hl (by decide) rfl (fun ls hl => ?_)
        replace hl := lv_sub hl [1, 2, 3, 4, 5, 6, 0] (l' := [(0, .ref (gA g 58)), (1, .int p1), (2, .int p2), (3, .int p3), (4, .int p4), (5, .int 0), (6, .int 0)]) rfl
        have L64 : ∀ (n64 : Nat) (x5_64 : Int32) (x6_64 : Int32) (mo_64 : Ob) (H : Heap) (locs : List Loc), gS g A s H locs (gW g bb tx rw sb dy tn mo_64 jk) → ∀ ls : Array Slot, lv_has ls 9 [(0, .ref (gA g 58)), (1, .int p1), (3, .int p3), (4, .int p4), (5, .int x5_64), (6, .int x6_64)] → 0 ≤ x6_64.toInt → x6_64.toInt ≤ 6 → 6 < x6_64.toInt + n64 → 0 ≤ (mo_64.1 0).toInt ∧ (mo_64.1 0).toInt ≤ 6 → 0 ≤ (((mo_64.2 15) (Int32.toNatClampNeg p1))).toInt ∧ (((mo_64.2 15) (Int32.toNatClampNeg p1))).toInt ≤ 40 → F_X6_townBy_l64 n64  mo_64 p1 p3 p4 x5_64 x6_64 = EE → W p l e (rmL (3)) s m [.ref (gA g 58), .int p1, .int p2, .int p3, .int p4].toArray below meth c H locs 0 0 Q (F0 m 64 ls []) := by
          intro n64
          induction n64 with
          | zero =>
            intro x5_64 x6_64 mo_64 H locs hG ls hl h0_64 h1_64 hm_64 hp64 hz64 hE
            clear hE; omega
          | succ n64 ih64 =>
            intro x5_64 x6_64 mo_64 H locs hG ls hl h0_64 h1_64 hm_64 hp64 hz64 hE
            unfold F_X6_townBy_l64 at hE
            refine lv_iload hx hb dX6_townBy_64 (lv_at hl 5 rfl) ?_
            refine lv_iload hx hb dX6_townBy_66 (lv_at hl 3 rfl) ?_
            refine lv_icmp_ge (tgt := 162) hx hb dX6_townBy_68 (by decide) (fun c_68 => ?_) (fun c_68 => ?_)
            · replace hE := (if_pos c_68).symm.trans hE
              have i_68 : p4.toInt ≤ x6_64.toInt := i_le.mp c_68
              refine lv_iload hx hb dX6_townBy_162 (lv_at hl 4 rfl) ?_
              subst hQ
              exact g_iret hx hb hr hlocks hG ((mo_64) : Ob) rfl hE.symm dX6_townBy_164
            replace hE := (if_neg c_68).symm.trans hE
            have i_68 : x6_64.toInt < p4.toInt := i_nle c_68
            refine lv_iload_n hx hb dX6_townBy_71 rfl (lv_at hl 2 rfl) ?_
            refine lv_iconst (v := 3) hx hb dX6_townBy_72 (by decide) ?_
            refine lv_iload hx hb dX6_townBy_73 (lv_at hl 5 rfl) ?_
            refine lv_imul hx hb dX6_townBy_75 ?_
            refine lv_iadd hx hb dX6_townBy_76 ?_
            refine lv_istore (lv' := [(7, .int (p3 + (3 * x6_64))), (0, .ref (gA g 58)), (1, .int p1), (3, .int p3), (4, .int p4), (5, .int x5_64), (6, .int x6_64)]) hx hb dX6_townBy_77 hl (by decide) rfl (fun ls hl => ?_)
            replace hl := lv_sub hl [1, 2, 3, 4, 5, 6, 0] (l' := [(0, .ref (gA g 58)), (1, .int p1), (3, .int p3), (4, .int p4), (5, .int x5_64), (6, .int x6_64), (7, .int (p3 + (3 * x6_64)))]) rfl
            refine lv_iload_n hx hb dX6_townBy_79 rfl (lv_at hl 2 rfl) ?_
            refine lv_if_lt (tgt := 102) hx hb dX6_townBy_80 (by decide) (fun c_80 => ?_) (fun c_80 => ?_)
            · replace hE := (if_pos c_80).symm.trans hE
              have i_80 : p3.toInt < 0 := i_lt.mp c_80
              refine lv_bipush (v := (-12)) hx hb dX6_townBy_102 (by decide) ?_
              subst hQ
              exact g_iret hx hb hr hlocks hG ((mo_64) : Ob) rfl hE.symm dX6_townBy_104
            replace hE := (if_neg c_80).symm.trans hE
            have i_80 : 0 ≤ p3.toInt := i_nlt c_80
            refine lv_iload hx hb dX6_townBy_83 (lv_at hl 6 rfl) ?_
            refine lv_iload_n hx hb dX6_townBy_85 rfl (lv_at hl 2 rfl) ?_
            refine lv_icmp_lt (tgt := 102) hx hb dX6_townBy_86 (by decide) (fun c_86 => ?_) (fun c_86 => ?_)
            · replace hE := (if_pos c_86).symm.trans hE
              have i_86 : (p3 + (3 * x6_64)).toInt < p3.toInt := i_lt.mp c_86
              refine lv_bipush (v := (-12)) hx hb dX6_townBy_102 (by decide) ?_
              subst hQ
              exact g_iret hx hb hr hlocks hG ((mo_64) : Ob) rfl hE.symm dX6_townBy_104
            replace hE := (if_neg c_86).symm.trans hE
            have i_86 : p3.toInt ≤ (p3 + (3 * x6_64)).toInt := i_nlt c_86
            refine lv_iload hx hb dX6_townBy_89 (lv_at hl 6 rfl) ?_
            refine lv_aload_n hx hb dX6_townBy_91 rfl (lv_at hl 0 rfl) ?_
            refine g_get hx hb hts hiX6 hown hG gw_Model rfl 15 (by decide) (index := 40) tw_fl_RX6_40 (v := .ref (gA g 69)) rfl dX6_townBy_92 ?_
            refine lv_iload_n hx hb dX6_townBy_95 rfl (lv_at hl 1 rfl) ?_
            refine g_ild (f := (mo_64.2 15)) hx hb hG gw_Model_a15 (show vp_in p1 4 from (vp_i (by clear hE; omega) (by clear hE; omega))) dX6_townBy_96 ?_
            refine lv_iconst (v := 3) hx hb dX6_townBy_97 (by decide) ?_
            refine lv_isub hx hb dX6_townBy_98 ?_
            have e99 : (((mo_64.2 15) (Int32.toNatClampNeg p1)) - 3).toInt = ((mo_64.2 15) (Int32.toNatClampNeg p1)).toInt - 3 := subL (k := 3) (by decide +kernel) (by clear hE; omega) (by clear hE; omega)
            refine lv_icmp_le (tgt := 105) hx hb dX6_townBy_99 (by decide) (fun c_99 => ?_) (fun c_99 => ?_)
            · replace hE := (if_pos c_99).symm.trans hE
              have i_99 : (p3 + (3 * x6_64)).toInt ≤ (((mo_64.2 15) (Int32.toNatClampNeg p1)) - 3).toInt := i_le.mp c_99
              refine lv_bipush (v := 40) hx hb dX6_townBy_105 (by decide) ?_
              refine lv_iload_n hx hb dX6_townBy_107 rfl (lv_at hl 1 rfl) ?_
              refine lv_imul hx hb dX6_townBy_108 ?_
              refine lv_iload hx hb dX6_townBy_109 (lv_at hl 6 rfl) ?_
              refine lv_iadd hx hb dX6_townBy_111 ?_
              refine lv_istore (lv' := [(8, .int ((40 * p1) + (p3 + (3 * x6_64)))), (0, .ref (gA g 58)), (1, .int p1), (3, .int p3), (4, .int p4), (5, .int x5_64), (6, .int x6_64), (7, .int (p3 + (3 * x6_64)))]) hx hb dX6_townBy_112 hl (by decide) rfl (fun ls hl => ?_)
              replace hl := lv_sub hl [1, 2, 3, 4, 5, 6, 7, 0] (l' := [(0, .ref (gA g 58)), (1, .int p1), (3, .int p3), (4, .int p4), (5, .int x5_64), (6, .int x6_64), (7, .int (p3 + (3 * x6_64))), (8, .int ((40 * p1) + (p3 + (3 * x6_64))))]) rfl
              refine lv_iload hx hb dX6_townBy_114 (lv_at hl 4 rfl) ?_
              refine lv_aload_n hx hb dX6_townBy_116 rfl (lv_at hl 0 rfl) ?_
              refine lv_aload_n hx hb dX6_townBy_117 rfl (lv_at hl 0 rfl) ?_
              refine g_get hx hb hts hiX6 hown hG gw_Model rfl 16 (by decide) (index := 43) tw_fl_RX6_43 (v := .ref (gA g 70)) rfl dX6_townBy_118 ?_
              refine lv_iload hx hb dX6_townBy_121 (lv_at hl 7 rfl) ?_
              have e1 : (40 * p1).toInt = 40 * p1.toInt := mulL (k := 40) (by decide +kernel) (by clear hE; omega) (by clear hE; omega)
              have e2 : (3 * x6_64).toInt = 3 * x6_64.toInt := mulL (k := 3) (by decide +kernel) (by clear hE; omega) (by clear hE; omega)
              have e3 : (p3 + (3 * x6_64)).toInt = p3.toInt + (3 * x6_64).toInt := fb_addI (by clear hE; omega) (by clear hE; omega)
              have e4 : ((40 * p1) + (p3 + (3 * x6_64))).toInt = (40 * p1).toInt + (p3 + (3 * x6_64)).toInt := fb_addI (by clear hE; omega) (by clear hE; omega)
              refine g_ild (f := (mo_64.2 16)) hx hb hG gw_Model_a16 (show vp_in ((40 * p1) + (p3 + (3 * x6_64))) 160 from (vp_i (by clear hE; omega) (by clear hE; omega))) dX6_townBy_123 ?_
              refine lv_aload_n hx hb dX6_townBy_124 rfl (lv_at hl 0 rfl) ?_
              refine g_get hx hb hts hiX6 hown hG gw_Model rfl 16 (by decide) (index := 43) tw_fl_RX6_43 (v := .ref (gA g 70)) rfl dX6_townBy_125 ?_
              refine lv_iload hx hb dX6_townBy_128 (lv_at hl 7 rfl) ?_
              refine lv_iconst (v := 1) hx hb dX6_townBy_130 (by decide) ?_
              refine lv_iadd hx hb dX6_townBy_131 ?_
              have e5 : (40 * p1).toInt = 40 * p1.toInt := mulL (k := 40) (by decide +kernel) (by clear hE; omega) (by clear hE; omega)
              have e6 : (3 * x6_64).toInt = 3 * x6_64.toInt := mulL (k := 3) (by decide +kernel) (by clear hE; omega) (by clear hE; omega)
              have e7 : (p3 + (3 * x6_64)).toInt = p3.toInt + (3 * x6_64).toInt := fb_addI (by clear hE; omega) (by clear hE; omega)
              have e8 : ((40 * p1) + (p3 + (3 * x6_64))).toInt = (40 * p1).toInt + (p3 + (3 * x6_64)).toInt := fb_addI (by clear hE; omega) (by clear hE; omega)
              have e9 : (((40 * p1) + (p3 + (3 * x6_64))) + 1).toInt = ((40 * p1) + (p3 + (3 * x6_64))).toInt + 1 := addL (k := 1) (by decide +kernel) (by clear hE; omega) (by clear hE; omega)
              refine g_ild (f := (mo_64.2 16)) hx hb hG gw_Model_a16 (show vp_in (((40 * p1) + (p3 + (3 * x6_64))) + 1) 160 from (vp_i (by clear hE; omega) (by clear hE; omega))) dX6_townBy_132 ?_
              refine lv_aload_n hx hb dX6_townBy_133 rfl (lv_at hl 0 rfl) ?_
              refine g_get hx hb hts hiX6 hown hG gw_Model rfl 16 (by decide) (index := 43) tw_fl_RX6_43 (v := .ref (gA g 70)) rfl dX6_townBy_134 ?_
              refine lv_iload hx hb dX6_townBy_137 (lv_at hl 7 rfl) ?_
              refine lv_iconst (v := 2) hx hb dX6_townBy_139 (by decide) ?_
              refine lv_iadd hx hb dX6_townBy_140 ?_
              have e10 : (40 * p1).toInt = 40 * p1.toInt := mulL (k := 40) (by decide +kernel) (by clear hE; omega) (by clear hE; omega)
              have e11 : (3 * x6_64).toInt = 3 * x6_64.toInt := mulL (k := 3) (by decide +kernel) (by clear hE; omega) (by clear hE; omega)
              have e12 : (p3 + (3 * x6_64)).toInt = p3.toInt + (3 * x6_64).toInt := fb_addI (by clear hE; omega) (by clear hE; omega)
              have e13 : ((40 * p1) + (p3 + (3 * x6_64))).toInt = (40 * p1).toInt + (p3 + (3 * x6_64)).toInt := fb_addI (by clear hE; omega) (by clear hE; omega)
              have e14 : (((40 * p1) + (p3 + (3 * x6_64))) + 2).toInt = ((40 * p1) + (p3 + (3 * x6_64))).toInt + 2 := addL (k := 2) (by decide +kernel) (by clear hE; omega) (by clear hE; omega)
              refine g_ild (f := (mo_64.2 16)) hx hb hG gw_Model_a16 (show vp_in (((40 * p1) + (p3 + (3 * x6_64))) + 2) 160 from (vp_i (by clear hE; omega) (by clear hE; omega))) dX6_townBy_141 ?_
              refine g_ci (g_runV (n := 3) (rest := [.int x5_64]) hx hb hml hown hts hG (c_X6_person ((mo_64.2 16) (Int32.toNatClampNeg ((40 * p1) + (p3 + (3 * x6_64))))) ((mo_64.2 16) (Int32.toNatClampNeg (((40 * p1) + (p3 + (3 * x6_64))) + 1))) ((mo_64.2 16) (Int32.toNatClampNeg (((40 * p1) + (p3 + (3 * x6_64))) + 2))) hp64) tw_ml_RX6_258 tw_im_X6_person tw_se_X6_person tw_in_RX6 tw_cd_X6_person (by decide +kernel) ⟨rfl, rfl, Nat.le_of_ble_eq_true rfl, Nat.le_of_ble_eq_true rfl⟩ gw_Model rfl rfl hl.1 rfl (Nat.le_of_ble_eq_true rfl) dX6_townBy_142 ⟨Nat.le_refl _, Nat.le_refl _⟩) hG hA (fun r_142 u H locs hp hG => ?_)
              obtain ⟨mo_142, rfl⟩ : ∃ z, z = u := ⟨u, rfl⟩
              replace hG : gS g A s H locs (gW g bb tx rw sb dy tn mo_142 jk) := by simpa only [up_up] using hG
              have hp_142 := hp
              rw [hp] at hE
              unfold F_X6_townBy_c142 at hE
              try dsimp only at hE
              have hq142 := person_ok hp_142 hp64
              have hp142 := hq142.1
              have hz142 : 0 ≤ ((mo_142.2 15) (Int32.toNatClampNeg p1)).toInt ∧ ((mo_142.2 15) (Int32.toNatClampNeg p1)).toInt ≤ 40 := by rw [hq142.2]; exact hz64
              have J153 : ∀ (z1_153 : Int32) (H : Heap) (locs : List Loc), gS g A s H locs (gW g bb tx rw sb dy tn mo_142 jk) → ∀ ls : Array Slot, lv_has ls 9 [(0, .ref (gA g 58)), (1, .int p1), (3, .int p3), (4, .int p4), (6, .int x6_64)] → F_X6_townBy_b153  (F_X6_townBy_l64 n64 ) mo_142 p1 p3 p4 x6_64 x5_64 z1_153 = EE → W p l e (rmL (3)) s m [.ref (gA g 58), .int p1, .int p2, .int p3, .int p4].toArray below meth c H locs 0 0 Q (F0 m 153 ls [.int z1_153, .int x5_64]) := by
                intro z1_153 H locs hG ls hl  hE
                unfold F_X6_townBy_b153 at hE
                refine lv_iadd hx hb dX6_townBy_153 ?_
                refine lv_istore (lv' := [(5, .int (x5_64 + z1_153)), (0, .ref (gA g 58)), (1, .int p1), (3, .int p3), (4, .int p4), (6, .int x6_64)]) hx hb dX6_townBy_154 hl (by decide) rfl (fun ls hl => ?_)
                replace hl := lv_sub hl [1, 2, 3, 4, 0, 5] (l' := [(0, .ref (gA g 58)), (1, .int p1), (3, .int p3), (4, .int p4), (5, .int (x5_64 + z1_153)), (6, .int x6_64)]) rfl
                refine lv_iinc (v := (x6_64 + 1)) (lv' := [(6, .int (x6_64 + 1)), (0, .ref (gA g 58)), (1, .int p1), (3, .int p3), (4, .int p4), (5, .int (x5_64 + z1_153))]) hx hb dX6_townBy_156 hl (k := 5) rfl rfl (by decide) rfl (fun ls hl => ?_)
                replace hl := lv_sub hl [1, 2, 3, 4, 5, 0] (l' := [(0, .ref (gA g 58)), (1, .int p1), (3, .int p3), (4, .int p4), (5, .int (x5_64 + z1_153)), (6, .int (x6_64 + 1))]) rfl
                refine lv_goto (tgt := 64) hx hb dX6_townBy_159 (by decide) ?_
                have e15 : (x6_64 + 1).toInt = x6_64.toInt + 1 := addL (k := 1) (by decide +kernel) (by clear hE; omega) (by clear hE; omega)
                exact ih64 (x5_64 + z1_153) (x6_64 + 1) mo_142 _ _ hG _ (lv_sub hl [0, 1, 2, 3, 4, 5] rfl) (by clear hE; omega) (by clear hE; omega) (by clear hE; omega) hp142 hz142 hE
              refine lv_if_lt (tgt := 152) hx hb dX6_townBy_145 (by decide) (fun c_145 => ?_) (fun c_145 => ?_)
              · replace hE := (if_pos c_145).symm.trans hE
                have i_145 : r_142.toInt < 0 := i_lt.mp c_145
                refine lv_iconst (v := 0) hx hb dX6_townBy_152 (by decide) ?_
                exact J153 0 _ _ hG _ (lv_sub hl [0, 1, 2, 3, 5] rfl) hE
              replace hE := (if_neg c_145).symm.trans hE
              have i_145 : 0 ≤ r_142.toInt := i_nlt c_145
              refine lv_iconst (v := 1) hx hb dX6_townBy_148 (by decide) ?_
              refine lv_goto (tgt := 153) hx hb dX6_townBy_149 (by decide) ?_
              exact J153 1 _ _ hG _ (lv_sub hl [0, 1, 2, 3, 5] rfl) hE
            replace hE := (if_neg c_99).symm.trans hE
            have i_99 : (((mo_64.2 15) (Int32.toNatClampNeg p1)) - 3).toInt < (p3 + (3 * x6_64)).toInt := i_nle c_99
            refine lv_bipush (v := (-12)) hx hb dX6_townBy_102 (by decide) ?_
            subst hQ
            exact g_iret hx hb hr hlocks hG ((mo_64) : Ob) rfl hE.symm dX6_townBy_104
        exact L64 7 0 0 mo _ _ hG _ (lv_sub hl [0, 1, 3, 4, 5, 6] rfl) (by decide) (by decide) (by decide) hpo (hsz _ (show Int32.toNatClampNeg p1 < 4 by rw [tcn_i]; clear hE; omega)) hE
      replace hE := (if_neg c_52).symm.trans hE
      have i_52 : ((mo.2 14) (Int32.toNatClampNeg p1)).toInt ≠ p2.toInt := fun h => c_52 (Int32.toInt_inj.mp h)
      refine lv_bipush (v := (-13)) hx hb dX6_townBy_55 (by decide) ?_
      subst hQ
      exact g_iret hx hb hr hlocks hG ((mo) : Ob) rfl hE.symm dX6_townBy_57
    replace hE := (if_pos c_39).symm.trans hE
    have i_39 : ((mo.2 14) (Int32.toNatClampNeg p1)).toInt = (-1) := congrArg Int32.toInt c_39
    refine lv_bipush (v := (-11)) hx hb dX6_townBy_42 (by decide) ?_
    subst hQ
    exact g_iret hx hb hr hlocks hG ((mo) : Ob) rfl hE.symm dX6_townBy_44
  replace hE := (if_pos c_26).symm.trans hE
  refine lv_bipush (v := (-2)) hx hb dX6_townBy_29 (by decide) ?_
  subst hQ
  exact g_iret hx hb hr hlocks hG ((mo) : Ob) rfl hE.symm dX6_townBy_31
def F_X6_taken (mo : Ob) (p1 : Int32) (p2 : Int32) : Int32 :=
  (if (F_X6_in p2 0 6) = 0 then (-2) else (if (F_X6_in p1 0 11) = 0 then (-12) else (if (p1 - p1 / 6 * 6) < (mo.1 0) then (if p1 < 6 then (if 6 ≤ p2 then (-13) else (if (F_X6_isUnder ((mo.2 1) (Int32.toNatClampNeg p1)) p2) = 0 then (-13) else p1)) else (if p2 = 6 then ((mo.2 3) (Int32.toNatClampNeg ((4 * (p1 - 6)) + 2))) else (-13))) else (-11))))
set_option maxHeartbeats 4000000 in
set_option maxRecDepth 100000 in
theorem c_X6_taken {l : Launch} {g : GG} {sz : Nat} {bb : Ob} {tx rw : Nat → Ob} {sb dy : Ob} {tn : Nat → Ob} {mo : Ob} {jk : Nat → Nat → Int32}  (p1 : Int32) (p2 : Int32) (hpo : 0 ≤ (mo.1 0).toInt ∧ (mo.1 0).toInt ≤ 6) : Met l yX6_taken (Cond.code yX6_taken cX6_taken 3 (some .int) :: TT) (rmL (2)) (va_Pc [.ref (gA g 58), .int p1, .int p2] (gB g sz (gW g bb tx rw sb dy tn mo jk))) (va_Qi (fun r (_ : Unit) => r = (F_X6_taken mo p1 p2)) (fun u t => gC g (va_A (gW g bb tx rw sb dy tn mo jk) sz) (gW g bb tx rw sb dy tn mo jk) t) (va_A (gW g bb tx rw sb dy tn mo jk) sz)) 0 0 (va_A (gW g bb tx rw sb dy tn mo jk) sz) := by
  generalize hE : F_X6_taken mo p1 p2 = EE
  refine g_of (Qf := fun A => (va_Qi (fun r (_ : Unit) => r = EE) (fun u t => gC g A (gW g bb tx rw sb dy tn mo jk) t) A)) (cc := cX6_taken) (maxL := 3) (ret := (some .int)) (by decide) (Nat.le_of_ble_eq_true rfl) ?_
  intro p e s m below meth c A ls hx hb hml hr hlocks hts hown hA hG hl
  replace hown : s.vm.findClass RX6 = some m.cls := hown
  replace hl : lv_has ls 3 [(0, .ref (gA g 58)), (1, .int p1), (2, .int p2)] := hl
  show W p l e (rmL (2)) s m [.ref (gA g 58), .int p1, .int p2].toArray below meth c s.heap [] 0 0 (MQ below (va_Qi (fun r (_ : Unit) => r = EE) (fun u t => gC g A (gW g bb tx rw sb dy tn mo jk) t) A) [.ref (gA g 58), .int p1, .int p2].toArray s 0 0 A) (F0 m 0 ls [])
  generalize hQ : MQ below (va_Qi (fun r (_ : Unit) => r = EE) (fun u t => gC g A (gW g bb tx rw sb dy tn mo jk) t) A) [.ref (gA g 58), .int p1, .int p2].toArray s 0 0 A = Q
  unfold F_X6_taken at hE
  refine lv_iload_n hx hb dX6_taken_0 rfl (lv_at hl 2 rfl) ?_
  refine lv_iconst (v := 0) hx hb dX6_taken_1 (by decide) ?_
  refine lv_bipush (v := 6) hx hb dX6_taken_2 (by decide) ?_
  refine g_si (g_runS (n := 3) (rest := []) hx hb hml hown hts hG (c_X6_in p2 0 6) tw_ml_RX6_81 tw_st_X6_in tw_in_RX6 tw_cd_X6_in (by decide +kernel) ⟨rfl, rfl, Nat.le_of_ble_eq_true rfl, Nat.le_of_ble_eq_true rfl⟩ rfl hl.1 rfl (Nat.le_of_ble_eq_true rfl) dX6_taken_4 ⟨Nat.le_refl _, Nat.le_refl _⟩) hG hA (fun H locs hG => ?_)
  refine lv_if_ne (tgt := 13) hx hb dX6_taken_7 (by decide) (fun c_7 => ?_) (fun c_7 => ?_)
  · replace hE := (if_neg c_7).symm.trans hE
    have i_7 : 0 ≤ p2.toInt ∧ p2.toInt ≤ 6 := in_f c_7
    refine lv_iload_n hx hb dX6_taken_13 rfl (lv_at hl 1 rfl) ?_
    refine lv_iconst (v := 0) hx hb dX6_taken_14 (by decide) ?_
    refine lv_bipush (v := 11) hx hb dX6_taken_15 (by decide) ?_
    refine g_si (g_runS (n := 3) (rest := []) hx hb hml hown hts hG (c_X6_in p1 0 11) tw_ml_RX6_81 tw_st_X6_in tw_in_RX6 tw_cd_X6_in (by decide +kernel) ⟨rfl, rfl, Nat.le_of_ble_eq_true rfl, Nat.le_of_ble_eq_true rfl⟩ rfl hl.1 rfl (Nat.le_of_ble_eq_true rfl) dX6_taken_17 ⟨Nat.le_refl _, Nat.le_refl _⟩) hG hA (fun H locs hG => ?_)
    refine lv_if_ne (tgt := 26) hx hb dX6_taken_20 (by decide) (fun c_20 => ?_) (fun c_20 => ?_)
    · replace hE := (if_neg c_20).symm.trans hE
      have i_20 : 0 ≤ p1.toInt ∧ p1.toInt ≤ 11 := in_f c_20
      refine lv_iload_n hx hb dX6_taken_26 rfl (lv_at hl 1 rfl) ?_
      refine lv_bipush (v := 6) hx hb dX6_taken_27 (by decide) ?_
      refine lv_irem hx hb dX6_taken_29 (by decide) ?_
      refine lv_aload_n hx hb dX6_taken_30 rfl (lv_at hl 0 rfl) ?_
      refine g_get hx hb hts hiX6 hown hG gw_Model rfl 0 (by decide) (index := 78) tw_fl_RX6_78 (v := .int (mo.1 0)) rfl dX6_taken_31 ?_
      refine lv_icmp_lt (tgt := 40) hx hb dX6_taken_34 (by decide) (fun c_34 => ?_) (fun c_34 => ?_)
      · replace hE := (if_pos c_34).symm.trans hE
        have i_34 : (p1 - p1 / 6 * 6).toInt < (mo.1 0).toInt := i_lt.mp c_34
        refine lv_iload_n hx hb dX6_taken_40 rfl (lv_at hl 1 rfl) ?_
        refine lv_bipush (v := 6) hx hb dX6_taken_41 (by decide) ?_
        refine lv_icmp_lt (tgt := 71) hx hb dX6_taken_43 (by decide) (fun c_43 => ?_) (fun c_43 => ?_)
        · replace hE := (if_pos c_43).symm.trans hE
          have i_43 : p1.toInt < 6 := i_lt.mp c_43
          refine lv_iload_n hx hb dX6_taken_71 rfl (lv_at hl 2 rfl) ?_
          refine lv_bipush (v := 6) hx hb dX6_taken_72 (by decide) ?_
          refine lv_icmp_ge (tgt := 94) hx hb dX6_taken_74 (by decide) (fun c_74 => ?_) (fun c_74 => ?_)
          · replace hE := (if_pos c_74).symm.trans hE
            have i_74 : 6 ≤ p2.toInt := i_le.mp c_74
            refine lv_bipush (v := (-13)) hx hb dX6_taken_94 (by decide) ?_
            subst hQ
            exact g_iret hx hb hr hlocks hG () rfl hE dX6_taken_96
          replace hE := (if_neg c_74).symm.trans hE
          have i_74 : p2.toInt < 6 := i_nle c_74
          refine lv_aload_n hx hb dX6_taken_77 rfl (lv_at hl 0 rfl) ?_
          refine g_get hx hb hts hiX6 hown hG gw_Model rfl 1 (by decide) (index := 7) tw_fl_RX6_7 (v := .ref (gA g 59)) rfl dX6_taken_78 ?_
          refine lv_iload_n hx hb dX6_taken_81 rfl (lv_at hl 1 rfl) ?_
          refine g_ild (f := (mo.2 1)) hx hb hG gw_Model_a1 (show vp_in p1 6 from (vp_i (by clear hE; omega) (by clear hE; omega))) dX6_taken_82 ?_
          refine lv_iload_n hx hb dX6_taken_83 rfl (lv_at hl 2 rfl) ?_
          refine g_si (g_runS (n := 2) (rest := []) hx hb hml hown hts hG (c_X6_isUnder ((mo.2 1) (Int32.toNatClampNeg p1)) p2) tw_ml_RX6_261 tw_st_X6_isUnder tw_in_RX6 tw_cd_X6_isUnder (by decide +kernel) ⟨rfl, rfl, Nat.le_of_ble_eq_true rfl, Nat.le_of_ble_eq_true rfl⟩ rfl hl.1 rfl (Nat.le_of_ble_eq_true rfl) dX6_taken_84 ⟨Nat.le_refl _, Nat.le_refl _⟩) hG hA (fun H locs hG => ?_)
          refine lv_if_eq (tgt := 94) hx hb dX6_taken_87 (by decide) (fun c_87 => ?_) (fun c_87 => ?_)
          · replace hE := (if_pos c_87).symm.trans hE
            refine lv_bipush (v := (-13)) hx hb dX6_taken_94 (by decide) ?_
            subst hQ
            exact g_iret hx hb hr hlocks hG () rfl hE dX6_taken_96
          replace hE := (if_neg c_87).symm.trans hE
          refine lv_iload_n hx hb dX6_taken_90 rfl (lv_at hl 1 rfl) ?_
          refine lv_goto (tgt := 96) hx hb dX6_taken_91 (by decide) ?_
          subst hQ
          exact g_iret hx hb hr hlocks hG () rfl hE dX6_taken_96
        replace hE := (if_neg c_43).symm.trans hE
        have i_43 : 6 ≤ p1.toInt := i_nlt c_43
        refine lv_iload_n hx hb dX6_taken_46 rfl (lv_at hl 2 rfl) ?_
        refine lv_bipush (v := 6) hx hb dX6_taken_47 (by decide) ?_
        refine lv_icmp_ne (tgt := 68) hx hb dX6_taken_49 (by decide) (fun c_49 => ?_) (fun c_49 => ?_)
        · replace hE := (if_neg c_49).symm.trans hE
          have i_49 : p2.toInt ≠ 6 := fun h => c_49 (Int32.toInt_inj.mp h)
          refine lv_bipush (v := (-13)) hx hb dX6_taken_68 (by decide) ?_
          subst hQ
          exact g_iret hx hb hr hlocks hG () rfl hE dX6_taken_70
        replace hE := (if_pos c_49).symm.trans hE
        have i_49 : p2.toInt = 6 := congrArg Int32.toInt c_49
        refine lv_aload_n hx hb dX6_taken_52 rfl (lv_at hl 0 rfl) ?_
        refine g_get hx hb hts hiX6 hown hG gw_Model rfl 3 (by decide) (index := 16) tw_fl_RX6_16 (v := .ref (gA g 61)) rfl dX6_taken_53 ?_
        refine lv_iconst (v := 4) hx hb dX6_taken_56 (by decide) ?_
        refine lv_iload_n hx hb dX6_taken_57 rfl (lv_at hl 1 rfl) ?_
        refine lv_bipush (v := 6) hx hb dX6_taken_58 (by decide) ?_
        refine lv_isub hx hb dX6_taken_60 ?_
        refine lv_imul hx hb dX6_taken_61 ?_
        refine lv_iconst (v := 2) hx hb dX6_taken_62 (by decide) ?_
        refine lv_iadd hx hb dX6_taken_63 ?_
        have e1 : (p1 - 6).toInt = p1.toInt - 6 := subL (k := 6) (by decide +kernel) (by clear hE; omega) (by clear hE; omega)
        have e2 : (4 * (p1 - 6)).toInt = 4 * (p1 - 6).toInt := mulL (k := 4) (by decide +kernel) (by clear hE; omega) (by clear hE; omega)
        have e3 : ((4 * (p1 - 6)) + 2).toInt = (4 * (p1 - 6)).toInt + 2 := addL (k := 2) (by decide +kernel) (by clear hE; omega) (by clear hE; omega)
        refine g_ild (f := (mo.2 3)) hx hb hG gw_Model_a3 (show vp_in ((4 * (p1 - 6)) + 2) 24 from (vp_i (by clear hE; omega) (by clear hE; omega))) dX6_taken_64 ?_
        refine lv_goto (tgt := 70) hx hb dX6_taken_65 (by decide) ?_
        subst hQ
        exact g_iret hx hb hr hlocks hG () rfl hE dX6_taken_70
      replace hE := (if_neg c_34).symm.trans hE
      have i_34 : (mo.1 0).toInt ≤ (p1 - p1 / 6 * 6).toInt := i_nlt c_34
      refine lv_bipush (v := (-11)) hx hb dX6_taken_37 (by decide) ?_
      subst hQ
      exact g_iret hx hb hr hlocks hG () rfl hE dX6_taken_39
    replace hE := (if_pos c_20).symm.trans hE
    refine lv_bipush (v := (-12)) hx hb dX6_taken_23 (by decide) ?_
    subst hQ
    exact g_iret hx hb hr hlocks hG () rfl hE dX6_taken_25
  replace hE := (if_pos c_7).symm.trans hE
  refine lv_bipush (v := (-2)) hx hb dX6_taken_10 (by decide) ?_
  subst hQ
  exact g_iret hx hb hr hlocks hG () rfl hE dX6_taken_12
