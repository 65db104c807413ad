def F_X4_join (T : Ob) (p1 : Int32) (p2 : Int32) (p3 : Int32) : Int32 × Ob :=
  (if (F_X5_isWithin p1 0 59) = 0 then ((-2), T) else (if (F_X5_isWithin p2 0 99) = 0 then ((-2), T) else (if (F_X5_isWithin p3 0 16777215) = 0 then ((-2), T) else (if (T.1 6) < 6 then ((T.1 6), (setS (setS (stA (stA (stA (stA (stA T 0 (T.1 6) (p1 / 10)) 1 (T.1 6) (p1 - p1 / 10 * 10)) 2 (T.1 6) p2) 3 (T.1 6) 0) 4 (T.1 6) p3) 5 (((stA (stA (stA (stA (stA T 0 (T.1 6) (p1 / 10)) 1 (T.1 6) (p1 - p1 / 10 * 10)) 2 (T.1 6) p2) 3 (T.1 6) 0) 4 (T.1 6) p3).1 5) &&& ((1 <<< ((T.1 6) &&& 31)) ^^^ (-1)))) 6 (((setS (stA (stA (stA (stA (stA T 0 (T.1 6) (p1 / 10)) 1 (T.1 6) (p1 - p1 / 10 * 10)) 2 (T.1 6) p2) 3 (T.1 6) 0) 4 (T.1 6) p3) 5 (((stA (stA (stA (stA (stA T 0 (T.1 6) (p1 / 10)) 1 (T.1 6) (p1 - p1 / 10 * 10)) 2 (T.1 6) p2) 3 (T.1 6) 0) 4 (T.1 6) p3).1 5) &&& ((1 <<< ((T.1 6) &&& 31)) ^^^ (-1)))).1 6) + 1))) else ((-4), T)))))
set_option maxHeartbeats 4000000 in
set_option maxRecDepth 100000 in
theorem c_X4_join {l : Launch} {g : GG} {sz : Nat} {bb : Ob} {tx rw : Nat → Ob} {sb dy : Ob} {tn : Nat → Ob} {mo : Ob} {jk : Nat → Nat → Int32} {o : Nat} (ho : o < 3) {T : Ob} (hT : tn o = T) (p1 : Int32) (p2 : Int32) (p3 : Int32) (hp6 : 0 ≤ (T.1 6).toInt) : Met l yX4_join (Cond.code yX4_join cX4_join 5 (some .int) :: TT) (rmL 2) (va_Pc [.ref (gA g (40 + 6 * o)), .int p1, .int p2, .int p3] (gB g sz (gW g bb tx rw sb dy tn mo jk))) (va_Qi (fun r (u : Ob) => (F_X4_join T p1 p2 p3) = (r, u)) (fun u t => gC g (va_A (gW g bb tx rw sb dy tn mo jk) sz) (gW g bb tx rw sb dy (va_up tn o u) mo jk) t) (va_A (gW g bb tx rw sb dy tn mo jk) sz)) 0 0 (va_A (gW g bb tx rw sb dy tn mo jk) sz) := by
  generalize hE : F_X4_join T p1 p2 p3 = EE
  refine g_of (Qf := fun A => (va_Qi (fun r (u : Ob) => EE = (r, u)) (fun u t => gC g A (gW g bb tx rw sb dy (va_up tn o u) mo jk) t) A)) (cc := cX4_join) (maxL := 5) (ret := (some .int)) (by decide) (Nat.le_of_ble_eq_true rfl) ?_
  intro p e s m below meth c A ls hx hb hml hr hlocks hts hown hA hG hl
  replace hown : s.vm.findClass RX4 = some m.cls := hown
  replace hl : lv_has ls 5 [(0, .ref (gA g (40 + 6 * o))), (1, .int p1), (2, .int p2), (3, .int p3)] := hl
  show W p l e (rmL 2) s m [.ref (gA g (40 + 6 * o)), .int p1, .int p2, .int p3].toArray below meth c s.heap [] 0 0 (MQ below (va_Qi (fun r (u : Ob) => EE = (r, u)) (fun u t => gC g A (gW g bb tx rw sb dy (va_up tn o u) mo jk) t) A) [.ref (gA g (40 + 6 * o)), .int p1, .int p2, .int p3].toArray s 0 0 A) (F0 m 0 ls [])
  generalize hQ : MQ below (va_Qi (fun r (u : Ob) => EE = (r, u)) (fun u t => gC g A (gW g bb tx rw sb dy (va_up tn o u) mo jk) t) A) [.ref (gA g (40 + 6 * o)), .int p1, .int p2, .int p3].toArray s 0 0 A = Q
  replace hG : gS g A s s.heap [] (gW g bb tx rw sb dy (va_up tn o T) mo jk) := by simpa only [← hT, up_self] using hG
  unfold F_X4_join at hE
  refine lv_iload_n hx hb dX4_join_0 rfl (lv_at hl 1 rfl) ?_
  refine lv_iconst (v := 0) hx hb dX4_join_1 (by decide) ?_
  refine lv_bipush (v := 59) hx hb dX4_join_2 (by decide) ?_
  refine g_si (g_runSN (host := RX5) (n := 3) (rest := []) hx hb hml hown hts hG (c_X5_isWithin p1 0 59) hG.1.2.1 tw_st_X5_isWithin tw_in_RX5 tw_cd_X5_isWithin (by decide +kernel) ⟨rfl, rfl, Nat.le_of_ble_eq_true rfl, Nat.le_of_ble_eq_true rfl⟩ rfl hl.1 rfl (Nat.le_of_ble_eq_true rfl) dX4_join_4 ⟨Nat.le_refl _, Nat.le_refl _⟩) hG hA (fun H locs hG => ?_)
  refine lv_if_eq (tgt := 30) hx hb dX4_join_7 (by decide) (fun c_7 => ?_) (fun c_7 => ?_)
  · replace hE := (if_pos c_7).symm.trans hE
    refine lv_bipush (v := (-2)) hx hb dX4_join_30 (by decide) ?_
    subst hQ
    exact g_iret hx hb hr hlocks hG ((T) : Ob) rfl hE.symm dX4_join_32
  replace hE := (if_neg c_7).symm.trans hE
  have i_7 : 0 ≤ p1.toInt ∧ p1.toInt ≤ 59 := within_f c_7
  refine lv_iload_n hx hb dX4_join_10 rfl (lv_at hl 2 rfl) ?_
  refine lv_iconst (v := 0) hx hb dX4_join_11 (by decide) ?_
  refine lv_bipush (v := 99) hx hb dX4_join_12 (by decide) ?_
  refine g_si (g_runSN (host := RX5) (n := 3) (rest := []) hx hb hml hown hts hG (c_X5_isWithin p2 0 99) hG.1.2.1 tw_st_X5_isWithin tw_in_RX5 tw_cd_X5_isWithin (by decide +kernel) ⟨rfl, rfl, Nat.le_of_ble_eq_true rfl, Nat.le_of_ble_eq_true rfl⟩ rfl hl.1 rfl (Nat.le_of_ble_eq_true rfl) dX4_join_14 ⟨Nat.le_refl _, Nat.le_refl _⟩) hG hA (fun H locs hG => ?_)
  refine lv_if_eq (tgt := 30) hx hb dX4_join_17 (by decide) (fun c_17 => ?_) (fun c_17 => ?_)
  · replace hE := (if_pos c_17).symm.trans hE
    refine lv_bipush (v := (-2)) hx hb dX4_join_30 (by decide) ?_
    subst hQ
    exact g_iret hx hb hr hlocks hG ((T) : Ob) rfl hE.symm dX4_join_32
  replace hE := (if_neg c_17).symm.trans hE
  have i_17 : 0 ≤ p2.toInt ∧ p2.toInt ≤ 99 := within_f c_17
  refine lv_iload_n hx hb dX4_join_20 rfl (lv_at hl 3 rfl) ?_
  refine lv_iconst (v := 0) hx hb dX4_join_21 (by decide) ?_
  refine lv_ldc (v := 16777215) hx hb hown (hts _ tw_co_RX4_58) dX4_join_22 ?_
  refine g_si (g_runSN (host := RX5) (n := 3) (rest := []) hx hb hml hown hts hG (c_X5_isWithin p3 0 16777215) hG.1.2.1 tw_st_X5_isWithin tw_in_RX5 tw_cd_X5_isWithin (by decide +kernel) ⟨rfl, rfl, Nat.le_of_ble_eq_true rfl, Nat.le_of_ble_eq_true rfl⟩ rfl hl.1 rfl (Nat.le_of_ble_eq_true rfl) dX4_join_24 ⟨Nat.le_refl _, Nat.le_refl _⟩) hG hA (fun H locs hG => ?_)
  refine lv_if_ne (tgt := 33) hx hb dX4_join_27 (by decide) (fun c_27 => ?_) (fun c_27 => ?_)
  · replace hE := (if_neg c_27).symm.trans hE
    have i_27 : 0 ≤ p3.toInt ∧ p3.toInt ≤ 16777215 := within_f c_27
    refine lv_aload_n hx hb dX4_join_33 rfl (lv_at hl 0 rfl) ?_
    refine g_get hx hb hts hiX4 hown hG (gw_Town ho (up_same _ _ _)) rfl 6 (by decide) (index := 31) tw_fl_RX4_31 (v := .int (T.1 6)) rfl dX4_join_34 ?_
    refine lv_bipush (v := 6) hx hb dX4_join_37 (by decide) ?_
    refine lv_icmp_lt (tgt := 45) hx hb dX4_join_39 (by decide) (fun c_39 => ?_) (fun c_39 => ?_)
    · replace hE := (if_pos c_39).symm.trans hE
      have i_39 : (T.1 6).toInt < 6 := i_lt.mp c_39
      refine lv_aload_n hx hb dX4_join_45 rfl (lv_at hl 0 rfl) ?_
      refine g_get hx hb hts hiX4 hown hG (gw_Town ho (up_same _ _ _)) rfl 6 (by decide) (index := 31) tw_fl_RX4_31 (v := .int (T.1 6)) rfl dX4_join_46 ?_
      refine lv_istore (lv' := [(4, .int (T.1 6)), (0, .ref (gA g (40 + 6 * o))), (1, .int p1), (2, .int p2), (3, .int p3)]) hx hb dX4_join_49 hl (by decide) rfl (fun ls hl => ?_)
      replace hl := lv_sub hl [1, 2, 3, 4, 0] (l' := [(0, .ref (gA g (40 + 6 * o))), (1, .int p1), (2, .int p2), (3, .int p3), (4, .int (T.1 6))]) rfl
      refine lv_aload_n hx hb dX4_join_51 rfl (lv_at hl 0 rfl) ?_
      refine g_get hx hb hts hiX4 hown hG (gw_Town ho (up_same _ _ _)) rfl 0 (by decide) (index := 9) tw_fl_RX4_9 (v := .ref (gA g (40 + 6 * o + 1))) rfl dX4_join_52 ?_
      refine lv_iload hx hb dX4_join_55 (lv_at hl 4 rfl) ?_
      refine lv_iload_n hx hb dX4_join_57 rfl (lv_at hl 1 rfl) ?_
      refine lv_bipush (v := 10) hx hb dX4_join_58 (by decide) ?_
      refine lv_idiv hx hb dX4_join_60 (by decide) ?_
      refine g_ist hx hb hG (gw_Town_a0 ho (up_same _ _ _)) (vp_i (by clear hE; omega) (by clear hE; omega)) (gt_Town_a0 ho) dX4_join_61 (fun H locs hG => ?_)
      refine lv_aload_n hx hb dX4_join_62 rfl (lv_at hl 0 rfl) ?_
      refine g_get hx hb hts hiX4 hown hG (gw_Town ho (up_same _ _ _)) rfl 1 (by decide) (index := 15) tw_fl_RX4_15 (v := .ref (gA g (40 + 6 * o + 2))) rfl dX4_join_63 ?_
      refine lv_iload hx hb dX4_join_66 (lv_at hl 4 rfl) ?_
      refine lv_iload_n hx hb dX4_join_68 rfl (lv_at hl 1 rfl) ?_
      refine lv_bipush (v := 10) hx hb dX4_join_69 (by decide) ?_
      refine lv_irem hx hb dX4_join_71 (by decide) ?_
      refine g_ist hx hb hG (gw_Town_a1 ho (up_same _ _ _)) (vp_i (by clear hE; omega) (by clear hE; omega)) (gt_Town_a1 ho) dX4_join_72 (fun H locs hG => ?_)
      refine lv_aload_n hx hb dX4_join_73 rfl (lv_at hl 0 rfl) ?_
      refine g_get hx hb hts hiX4 hown hG (gw_Town ho (up_same _ _ _)) rfl 2 (by decide) (index := 18) tw_fl_RX4_18 (v := .ref (gA g (40 + 6 * o + 3))) rfl dX4_join_74 ?_
      refine lv_iload hx hb dX4_join_77 (lv_at hl 4 rfl) ?_
      refine lv_iload_n hx hb dX4_join_79 rfl (lv_at hl 2 rfl) ?_
      refine g_ist hx hb hG (gw_Town_a2 ho (up_same _ _ _)) (vp_i (by clear hE; omega) (by clear hE; omega)) (gt_Town_a2 ho) dX4_join_80 (fun H locs hG => ?_)
      refine lv_aload_n hx hb dX4_join_81 rfl (lv_at hl 0 rfl) ?_
      refine g_get hx hb hts hiX4 hown hG (gw_Town ho (up_same _ _ _)) rfl 3 (by decide) (index := 21) tw_fl_RX4_21 (v := .ref (gA g (40 + 6 * o + 4))) rfl dX4_join_82 ?_
      refine lv_iload hx hb dX4_join_85 (lv_at hl 4 rfl) ?_
      refine lv_iconst (v := 0) hx hb dX4_join_87 (by decide) ?_
      refine g_ist hx hb hG (gw_Town_a3 ho (up_same _ _ _)) (vp_i (by clear hE; omega) (by clear hE; omega)) (gt_Town_a3 ho) dX4_join_88 (fun H locs hG => ?_)
      refine lv_aload_n hx hb dX4_join_89 rfl (lv_at hl 0 rfl) ?_
      refine g_get hx hb hts hiX4 hown hG (gw_Town ho (up_same _ _ _)) rfl 4 (by decide) (index := 24) tw_fl_RX4_24 (v := .ref (gA g (40 + 6 * o + 5))) rfl dX4_join_90 ?_
      refine lv_iload hx hb dX4_join_93 (lv_at hl 4 rfl) ?_
      refine lv_iload_n hx hb dX4_join_95 rfl (lv_at hl 3 rfl) ?_
      refine g_ist hx hb hG (gw_Town_a4 ho (up_same _ _ _)) (vp_i (by clear hE; omega) (by clear hE; omega)) (gt_Town_a4 ho) dX4_join_96 (fun H locs hG => ?_)
      refine lv_aload_n hx hb dX4_join_97 rfl (lv_at hl 0 rfl) ?_
      refine lv_dup hx hb dX4_join_98 rfl ?_
      refine g_get hx hb hts hiX4 hown hG (gw_Town ho (up_same _ _ _)) rfl 5 (by decide) (index := 27) tw_fl_RX4_27 (v := .int ((stA (stA (stA (stA (stA T 0 (T.1 6) (p1 / 10)) 1 (T.1 6) (p1 - p1 / 10 * 10)) 2 (T.1 6) p2) 3 (T.1 6) 0) 4 (T.1 6) p3).1 5)) rfl dX4_join_99 ?_
      refine lv_iconst (v := 1) hx hb dX4_join_102 (by decide) ?_
      refine lv_iload hx hb dX4_join_103 (lv_at hl 4 rfl) ?_
      refine lv_ishl hx hb dX4_join_105 ?_
      refine lv_iconst (v := (-1)) hx hb dX4_join_106 (by decide) ?_
      refine lv_ixor hx hb dX4_join_107 ?_
      refine lv_iand hx hb dX4_join_108 ?_
      refine g_put hx hb hts hiX4 tyX4 tyX4_ok nmX4 hown hG (gw_Town ho (up_same _ _ _)) rfl 5 (by decide) (index := 27) tw_fl_RX4_27 rfl rfl rfl (Nat.le_of_ble_eq_true rfl) (gt_Town_f5 ho) dX4_join_109 (fun H locs hG => ?_)
      refine lv_aload_n hx hb dX4_join_112 rfl (lv_at hl 0 rfl) ?_
      refine lv_dup hx hb dX4_join_113 rfl ?_
      refine g_get hx hb hts hiX4 hown hG (gw_Town ho (up_same _ _ _)) rfl 6 (by decide) (index := 31) tw_fl_RX4_31 (v := .int ((setS (stA (stA (stA (stA (stA T 0 (T.1 6) (p1 / 10)) 1 (T.1 6) (p1 - p1 / 10 * 10)) 2 (T.1 6) p2) 3 (T.1 6) 0) 4 (T.1 6) p3) 5 (((stA (stA (stA (stA (stA T 0 (T.1 6) (p1 / 10)) 1 (T.1 6) (p1 - p1 / 10 * 10)) 2 (T.1 6) p2) 3 (T.1 6) 0) 4 (T.1 6) p3).1 5) &&& ((1 <<< ((T.1 6) &&& 31)) ^^^ (-1)))).1 6)) rfl dX4_join_114 ?_
      refine lv_iconst (v := 1) hx hb dX4_join_117 (by decide) ?_
      refine lv_iadd hx hb dX4_join_118 ?_
      refine g_put hx hb hts hiX4 tyX4 tyX4_ok nmX4 hown hG (gw_Town ho (up_same _ _ _)) rfl 6 (by decide) (index := 31) tw_fl_RX4_31 rfl rfl rfl (Nat.le_of_ble_eq_true rfl) (gt_Town_f6 ho) dX4_join_119 (fun H locs hG => ?_)
      refine lv_iload hx hb dX4_join_122 (lv_at hl 4 rfl) ?_
      subst hQ
      exact g_iret hx hb hr hlocks hG (((setS (setS (stA (stA (stA (stA (stA T 0 (T.1 6) (p1 / 10)) 1 (T.1 6) (p1 - p1 / 10 * 10)) 2 (T.1 6) p2) 3 (T.1 6) 0) 4 (T.1 6) p3) 5 (((stA (stA (stA (stA (stA T 0 (T.1 6) (p1 / 10)) 1 (T.1 6) (p1 - p1 / 10 * 10)) 2 (T.1 6) p2) 3 (T.1 6) 0) 4 (T.1 6) p3).1 5) &&& ((1 <<< ((T.1 6) &&& 31)) ^^^ (-1)))) 6 (((setS (stA (stA (stA (stA (stA T 0 (T.1 6) (p1 / 10)) 1 (T.1 6) (p1 - p1 / 10 * 10)) 2 (T.1 6) p2) 3 (T.1 6) 0) 4 (T.1 6) p3) 5 (((stA (stA (stA (stA (stA T 0 (T.1 6) (p1 / 10)) 1 (T.1 6) (p1 - p1 / 10 * 10)) 2 (T.1 6) p2) 3 (T.1 6) 0) 4 (T.1 6) p3).1 5) &&& ((1 <<< ((T.1 6) &&& 31)) ^^^ (-1)))).1 6) + 1))) : Ob) rfl hE.symm dX4_join_124
    replace hE := (if_neg c_39).symm.trans hE
    have i_39 : 6 ≤ (T.1 6).toInt := i_nlt c_39
    refine lv_bipush (v := (-4)) hx hb dX4_join_42 (by decide) ?_
    subst hQ
    exact g_iret hx hb hr hlocks hG ((T) : Ob) rfl hE.symm dX4_join_44
  replace hE := (if_pos c_27).symm.trans hE
  refine lv_bipush (v := (-2)) hx hb dX4_join_30 (by decide) ?_
  subst hQ
  exact g_iret hx hb hr hlocks hG ((T) : Ob) rfl hE.symm dX4_join_32
def F_X5_person_c7 (u : Int32 × Ob) (tn : Nat → Ob) : Int32 × Ob :=
  (u.1, u.2)
def F_X5_person (tn : Nat → Ob) (p1 : Int32) (p2 : Int32) (p3 : Int32) : Int32 × Ob :=
  (F_X5_person_c7 (F_X4_join (tn 0) p1 p2 p3) tn)
set_option maxHeartbeats 4000000 in
set_option maxRecDepth 100000 in
theorem c_X5_person {l : Launch} {g : GG} {sz : Nat} {bb : Ob} {tx rw : Nat → Ob} {sb dy : Ob} {tn : Nat → Ob} {mo : Ob} {jk : Nat → Nat → Int32}  (p1 : Int32) (p2 : Int32) (p3 : Int32) (hp6 : 0 ≤ ((tn 0).1 6).toInt) : Met l yX5_person (Cond.code yX5_person cX5_person 4 (some .int) :: TT) (rmL 3) (va_Pc [.ref (gA g 0), .int p1, .int p2, .int p3] (gB g sz (gW g bb tx rw sb dy tn mo jk))) (va_Qi (fun r (u : Ob) => (F_X5_person tn p1 p2 p3) = (r, u)) (fun u t => gC g (va_A (gW g bb tx rw sb dy tn mo jk) sz) (gW g bb tx rw sb dy (va_up tn 0 u) mo jk) t) (va_A (gW g bb tx rw sb dy tn mo jk) sz)) 0 0 (va_A (gW g bb tx rw sb dy tn mo jk) sz) := by
  generalize hE : F_X5_person tn p1 p2 p3 = EE
  refine g_of (Qf := fun A => (va_Qi (fun r (u : Ob) => EE = (r, u)) (fun u t => gC g A (gW g bb tx rw sb dy (va_up tn 0 u) mo jk) t) A)) (cc := cX5_person) (maxL := 4) (ret := (some .int)) (by decide) (Nat.le_of_ble_eq_true rfl) ?_
  intro p e s m below meth c A ls hx hb hml hr hlocks hts hown hA hG hl
  replace hown : s.vm.findClass RX5 = some m.cls := hown
  replace hl : lv_has ls 4 [(0, .ref (gA g 0)), (1, .int p1), (2, .int p2), (3, .int p3)] := hl
  show W p l e (rmL 3) s m [.ref (gA g 0), .int p1, .int p2, .int p3].toArray below meth c s.heap [] 0 0 (MQ below (va_Qi (fun r (u : Ob) => EE = (r, u)) (fun u t => gC g A (gW g bb tx rw sb dy (va_up tn 0 u) mo jk) t) A) [.ref (gA g 0), .int p1, .int p2, .int p3].toArray s 0 0 A) (F0 m 0 ls [])
  generalize hQ : MQ below (va_Qi (fun r (u : Ob) => EE = (r, u)) (fun u t => gC g A (gW g bb tx rw sb dy (va_up tn 0 u) mo jk) t) A) [.ref (gA g 0), .int p1, .int p2, .int p3].toArray s 0 0 A = Q
  replace hG : gS g A s s.heap [] (gW g bb tx rw sb dy (va_up tn 0 (tn 0)) mo jk) := by simpa only [up_self] using hG
  unfold F_X5_person at hE
  refine lv_aload_n hx hb dX5_person_0 rfl (lv_at hl 0 rfl) ?_
  refine g_get hx hb hts hiX5 hown hG gw_Bell rfl 4 (by decide) (index := 53) tw_fl_RX5_53 (v := .ref (gA g (40 + 6 * 0))) rfl dX5_person_1 ?_
  refine lv_iload_n hx hb dX5_person_4 rfl (lv_at hl 1 rfl) ?_
  refine lv_iload_n hx hb dX5_person_5 rfl (lv_at hl 2 rfl) ?_
  refine lv_iload_n hx hb dX5_person_6 rfl (lv_at hl 3 rfl) ?_
  refine g_ci (g_runV (n := 3) (rest := []) hx hb hml hown hts hG (c_X4_join (by decide) (up_same _ _ _) p1 p2 p3 (by clear hE; omega)) tw_ml_RX5_112 tw_im_X4_join tw_se_X4_join tw_in_RX4 tw_cd_X4_join (by decide +kernel) ⟨rfl, rfl, Nat.le_of_ble_eq_true rfl, Nat.le_of_ble_eq_true rfl⟩ (gw_Town (o := 0) (by decide) (up_same _ _ _)) rfl rfl hl.1 rfl (Nat.le_of_ble_eq_true rfl) dX5_person_7 ⟨Nat.le_refl _, Nat.le_refl _⟩) hG hA (fun r_7 u H locs hp hG => ?_)
  obtain ⟨t_m_7, rfl⟩ : ∃ z, z = u := ⟨u, rfl⟩
  replace hG : gS g A s H locs (gW g bb tx rw sb dy (va_up tn 0 t_m_7) mo jk) := by simpa only [up_up] using hG
  have hp_7 := hp
  rw [hp] at hE
  unfold F_X5_person_c7 at hE
  try dsimp only at hE
  subst hQ
  exact g_iret hx hb hr hlocks hG ((t_m_7) : Ob) rfl hE.symm dX5_person_10
theorem join_6 {T T2 : Ob} {a b c r : Int32} (hp : F_X4_join T a b c = (r, T2)) (h : 0 ≤ (T.1 6).toInt) : 0 ≤ (T2.1 6).toInt := by
  unfold F_X4_join at hp
  split at hp
  · exact (Prod.mk.inj hp).2 ▸ h
  · split at hp
    · exact (Prod.mk.inj hp).2 ▸ h
    · split at hp
      · exact (Prod.mk.inj hp).2 ▸ h
      · split at hp
        · rename_i k
          have q : T2.1 6 = T.1 6 + 1 := by rw [← (Prod.mk.inj hp).2]; rfl
          have z := i_lt.mp k
          have e6 : (6 : Int32).toInt = 6 := rfl
          rw [q, addL (k := 1) (by decide +kernel) (by omega) (by omega)]
          omega
        · exact (Prod.mk.inj hp).2 ▸ h
def F_X5_townBy_b137 (K67 : (Nat → Ob) → (Nat → Ob) → Int32 → Ob → Int32 → Int32 → Int32 → Int32 → Int32 × Ob) (rw : Nat → Ob) (tn : Nat → Ob) (p1 : Int32) (t_m : Ob) (x3 : Int32) (x4 : Int32) (x6 : Int32) (x7 : Int32) : Int32 × Ob :=
  (K67 rw tn p1 t_m x3 x4 x6 (x7 + 1))
def F_X5_townBy_c128 (K67 : (Nat → Ob) → (Nat → Ob) → Int32 → Ob → Int32 → Int32 → Int32 → Int32 → Int32 × Ob) (u : Int32 × Ob) (rw : Nat → Ob) (tn : Nat → Ob) (p1 : Int32) (x3 : Int32) (x4 : Int32) (x6 : Int32) (x7 : Int32) : Int32 × Ob :=
  (if u.1 < 0 then (F_X5_townBy_b137 K67 rw tn p1 u.2 x3 x4 x6 x7) else (F_X5_townBy_b137 K67 rw tn p1 u.2 x3 x4 (x6 + 1) x7))
def F_X5_townBy_l67 : Nat → (Nat → Ob) → (Nat → Ob) → Int32 → Ob → Int32 → Int32 → Int32 → Int32 → Int32 × Ob
  | 0, _, _, _, t_m, _, _, _, _ => (0, t_m)
  | n + 1, rw, tn, p1, t_m, x3, x4, x6, x7 =>
    (if x4 ≤ x7 then (x6, t_m) else (if (F_X1_has (rw (Int32.toNatClampNeg p1)) (x3 + (3 * x7)) 3) = 0 then ((-12), t_m) else (F_X5_townBy_c128 (F_X5_townBy_l67 n ) (F_X4_join t_m (((rw (Int32.toNatClampNeg p1)).2 0) (Int32.toNatClampNeg (x3 + (3 * x7)))) (((rw (Int32.toNatClampNeg p1)).2 0) (Int32.toNatClampNeg ((x3 + (3 * x7)) + 1))) (((rw (Int32.toNatClampNeg p1)).2 0) (Int32.toNatClampNeg ((x3 + (3 * x7)) + 2)))) rw tn p1 x3 x4 x6 x7)))
def F_X5_townBy (rw : Nat → Ob) (tn : Nat → Ob) (p1 : Int32) (p2 : Int32) (p3 : Int32) (p4 : Int32) : Int32 × Ob :=
  (if (F_X5_isSheet p1) = 0 then ((-2), (tn 0)) else (if (F_X5_isWithin p2 0 2) = 0 then ((-2), (tn 0)) else (if (F_X5_isWithin p4 0 6) = 0 then ((-2), (tn 0)) else (if (F_X1_isMissing (rw (Int32.toNatClampNeg p1))) = 0 then (if ((rw (Int32.toNatClampNeg p1)).1 1) = p2 then (F_X5_townBy_l67 7  rw tn p1 (tn 0) p3 p4 0 0) else ((-13), (tn 0))) else ((-11), (tn 0))))))
set_option maxHeartbeats 4000000 in
set_option maxRecDepth 100000 in
theorem c_X5_townBy {l : Launch} {g : GG} {sz : Nat} {bb : Ob} {tx rw : Nat → Ob} {sb dy : Ob} {tn : Nat → Ob} {mo : Ob} {jk : Nat → Nat → Int32}  (p1 : Int32) (p2 : Int32) (p3 : Int32) (p4 : Int32) (hrw : ∀ s : Nat, s < 4 → 0 ≤ ((rw s).1 2).toInt ∧ ((rw s).1 2).toInt ≤ 40) (hp6 : 0 ≤ ((tn 0).1 6).toInt) : Met l yX5_townBy (Cond.code yX5_townBy cX5_townBy 9 (some .int) :: TT) (rmL 4) (va_Pc [.ref (gA g 0), .int p1, .int p2, .int p3, .int p4] (gB g sz (gW g bb tx rw sb dy tn mo jk))) (va_Qi (fun r (u : Ob) => (F_X5_townBy rw tn p1 p2 p3 p4) = (r, u)) (fun u t => gC g (va_A (gW g bb tx rw sb dy tn mo jk) sz) (gW g bb tx rw sb dy (va_up tn 0 u) mo jk) t) (va_A (gW g bb tx rw sb dy tn mo jk) sz)) 0 0 (va_A (gW g bb tx rw sb dy tn mo jk) sz) := by
  generalize hE : F_X5_townBy rw tn p1 p2 p3 p4 = EE
  refine g_of (Qf := fun A => (va_Qi (fun r (u : Ob) => EE = (r, u)) (fun u t => gC g A (gW g bb tx rw sb dy (va_up tn 0 u) mo jk) t) A)) (cc := cX5_townBy) (maxL := 9) (ret := (some .int)) (by decide) (Nat.le_of_ble_eq_true rfl) ?_
  intro p e s m below meth c A ls hx hb hml hr hlocks hts hown hA hG hl
  replace hown : s.vm.findClass RX5 = some m.cls := hown
  replace hl : lv_has ls 9 [(0, .ref (gA g 0)), (1, .int p1), (2, .int p2), (3, .int p3), (4, .int p4)] := hl
  show W p l e (rmL 4) s m [.ref (gA g 0), .int p1, .int p2, .int p3, .int p4].toArray below meth c s.heap [] 0 0 (MQ below (va_Qi (fun r (u : Ob) => EE = (r, u)) (fun u t => gC g A (gW g bb tx rw sb dy (va_up tn 0 u) mo jk) t) A) [.ref (gA g 0), .int p1, .int p2, .int p3, .int p4].toArray s 0 0 A) (F0 m 0 ls [])
  generalize hQ : MQ below (va_Qi (fun r (u : Ob) => EE = (r, u)) (fun u t => gC g A (gW g bb tx rw sb dy (va_up tn 0 u) mo jk) t) A) [.ref (gA g 0), .int p1, .int p2, .int p3, .int p4].toArray s 0 0 A = Q
  replace hG : gS g A s s.heap [] (gW g bb tx rw sb dy (va_up tn 0 (tn 0)) mo jk) := by simpa only [up_self] using hG
  unfold F_X5_townBy at hE
  refine lv_iload_n hx hb dX5_townBy_0 rfl (lv_at hl 1 rfl) ?_
  refine g_si (g_runS (n := 1) (rest := []) hx hb hml hown hts hG (c_X5_isSheet p1) tw_ml_RX5_217 tw_st_X5_isSheet tw_in_RX5 tw_cd_X5_isSheet (by decide +kernel) ⟨rfl, rfl, Nat.le_of_ble_eq_true rfl, Nat.le_of_ble_eq_true rfl⟩ rfl hl.1 rfl (Nat.le_of_ble_eq_true rfl) dX5_townBy_1 ⟨Nat.le_refl _, Nat.le_refl _⟩) hG hA (fun H locs hG => ?_)
  refine lv_if_eq (tgt := 27) hx hb dX5_townBy_4 (by decide) (fun c_4 => ?_) (fun c_4 => ?_)
  · replace hE := (if_pos c_4).symm.trans hE
    refine lv_bipush (v := (-2)) hx hb dX5_townBy_27 (by decide) ?_
    subst hQ
    exact g_iret hx hb hr hlocks hG (((tn 0)) : Ob) rfl hE.symm dX5_townBy_29
  replace hE := (if_neg c_4).symm.trans hE
  have i_4 := isSheet_f c_4
  refine lv_iload_n hx hb dX5_townBy_7 rfl (lv_at hl 2 rfl) ?_
  refine lv_iconst (v := 0) hx hb dX5_townBy_8 (by decide) ?_
  refine lv_iconst (v := 2) hx hb dX5_townBy_9 (by decide) ?_
  refine g_si (g_runS (n := 3) (rest := []) hx hb hml hown hts hG (c_X5_isWithin p2 0 2) tw_ml_RX5_81 tw_st_X5_isWithin tw_in_RX5 tw_cd_X5_isWithin (by decide +kernel) ⟨rfl, rfl, Nat.le_of_ble_eq_true rfl, Nat.le_of_ble_eq_true rfl⟩ rfl hl.1 rfl (Nat.le_of_ble_eq_true rfl) dX5_townBy_10 ⟨Nat.le_refl _, Nat.le_refl _⟩) hG hA (fun H locs hG => ?_)
  refine lv_if_eq (tgt := 27) hx hb dX5_townBy_13 (by decide) (fun c_13 => ?_) (fun c_13 => ?_)
  · replace hE := (if_pos c_13).symm.trans hE
    refine lv_bipush (v := (-2)) hx hb dX5_townBy_27 (by decide) ?_
    subst hQ
    exact g_iret hx hb hr hlocks hG (((tn 0)) : Ob) rfl hE.symm dX5_townBy_29
  replace hE := (if_neg c_13).symm.trans hE
  have i_13 : 0 ≤ p2.toInt ∧ p2.toInt ≤ 2 := within_f c_13
  refine lv_iload hx hb dX5_townBy_16 (lv_at hl 4 rfl) ?_
  refine lv_iconst (v := 0) hx hb dX5_townBy_18 (by decide) ?_
  refine lv_bipush (v := 6) hx hb dX5_townBy_19 (by decide) ?_
  refine g_si (g_runS (n := 3) (rest := []) hx hb hml hown hts hG (c_X5_isWithin p4 0 6) tw_ml_RX5_81 tw_st_X5_isWithin tw_in_RX5 tw_cd_X5_isWithin (by decide +kernel) ⟨rfl, rfl, Nat.le_of_ble_eq_true rfl, Nat.le_of_ble_eq_true rfl⟩ rfl hl.1 rfl (Nat.le_of_ble_eq_true rfl) dX5_townBy_21 ⟨Nat.le_refl _, Nat.le_refl _⟩) hG hA (fun H locs hG => ?_)
  refine lv_if_ne (tgt := 30) hx hb dX5_townBy_24 (by decide) (fun c_24 => ?_) (fun c_24 => ?_)
  · replace hE := (if_neg c_24).symm.trans hE
    have i_24 : 0 ≤ p4.toInt ∧ p4.toInt ≤ 6 := within_f c_24
    refine lv_aload_n hx hb dX5_townBy_30 rfl (lv_at hl 0 rfl) ?_
    refine g_get hx hb hts hiX5 hown hG gw_Bell rfl 1 (by decide) (index := 17) tw_fl_RX5_17 (v := .ref (gA g 2)) rfl dX5_townBy_31 ?_
    refine lv_iload_n hx hb dX5_townBy_34 rfl (lv_at hl 1 rfl) ?_
    have hi_35 : vp_in p1 4 := (vp_i (by clear hE; omega) (by clear hE; omega))
    have hj_35 := vp_lt hi_35
    refine g_ald hx hb hG (q0 := 2) (t0 := 1) rfl rfl hi_35 (b := gA g (27 + 2 * (Int32.toNatClampNeg p1))) rfl dX5_townBy_35 ?_
    refine lv_astore (lv' := [(5, .ref (gA g (27 + 2 * (Int32.toNatClampNeg p1)))), (0, .ref (gA g 0)), (1, .int p1), (2, .int p2), (3, .int p3), (4, .int p4)]) hx hb dX5_townBy_36 hl (by decide) rfl (fun ls hl => ?_)
    replace hl := lv_sub hl [1, 2, 3, 4, 5, 0] (l' := [(0, .ref (gA g 0)), (1, .int p1), (2, .int p2), (3, .int p3), (4, .int p4), (5, .ref (gA g (27 + 2 * (Int32.toNatClampNeg p1))))]) rfl
    refine lv_aload hx hb dX5_townBy_38 (lv_at hl 5 rfl) ?_
    refine g_ci (g_runV (n := 0) (rest := []) hx hb hml hown hts hG (c_X1_isMissing hj_35 rfl) tw_ml_RX5_232 tw_im_X1_isMissing tw_se_X1_isMissing tw_in_RX1 tw_cd_X1_isMissing (by decide +kernel) ⟨rfl, rfl, Nat.le_of_ble_eq_true rfl, Nat.le_of_ble_eq_true rfl⟩ (gw_Row hj_35 rfl) rfl rfl hl.1 rfl (Nat.le_of_ble_eq_true rfl) dX5_townBy_40 ⟨Nat.le_refl _, Nat.le_refl _⟩) hG hA (fun r _ H locs hp hG => ?_)
    subst hp
    replace hG : gS g A s H locs (gW g bb tx rw sb dy (va_up tn 0 (tn 0)) mo jk) := hG
    refine lv_if_eq (tgt := 49) hx hb dX5_townBy_43 (by decide) (fun c_43 => ?_) (fun c_43 => ?_)
    · replace hE := (if_pos c_43).symm.trans hE
      refine lv_aload hx hb dX5_townBy_49 (lv_at hl 5 rfl) ?_
      refine g_get hx hb hts hiX1 hown hG (gw_Row hj_35 rfl) rfl 1 (by decide) (index := 239) tw_fl_RX5_239 (v := .int ((rw (Int32.toNatClampNeg p1)).1 1)) rfl dX5_townBy_51 ?_
      refine lv_iload_n hx hb dX5_townBy_54 rfl (lv_at hl 2 rfl) ?_
      refine lv_icmp_eq (tgt := 61) hx hb dX5_townBy_55 (by decide) (fun c_55 => ?_) (fun c_55 => ?_)
      · replace hE := (if_pos c_55).symm.trans hE
        have i_55 : ((rw (Int32.toNatClampNeg p1)).1 1).toInt = p2.toInt := congrArg Int32.toInt c_55
        refine lv_iconst (v := 0) hx hb dX5_townBy_61 (by decide) ?_
        refine lv_istore (lv' := [(6, .int 0), (0, .ref (gA g 0)), (1, .int p1), (2, .int p2), (3, .int p3), (4, .int p4), (5, .ref (gA g (27 + 2 * (Int32.toNatClampNeg p1))))]) hx hb dX5_townBy_62 hl (by decide) rfl (fun ls hl => ?_)
        replace hl := lv_sub hl [1, 2, 3, 4, 5, 6, 0] (l' := [(0, .ref (gA g 0)), (1, .int p1), (2, .int p2), (3, .int p3), (4, .int p4), (5, .ref (gA g (27 + 2 * (Int32.toNatClampNeg p1)))), (6, .int 0)]) rfl
        refine lv_iconst (v := 0) hx hb dX5_townBy_64 (by decide) ?_
        refine lv_istore (lv' := [(7, .int 0), (0, .ref (gA g 0)), (1, .int p1), (2, .int p2), (3, .int p3), (4, .int p4), (5, .ref (gA g (27 + 2 * (Int32.toNatClampNeg p1)))), (6, .int 0)]) hx hb dX5_townBy_65 hl (by decide) rfl (fun ls hl => ?_)
        replace hl := lv_sub hl [1, 2, 3, 4, 5, 6, 7, 0] (l' := [(0, .ref (gA g 0)), (1, .int p1), (2, .int p2), (3, .int p3), (4, .int p4), (5, .ref (gA g (27 + 2 * (Int32.toNatClampNeg p1)))), (6, .int 0), (7, .int 0)]) rfl
        have L67 : ∀ (n67 : Nat) (x6_67 : Int32) (x7_67 : Int32) (t_m_67 : Ob) (H : Heap) (locs : List Loc), gS g A s H locs (gW g bb tx rw sb dy (va_up tn 0 t_m_67) mo jk) → ∀ ls : Array Slot, lv_has ls 9 [(0, .ref (gA g 0)), (3, .int p3), (4, .int p4), (5, .ref (gA g (27 + 2 * (Int32.toNatClampNeg p1)))), (6, .int x6_67), (7, .int x7_67)] → 0 ≤ x7_67.toInt → x7_67.toInt ≤ 6 → 6 < x7_67.toInt + n67 → 0 ≤ (t_m_67.1 6).toInt → F_X5_townBy_l67 n67  rw tn p1 t_m_67 p3 p4 x6_67 x7_67 = EE → W p l e (rmL 4) s m [.ref (gA g 0), .int p1, .int p2, .int p3, .int p4].toArray below meth c H locs 0 0 Q (F0 m 67 ls []) := by
          intro n67
          induction n67 with
          | zero =>
            intro x6_67 x7_67 t_m_67 H locs hG ls hl h0_67 h1_67 hm_67 hp67 hE
            clear hE; omega
          | succ n67 ih67 =>
            intro x6_67 x7_67 t_m_67 H locs hG ls hl h0_67 h1_67 hm_67 hp67 hE
            unfold F_X5_townBy_l67 at hE
            refine lv_iload hx hb dX5_townBy_67 (lv_at hl 5 rfl) ?_
            refine lv_iload hx hb dX5_townBy_69 (lv_at hl 2 rfl) ?_
            refine lv_icmp_ge (tgt := 143) hx hb dX5_townBy_71 (by decide) (fun c_71 => ?_) (fun c_71 => ?_)
            · replace hE := (if_pos c_71).symm.trans hE
              have i_71 : p4.toInt ≤ x7_67.toInt := i_le.mp c_71
              refine lv_iload hx hb dX5_townBy_143 (lv_at hl 4 rfl) ?_
              subst hQ
              exact g_iret hx hb hr hlocks hG ((t_m_67) : Ob) rfl hE.symm dX5_townBy_145
            replace hE := (if_neg c_71).symm.trans hE
            have i_71 : x7_67.toInt < p4.toInt := i_nle c_71
            refine lv_iload_n hx hb dX5_townBy_74 rfl (lv_at hl 1 rfl) ?_
            refine lv_iconst (v := 3) hx hb dX5_townBy_75 (by decide) ?_
            refine lv_iload hx hb dX5_townBy_76 (lv_at hl 5 rfl) ?_
            refine lv_imul hx hb dX5_townBy_78 ?_
            refine lv_iadd hx hb dX5_townBy_79 ?_
            refine lv_istore (lv' := [(8, .int (p3 + (3 * x7_67))), (0, .ref (gA g 0)), (3, .int p3), (4, .int p4), (5, .ref (gA g (27 + 2 * (Int32.toNatClampNeg p1)))), (6, .int x6_67), (7, .int x7_67)]) hx hb dX5_townBy_80 hl (by decide) rfl (fun ls hl => ?_)
            replace hl := lv_sub hl [1, 2, 3, 4, 5, 6, 0] (l' := [(0, .ref (gA g 0)), (3, .int p3), (4, .int p4), (5, .ref (gA g (27 + 2 * (Int32.toNatClampNeg p1)))), (6, .int x6_67), (7, .int x7_67), (8, .int (p3 + (3 * x7_67)))]) rfl
            refine lv_aload hx hb dX5_townBy_82 (lv_at hl 3 rfl) ?_
            refine lv_iload hx hb dX5_townBy_84 (lv_at hl 6 rfl) ?_
            refine lv_iconst (v := 3) hx hb dX5_townBy_86 (by decide) ?_
            refine g_ci (g_runV (n := 2) (rest := []) hx hb hml hown hts hG (c_X1_has hj_35 rfl (p3 + (3 * x7_67)) 3) tw_ml_RX5_236 tw_im_X1_has tw_se_X1_has tw_in_RX1 tw_cd_X1_has (by decide +kernel) ⟨rfl, rfl, Nat.le_of_ble_eq_true rfl, Nat.le_of_ble_eq_true rfl⟩ (gw_Row hj_35 rfl) rfl rfl hl.1 rfl (Nat.le_of_ble_eq_true rfl) dX5_townBy_87 ⟨Nat.le_refl _, Nat.le_refl _⟩) hG hA (fun r _ H locs hp hG => ?_)
            subst hp
            replace hG : gS g A s H locs (gW g bb tx rw sb dy (va_up tn 0 t_m_67) mo jk) := hG
            refine lv_if_ne (tgt := 96) hx hb dX5_townBy_90 (by decide) (fun c_90 => ?_) (fun c_90 => ?_)
            · replace hE := (if_neg c_90).symm.trans hE
              have i_90 := rowhas_f c_90
              have e3 : (3 : Int32).toInt = 3 := rfl
              have q90 := hrw _ hj_35
              have e117 : ((p3 + (3 * x7_67)) + 1).toInt = (p3 + (3 * x7_67)).toInt + 1 := addL (k := 1) (by decide +kernel) (by have z := i_90; clear hE; omega) (by have z := i_90; clear hE; omega)
              have e127 : ((p3 + (3 * x7_67)) + 2).toInt = (p3 + (3 * x7_67)).toInt + 2 := addL (k := 2) (by decide +kernel) (by have z := i_90; clear hE; omega) (by have z := i_90; clear hE; omega)
              refine lv_aload_n hx hb dX5_townBy_96 rfl (lv_at hl 0 rfl) ?_
              refine g_get hx hb hts hiX5 hown hG gw_Bell rfl 4 (by decide) (index := 53) tw_fl_RX5_53 (v := .ref (gA g (40 + 6 * 0))) rfl dX5_townBy_97 ?_
              refine lv_aload hx hb dX5_townBy_100 (lv_at hl 3 rfl) ?_
              refine g_get hx hb hts hiX1 hown hG (gw_Row hj_35 rfl) rfl 0 (by decide) (index := 242) tw_fl_RX5_242 (v := .ref (gA g (27 + 2 * (Int32.toNatClampNeg p1) + 1))) rfl dX5_townBy_102 ?_
              refine lv_iload hx hb dX5_townBy_105 (lv_at hl 6 rfl) ?_
              refine g_ild hx hb hG (gw_Row_a0 hj_35 rfl) (vp_i i_90.1 (by have q := hrw _ hj_35; have z := i_90; clear hE; omega)) dX5_townBy_107 ?_
              refine lv_aload hx hb dX5_townBy_108 (lv_at hl 3 rfl) ?_
              refine g_get hx hb hts hiX1 hown hG (gw_Row hj_35 rfl) rfl 0 (by decide) (index := 242) tw_fl_RX5_242 (v := .ref (gA g (27 + 2 * (Int32.toNatClampNeg p1) + 1))) rfl dX5_townBy_110 ?_
              refine lv_iload hx hb dX5_townBy_113 (lv_at hl 6 rfl) ?_
              refine lv_iconst (v := 1) hx hb dX5_townBy_115 (by decide) ?_
              refine lv_iadd hx hb dX5_townBy_116 ?_
              refine g_ild hx hb hG (gw_Row_a0 hj_35 rfl) (vp_i (by rw [e117]; have z := i_90; clear hE; omega) (by rw [e117]; have z := i_90; clear hE; omega)) dX5_townBy_117 ?_
              refine lv_aload hx hb dX5_townBy_118 (lv_at hl 3 rfl) ?_
              refine g_get hx hb hts hiX1 hown hG (gw_Row hj_35 rfl) rfl 0 (by decide) (index := 242) tw_fl_RX5_242 (v := .ref (gA g (27 + 2 * (Int32.toNatClampNeg p1) + 1))) rfl dX5_townBy_120 ?_
              refine lv_iload hx hb dX5_townBy_123 (lv_at hl 6 rfl) ?_
              refine lv_iconst (v := 2) hx hb dX5_townBy_125 (by decide) ?_
              refine lv_iadd hx hb dX5_townBy_126 ?_
              refine g_ild hx hb hG (gw_Row_a0 hj_35 rfl) (vp_i (by rw [e127]; have z := i_90; clear hE; omega) (by rw [e127]; have z := i_90; clear hE; omega)) dX5_townBy_127 ?_
              refine g_ci (g_runV (n := 3) (rest := []) hx hb hml hown hts hG (c_X4_join (by decide) (up_same _ _ _) (((rw (Int32.toNatClampNeg p1)).2 0) (Int32.toNatClampNeg (p3 + (3 * x7_67)))) (((rw (Int32.toNatClampNeg p1)).2 0) (Int32.toNatClampNeg ((p3 + (3 * x7_67)) + 1))) (((rw (Int32.toNatClampNeg p1)).2 0) (Int32.toNatClampNeg ((p3 + (3 * x7_67)) + 2))) hp67) tw_ml_RX5_112 tw_im_X4_join tw_se_X4_join tw_in_RX4 tw_cd_X4_join (by decide +kernel) ⟨rfl, rfl, Nat.le_of_ble_eq_true rfl, Nat.le_of_ble_eq_true rfl⟩ (gw_Town (o := 0) (by decide) (up_same _ _ _)) rfl rfl hl.1 rfl (Nat.le_of_ble_eq_true rfl) dX5_townBy_128 ⟨Nat.le_refl _, Nat.le_refl _⟩) hG hA (fun r_128 u H locs hp hG => ?_)
              obtain ⟨t_m_128, rfl⟩ : ∃ z, z = u := ⟨u, rfl⟩
              replace hG : gS g A s H locs (gW g bb tx rw sb dy (va_up tn 0 t_m_128) mo jk) := by simpa only [up_up] using hG
              have hp_128 := hp
              rw [hp] at hE
              unfold F_X5_townBy_c128 at hE
              try dsimp only at hE
              have hp128 : 0 ≤ (t_m_128.1 6).toInt := join_6 hp_128 hp67
              have J137 : ∀ (x6_137 : Int32) (H : Heap) (locs : List Loc), gS g A s H locs (gW g bb tx rw sb dy (va_up tn 0 t_m_128) mo jk) → ∀ ls : Array Slot, lv_has ls 9 [(0, .ref (gA g 0)), (3, .int p3), (4, .int p4), (5, .ref (gA g (27 + 2 * (Int32.toNatClampNeg p1)))), (6, .int x6_137), (7, .int x7_67)] → 0 ≤ (t_m_128.1 6).toInt → F_X5_townBy_b137  (F_X5_townBy_l67 n67 ) rw tn p1 t_m_128 p3 p4 x6_137 x7_67 = EE → W p l e (rmL 4) s m [.ref (gA g 0), .int p1, .int p2, .int p3, .int p4].toArray below meth c H locs 0 0 Q (F0 m 137 ls []) := by
                intro x6_137 H locs hG ls hl hp137 hE
                unfold F_X5_townBy_b137 at hE
                refine lv_iinc (v := (x7_67 + 1)) (lv' := [(7, .int (x7_67 + 1)), (0, .ref (gA g 0)), (3, .int p3), (4, .int p4), (5, .ref (gA g (27 + 2 * (Int32.toNatClampNeg p1)))), (6, .int x6_137)]) hx hb dX5_townBy_137 hl (k := 5) rfl rfl (by decide) rfl (fun ls hl => ?_)
                replace hl := lv_sub hl [1, 2, 3, 4, 5, 0] (l' := [(0, .ref (gA g 0)), (3, .int p3), (4, .int p4), (5, .ref (gA g (27 + 2 * (Int32.toNatClampNeg p1)))), (6, .int x6_137), (7, .int (x7_67 + 1))]) rfl
                refine lv_goto (tgt := 67) hx hb dX5_townBy_140 (by decide) ?_
                have e1 : (x7_67 + 1).toInt = x7_67.toInt + 1 := addL (k := 1) (by decide +kernel) (by clear hE; omega) (by clear hE; omega)
                exact ih67 x6_137 (x7_67 + 1) t_m_128 _ _ hG _ (lv_sub hl [0, 1, 2, 3, 4, 5] rfl) (by clear hE; omega) (by clear hE; omega) (by clear hE; omega) hp137 hE
              refine lv_if_lt (tgt := 137) hx hb dX5_townBy_131 (by decide) (fun c_131 => ?_) (fun c_131 => ?_)
              · replace hE := (if_pos c_131).symm.trans hE
                have i_131 : r_128.toInt < 0 := i_lt.mp c_131
                exact J137 x6_67 _ _ hG _ (lv_sub hl [0, 1, 2, 3, 4, 5] rfl) hp128 hE
              replace hE := (if_neg c_131).symm.trans hE
              have i_131 : 0 ≤ r_128.toInt := i_nlt c_131
              refine lv_iinc (v := (x6_67 + 1)) (lv' := [(6, .int (x6_67 + 1)), (0, .ref (gA g 0)), (3, .int p3), (4, .int p4), (5, .ref (gA g (27 + 2 * (Int32.toNatClampNeg p1)))), (7, .int x7_67), (8, .int (p3 + (3 * x7_67)))]) hx hb dX5_townBy_134 hl (k := 4) rfl rfl (by decide) rfl (fun ls hl => ?_)
              replace hl := lv_sub hl [1, 2, 3, 4, 0, 5, 6] (l' := [(0, .ref (gA g 0)), (3, .int p3), (4, .int p4), (5, .ref (gA g (27 + 2 * (Int32.toNatClampNeg p1)))), (6, .int (x6_67 + 1)), (7, .int x7_67), (8, .int (p3 + (3 * x7_67)))]) rfl
              exact J137 (x6_67 + 1) _ _ hG _ (lv_sub hl [0, 1, 2, 3, 4, 5] rfl) hp128 hE
            replace hE := (if_pos c_90).symm.trans hE
            refine lv_bipush (v := (-12)) hx hb dX5_townBy_93 (by decide) ?_
            subst hQ
            exact g_iret hx hb hr hlocks hG ((t_m_67) : Ob) rfl hE.symm dX5_townBy_95
        exact L67 7 0 0 (tn 0) _ _ hG _ (lv_sub hl [0, 3, 4, 5, 6, 7] rfl) (by decide) (by decide) (by decide) hp6 hE
      replace hE := (if_neg c_55).symm.trans hE
      have i_55 : ((rw (Int32.toNatClampNeg p1)).1 1).toInt ≠ p2.toInt := fun h => c_55 (Int32.toInt_inj.mp h)
      refine lv_bipush (v := (-13)) hx hb dX5_townBy_58 (by decide) ?_
      subst hQ
      exact g_iret hx hb hr hlocks hG (((tn 0)) : Ob) rfl hE.symm dX5_townBy_60
    replace hE := (if_neg c_43).symm.trans hE
    refine lv_bipush (v := (-11)) hx hb dX5_townBy_46 (by decide) ?_
    subst hQ
    exact g_iret hx hb hr hlocks hG (((tn 0)) : Ob) rfl hE.symm dX5_townBy_48
  replace hE := (if_pos c_24).symm.trans hE
  refine lv_bipush (v := (-2)) hx hb dX5_townBy_27 (by decide) ?_
  subst hQ
  exact g_iret hx hb hr hlocks hG (((tn 0)) : Ob) rfl hE.symm dX5_townBy_29
theorem tw_ml_RX5_245 : Cond.methodLink RX5 245 arraycopyName ∈ TT := tm (tb_3 (List.mem_of_getElem? (i := 200) rfl)) rfl
theorem tw_st_ac : Cond.static arraycopyName ∈ TT := tm (tb_3 (List.mem_of_getElem? (i := 201) rfl)) rfl
theorem tw_na_ac : Cond.native arraycopyName ∈ TT := tm (tb_3 (List.mem_of_getElem? (i := 202) rfl)) rfl
def cpA (T : Ob) (k : Nat) (f : Nat → Int32) (sp dp n : Int32) : Ob := (T.1, va_up T.2 k (va_cpy f (T.2 k) sp.toNatClampNeg dp.toNatClampNeg n.toNatClampNeg))
theorem gcs_Row {g : GG} {bb : Ob} {tx rw : Nat → Ob} {sb dy : Ob} {tn : Nat → Ob} {mo : Ob} {jk : Nat → Nat → Int32} {o : Nat} (ho : o < 4) {T : Ob} (hT : rw o = T) {f : Nat → Int32} {sp dp n : Int32} : (gW g bb tx rw sb dy tn mo jk).set (27 + 2 * o + 1) (gA g ((27 + 2 * o) + 1), .inl (g.2.1, 40, .inl (va_cpy f (T.2 0) sp.toNatClampNeg dp.toNatClampNeg n.toNatClampNeg))) = (gW g bb tx (va_up rw o (cpA T 0 f sp dp n)) sb dy tn mo jk) := by
  subst hT
  rcases (show o = 0 ∨ o = 1 ∨ o = 2 ∨ o = 3 by omega) with rfl | rfl | rfl | rfl <;> rfl
theorem gc_Row {g : GG} {bb : Ob} {tx rw : Nat → Ob} {sb dy : Ob} {tn : Nat → Ob} {mo : Ob} {jk : Nat → Nat → Int32} {o : Nat} (ho : o < 4) {T : Ob} {f : Nat → Int32} {sp dp n : Int32} : (gW g bb tx (va_up rw o T) sb dy tn mo jk).set (27 + 2 * o + 1) (gA g ((27 + 2 * o) + 1), .inl (g.2.1, 40, .inl (va_cpy f (T.2 0) sp.toNatClampNeg dp.toNatClampNeg n.toNatClampNeg))) = (gW g bb tx (va_up rw o (cpA T 0 f sp dp n)) sb dy tn mo jk) := (gcs_Row ho (up_same _ _ _)).trans (by rw [up_up])
section GCOPY
variable {p : Program} {l : Launch} {e : Env} {R : Room} {s : State} {m : MethodId} {args : Array Value} {below : List Frame} {meth : Method} {c : Code} {H : Heap} {locs : List Loc} {cells slots : Nat} {Q : State → Prop}
variable {cc : ByteArray} {pc : Nat} {ls : Array Slot} {rest : List Value} {g : GG} {A : Nat → Prop} {a : Nat} {w w' : va_W}
theorem g_copy (hx : p.tables.exec = Jvm.exec) (hb : c.code = cc) {nL : Nat} (hml : c.maxLocals = nL) (hsz : ls.size = nL) {own : String} {index : Nat} (hts : ∀ w ∈ TT, w.before args s = true) (hown : s.vm.findClass own = some m.cls) (m1 : Cond.methodLink own index arraycopyName ∈ TT) (hG : gS g A s H locs w) {q0 q1 a0 n0 n1 : Nat} {f f1 : Nat → Int32} (he0 : w[q0]? = some (a0, .inl (g.2.1, n0, .inl f))) (he1 : w[q1]? = some (a, .inl (g.2.1, n1, .inl f1))) {sp dp n : Int32} (b0 : 0 ≤ sp.toInt) (b1 : 0 ≤ dp.toInt) (b2 : 0 ≤ n.toInt) (b3 : sp.toInt + n.toInt ≤ n0) (b4 : dp.toInt + n.toInt ≤ n1)
    (hset : w.set q1 (a, .inl (g.2.1, n1, .inl (va_cpy f f1 sp.toNatClampNeg dp.toNatClampNeg n.toNatClampNeg))) = w') (hf : 1 ≤ R.frames) (hlo : (rest.map fun v => v.category).sum + (nativeFrameWords "java/lang/System" "arraycopy" 5 + 11) ≤ R.locals) (hdg : decode cc pc = .ok (.invokestatic index, 3))
    (kk : ∀ (H1 : Heap) (locs1 : List Loc), gS g A s H1 locs1 w' → W p l e R s m args below meth c H1 locs1 cells slots Q (F0 m (pc + 3) ls rest)) : W p l e R s m args below meth c H locs cells slots Q (F0 m pc ls (.int n :: .int dp :: .ref a :: .int sp :: .ref a0 :: rest)) := by
  have nz : ∀ z : Int32, 0 ≤ z.toInt → ¬ z < 0 := fun z h q => by
    have := i_lt.mp q
    have e0 : (0 : Int32).toInt = 0 := rfl
    omega
  have tz : ∀ z : Int32, z.toNatClampNeg = z.toInt.toNat := fun z => rfl
  exact va_copyi hx hb (hml.trans hsz.symm) hown (hts _ m1) (hts _ tw_na_ac) (hts _ tw_st_ac) (hts _ tw_in_RJ10) hG.1.1 hG.2.1 hG.2.2.1 hG.2.2.2 q0 q1 0 0 he0 he1 rfl rfl rfl (nz _ b0) (nz _ b1) (nz _ b2) (by rw [tz, tz]; omega) (by rw [tz, tz]; omega) (fun _ _ => rfl) hf hlo hdg (fun H1 locs1 hP hD hS => kk H1 locs1 ⟨hG.1, hset ▸ hP, hset ▸ hD, hS⟩)
end GCOPY

def F_X5_copy (rw : Nat → Ob) (p1 : Int32) (p2 : Int32) (p3 : Int32) (p4 : Int32) (p5 : Int32) : Int32 × Ob :=
  (if (F_X5_isSheet p1) = 0 then ((-2), (rw (Int32.toNatClampNeg p3))) else (if (F_X5_isSheet p3) = 0 then ((-2), (rw (Int32.toNatClampNeg p3))) else (if (F_X1_isMissing (rw (Int32.toNatClampNeg p1))) = 0 then (if (F_X1_isMissing (rw (Int32.toNatClampNeg p3))) = 0 then (if ((rw (Int32.toNatClampNeg p1)).1 1) = ((rw (Int32.toNatClampNeg p3)).1 1) then (if (F_X1_has (rw (Int32.toNatClampNeg p1)) p2 p5) = 0 then ((-12), (rw (Int32.toNatClampNeg p3))) else (if (F_X1_has (rw (Int32.toNatClampNeg p3)) p4 p5) = 0 then ((-12), (rw (Int32.toNatClampNeg p3))) else (p5, (cpA (rw (Int32.toNatClampNeg p3)) 0 ((rw (Int32.toNatClampNeg p1)).2 0) p2 p4 p5)))) else ((-13), (rw (Int32.toNatClampNeg p3)))) else ((-11), (rw (Int32.toNatClampNeg p3)))) else ((-11), (rw (Int32.toNatClampNeg p3))))))
set_option maxHeartbeats 4000000 in
set_option maxRecDepth 100000 in
theorem c_X5_copy {l : Launch} {g : GG} {sz : Nat} {bb : Ob} {tx rw : Nat → Ob} {sb dy : Ob} {tn : Nat → Ob} {mo : Ob} {jk : Nat → Nat → Int32}  (p1 : Int32) (p2 : Int32) (p3 : Int32) (p4 : Int32) (p5 : Int32) (hrw : ∀ s : Nat, s < 4 → 0 ≤ ((rw s).1 2).toInt ∧ ((rw s).1 2).toInt ≤ 40) : Met l yX5_copy (Cond.code yX5_copy cX5_copy 8 (some .int) :: TT) (rmL 3) (va_Pc [.ref (gA g 0), .int p1, .int p2, .int p3, .int p4, .int p5] (gB g sz (gW g bb tx rw sb dy tn mo jk))) (va_Qi (fun r (u : Ob) => (F_X5_copy rw p1 p2 p3 p4 p5) = (r, u)) (fun u t => gC g (va_A (gW g bb tx rw sb dy tn mo jk) sz) (gW g bb tx (va_up rw (Int32.toNatClampNeg p3) u) sb dy tn mo jk) t) (va_A (gW g bb tx rw sb dy tn mo jk) sz)) 0 0 (va_A (gW g bb tx rw sb dy tn mo jk) sz) := by
  generalize hE : F_X5_copy rw p1 p2 p3 p4 p5 = EE
  refine g_of (Qf := fun A => (va_Qi (fun r (u : Ob) => EE = (r, u)) (fun u t => gC g A (gW g bb tx (va_up rw (Int32.toNatClampNeg p3) u) sb dy tn mo jk) t) A)) (cc := cX5_copy) (maxL := 8) (ret := (some .int)) (by decide) (Nat.le_of_ble_eq_true rfl) ?_
  intro p e s m below meth c A ls hx hb hml hr hlocks hts hown hA hG hl
  replace hown : s.vm.findClass RX5 = some m.cls := hown
  replace hl : lv_has ls 8 [(0, .ref (gA g 0)), (1, .int p1), (2, .int p2), (3, .int p3), (4, .int p4), (5, .int p5)] := hl
  show W p l e (rmL 3) s m [.ref (gA g 0), .int p1, .int p2, .int p3, .int p4, .int p5].toArray below meth c s.heap [] 0 0 (MQ below (va_Qi (fun r (u : Ob) => EE = (r, u)) (fun u t => gC g A (gW g bb tx (va_up rw (Int32.toNatClampNeg p3) u) sb dy tn mo jk) t) A) [.ref (gA g 0), .int p1, .int p2, .int p3, .int p4, .int p5].toArray s 0 0 A) (F0 m 0 ls [])
  generalize hQ : MQ below (va_Qi (fun r (u : Ob) => EE = (r, u)) (fun u t => gC g A (gW g bb tx (va_up rw (Int32.toNatClampNeg p3) u) sb dy tn mo jk) t) A) [.ref (gA g 0), .int p1, .int p2, .int p3, .int p4, .int p5].toArray s 0 0 A = Q
  replace hG : gS g A s s.heap [] (gW g bb tx (va_up rw (Int32.toNatClampNeg p3) (rw (Int32.toNatClampNeg p3))) sb dy tn mo jk) := by simpa only [up_self] using hG
  unfold F_X5_copy at hE
  refine lv_iload_n hx hb dX5_copy_0 rfl (lv_at hl 1 rfl) ?_
  refine g_si (g_runS (n := 1) (rest := []) hx hb hml hown hts hG (c_X5_isSheet p1) tw_ml_RX5_217 tw_st_X5_isSheet tw_in_RX5 tw_cd_X5_isSheet (by decide +kernel) ⟨rfl, rfl, Nat.le_of_ble_eq_true rfl, Nat.le_of_ble_eq_true rfl⟩ rfl hl.1 rfl (Nat.le_of_ble_eq_true rfl) dX5_copy_1 ⟨Nat.le_refl _, Nat.le_refl _⟩) hG hA (fun H locs hG => ?_)
  refine lv_if_eq (tgt := 14) hx hb dX5_copy_4 (by decide) (fun c_4 => ?_) (fun c_4 => ?_)
  · replace hE := (if_pos c_4).symm.trans hE
    refine lv_bipush (v := (-2)) hx hb dX5_copy_14 (by decide) ?_
    subst hQ
    exact g_iret hx hb hr hlocks hG (((rw (Int32.toNatClampNeg p3))) : Ob) rfl hE.symm dX5_copy_16
  replace hE := (if_neg c_4).symm.trans hE
  have i_4 := isSheet_f c_4
  refine lv_iload_n hx hb dX5_copy_7 rfl (lv_at hl 3 rfl) ?_
  refine g_si (g_runS (n := 1) (rest := []) hx hb hml hown hts hG (c_X5_isSheet p3) tw_ml_RX5_217 tw_st_X5_isSheet tw_in_RX5 tw_cd_X5_isSheet (by decide +kernel) ⟨rfl, rfl, Nat.le_of_ble_eq_true rfl, Nat.le_of_ble_eq_true rfl⟩ rfl hl.1 rfl (Nat.le_of_ble_eq_true rfl) dX5_copy_8 ⟨Nat.le_refl _, Nat.le_refl _⟩) hG hA (fun H locs hG => ?_)
  refine lv_if_ne (tgt := 17) hx hb dX5_copy_11 (by decide) (fun c_11 => ?_) (fun c_11 => ?_)
  · replace hE := (if_neg c_11).symm.trans hE
    have i_11 := isSheet_f c_11
    refine lv_aload_n hx hb dX5_copy_17 rfl (lv_at hl 0 rfl) ?_
    refine g_get hx hb hts hiX5 hown hG gw_Bell rfl 1 (by decide) (index := 17) tw_fl_RX5_17 (v := .ref (gA g 2)) rfl dX5_copy_18 ?_
    refine lv_iload_n hx hb dX5_copy_21 rfl (lv_at hl 1 rfl) ?_
    have hi_22 : vp_in p1 4 := (vp_i (by clear hE; omega) (by clear hE; omega))
    have hj_22 := vp_lt hi_22
    refine g_ald hx hb hG (q0 := 2) (t0 := 1) rfl rfl hi_22 (b := gA g (27 + 2 * (Int32.toNatClampNeg p1))) rfl dX5_copy_22 ?_
    refine lv_astore (lv' := [(6, .ref (gA g (27 + 2 * (Int32.toNatClampNeg p1)))), (0, .ref (gA g 0)), (1, .int p1), (2, .int p2), (3, .int p3), (4, .int p4), (5, .int p5)]) hx hb dX5_copy_23 hl (by decide) rfl (fun ls hl => ?_)
    replace hl := lv_sub hl [1, 2, 3, 4, 5, 6, 0] (l' := [(0, .ref (gA g 0)), (1, .int p1), (2, .int p2), (3, .int p3), (4, .int p4), (5, .int p5), (6, .ref (gA g (27 + 2 * (Int32.toNatClampNeg p1))))]) rfl
    refine lv_aload_n hx hb dX5_copy_25 rfl (lv_at hl 0 rfl) ?_
    refine g_get hx hb hts hiX5 hown hG gw_Bell rfl 1 (by decide) (index := 17) tw_fl_RX5_17 (v := .ref (gA g 2)) rfl dX5_copy_26 ?_
    refine lv_iload_n hx hb dX5_copy_29 rfl (lv_at hl 3 rfl) ?_
    have hi_30 : vp_in p3 4 := (vp_i (by clear hE; omega) (by clear hE; omega))
    have hj_30 := vp_lt hi_30
    refine g_ald hx hb hG (q0 := 2) (t0 := 1) rfl rfl hi_30 (b := gA g (27 + 2 * (Int32.toNatClampNeg p3))) rfl dX5_copy_30 ?_
    refine lv_astore (lv' := [(7, .ref (gA g (27 + 2 * (Int32.toNatClampNeg p3)))), (0, .ref (gA g 0)), (1, .int p1), (2, .int p2), (3, .int p3), (4, .int p4), (5, .int p5), (6, .ref (gA g (27 + 2 * (Int32.toNatClampNeg p1))))]) hx hb dX5_copy_31 hl (by decide) rfl (fun ls hl => ?_)
    replace hl := lv_sub hl [1, 2, 3, 4, 5, 6, 7, 0] (l' := [(0, .ref (gA g 0)), (1, .int p1), (2, .int p2), (3, .int p3), (4, .int p4), (5, .int p5), (6, .ref (gA g (27 + 2 * (Int32.toNatClampNeg p1)))), (7, .ref (gA g (27 + 2 * (Int32.toNatClampNeg p3))))]) rfl
    refine lv_aload hx hb dX5_copy_33 (lv_at hl 6 rfl) ?_
    refine g_ci (g_runV (n := 0) (rest := []) hx hb hml hown hts hG (c_X1_isMissing hj_22 (congrFun (up_self _ _) _)) tw_ml_RX5_232 tw_im_X1_isMissing tw_se_X1_isMissing tw_in_RX1 tw_cd_X1_isMissing (by decide +kernel) ⟨rfl, rfl, Nat.le_of_ble_eq_true rfl, Nat.le_of_ble_eq_true rfl⟩ (gw_Row hj_22 (congrFun (up_self _ _) _)) rfl rfl hl.1 rfl (Nat.le_of_ble_eq_true rfl) dX5_copy_35 ⟨Nat.le_refl _, Nat.le_refl _⟩) hG hA (fun r _ H locs hp hG => ?_)
    subst hp
    replace hG : gS g A s H locs (gW g bb tx (va_up rw (Int32.toNatClampNeg p3) (rw (Int32.toNatClampNeg p3))) sb dy tn mo jk) := hG
    refine lv_if_ne (tgt := 49) hx hb dX5_copy_38 (by decide) (fun c_38 => ?_) (fun c_38 => ?_)
    · replace hE := (if_neg c_38).symm.trans hE
      refine lv_bipush (v := (-11)) hx hb dX5_copy_49 (by decide) ?_
      subst hQ
      exact g_iret hx hb hr hlocks hG (((rw (Int32.toNatClampNeg p3))) : Ob) rfl hE.symm dX5_copy_51
    replace hE := (if_pos c_38).symm.trans hE
    refine lv_aload hx hb dX5_copy_41 (lv_at hl 7 rfl) ?_
    refine g_ci (g_runV (n := 0) (rest := []) hx hb hml hown hts hG (c_X1_isMissing hj_30 (up_same _ _ _)) tw_ml_RX5_232 tw_im_X1_isMissing tw_se_X1_isMissing tw_in_RX1 tw_cd_X1_isMissing (by decide +kernel) ⟨rfl, rfl, Nat.le_of_ble_eq_true rfl, Nat.le_of_ble_eq_true rfl⟩ (gw_Row hj_30 (up_same _ _ _)) rfl rfl hl.1 rfl (Nat.le_of_ble_eq_true rfl) dX5_copy_43 ⟨Nat.le_refl _, Nat.le_refl _⟩) hG hA (fun r _ H locs hp hG => ?_)
    subst hp
    replace hG : gS g A s H locs (gW g bb tx (va_up rw (Int32.toNatClampNeg p3) (rw (Int32.toNatClampNeg p3))) sb dy tn mo jk) := hG
    refine lv_if_eq (tgt := 52) hx hb dX5_copy_46 (by decide) (fun c_46 => ?_) (fun c_46 => ?_)
    · replace hE := (if_pos c_46).symm.trans hE
      refine lv_aload hx hb dX5_copy_52 (lv_at hl 6 rfl) ?_
      refine g_get hx hb hts hiX1 hown hG (gw_Row hj_22 (congrFun (up_self _ _) _)) rfl 1 (by decide) (index := 239) tw_fl_RX5_239 (v := .int ((rw (Int32.toNatClampNeg p1)).1 1)) rfl dX5_copy_54 ?_
      refine lv_aload hx hb dX5_copy_57 (lv_at hl 7 rfl) ?_
      refine g_get hx hb hts hiX1 hown hG (gw_Row hj_30 (up_same _ _ _)) rfl 1 (by decide) (index := 239) tw_fl_RX5_239 (v := .int ((rw (Int32.toNatClampNeg p3)).1 1)) rfl dX5_copy_59 ?_
      refine lv_icmp_eq (tgt := 68) hx hb dX5_copy_62 (by decide) (fun c_62 => ?_) (fun c_62 => ?_)
      · replace hE := (if_pos c_62).symm.trans hE
        have i_62 : ((rw (Int32.toNatClampNeg p1)).1 1).toInt = ((rw (Int32.toNatClampNeg p3)).1 1).toInt := congrArg Int32.toInt c_62
        refine lv_aload hx hb dX5_copy_68 (lv_at hl 6 rfl) ?_
        refine lv_iload_n hx hb dX5_copy_70 rfl (lv_at hl 2 rfl) ?_
        refine lv_iload hx hb dX5_copy_71 (lv_at hl 5 rfl) ?_
        refine g_ci (g_runV (n := 2) (rest := []) hx hb hml hown hts hG (c_X1_has hj_22 (congrFun (up_self _ _) _) p2 p5) tw_ml_RX5_236 tw_im_X1_has tw_se_X1_has tw_in_RX1 tw_cd_X1_has (by decide +kernel) ⟨rfl, rfl, Nat.le_of_ble_eq_true rfl, Nat.le_of_ble_eq_true rfl⟩ (gw_Row hj_22 (congrFun (up_self _ _) _)) rfl rfl hl.1 rfl (Nat.le_of_ble_eq_true rfl) dX5_copy_73 ⟨Nat.le_refl _, Nat.le_refl _⟩) hG hA (fun r _ H locs hp hG => ?_)
        subst hp
        replace hG : gS g A s H locs (gW g bb tx (va_up rw (Int32.toNatClampNeg p3) (rw (Int32.toNatClampNeg p3))) sb dy tn mo jk) := hG
        refine lv_if_eq (tgt := 91) hx hb dX5_copy_76 (by decide) (fun c_76 => ?_) (fun c_76 => ?_)
        · replace hE := (if_pos c_76).symm.trans hE
          refine lv_bipush (v := (-12)) hx hb dX5_copy_91 (by decide) ?_
          subst hQ
          exact g_iret hx hb hr hlocks hG (((rw (Int32.toNatClampNeg p3))) : Ob) rfl hE.symm dX5_copy_93
        replace hE := (if_neg c_76).symm.trans hE
        have i_76 := rowhas_f c_76
        refine lv_aload hx hb dX5_copy_79 (lv_at hl 7 rfl) ?_
        refine lv_iload hx hb dX5_copy_81 (lv_at hl 4 rfl) ?_
        refine lv_iload hx hb dX5_copy_83 (lv_at hl 5 rfl) ?_
        refine g_ci (g_runV (n := 2) (rest := []) hx hb hml hown hts hG (c_X1_has hj_30 (up_same _ _ _) p4 p5) tw_ml_RX5_236 tw_im_X1_has tw_se_X1_has tw_in_RX1 tw_cd_X1_has (by decide +kernel) ⟨rfl, rfl, Nat.le_of_ble_eq_true rfl, Nat.le_of_ble_eq_true rfl⟩ (gw_Row hj_30 (up_same _ _ _)) rfl rfl hl.1 rfl (Nat.le_of_ble_eq_true rfl) dX5_copy_85 ⟨Nat.le_refl _, Nat.le_refl _⟩) hG hA (fun r _ H locs hp hG => ?_)
        subst hp
        replace hG : gS g A s H locs (gW g bb tx (va_up rw (Int32.toNatClampNeg p3) (rw (Int32.toNatClampNeg p3))) sb dy tn mo jk) := hG
        refine lv_if_ne (tgt := 94) hx hb dX5_copy_88 (by decide) (fun c_88 => ?_) (fun c_88 => ?_)
        · replace hE := (if_neg c_88).symm.trans hE
          have i_88 := rowhas_f c_88
          refine lv_aload hx hb dX5_copy_94 (lv_at hl 6 rfl) ?_
          refine g_get hx hb hts hiX1 hown hG (gw_Row hj_22 (congrFun (up_self _ _) _)) rfl 0 (by decide) (index := 242) tw_fl_RX5_242 (v := .ref (gA g (27 + 2 * (Int32.toNatClampNeg p1) + 1))) rfl dX5_copy_96 ?_
          refine lv_iload_n hx hb dX5_copy_99 rfl (lv_at hl 2 rfl) ?_
          refine lv_aload hx hb dX5_copy_100 (lv_at hl 7 rfl) ?_
          refine g_get hx hb hts hiX1 hown hG (gw_Row hj_30 (up_same _ _ _)) rfl 0 (by decide) (index := 242) tw_fl_RX5_242 (v := .ref (gA g (27 + 2 * (Int32.toNatClampNeg p3) + 1))) rfl dX5_copy_102 ?_
          refine lv_iload hx hb dX5_copy_105 (lv_at hl 4 rfl) ?_
          refine lv_iload hx hb dX5_copy_107 (lv_at hl 5 rfl) ?_
          refine g_copy hx hb hml hl.1 hts hown tw_ml_RX5_245 hG (gw_Row_a0 hj_22 (congrFun (up_self _ _) _)) (gw_Row_a0 hj_30 (up_same _ _ _)) (by have z1 := i_76; have z2 := i_88; clear hE; omega) (by have z1 := i_76; have z2 := i_88; clear hE; omega) (by have z1 := i_76; have z2 := i_88; clear hE; omega) (by have z1 := i_76; have z2 := i_88; have q1 := hrw _ hj_22; have q2 := hrw _ hj_30; clear hE; omega) (by have z1 := i_76; have z2 := i_88; have q1 := hrw _ hj_22; have q2 := hrw _ hj_30; clear hE; omega) (gc_Row hj_30) (Nat.le_of_ble_eq_true rfl) (by decide) dX5_copy_109 (fun H locs hG => ?_)
          refine lv_iload hx hb dX5_copy_112 (lv_at hl 5 rfl) ?_
          subst hQ
          exact g_iret hx hb hr hlocks hG (((cpA (rw (Int32.toNatClampNeg p3)) 0 ((rw (Int32.toNatClampNeg p1)).2 0) p2 p4 p5)) : Ob) rfl hE.symm dX5_copy_114
        replace hE := (if_pos c_88).symm.trans hE
        refine lv_bipush (v := (-12)) hx hb dX5_copy_91 (by decide) ?_
        subst hQ
        exact g_iret hx hb hr hlocks hG (((rw (Int32.toNatClampNeg p3))) : Ob) rfl hE.symm dX5_copy_93
      replace hE := (if_neg c_62).symm.trans hE
      have i_62 : ((rw (Int32.toNatClampNeg p1)).1 1).toInt ≠ ((rw (Int32.toNatClampNeg p3)).1 1).toInt := fun h => c_62 (Int32.toInt_inj.mp h)
      refine lv_bipush (v := (-13)) hx hb dX5_copy_65 (by decide) ?_
      subst hQ
      exact g_iret hx hb hr hlocks hG (((rw (Int32.toNatClampNeg p3))) : Ob) rfl hE.symm dX5_copy_67
    replace hE := (if_neg c_46).symm.trans hE
    refine lv_bipush (v := (-11)) hx hb dX5_copy_49 (by decide) ?_
    subst hQ
    exact g_iret hx hb hr hlocks hG (((rw (Int32.toNatClampNeg p3))) : Ob) rfl hE.symm dX5_copy_51
  replace hE := (if_pos c_11).symm.trans hE
  refine lv_bipush (v := (-2)) hx hb dX5_copy_14 (by decide) ?_
  subst hQ
  exact g_iret hx hb hr hlocks hG (((rw (Int32.toNatClampNeg p3))) : Ob) rfl hE.symm dX5_copy_16
