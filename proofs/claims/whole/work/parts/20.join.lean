def F_X4_join (T : Ob) (p1 : Int32) (p2 : Int32) (p3 : Int32) : Int32 × Ob :=
  (if (F_X5_isWithin p1 0 59) = 0 then ((-2), T) else (if (F_X5_isWithin p2 0 99) = 0 then ((-2), T) else (if (F_X5_isWithin p3 0 16777215) = 0 then ((-2), T) else (if (T.1 6) < 6 then ((T.1 6), (setS (setS (stA (stA (stA (stA (stA T 0 (T.1 6) (p1 / 10)) 1 (T.1 6) (p1 - p1 / 10 * 10)) 2 (T.1 6) p2) 3 (T.1 6) 0) 4 (T.1 6) p3) 5 (((stA (stA (stA (stA (stA T 0 (T.1 6) (p1 / 10)) 1 (T.1 6) (p1 - p1 / 10 * 10)) 2 (T.1 6) p2) 3 (T.1 6) 0) 4 (T.1 6) p3).1 5) &&& ((1 <<< ((T.1 6) &&& 31)) ^^^ (-1)))) 6 (((setS (stA (stA (stA (stA (stA T 0 (T.1 6) (p1 / 10)) 1 (T.1 6) (p1 - p1 / 10 * 10)) 2 (T.1 6) p2) 3 (T.1 6) 0) 4 (T.1 6) p3) 5 (((stA (stA (stA (stA (stA T 0 (T.1 6) (p1 / 10)) 1 (T.1 6) (p1 - p1 / 10 * 10)) 2 (T.1 6) p2) 3 (T.1 6) 0) 4 (T.1 6) p3).1 5) &&& ((1 <<< ((T.1 6) &&& 31)) ^^^ (-1)))).1 6) + 1))) else ((-4), T)))))
set_option maxHeartbeats 4000000 in
set_option maxRecDepth 100000 in
theorem c_X4_join {l : Launch} {g : GG} {sz : Nat} {bb : Ob} {tx rw : Nat → Ob} {sb dy : Ob} {tn : Nat → Ob} {mo : Ob} {jk : Nat → Nat → Int32} {o : Nat} (ho : o < 3) {T : Ob} (hT : tn o = T) (p1 : Int32) (p2 : Int32) (p3 : Int32) (hp6 : 0 ≤ (T.1 6).toInt) : Met l yX4_join (Cond.code yX4_join cX4_join 5 (some .int) :: TT) (rmL 2) (va_Pc [.ref (gA g (40 + 6 * o)), .int p1, .int p2, .int p3] (gB g sz (gW g bb tx rw sb dy tn mo jk))) (va_Qi (fun r (u : Ob) => (F_X4_join T p1 p2 p3) = (r, u)) (fun u t => gC g (va_A (gW g bb tx rw sb dy tn mo jk) sz) (gW g bb tx rw sb dy (va_up tn o u) mo jk) t) (va_A (gW g bb tx rw sb dy tn mo jk) sz)) 0 0 (va_A (gW g bb tx rw sb dy tn mo jk) sz) := by
  generalize hE : F_X4_join T p1 p2 p3 = EE
  refine g_of (Qf := fun A => (va_Qi (fun r (u : Ob) => EE = (r, u)) (fun u t => gC g A (gW g bb tx rw sb dy (va_up tn o u) mo jk) t) A)) (cc := cX4_join) (maxL := 5) (ret := (some .int)) (by decide) (Nat.le_of_ble_eq_true rfl) ?_
  intro p e s m below meth c A ls hx hb hml hr hlocks hts hown hA hG hl
  replace hown : s.vm.findClass RX4 = some m.cls := hown
  replace hl : lv_has ls 5 [(0, .ref (gA g (40 + 6 * o))), (1, .int p1), (2, .int p2), (3, .int p3)] := hl
  show W p l e (rmL 2) s m [.ref (gA g (40 + 6 * o)), .int p1, .int p2, .int p3].toArray below meth c s.heap [] 0 0 (MQ below (va_Qi (fun r (u : Ob) => EE = (r, u)) (fun u t => gC g A (gW g bb tx rw sb dy (va_up tn o u) mo jk) t) A) [.ref (gA g (40 + 6 * o)), .int p1, .int p2, .int p3].toArray s 0 0 A) (F0 m 0 ls [])
  generalize hQ : MQ below (va_Qi (fun r (u : Ob) => EE = (r, u)) (fun u t => gC g A (gW g bb tx rw sb dy (va_up tn o u) mo jk) t) A) [.ref (gA g (40 + 6 * o)), .int p1, .int p2, .int p3].toArray s 0 0 A = Q
  replace hG : gS g A s s.heap [] (gW g bb tx rw sb dy (va_up tn o T) mo jk) := by simpa only [← hT, up_self] using hG
  unfold F_X4_join at hE
  refine lv_iload_n hx hb dX4_join_0 rfl (lv_at hl 1 rfl) ?_
  refine lv_iconst (v := 0) hx hb dX4_join_1 (by decide) ?_
  refine lv_bipush (v := 59) hx hb dX4_join_2 (by decide) ?_
  refine g_si (g_runSN (host := RX5) (n := 3) (rest := []) hx hb hml hown hts hG (c_X5_isWithin p1 0 59) hG.1.2.1 tw_st_X5_isWithin tw_in_RX5 tw_cd_X5_isWithin (by decide +kernel) ⟨rfl, rfl, Nat.le_of_ble_eq_true rfl, Nat.le_of_ble_eq_true rfl⟩ rfl hl.1 rfl (Nat.le_of_ble_eq_true rfl) dX4_join_4 ⟨Nat.le_refl _, Nat.le_refl _⟩) hG hA (fun H locs hG => ?_)
  refine lv_if_eq (tgt := 30) hx hb dX4_join_7 (by decide) (fun c_7 => ?_) (fun c_7 => ?_)
  · replace hE := (if_pos c_7).symm.trans hE
    refine lv_bipush (v := (-2)) hx hb dX4_join_30 (by decide) ?_
    subst hQ
    exact g_iret hx hb hr hlocks hG ((T) : Ob) rfl hE.symm dX4_join_32
  replace hE := (if_neg c_7).symm.trans hE
  have i_7 : 0 ≤ p1.toInt ∧ p1.toInt ≤ 59 := within_f c_7
  refine lv_iload_n hx hb dX4_join_10 rfl (lv_at hl 2 rfl) ?_
  refine lv_iconst (v := 0) hx hb dX4_join_11 (by decide) ?_
  refine lv_bipush (v := 99) hx hb dX4_join_12 (by decide) ?_
  refine g_si (g_runSN (host := RX5) (n := 3) (rest := []) hx hb hml hown hts hG (c_X5_isWithin p2 0 99) hG.1.2.1 tw_st_X5_isWithin tw_in_RX5 tw_cd_X5_isWithin (by decide +kernel) ⟨rfl, rfl, Nat.le_of_ble_eq_true rfl, Nat.le_of_ble_eq_true rfl⟩ rfl hl.1 rfl (Nat.le_of_ble_eq_true rfl) dX4_join_14 ⟨Nat.le_refl _, Nat.le_refl _⟩) hG hA (fun H locs hG => ?_)
  refine lv_if_eq (tgt := 30) hx hb dX4_join_17 (by decide) (fun c_17 => ?_) (fun c_17 => ?_)
  · replace hE := (if_pos c_17).symm.trans hE
    refine lv_bipush (v := (-2)) hx hb dX4_join_30 (by decide) ?_
    subst hQ
    exact g_iret hx hb hr hlocks hG ((T) : Ob) rfl hE.symm dX4_join_32
  replace hE := (if_neg c_17).symm.trans hE
  have i_17 : 0 ≤ p2.toInt ∧ p2.toInt ≤ 99 := within_f c_17
  refine lv_iload_n hx hb dX4_join_20 rfl (lv_at hl 3 rfl) ?_
  refine lv_iconst (v := 0) hx hb dX4_join_21 (by decide) ?_
  refine lv_ldc (v := 16777215) hx hb hown (hts _ tw_co_RX4_58) dX4_join_22 ?_
  refine g_si (g_runSN (host := RX5) (n := 3) (rest := []) hx hb hml hown hts hG (c_X5_isWithin p3 0 16777215) hG.1.2.1 tw_st_X5_isWithin tw_in_RX5 tw_cd_X5_isWithin (by decide +kernel) ⟨rfl, rfl, Nat.le_of_ble_eq_true rfl, Nat.le_of_ble_eq_true rfl⟩ rfl hl.1 rfl (Nat.le_of_ble_eq_true rfl) dX4_join_24 ⟨Nat.le_refl _, Nat.le_refl _⟩) hG hA (fun H locs hG => ?_)
  refine lv_if_ne (tgt := 33) hx hb dX4_join_27 (by decide) (fun c_27 => ?_) (fun c_27 => ?_)
  · replace hE := (if_neg c_27).symm.trans hE
    have i_27 : 0 ≤ p3.toInt ∧ p3.toInt ≤ 16777215 := within_f c_27
    refine lv_aload_n hx hb dX4_join_33 rfl (lv_at hl 0 rfl) ?_
    refine g_get hx hb hts hiX4 hown hG (gw_Town ho (up_same _ _ _)) rfl 6 (by decide) (index := 31) tw_fl_RX4_31 (v := .int (T.1 6)) rfl dX4_join_34 ?_
    refine lv_bipush (v := 6) hx hb dX4_join_37 (by decide) ?_
    refine lv_icmp_lt (tgt := 45) hx hb dX4_join_39 (by decide) (fun c_39 => ?_) (fun c_39 => ?_)
    · replace hE := (if_pos c_39).symm.trans hE
      have i_39 : (T.1 6).toInt < 6 := i_lt.mp c_39
      refine lv_aload_n hx hb dX4_join_45 rfl (lv_at hl 0 rfl) ?_
      refine g_get hx hb hts hiX4 hown hG (gw_Town ho (up_same _ _ _)) rfl 6 (by decide) (index := 31) tw_fl_RX4_31 (v := .int (T.1 6)) rfl dX4_join_46 ?_
      refine lv_istore (lv' := [(4, .int (T.1 6)), (0, .ref (gA g (40 + 6 * o))), (1, .int p1), (2, .int p2), (3, .int p3)]) hx hb dX4_join_49 hl (by decide) rfl (fun ls hl => ?_)
      replace hl := lv_sub hl [1, 2, 3, 4, 0] (l' := [(0, .ref (gA g (40 + 6 * o))), (1, .int p1), (2, .int p2), (3, .int p3), (4, .int (T.1 6))]) rfl
      refine lv_aload_n hx hb dX4_join_51 rfl (lv_at hl 0 rfl) ?_
      refine g_get hx hb hts hiX4 hown hG (gw_Town ho (up_same _ _ _)) rfl 0 (by decide) (index := 9) tw_fl_RX4_9 (v := .ref (gA g (40 + 6 * o + 1))) rfl dX4_join_52 ?_
      refine lv_iload hx hb dX4_join_55 (lv_at hl 4 rfl) ?_
      refine lv_iload_n hx hb dX4_join_57 rfl (lv_at hl 1 rfl) ?_
      refine lv_bipush (v := 10) hx hb dX4_join_58 (by decide) ?_
      refine lv_idiv hx hb dX4_join_60 (by decide) ?_
      refine g_ist hx hb hG (gw_Town_a0 ho (up_same _ _ _)) (vp_i (by clear hE; omega) (by clear hE; omega)) (gt_Town_a0 ho) dX4_join_61 (fun H locs hG => ?_)
      refine lv_aload_n hx hb dX4_join_62 rfl (lv_at hl 0 rfl) ?_
      refine g_get hx hb hts hiX4 hown hG (gw_Town ho (up_same _ _ _)) rfl 1 (by decide) (index := 15) tw_fl_RX4_15 (v := .ref (gA g (40 + 6 * o + 2))) rfl dX4_join_63 ?_
      refine lv_iload hx hb dX4_join_66 (lv_at hl 4 rfl) ?_
      refine lv_iload_n hx hb dX4_join_68 rfl (lv_at hl 1 rfl) ?_
      refine lv_bipush (v := 10) hx hb dX4_join_69 (by decide) ?_
      refine lv_irem hx hb dX4_join_71 (by decide) ?_
      refine g_ist hx hb hG (gw_Town_a1 ho (up_same _ _ _)) (vp_i (by clear hE; omega) (by clear hE; omega)) (gt_Town_a1 ho) dX4_join_72 (fun H locs hG => ?_)
      refine lv_aload_n hx hb dX4_join_73 rfl (lv_at hl 0 rfl) ?_
      refine g_get hx hb hts hiX4 hown hG (gw_Town ho (up_same _ _ _)) rfl 2 (by decide) (index := 18) tw_fl_RX4_18 (v := .ref (gA g (40 + 6 * o + 3))) rfl dX4_join_74 ?_
      refine lv_iload hx hb dX4_join_77 (lv_at hl 4 rfl) ?_
      refine lv_iload_n hx hb dX4_join_79 rfl (lv_at hl 2 rfl) ?_
      refine g_ist hx hb hG (gw_Town_a2 ho (up_same _ _ _)) (vp_i (by clear hE; omega) (by clear hE; omega)) (gt_Town_a2 ho) dX4_join_80 (fun H locs hG => ?_)
      refine lv_aload_n hx hb dX4_join_81 rfl (lv_at hl 0 rfl) ?_
      refine g_get hx hb hts hiX4 hown hG (gw_Town ho (up_same _ _ _)) rfl 3 (by decide) (index := 21) tw_fl_RX4_21 (v := .ref (gA g (40 + 6 * o + 4))) rfl dX4_join_82 ?_
      refine lv_iload hx hb dX4_join_85 (lv_at hl 4 rfl) ?_
      refine lv_iconst (v := 0) hx hb dX4_join_87 (by decide) ?_
      refine g_ist hx hb hG (gw_Town_a3 ho (up_same _ _ _)) (vp_i (by clear hE; omega) (by clear hE; omega)) (gt_Town_a3 ho) dX4_join_88 (fun H locs hG => ?_)
      refine lv_aload_n hx hb dX4_join_89 rfl (lv_at hl 0 rfl) ?_
      refine g_get hx hb hts hiX4 hown hG (gw_Town ho (up_same _ _ _)) rfl 4 (by decide) (index := 24) tw_fl_RX4_24 (v := .ref (gA g (40 + 6 * o + 5))) rfl dX4_join_90 ?_
      refine lv_iload hx hb dX4_join_93 (lv_at hl 4 rfl) ?_
      refine lv_iload_n hx hb dX4_join_95 rfl (lv_at hl 3 rfl) ?_
      refine g_ist hx hb hG (gw_Town_a4 ho (up_same _ _ _)) (vp_i (by clear hE; omega) (by clear hE; omega)) (gt_Town_a4 ho) dX4_join_96 (fun H locs hG => ?_)
      refine lv_aload_n hx hb dX4_join_97 rfl (lv_at hl 0 rfl) ?_
      refine lv_dup hx hb dX4_join_98 rfl ?_
      refine g_get hx hb hts hiX4 hown hG (gw_Town ho (up_same _ _ _)) rfl 5 (by decide) (index := 27) tw_fl_RX4_27 (v := .int ((stA (stA (stA (stA (stA T 0 (T.1 6) (p1 / 10)) 1 (T.1 6) (p1 - p1 / 10 * 10)) 2 (T.1 6) p2) 3 (T.1 6) 0) 4 (T.1 6) p3).1 5)) rfl dX4_join_99 ?_
      refine lv_iconst (v := 1) hx hb dX4_join_102 (by decide) ?_
      refine lv_iload hx hb dX4_join_103 (lv_at hl 4 rfl) ?_
      refine lv_ishl hx hb dX4_join_105 ?_
      refine lv_iconst (v := (-1)) hx hb dX4_join_106 (by decide) ?_
      refine lv_ixor hx hb dX4_join_107 ?_
      refine lv_iand hx hb dX4_join_108 ?_
      refine g_put hx hb hts hiX4 tyX4 tyX4_ok nmX4 hown hG (gw_Town ho (up_same _ _ _)) rfl 5 (by decide) (index := 27) tw_fl_RX4_27 rfl rfl rfl (Nat.le_of_ble_eq_true rfl) (gt_Town_f5 ho) dX4_join_109 (fun H locs hG => ?_)
      refine lv_aload_n hx hb dX4_join_112 rfl (lv_at hl 0 rfl) ?_
      refine lv_dup hx hb dX4_join_113 rfl ?_
      refine g_get hx hb hts hiX4 hown hG (gw_Town ho (up_same _ _ _)) rfl 6 (by decide) (index := 31) tw_fl_RX4_31 (v := .int ((setS (stA (stA (stA (stA (stA T 0 (T.1 6) (p1 / 10)) 1 (T.1 6) (p1 - p1 / 10 * 10)) 2 (T.1 6) p2) 3 (T.1 6) 0) 4 (T.1 6) p3) 5 (((stA (stA (stA (stA (stA T 0 (T.1 6) (p1 / 10)) 1 (T.1 6) (p1 - p1 / 10 * 10)) 2 (T.1 6) p2) 3 (T.1 6) 0) 4 (T.1 6) p3).1 5) &&& ((1 <<< ((T.1 6) &&& 31)) ^^^ (-1)))).1 6)) rfl dX4_join_114 ?_
      refine lv_iconst (v := 1) hx hb dX4_join_117 (by decide) ?_
      refine lv_iadd hx hb dX4_join_118 ?_
      refine g_put hx hb hts hiX4 tyX4 tyX4_ok nmX4 hown hG (gw_Town ho (up_same _ _ _)) rfl 6 (by decide) (index := 31) tw_fl_RX4_31 rfl rfl rfl (Nat.le_of_ble_eq_true rfl) (gt_Town_f6 ho) dX4_join_119 (fun H locs hG => ?_)
      refine lv_iload hx hb dX4_join_122 (lv_at hl 4 rfl) ?_
      subst hQ
      exact g_iret hx hb hr hlocks hG (((setS (setS (stA (stA (stA (stA (stA T 0 (T.1 6) (p1 / 10)) 1 (T.1 6) (p1 - p1 / 10 * 10)) 2 (T.1 6) p2) 3 (T.1 6) 0) 4 (T.1 6) p3) 5 (((stA (stA (stA (stA (stA T 0 (T.1 6) (p1 / 10)) 1 (T.1 6) (p1 - p1 / 10 * 10)) 2 (T.1 6) p2) 3 (T.1 6) 0) 4 (T.1 6) p3).1 5) &&& ((1 <<< ((T.1 6) &&& 31)) ^^^ (-1)))) 6 (((setS (stA (stA (stA (stA (stA T 0 (T.1 6) (p1 / 10)) 1 (T.1 6) (p1 - p1 / 10 * 10)) 2 (T.1 6) p2) 3 (T.1 6) 0) 4 (T.1 6) p3) 5 (((stA (stA (stA (stA (stA T 0 (T.1 6) (p1 / 10)) 1 (T.1 6) (p1 - p1 / 10 * 10)) 2 (T.1 6) p2) 3 (T.1 6) 0) 4 (T.1 6) p3).1 5) &&& ((1 <<< ((T.1 6) &&& 31)) ^^^ (-1)))).1 6) + 1))) : Ob) rfl hE.symm dX4_join_124
    replace hE := (if_neg c_39).symm.trans hE
    have i_39 : 6 ≤ (T.1 6).toInt := i_nlt c_39
    refine lv_bipush (v := (-4)) hx hb dX4_join_42 (by decide) ?_
    subst hQ
    exact g_iret hx hb hr hlocks hG ((T) : Ob) rfl hE.symm dX4_join_44
  replace hE := (if_pos c_27).symm.trans hE
  refine lv_bipush (v := (-2)) hx hb dX4_join_30 (by decide) ?_
  subst hQ
  exact g_iret hx hb hr hlocks hG ((T) : Ob) rfl hE.symm dX4_join_32
def F_X5_person_c7 (u : Int32 × Ob) (tn : Nat → Ob) : Int32 × Ob :=
  (u.1, u.2)
def F_X5_person (tn : Nat → Ob) (p1 : Int32) (p2 : Int32) (p3 : Int32) : Int32 × Ob :=
  (F_X5_person_c7 (F_X4_join (tn 0) p1 p2 p3) tn)
set_option maxHeartbeats 4000000 in
set_option maxRecDepth 100000 in
theorem c_X5_person {l : Launch} {g : GG} {sz : Nat} {bb : Ob} {tx rw : Nat → Ob} {sb dy : Ob} {tn : Nat → Ob} {mo : Ob} {jk : Nat → Nat → Int32}  (p1 : Int32) (p2 : Int32) (p3 : Int32) (hp6 : 0 ≤ ((tn 0).1 6).toInt) : Met l yX5_person (Cond.code yX5_person cX5_person 4 (some .int) :: TT) (rmL 3) (va_Pc [.ref (gA g 0), .int p1, .int p2, .int p3] (gB g sz (gW g bb tx rw sb dy tn mo jk))) (va_Qi (fun r (u : Ob) => (F_X5_person tn p1 p2 p3) = (r, u)) (fun u t => gC g (va_A (gW g bb tx rw sb dy tn mo jk) sz) (gW g bb tx rw sb dy (va_up tn 0 u) mo jk) t) (va_A (gW g bb tx rw sb dy tn mo jk) sz)) 0 0 (va_A (gW g bb tx rw sb dy tn mo jk) sz) := by
  generalize hE : F_X5_person tn p1 p2 p3 = EE
  refine g_of (Qf := fun A => (va_Qi (fun r (u : Ob) => EE = (r, u)) (fun u t => gC g A (gW g bb tx rw sb dy (va_up tn 0 u) mo jk) t) A)) (cc := cX5_person) (maxL := 4) (ret := (some .int)) (by decide) (Nat.le_of_ble_eq_true rfl) ?_
  intro p e s m below meth c A ls hx hb hml hr hlocks hts hown hA hG hl
  replace hown : s.vm.findClass RX5 = some m.cls := hown
  replace hl : lv_has ls 4 [(0, .ref (gA g 0)), (1, .int p1), (2, .int p2), (3, .int p3)] := hl
  show W p l e (rmL 3) s m [.ref (gA g 0), .int p1, .int p2, .int p3].toArray below meth c s.heap [] 0 0 (MQ below (va_Qi (fun r (u : Ob) => EE = (r, u)) (fun u t => gC g A (gW g bb tx rw sb dy (va_up tn 0 u) mo jk) t) A) [.ref (gA g 0), .int p1, .int p2, .int p3].toArray s 0 0 A) (F0 m 0 ls [])
  generalize hQ : MQ below (va_Qi (fun r (u : Ob) => EE = (r, u)) (fun u t => gC g A (gW g bb tx rw sb dy (va_up tn 0 u) mo jk) t) A) [.ref (gA g 0), .int p1, .int p2, .int p3].toArray s 0 0 A = Q
  replace hG : gS g A s s.heap [] (gW g bb tx rw sb dy (va_up tn 0 (tn 0)) mo jk) := by simpa only [up_self] using hG
  unfold F_X5_person at hE
  refine lv_aload_n hx hb dX5_person_0 rfl (lv_at hl 0 rfl) ?_
  refine g_get hx hb hts hiX5 hown hG gw_Bell rfl 4 (by decide) (index := 53) tw_fl_RX5_53 (v := .ref (gA g (40 + 6 * 0))) rfl dX5_person_1 ?_
  refine lv_iload_n hx hb dX5_person_4 rfl (lv_at hl 1 rfl) ?_
  refine lv_iload_n hx hb dX5_person_5 rfl (lv_at hl 2 rfl) ?_
  refine lv_iload_n hx hb dX5_person_6 rfl (lv_at hl 3 rfl) ?_
  refine g_ci (g_runV (n := 3) (rest := []) hx hb hml hown hts hG (c_X4_join (by decide) (up_same _ _ _) p1 p2 p3 (by clear hE; omega)) tw_ml_RX5_112 tw_im_X4_join tw_se_X4_join tw_in_RX4 tw_cd_X4_join (by decide +kernel) ⟨rfl, rfl, Nat.le_of_ble_eq_true rfl, Nat.le_of_ble_eq_true rfl⟩ (gw_Town (o := 0) (by decide) (up_same _ _ _)) rfl rfl hl.1 rfl (Nat.le_of_ble_eq_true rfl) dX5_person_7 ⟨Nat.le_refl _, Nat.le_refl _⟩) hG hA (fun r_7 u H locs hp hG => ?_)
  obtain ⟨t_m_7, rfl⟩ : ∃ z, z = u := ⟨u, rfl⟩
  replace hG : gS g A s H locs (gW g bb tx rw sb dy (va_up tn 0 t_m_7) mo jk) := by simpa only [up_up] using hG
  have hp_7 := hp
  rw [hp] at hE
  unfold F_X5_person_c7 at hE
  try dsimp only at hE
  subst hQ
  exact g_iret hx hb hr hlocks hG ((t_m_7) : Ob) rfl hE.symm dX5_person_10
