-- THE FIRST LAW'S TEXT, over a small world
def wTextO (cI : ClassId) (a : Nat) (u : Nat × Nat × Nat) (T : Ob) : va_W := [(a, .inr (3, [.ref u.1, .ref u.2.1, .ref u.2.2, .int (T.1 3)])), (u.1, .inl (cI, 160, .inl (T.2 0))), (u.2.1, .inl (cI, 160, .inl (fun _ => 0))), (u.2.2, .inl (cI, 3, .inl (T.2 2)))]
set_option maxHeartbeats 4000000 in
set_option maxRecDepth 100000 in
theorem t_empty {l : Launch} {D : va_G} {cI : ClassId} {a sz : Nat} {q : Nat × Nat × Nat} {T : Ob} : Met l yX3_empty (Cond.code yX3_empty cX3_empty 1 none :: TT) (rmC 1 0 0) (va_Pc [.ref a] (kqB D [(cI, .int)] sz (wTextO cI a q T))) (va_Qv (fun u : Ob => u = F_X3_empty T) (fun u t => kqC D (va_A (wTextO cI a q T) sz) (wTextO cI a q u) t) (va_A (wTextO cI a q T) sz)) 0 0 (va_A (wTextO cI a q T) sz) := by
  refine kq_of (Qf := fun A => va_Qv (fun u : Ob => u = F_X3_empty T) (fun u t => kqC D A (wTextO cI a q u) t) A) (cc := cX3_empty) (maxL := 1) (ret := none) (by decide) (Nat.le_of_ble_eq_true rfl) ?_
  intro p e s m below meth c A ls hx hb hml hr hlocks hnm hts hown hA hG hl
  replace hown : s.vm.findClass RX3 = some m.cls := hown
  replace hl : lv_has ls 1 [(0, .ref a)] := hl
  refine lv_aload_n hx hb dX3_empty_0 rfl (lv_at hl 0 rfl) ?_
  refine lv_iconst (v := 0) hx hb dX3_empty_1 (by decide) ?_
  refine kq_put hx hb hts hiX3 tyX3 tyX3_ok nmX3 hown hG (q0 := 0) rfl rfl 3 (by decide) (index := 21) tw_fl_RX3_21 rfl rfl rfl (Nat.le_of_ble_eq_true rfl) rfl dX3_empty_2 (fun H locs hG => ?_)
  replace hG : kqS D [(cI, .int)] A s H locs (wTextO cI a q (F_X3_empty T)) := hG
  exact kq_vret (wf := fun u => wTextO cI a q u) hx hb hr hlocks hG (F_X3_empty T) rfl rfl dX3_empty_5
set_option maxHeartbeats 4000000 in
set_option maxRecDepth 100000 in
theorem t_add {l : Launch} {D : va_G} {cI : ClassId} {a sz : Nat} {q : Nat × Nat × Nat} {T : Ob} (p1 : Int32) (h0 : 0 ≤ (T.1 3).toInt) (h1 : (T.1 3).toInt < 160) : Met l yX3_add (Cond.code yX3_add cX3_add 2 none :: TT) (rmC 1 0 0) (va_Pc [.ref a, .int p1] (kqB D [(cI, .int)] sz (wTextO cI a q T))) (va_Qv (fun u : Ob => u = F_X3_add T p1) (fun u t => kqC D (va_A (wTextO cI a q T) sz) (wTextO cI a q u) t) (va_A (wTextO cI a q T) sz)) 0 0 (va_A (wTextO cI a q T) sz) := by
  refine kq_of (Qf := fun A => va_Qv (fun u : Ob => u = F_X3_add T p1) (fun u t => kqC D A (wTextO cI a q u) t) A) (cc := cX3_add) (maxL := 2) (ret := none) (by decide) (Nat.le_of_ble_eq_true rfl) ?_
  intro p e s m below meth c A ls hx hb hml hr hlocks hnm hts hown hA hG hl
  replace hown : s.vm.findClass RX3 = some m.cls := hown
  replace hl : lv_has ls 2 [(0, .ref a), (1, .int p1)] := hl
  refine lv_aload_n hx hb dX3_add_0 rfl (lv_at hl 0 rfl) ?_
  refine kq_get hx hb hts hiX3 hown hG (q0 := 0) rfl rfl 3 (by decide) (index := 21) tw_fl_RX3_21 (v := .int (T.1 3)) rfl dX3_add_1 ?_
  refine lv_sipush (v := 160) hx hb dX3_add_4 (by decide) ?_
  have e160 : (160 : Int32).toInt = 160 := rfl
  refine lv_icmp_ge (tgt := 30) hx hb dX3_add_7 (by decide) (fun c_7 => absurd (i_le.mp c_7) (by omega)) (fun c_7 => ?_)
  refine lv_aload_n hx hb dX3_add_10 rfl (lv_at hl 0 rfl) ?_
  refine kq_get hx hb hts hiX3 hown hG (q0 := 0) rfl rfl 0 (by decide) (index := 9) tw_fl_RX3_9 (v := .ref q.1) rfl dX3_add_11 ?_
  refine lv_aload_n hx hb dX3_add_14 rfl (lv_at hl 0 rfl) ?_
  refine kq_get hx hb hts hiX3 hown hG (q0 := 0) rfl rfl 3 (by decide) (index := 21) tw_fl_RX3_21 (v := .int (T.1 3)) rfl dX3_add_15 ?_
  refine lv_iload_n hx hb dX3_add_18 rfl (lv_at hl 1 rfl) ?_
  refine kq_ist hx hb hG rfl (q0 := 1) rfl (vp_i h0 h1) rfl dX3_add_19 (fun H locs hG => ?_)
  replace hG : kqS D [(cI, .int)] A s H locs (wTextO cI a q (stA T 0 (T.1 3) p1)) := hG
  refine lv_aload_n hx hb dX3_add_20 rfl (lv_at hl 0 rfl) ?_
  refine lv_dup hx hb dX3_add_21 rfl ?_
  refine kq_get hx hb hts hiX3 hown hG (q0 := 0) rfl rfl 3 (by decide) (index := 21) tw_fl_RX3_21 (v := .int (T.1 3)) rfl dX3_add_22 ?_
  refine lv_iconst (v := 1) hx hb dX3_add_25 (by decide) ?_
  refine lv_iadd hx hb dX3_add_26 ?_
  refine kq_put hx hb hts hiX3 tyX3 tyX3_ok nmX3 hown hG (q0 := 0) rfl rfl 3 (by decide) (index := 21) tw_fl_RX3_21 rfl rfl rfl (Nat.le_of_ble_eq_true rfl) rfl dX3_add_27 (fun H locs hG => ?_)
  replace hG : kqS D [(cI, .int)] A s H locs (wTextO cI a q (setS (stA T 0 (T.1 3) p1) 3 (T.1 3 + 1))) := hG
  exact kq_vret (wf := fun u => wTextO cI a q u) hx hb hr hlocks hG (setS (stA T 0 (T.1 3) p1) 3 (T.1 3 + 1)) rfl (add_is h1 p1).symm dX3_add_30
set_option maxHeartbeats 4000000 in
set_option maxRecDepth 100000 in
theorem t_endPart {l : Launch} {D : va_G} {cI : ClassId} {a sz : Nat} {q : Nat × Nat × Nat} {T : Ob} (p1 : Int32) (h0 : 0 ≤ p1.toInt) (h1 : p1.toInt < 3) : Met l yX3_endPart (Cond.code yX3_endPart cX3_endPart 2 none :: TT) (rmC 1 0 0) (va_Pc [.ref a, .int p1] (kqB D [(cI, .int)] sz (wTextO cI a q T))) (va_Qv (fun u : Ob => u = F_X3_endPart T p1) (fun u t => kqC D (va_A (wTextO cI a q T) sz) (wTextO cI a q u) t) (va_A (wTextO cI a q T) sz)) 0 0 (va_A (wTextO cI a q T) sz) := by
  refine kq_of (Qf := fun A => va_Qv (fun u : Ob => u = F_X3_endPart T p1) (fun u t => kqC D A (wTextO cI a q u) t) A) (cc := cX3_endPart) (maxL := 2) (ret := none) (by decide) (Nat.le_of_ble_eq_true rfl) ?_
  intro p e s m below meth c A ls hx hb hml hr hlocks hnm hts hown hA hG hl
  replace hown : s.vm.findClass RX3 = some m.cls := hown
  replace hl : lv_has ls 2 [(0, .ref a), (1, .int p1)] := hl
  refine lv_aload_n hx hb dX3_endPart_0 rfl (lv_at hl 0 rfl) ?_
  refine kq_get hx hb hts hiX3 hown hG (q0 := 0) rfl rfl 2 (by decide) (index := 18) tw_fl_RX3_18 (v := .ref q.2.2) rfl dX3_endPart_1 ?_
  refine lv_iload_n hx hb dX3_endPart_4 rfl (lv_at hl 1 rfl) ?_
  refine lv_aload_n hx hb dX3_endPart_5 rfl (lv_at hl 0 rfl) ?_
  refine kq_get hx hb hts hiX3 hown hG (q0 := 0) rfl rfl 3 (by decide) (index := 21) tw_fl_RX3_21 (v := .int (T.1 3)) rfl dX3_endPart_6 ?_
  refine kq_ist hx hb hG rfl (q0 := 3) rfl (vp_i h0 h1) rfl dX3_endPart_9 (fun H locs hG => ?_)
  replace hG : kqS D [(cI, .int)] A s H locs (wTextO cI a q (stA T 2 p1 (T.1 3))) := hG
  exact kq_vret (wf := fun u => wTextO cI a q u) hx hb hr hlocks hG (F_X3_endPart T p1) rfl rfl dX3_endPart_10
theorem kq_nil {D : va_G} {tys : List (ClassId × FieldType)} {A : Nat → Prop} {s : State} {H : Heap} {locs : List Loc} {w : va_W} (h : kqS D tys A s H locs w) : kqS D tys A s H locs ([] ++ w) := h
def uF1 : Ob := F_X3_empty zOb
def uF2 : Ob := F_X3_add uF1 (-1)
def uF3 : Ob := F_X3_endPart uF2 0
def uF4 : Ob := F_X3_add uF3 1
def uF5 : Ob := F_X3_endPart uF4 1
def uF6 : Ob := F_X3_add uF5 1
def uF7 : Ob := F_X3_endPart uF6 2
set_option maxHeartbeats 4000000 in
set_option maxRecDepth 100000 in
theorem t_first {l : Launch} {D : va_G} {cI : ClassId} {a sz : Nat} {q : Nat × Nat × Nat} : Met l yX3_becomeFirstLaw (Cond.code yX3_becomeFirstLaw cX3_becomeFirstLaw 1 none :: TT) (rmC 2 0 0) (va_Pc [.ref a] (kqB D [(cI, .int)] sz (wTextO cI a q zOb))) (va_Qv (fun u : Ob => u = T0F) (fun u t => kqC D (va_A (wTextO cI a q zOb) sz) (wTextO cI a q u) t) (va_A (wTextO cI a q zOb) sz)) 0 0 (va_A (wTextO cI a q zOb) sz) := by
  refine kq_of (Qf := fun A => va_Qv (fun u : Ob => u = T0F) (fun u t => kqC D A (wTextO cI a q u) t) A) (cc := cX3_becomeFirstLaw) (maxL := 1) (ret := none) (by decide) (Nat.le_of_ble_eq_true rfl) ?_
  intro p e s m below meth c A ls hx hb hml hr hlocks hnm hts hown hA hG hl
  replace hown : s.vm.findClass RX3 = some m.cls := hown
  replace hl : lv_has ls 1 [(0, .ref a)] := hl
  refine lv_aload_n hx hb dX3_becomeFirstLaw_0 rfl (lv_at hl 0 rfl) ?_
  refine kq_cv (rest := []) (kq_runV (As := []) (q0 := 0) (tys1 := [(cI, .int)]) (n := 0) hx hb hml hown hts (kq_nil hG) hG.1 (t_empty (T := zOb)) tw_ml_RX3_25 tw_im_X3_empty tw_se_X3_empty tw_in_RX3 tw_cd_X3_empty ⟨by decide, by decide, by decide +kernel⟩ ⟨rfl, rfl, Nat.le_of_ble_eq_true rfl, Nat.le_of_ble_eq_true rfl⟩ rfl rfl rfl hl.1 rfl (Nat.le_of_ble_eq_true rfl) dX3_becomeFirstLaw_1 ⟨Nat.le_of_ble_eq_true rfl, Nat.le_of_ble_eq_true rfl⟩) (kq_nil hG) hA (fun u H locs hu hG => ?_)
  subst hu
  replace hG : kqS D [(cI, .int)] A s H locs (wTextO cI a q uF1) := hG
  refine lv_aload_n hx hb dX3_becomeFirstLaw_4 rfl (lv_at hl 0 rfl) ?_
  refine lv_iconst (v := (-1)) hx hb dX3_becomeFirstLaw_5 (by decide) ?_
  refine kq_cv (rest := []) (kq_runV (As := [.int (-1)]) (q0 := 0) (tys1 := [(cI, .int)]) (n := 1) hx hb hml hown hts (kq_nil hG) hG.1 (t_add (T := uF1) (-1) (by decide +kernel) (by decide +kernel)) tw_ml_RX3_28 tw_im_X3_add tw_se_X3_add tw_in_RX3 tw_cd_X3_add ⟨by decide, by decide, by decide +kernel⟩ ⟨rfl, rfl, Nat.le_of_ble_eq_true rfl, Nat.le_of_ble_eq_true rfl⟩ rfl rfl rfl hl.1 rfl (Nat.le_of_ble_eq_true rfl) dX3_becomeFirstLaw_6 ⟨Nat.le_of_ble_eq_true rfl, Nat.le_of_ble_eq_true rfl⟩) (kq_nil hG) hA (fun u H locs hu hG => ?_)
  subst hu
  replace hG : kqS D [(cI, .int)] A s H locs (wTextO cI a q uF2) := hG
  refine lv_aload_n hx hb dX3_becomeFirstLaw_9 rfl (lv_at hl 0 rfl) ?_
  refine lv_iconst (v := 0) hx hb dX3_becomeFirstLaw_10 (by decide) ?_
  refine kq_cv (rest := []) (kq_runV (As := [.int 0]) (q0 := 0) (tys1 := [(cI, .int)]) (n := 1) hx hb hml hown hts (kq_nil hG) hG.1 (t_endPart (T := uF2) 0 (by decide) (by decide)) tw_ml_RX3_32 tw_im_X3_endPart tw_se_X3_endPart tw_in_RX3 tw_cd_X3_endPart ⟨by decide, by decide, by decide +kernel⟩ ⟨rfl, rfl, Nat.le_of_ble_eq_true rfl, Nat.le_of_ble_eq_true rfl⟩ rfl rfl rfl hl.1 rfl (Nat.le_of_ble_eq_true rfl) dX3_becomeFirstLaw_11 ⟨Nat.le_of_ble_eq_true rfl, Nat.le_of_ble_eq_true rfl⟩) (kq_nil hG) hA (fun u H locs hu hG => ?_)
  subst hu
  replace hG : kqS D [(cI, .int)] A s H locs (wTextO cI a q uF3) := hG
  refine lv_aload_n hx hb dX3_becomeFirstLaw_14 rfl (lv_at hl 0 rfl) ?_
  refine lv_iconst (v := 1) hx hb dX3_becomeFirstLaw_15 (by decide) ?_
  refine kq_cv (rest := []) (kq_runV (As := [.int 1]) (q0 := 0) (tys1 := [(cI, .int)]) (n := 1) hx hb hml hown hts (kq_nil hG) hG.1 (t_add (T := uF3) 1 (by decide +kernel) (by decide +kernel)) tw_ml_RX3_28 tw_im_X3_add tw_se_X3_add tw_in_RX3 tw_cd_X3_add ⟨by decide, by decide, by decide +kernel⟩ ⟨rfl, rfl, Nat.le_of_ble_eq_true rfl, Nat.le_of_ble_eq_true rfl⟩ rfl rfl rfl hl.1 rfl (Nat.le_of_ble_eq_true rfl) dX3_becomeFirstLaw_16 ⟨Nat.le_of_ble_eq_true rfl, Nat.le_of_ble_eq_true rfl⟩) (kq_nil hG) hA (fun u H locs hu hG => ?_)
  subst hu
  replace hG : kqS D [(cI, .int)] A s H locs (wTextO cI a q uF4) := hG
  refine lv_aload_n hx hb dX3_becomeFirstLaw_19 rfl (lv_at hl 0 rfl) ?_
  refine lv_iconst (v := 1) hx hb dX3_becomeFirstLaw_20 (by decide) ?_
  refine kq_cv (rest := []) (kq_runV (As := [.int 1]) (q0 := 0) (tys1 := [(cI, .int)]) (n := 1) hx hb hml hown hts (kq_nil hG) hG.1 (t_endPart (T := uF4) 1 (by decide) (by decide)) tw_ml_RX3_32 tw_im_X3_endPart tw_se_X3_endPart tw_in_RX3 tw_cd_X3_endPart ⟨by decide, by decide, by decide +kernel⟩ ⟨rfl, rfl, Nat.le_of_ble_eq_true rfl, Nat.le_of_ble_eq_true rfl⟩ rfl rfl rfl hl.1 rfl (Nat.le_of_ble_eq_true rfl) dX3_becomeFirstLaw_21 ⟨Nat.le_of_ble_eq_true rfl, Nat.le_of_ble_eq_true rfl⟩) (kq_nil hG) hA (fun u H locs hu hG => ?_)
  subst hu
  replace hG : kqS D [(cI, .int)] A s H locs (wTextO cI a q uF5) := hG
  refine lv_aload_n hx hb dX3_becomeFirstLaw_24 rfl (lv_at hl 0 rfl) ?_
  refine lv_iconst (v := 1) hx hb dX3_becomeFirstLaw_25 (by decide) ?_
  refine kq_cv (rest := []) (kq_runV (As := [.int 1]) (q0 := 0) (tys1 := [(cI, .int)]) (n := 1) hx hb hml hown hts (kq_nil hG) hG.1 (t_add (T := uF5) 1 (by decide +kernel) (by decide +kernel)) tw_ml_RX3_28 tw_im_X3_add tw_se_X3_add tw_in_RX3 tw_cd_X3_add ⟨by decide, by decide, by decide +kernel⟩ ⟨rfl, rfl, Nat.le_of_ble_eq_true rfl, Nat.le_of_ble_eq_true rfl⟩ rfl rfl rfl hl.1 rfl (Nat.le_of_ble_eq_true rfl) dX3_becomeFirstLaw_26 ⟨Nat.le_of_ble_eq_true rfl, Nat.le_of_ble_eq_true rfl⟩) (kq_nil hG) hA (fun u H locs hu hG => ?_)
  subst hu
  replace hG : kqS D [(cI, .int)] A s H locs (wTextO cI a q uF6) := hG
  refine lv_aload_n hx hb dX3_becomeFirstLaw_29 rfl (lv_at hl 0 rfl) ?_
  refine lv_iconst (v := 2) hx hb dX3_becomeFirstLaw_30 (by decide) ?_
  refine kq_cv (rest := []) (kq_runV (As := [.int 2]) (q0 := 0) (tys1 := [(cI, .int)]) (n := 1) hx hb hml hown hts (kq_nil hG) hG.1 (t_endPart (T := uF6) 2 (by decide) (by decide)) tw_ml_RX3_32 tw_im_X3_endPart tw_se_X3_endPart tw_in_RX3 tw_cd_X3_endPart ⟨by decide, by decide, by decide +kernel⟩ ⟨rfl, rfl, Nat.le_of_ble_eq_true rfl, Nat.le_of_ble_eq_true rfl⟩ rfl rfl rfl hl.1 rfl (Nat.le_of_ble_eq_true rfl) dX3_becomeFirstLaw_31 ⟨Nat.le_of_ble_eq_true rfl, Nat.le_of_ble_eq_true rfl⟩) (kq_nil hG) hA (fun u H locs hu hG => ?_)
  subst hu
  replace hG : kqS D [(cI, .int)] A s H locs (wTextO cI a q uF7) := hG
  exact kq_vret (wf := fun u => wTextO cI a q u) hx hb hr hlocks hG T0F rfl rfl dX3_becomeFirstLaw_34
