-- SMALL CONSTRUCTORS (laid by inits.py)
def wDay (cI : ClassId) (a : Nat) (u : Nat × Nat) : va_W := [(a, .inr (0, [.ref u.1, .ref u.2])), (u.1, .inl (cI, 24, .inl (fun _ => 0))), (u.2, .inl (cI, 24, .inl (fun _ => 0)))]
set_option maxHeartbeats 4000000 in
set_option maxRecDepth 100000 in
theorem n_Day {l : Launch} {D : va_G} {cI : ClassId} {h0 sz : Nat} : Met l yX0_init (Cond.code yX0_init cX0_init 1 none :: TT) (rmC 1 2 48) (va_Pc [.ref h0] (kqB D [(cI, .int)] sz [(h0, .inr (0, [.null, .null]))])) (va_Qv (fun _ : Nat × Nat => True) (fun u t => kqC D (va_A [(h0, .inr (0, [.null, .null]))] sz) (wDay cI h0 u) t) (va_A [(h0, .inr (0, [.null, .null]))] sz)) 2 48 (va_A [(h0, .inr (0, [.null, .null]))] sz) := by
  refine kq_of (Qf := fun A => va_Qv (fun _ : Nat × Nat => True) (fun u t => kqC D A (wDay cI h0 u) t) A) (cc := cX0_init) (maxL := 1) (ret := none) (by decide) (Nat.le_of_ble_eq_true rfl) ?_
  intro p e s m below meth c A ls hx hb hml hr hlocks hnm hts hown hA hG hl
  replace hown : s.vm.findClass RX0 = some m.cls := hown
  replace hnm : meth.name = "<init>" := hnm
  replace hl : lv_has ls 1 [(0, .ref h0)] := hl
  obtain ⟨H, hH⟩ : ∃ H, H = s.heap := ⟨_, rfl⟩
  rw [← hH] at hG ⊢
  clear hH
  refine lv_aload_n hx hb dX0_init_0 rfl (lv_at hl 0 rfl) ?_
  refine kq_obj hx hb hts hown hml hl.1 tw_ml_RX0_3 dX0_init_1 (Nat.le_of_ble_eq_true rfl) (Nat.le_of_ble_eq_true rfl) ?_
  refine lv_aload_n hx hb dX0_init_4 rfl (lv_at hl 0 rfl) ?_
  refine lv_bipush (v := 24) hx hb dX0_init_5 (by decide) ?_
  refine kq_newa hx hb hts hG rfl hA (by decide) rfl (Nat.le_of_ble_eq_true rfl) (Nat.le_of_ble_eq_true rfl) (Nat.le_of_ble_eq_true rfl) dX0_init_7 (fun q1 H hG => ?_)
  replace hG : kqS D [(cI, .int)] A s H [] [(h0, .inr (0, [.null, .null])), (q1, .inl (cI, 24, .inl (fun _ => 0)))] := hG
  refine kq_putF hx hb hts hiX0 tyX0 tyX0_ok nmX0 hown hnm hG (q0 := 0) rfl rfl 0 (by decide) (index := 9) tw_fl_RX0_9 rfl rfl rfl rfl (Nat.le_of_ble_eq_true rfl) rfl dX0_init_9 (fun H locs hG => ?_)
  replace hG : kqS D [(cI, .int)] A s H locs [(h0, .inr (0, [.ref q1, .null])), (q1, .inl (cI, 24, .inl (fun _ => 0)))] := hG
  refine lv_aload_n hx hb dX0_init_12 rfl (lv_at hl 0 rfl) ?_
  refine lv_bipush (v := 24) hx hb dX0_init_13 (by decide) ?_
  refine kq_newa hx hb hts hG rfl hA (by decide) rfl (Nat.le_of_ble_eq_true rfl) (Nat.le_of_ble_eq_true rfl) (Nat.le_of_ble_eq_true rfl) dX0_init_15 (fun q2 H hG => ?_)
  replace hG : kqS D [(cI, .int)] A s H locs [(h0, .inr (0, [.ref q1, .null])), (q1, .inl (cI, 24, .inl (fun _ => 0))), (q2, .inl (cI, 24, .inl (fun _ => 0)))] := hG
  refine kq_putF hx hb hts hiX0 tyX0 tyX0_ok nmX0 hown hnm hG (q0 := 0) rfl rfl 1 (by decide) (index := 15) tw_fl_RX0_15 rfl rfl rfl rfl (Nat.le_of_ble_eq_true rfl) rfl dX0_init_17 (fun H locs hG => ?_)
  replace hG : kqS D [(cI, .int)] A s H locs [(h0, .inr (0, [.ref q1, .ref q2])), (q1, .inl (cI, 24, .inl (fun _ => 0))), (q2, .inl (cI, 24, .inl (fun _ => 0)))] := hG
  exact kq_vret (wf := fun u => wDay cI h0 u) hx hb hr hlocks hG (q1, q2) rfl trivial dX0_init_20
def wRow (cI : ClassId) (a : Nat) (u : Nat) : va_W := [(a, .inr (1, [.ref u, .int (-1), .int 0])), (u, .inl (cI, 40, .inl (fun _ => 0)))]
set_option maxHeartbeats 4000000 in
set_option maxRecDepth 100000 in
theorem n_Row {l : Launch} {D : va_G} {cI : ClassId} {h0 sz : Nat} : Met l yX1_init (Cond.code yX1_init cX1_init 1 none :: TT) (rmC 1 1 40) (va_Pc [.ref h0] (kqB D [(cI, .int)] sz [(h0, .inr (1, [.null, .int 0, .int 0]))])) (va_Qv (fun _ : Nat => True) (fun u t => kqC D (va_A [(h0, .inr (1, [.null, .int 0, .int 0]))] sz) (wRow cI h0 u) t) (va_A [(h0, .inr (1, [.null, .int 0, .int 0]))] sz)) 1 40 (va_A [(h0, .inr (1, [.null, .int 0, .int 0]))] sz) := by
  refine kq_of (Qf := fun A => va_Qv (fun _ : Nat => True) (fun u t => kqC D A (wRow cI h0 u) t) A) (cc := cX1_init) (maxL := 1) (ret := none) (by decide) (Nat.le_of_ble_eq_true rfl) ?_
  intro p e s m below meth c A ls hx hb hml hr hlocks hnm hts hown hA hG hl
  replace hown : s.vm.findClass RX1 = some m.cls := hown
  replace hnm : meth.name = "<init>" := hnm
  replace hl : lv_has ls 1 [(0, .ref h0)] := hl
  obtain ⟨H, hH⟩ : ∃ H, H = s.heap := ⟨_, rfl⟩
  rw [← hH] at hG ⊢
  clear hH
  refine lv_aload_n hx hb dX1_init_0 rfl (lv_at hl 0 rfl) ?_
  refine kq_obj hx hb hts hown hml hl.1 tw_ml_RX1_3 dX1_init_1 (Nat.le_of_ble_eq_true rfl) (Nat.le_of_ble_eq_true rfl) ?_
  refine lv_aload_n hx hb dX1_init_4 rfl (lv_at hl 0 rfl) ?_
  refine lv_bipush (v := 40) hx hb dX1_init_5 (by decide) ?_
  refine kq_newa hx hb hts hG rfl hA (by decide) rfl (Nat.le_of_ble_eq_true rfl) (Nat.le_of_ble_eq_true rfl) (Nat.le_of_ble_eq_true rfl) dX1_init_7 (fun q1 H hG => ?_)
  replace hG : kqS D [(cI, .int)] A s H [] [(h0, .inr (1, [.null, .int 0, .int 0])), (q1, .inl (cI, 40, .inl (fun _ => 0)))] := hG
  refine kq_putF hx hb hts hiX1 tyX1 tyX1_ok nmX1 hown hnm hG (q0 := 0) rfl rfl 0 (by decide) (index := 9) tw_fl_RX1_9 rfl rfl rfl rfl (Nat.le_of_ble_eq_true rfl) rfl dX1_init_9 (fun H locs hG => ?_)
  replace hG : kqS D [(cI, .int)] A s H locs [(h0, .inr (1, [.ref q1, .int 0, .int 0])), (q1, .inl (cI, 40, .inl (fun _ => 0)))] := hG
  refine lv_aload_n hx hb dX1_init_12 rfl (lv_at hl 0 rfl) ?_
  refine lv_iconst (v := (-1)) hx hb dX1_init_13 (by decide) ?_
  refine kq_put hx hb hts hiX1 tyX1 tyX1_ok nmX1 hown hG (q0 := 0) rfl rfl 1 (by decide) (index := 15) tw_fl_RX1_15 rfl rfl rfl (Nat.le_of_ble_eq_true rfl) rfl dX1_init_14 (fun H locs hG => ?_)
  replace hG : kqS D [(cI, .int)] A s H locs [(h0, .inr (1, [.ref q1, .int (-1), .int 0])), (q1, .inl (cI, 40, .inl (fun _ => 0)))] := hG
  refine lv_aload_n hx hb dX1_init_17 rfl (lv_at hl 0 rfl) ?_
  refine lv_iconst (v := 0) hx hb dX1_init_18 (by decide) ?_
  refine kq_put hx hb hts hiX1 tyX1 tyX1_ok nmX1 hown hG (q0 := 0) rfl rfl 2 (by decide) (index := 19) tw_fl_RX1_19 rfl rfl rfl (Nat.le_of_ble_eq_true rfl) rfl dX1_init_19 (fun H locs hG => ?_)
  replace hG : kqS D [(cI, .int)] A s H locs [(h0, .inr (1, [.ref q1, .int (-1), .int 0])), (q1, .inl (cI, 40, .inl (fun _ => 0)))] := hG
  exact kq_vret (wf := fun u => wRow cI h0 u) hx hb hr hlocks hG (q1) rfl trivial dX1_init_22
def wScribe (cI : ClassId) (a : Nat) (u : Nat) : va_W := [(a, .inr (2, [.ref u, .int 0, .int 0, .int 0, .int 0, .int 0, .int 0])), (u, .inl (cI, 160, .inl (fun _ => 0)))]
set_option maxHeartbeats 4000000 in
set_option maxRecDepth 100000 in
theorem n_Scribe {l : Launch} {D : va_G} {cI : ClassId} {h0 sz : Nat} : Met l yX2_init (Cond.code yX2_init cX2_init 1 none :: TT) (rmC 1 1 160) (va_Pc [.ref h0] (kqB D [(cI, .int)] sz [(h0, .inr (2, [.null, .int 0, .int 0, .int 0, .int 0, .int 0, .int 0]))])) (va_Qv (fun _ : Nat => True) (fun u t => kqC D (va_A [(h0, .inr (2, [.null, .int 0, .int 0, .int 0, .int 0, .int 0, .int 0]))] sz) (wScribe cI h0 u) t) (va_A [(h0, .inr (2, [.null, .int 0, .int 0, .int 0, .int 0, .int 0, .int 0]))] sz)) 1 160 (va_A [(h0, .inr (2, [.null, .int 0, .int 0, .int 0, .int 0, .int 0, .int 0]))] sz) := by
  refine kq_of (Qf := fun A => va_Qv (fun _ : Nat => True) (fun u t => kqC D A (wScribe cI h0 u) t) A) (cc := cX2_init) (maxL := 1) (ret := none) (by decide) (Nat.le_of_ble_eq_true rfl) ?_
  intro p e s m below meth c A ls hx hb hml hr hlocks hnm hts hown hA hG hl
  replace hown : s.vm.findClass RX2 = some m.cls := hown
  replace hnm : meth.name = "<init>" := hnm
  replace hl : lv_has ls 1 [(0, .ref h0)] := hl
  obtain ⟨H, hH⟩ : ∃ H, H = s.heap := ⟨_, rfl⟩
  rw [← hH] at hG ⊢
  clear hH
  refine lv_aload_n hx hb dX2_init_0 rfl (lv_at hl 0 rfl) ?_
  refine kq_obj hx hb hts hown hml hl.1 tw_ml_RX2_3 dX2_init_1 (Nat.le_of_ble_eq_true rfl) (Nat.le_of_ble_eq_true rfl) ?_
  refine lv_aload_n hx hb dX2_init_4 rfl (lv_at hl 0 rfl) ?_
  refine lv_sipush (v := 160) hx hb dX2_init_5 (by decide) ?_
  refine kq_newa hx hb hts hG rfl hA (by decide) rfl (Nat.le_of_ble_eq_true rfl) (Nat.le_of_ble_eq_true rfl) (Nat.le_of_ble_eq_true rfl) dX2_init_8 (fun q1 H hG => ?_)
  replace hG : kqS D [(cI, .int)] A s H [] [(h0, .inr (2, [.null, .int 0, .int 0, .int 0, .int 0, .int 0, .int 0])), (q1, .inl (cI, 160, .inl (fun _ => 0)))] := hG
  refine kq_putF hx hb hts hiX2 tyX2 tyX2_ok nmX2 hown hnm hG (q0 := 0) rfl rfl 0 (by decide) (index := 9) tw_fl_RX2_9 rfl rfl rfl rfl (Nat.le_of_ble_eq_true rfl) rfl dX2_init_10 (fun H locs hG => ?_)
  replace hG : kqS D [(cI, .int)] A s H locs [(h0, .inr (2, [.ref q1, .int 0, .int 0, .int 0, .int 0, .int 0, .int 0])), (q1, .inl (cI, 160, .inl (fun _ => 0)))] := hG
  refine lv_aload_n hx hb dX2_init_13 rfl (lv_at hl 0 rfl) ?_
  refine lv_iconst (v := 0) hx hb dX2_init_14 (by decide) ?_
  refine kq_put hx hb hts hiX2 tyX2 tyX2_ok nmX2 hown hG (q0 := 0) rfl rfl 1 (by decide) (index := 15) tw_fl_RX2_15 rfl rfl rfl (Nat.le_of_ble_eq_true rfl) rfl dX2_init_15 (fun H locs hG => ?_)
  replace hG : kqS D [(cI, .int)] A s H locs [(h0, .inr (2, [.ref q1, .int 0, .int 0, .int 0, .int 0, .int 0, .int 0])), (q1, .inl (cI, 160, .inl (fun _ => 0)))] := hG
  exact kq_vret (wf := fun u => wScribe cI h0 u) hx hb hr hlocks hG (q1) rfl trivial dX2_init_18
def wText (cI : ClassId) (a : Nat) (u : Nat × Nat × Nat) : va_W := [(a, .inr (3, [.ref u.1, .ref u.2.1, .ref u.2.2, .int 0])), (u.1, .inl (cI, 160, .inl (fun _ => 0))), (u.2.1, .inl (cI, 160, .inl (fun _ => 0))), (u.2.2, .inl (cI, 3, .inl (fun _ => 0)))]
set_option maxHeartbeats 4000000 in
set_option maxRecDepth 100000 in
theorem n_Text {l : Launch} {D : va_G} {cI : ClassId} {h0 sz : Nat} : Met l yX3_init (Cond.code yX3_init cX3_init 1 none :: TT) (rmC 1 3 323) (va_Pc [.ref h0] (kqB D [(cI, .int)] sz [(h0, .inr (3, [.null, .null, .null, .int 0]))])) (va_Qv (fun _ : Nat × Nat × Nat => True) (fun u t => kqC D (va_A [(h0, .inr (3, [.null, .null, .null, .int 0]))] sz) (wText cI h0 u) t) (va_A [(h0, .inr (3, [.null, .null, .null, .int 0]))] sz)) 3 323 (va_A [(h0, .inr (3, [.null, .null, .null, .int 0]))] sz) := by
  refine kq_of (Qf := fun A => va_Qv (fun _ : Nat × Nat × Nat => True) (fun u t => kqC D A (wText cI h0 u) t) A) (cc := cX3_init) (maxL := 1) (ret := none) (by decide) (Nat.le_of_ble_eq_true rfl) ?_
  intro p e s m below meth c A ls hx hb hml hr hlocks hnm hts hown hA hG hl
  replace hown : s.vm.findClass RX3 = some m.cls := hown
  replace hnm : meth.name = "<init>" := hnm
  replace hl : lv_has ls 1 [(0, .ref h0)] := hl
  obtain ⟨H, hH⟩ : ∃ H, H = s.heap := ⟨_, rfl⟩
  rw [← hH] at hG ⊢
  clear hH
  refine lv_aload_n hx hb dX3_init_0 rfl (lv_at hl 0 rfl) ?_
  refine kq_obj hx hb hts hown hml hl.1 tw_ml_RX3_3 dX3_init_1 (Nat.le_of_ble_eq_true rfl) (Nat.le_of_ble_eq_true rfl) ?_
  refine lv_aload_n hx hb dX3_init_4 rfl (lv_at hl 0 rfl) ?_
  refine lv_sipush (v := 160) hx hb dX3_init_5 (by decide) ?_
  refine kq_newa hx hb hts hG rfl hA (by decide) rfl (Nat.le_of_ble_eq_true rfl) (Nat.le_of_ble_eq_true rfl) (Nat.le_of_ble_eq_true rfl) dX3_init_8 (fun q1 H hG => ?_)
  replace hG : kqS D [(cI, .int)] A s H [] [(h0, .inr (3, [.null, .null, .null, .int 0])), (q1, .inl (cI, 160, .inl (fun _ => 0)))] := hG
  refine kq_putF hx hb hts hiX3 tyX3 tyX3_ok nmX3 hown hnm hG (q0 := 0) rfl rfl 0 (by decide) (index := 9) tw_fl_RX3_9 rfl rfl rfl rfl (Nat.le_of_ble_eq_true rfl) rfl dX3_init_10 (fun H locs hG => ?_)
  replace hG : kqS D [(cI, .int)] A s H locs [(h0, .inr (3, [.ref q1, .null, .null, .int 0])), (q1, .inl (cI, 160, .inl (fun _ => 0)))] := hG
  refine lv_aload_n hx hb dX3_init_13 rfl (lv_at hl 0 rfl) ?_
  refine lv_sipush (v := 160) hx hb dX3_init_14 (by decide) ?_
  refine kq_newa hx hb hts hG rfl hA (by decide) rfl (Nat.le_of_ble_eq_true rfl) (Nat.le_of_ble_eq_true rfl) (Nat.le_of_ble_eq_true rfl) dX3_init_17 (fun q2 H hG => ?_)
  replace hG : kqS D [(cI, .int)] A s H locs [(h0, .inr (3, [.ref q1, .null, .null, .int 0])), (q1, .inl (cI, 160, .inl (fun _ => 0))), (q2, .inl (cI, 160, .inl (fun _ => 0)))] := hG
  refine kq_putF hx hb hts hiX3 tyX3 tyX3_ok nmX3 hown hnm hG (q0 := 0) rfl rfl 1 (by decide) (index := 15) tw_fl_RX3_15 rfl rfl rfl rfl (Nat.le_of_ble_eq_true rfl) rfl dX3_init_19 (fun H locs hG => ?_)
  replace hG : kqS D [(cI, .int)] A s H locs [(h0, .inr (3, [.ref q1, .ref q2, .null, .int 0])), (q1, .inl (cI, 160, .inl (fun _ => 0))), (q2, .inl (cI, 160, .inl (fun _ => 0)))] := hG
  refine lv_aload_n hx hb dX3_init_22 rfl (lv_at hl 0 rfl) ?_
  refine lv_iconst (v := 3) hx hb dX3_init_23 (by decide) ?_
  refine kq_newa hx hb hts hG rfl hA (by decide) rfl (Nat.le_of_ble_eq_true rfl) (Nat.le_of_ble_eq_true rfl) (Nat.le_of_ble_eq_true rfl) dX3_init_24 (fun q3 H hG => ?_)
  replace hG : kqS D [(cI, .int)] A s H locs [(h0, .inr (3, [.ref q1, .ref q2, .null, .int 0])), (q1, .inl (cI, 160, .inl (fun _ => 0))), (q2, .inl (cI, 160, .inl (fun _ => 0))), (q3, .inl (cI, 3, .inl (fun _ => 0)))] := hG
  refine kq_putF hx hb hts hiX3 tyX3 tyX3_ok nmX3 hown hnm hG (q0 := 0) rfl rfl 2 (by decide) (index := 18) tw_fl_RX3_18 rfl rfl rfl rfl (Nat.le_of_ble_eq_true rfl) rfl dX3_init_26 (fun H locs hG => ?_)
  replace hG : kqS D [(cI, .int)] A s H locs [(h0, .inr (3, [.ref q1, .ref q2, .ref q3, .int 0])), (q1, .inl (cI, 160, .inl (fun _ => 0))), (q2, .inl (cI, 160, .inl (fun _ => 0))), (q3, .inl (cI, 3, .inl (fun _ => 0)))] := hG
  refine lv_aload_n hx hb dX3_init_29 rfl (lv_at hl 0 rfl) ?_
  refine lv_iconst (v := 0) hx hb dX3_init_30 (by decide) ?_
  refine kq_put hx hb hts hiX3 tyX3 tyX3_ok nmX3 hown hG (q0 := 0) rfl rfl 3 (by decide) (index := 21) tw_fl_RX3_21 rfl rfl rfl (Nat.le_of_ble_eq_true rfl) rfl dX3_init_31 (fun H locs hG => ?_)
  replace hG : kqS D [(cI, .int)] A s H locs [(h0, .inr (3, [.ref q1, .ref q2, .ref q3, .int 0])), (q1, .inl (cI, 160, .inl (fun _ => 0))), (q2, .inl (cI, 160, .inl (fun _ => 0))), (q3, .inl (cI, 3, .inl (fun _ => 0)))] := hG
  exact kq_vret (wf := fun u => wText cI h0 u) hx hb hr hlocks hG (q1, q2, q3) rfl trivial dX3_init_34
def wTown (cI : ClassId) (a : Nat) (f0 : Nat) (u : Nat × Nat × Nat × Nat × Nat) : va_W := [(a, .inr (4, [.ref u.1, .ref u.2.1, .ref u.2.2.1, .ref u.2.2.2.1, .ref u.2.2.2.2, .int 0, .int 0, .int 0, .int 0, .int 0, .int 0, .ref f0])), (u.1, .inl (cI, 6, .inl (fun _ => 0))), (u.2.1, .inl (cI, 6, .inl (fun _ => 0))), (u.2.2.1, .inl (cI, 6, .inl (fun _ => 0))), (u.2.2.2.1, .inl (cI, 6, .inl (fun _ => 0))), (u.2.2.2.2, .inl (cI, 6, .inl (fun _ => 0)))]
set_option maxHeartbeats 4000000 in
set_option maxRecDepth 100000 in
theorem n_Town {l : Launch} {D : va_G} {cI : ClassId} {h0 f0 sz : Nat} : Met l yX4_init (Cond.code yX4_init cX4_init 2 none :: TT) (rmC 1 5 30) (va_Pc [.ref h0, .ref f0] (kqB D [(cI, .int)] sz [(h0, .inr (4, [.null, .null, .null, .null, .null, .int 0, .int 0, .int 0, .int 0, .int 0, .int 0, .null]))])) (va_Qv (fun _ : Nat × Nat × Nat × Nat × Nat => True) (fun u t => kqC D (va_A [(h0, .inr (4, [.null, .null, .null, .null, .null, .int 0, .int 0, .int 0, .int 0, .int 0, .int 0, .null]))] sz) (wTown cI h0 f0 u) t) (va_A [(h0, .inr (4, [.null, .null, .null, .null, .null, .int 0, .int 0, .int 0, .int 0, .int 0, .int 0, .null]))] sz)) 5 30 (va_A [(h0, .inr (4, [.null, .null, .null, .null, .null, .int 0, .int 0, .int 0, .int 0, .int 0, .int 0, .null]))] sz) := by
  refine kq_of (Qf := fun A => va_Qv (fun _ : Nat × Nat × Nat × Nat × Nat => True) (fun u t => kqC D A (wTown cI h0 f0 u) t) A) (cc := cX4_init) (maxL := 2) (ret := none) (by decide) (Nat.le_of_ble_eq_true rfl) ?_
  intro p e s m below meth c A ls hx hb hml hr hlocks hnm hts hown hA hG hl
  replace hown : s.vm.findClass RX4 = some m.cls := hown
  replace hnm : meth.name = "<init>" := hnm
  replace hl : lv_has ls 2 [(0, .ref h0), (1, .ref f0)] := hl
  obtain ⟨H, hH⟩ : ∃ H, H = s.heap := ⟨_, rfl⟩
  rw [← hH] at hG ⊢
  clear hH
  refine lv_aload_n hx hb dX4_init_0 rfl (lv_at hl 0 rfl) ?_
  refine kq_obj hx hb hts hown hml hl.1 tw_ml_RX4_3 dX4_init_1 (Nat.le_of_ble_eq_true rfl) (Nat.le_of_ble_eq_true rfl) ?_
  refine lv_aload_n hx hb dX4_init_4 rfl (lv_at hl 0 rfl) ?_
  refine lv_bipush (v := 6) hx hb dX4_init_5 (by decide) ?_
  refine kq_newa hx hb hts hG rfl hA (by decide) rfl (Nat.le_of_ble_eq_true rfl) (Nat.le_of_ble_eq_true rfl) (Nat.le_of_ble_eq_true rfl) dX4_init_7 (fun q1 H hG => ?_)
  replace hG : kqS D [(cI, .int)] A s H [] [(h0, .inr (4, [.null, .null, .null, .null, .null, .int 0, .int 0, .int 0, .int 0, .int 0, .int 0, .null])), (q1, .inl (cI, 6, .inl (fun _ => 0)))] := hG
  refine kq_putF hx hb hts hiX4 tyX4 tyX4_ok nmX4 hown hnm hG (q0 := 0) rfl rfl 0 (by decide) (index := 9) tw_fl_RX4_9 rfl rfl rfl rfl (Nat.le_of_ble_eq_true rfl) rfl dX4_init_9 (fun H locs hG => ?_)
  replace hG : kqS D [(cI, .int)] A s H locs [(h0, .inr (4, [.ref q1, .null, .null, .null, .null, .int 0, .int 0, .int 0, .int 0, .int 0, .int 0, .null])), (q1, .inl (cI, 6, .inl (fun _ => 0)))] := hG
  refine lv_aload_n hx hb dX4_init_12 rfl (lv_at hl 0 rfl) ?_
  refine lv_bipush (v := 6) hx hb dX4_init_13 (by decide) ?_
  refine kq_newa hx hb hts hG rfl hA (by decide) rfl (Nat.le_of_ble_eq_true rfl) (Nat.le_of_ble_eq_true rfl) (Nat.le_of_ble_eq_true rfl) dX4_init_15 (fun q2 H hG => ?_)
  replace hG : kqS D [(cI, .int)] A s H locs [(h0, .inr (4, [.ref q1, .null, .null, .null, .null, .int 0, .int 0, .int 0, .int 0, .int 0, .int 0, .null])), (q1, .inl (cI, 6, .inl (fun _ => 0))), (q2, .inl (cI, 6, .inl (fun _ => 0)))] := hG
  refine kq_putF hx hb hts hiX4 tyX4 tyX4_ok nmX4 hown hnm hG (q0 := 0) rfl rfl 1 (by decide) (index := 15) tw_fl_RX4_15 rfl rfl rfl rfl (Nat.le_of_ble_eq_true rfl) rfl dX4_init_17 (fun H locs hG => ?_)
  replace hG : kqS D [(cI, .int)] A s H locs [(h0, .inr (4, [.ref q1, .ref q2, .null, .null, .null, .int 0, .int 0, .int 0, .int 0, .int 0, .int 0, .null])), (q1, .inl (cI, 6, .inl (fun _ => 0))), (q2, .inl (cI, 6, .inl (fun _ => 0)))] := hG
  refine lv_aload_n hx hb dX4_init_20 rfl (lv_at hl 0 rfl) ?_
  refine lv_bipush (v := 6) hx hb dX4_init_21 (by decide) ?_
  refine kq_newa hx hb hts hG rfl hA (by decide) rfl (Nat.le_of_ble_eq_true rfl) (Nat.le_of_ble_eq_true rfl) (Nat.le_of_ble_eq_true rfl) dX4_init_23 (fun q3 H hG => ?_)
  replace hG : kqS D [(cI, .int)] A s H locs [(h0, .inr (4, [.ref q1, .ref q2, .null, .null, .null, .int 0, .int 0, .int 0, .int 0, .int 0, .int 0, .null])), (q1, .inl (cI, 6, .inl (fun _ => 0))), (q2, .inl (cI, 6, .inl (fun _ => 0))), (q3, .inl (cI, 6, .inl (fun _ => 0)))] := hG
  refine kq_putF hx hb hts hiX4 tyX4 tyX4_ok nmX4 hown hnm hG (q0 := 0) rfl rfl 2 (by decide) (index := 18) tw_fl_RX4_18 rfl rfl rfl rfl (Nat.le_of_ble_eq_true rfl) rfl dX4_init_25 (fun H locs hG => ?_)
  replace hG : kqS D [(cI, .int)] A s H locs [(h0, .inr (4, [.ref q1, .ref q2, .ref q3, .null, .null, .int 0, .int 0, .int 0, .int 0, .int 0, .int 0, .null])), (q1, .inl (cI, 6, .inl (fun _ => 0))), (q2, .inl (cI, 6, .inl (fun _ => 0))), (q3, .inl (cI, 6, .inl (fun _ => 0)))] := hG
  refine lv_aload_n hx hb dX4_init_28 rfl (lv_at hl 0 rfl) ?_
  refine lv_bipush (v := 6) hx hb dX4_init_29 (by decide) ?_
  refine kq_newa hx hb hts hG rfl hA (by decide) rfl (Nat.le_of_ble_eq_true rfl) (Nat.le_of_ble_eq_true rfl) (Nat.le_of_ble_eq_true rfl) dX4_init_31 (fun q4 H hG => ?_)
  replace hG : kqS D [(cI, .int)] A s H locs [(h0, .inr (4, [.ref q1, .ref q2, .ref q3, .null, .null, .int 0, .int 0, .int 0, .int 0, .int 0, .int 0, .null])), (q1, .inl (cI, 6, .inl (fun _ => 0))), (q2, .inl (cI, 6, .inl (fun _ => 0))), (q3, .inl (cI, 6, .inl (fun _ => 0))), (q4, .inl (cI, 6, .inl (fun _ => 0)))] := hG
  refine kq_putF hx hb hts hiX4 tyX4 tyX4_ok nmX4 hown hnm hG (q0 := 0) rfl rfl 3 (by decide) (index := 21) tw_fl_RX4_21 rfl rfl rfl rfl (Nat.le_of_ble_eq_true rfl) rfl dX4_init_33 (fun H locs hG => ?_)
  replace hG : kqS D [(cI, .int)] A s H locs [(h0, .inr (4, [.ref q1, .ref q2, .ref q3, .ref q4, .null, .int 0, .int 0, .int 0, .int 0, .int 0, .int 0, .null])), (q1, .inl (cI, 6, .inl (fun _ => 0))), (q2, .inl (cI, 6, .inl (fun _ => 0))), (q3, .inl (cI, 6, .inl (fun _ => 0))), (q4, .inl (cI, 6, .inl (fun _ => 0)))] := hG
  refine lv_aload_n hx hb dX4_init_36 rfl (lv_at hl 0 rfl) ?_
  refine lv_bipush (v := 6) hx hb dX4_init_37 (by decide) ?_
  refine kq_newa hx hb hts hG rfl hA (by decide) rfl (Nat.le_of_ble_eq_true rfl) (Nat.le_of_ble_eq_true rfl) (Nat.le_of_ble_eq_true rfl) dX4_init_39 (fun q5 H hG => ?_)
  replace hG : kqS D [(cI, .int)] A s H locs [(h0, .inr (4, [.ref q1, .ref q2, .ref q3, .ref q4, .null, .int 0, .int 0, .int 0, .int 0, .int 0, .int 0, .null])), (q1, .inl (cI, 6, .inl (fun _ => 0))), (q2, .inl (cI, 6, .inl (fun _ => 0))), (q3, .inl (cI, 6, .inl (fun _ => 0))), (q4, .inl (cI, 6, .inl (fun _ => 0))), (q5, .inl (cI, 6, .inl (fun _ => 0)))] := hG
  refine kq_putF hx hb hts hiX4 tyX4 tyX4_ok nmX4 hown hnm hG (q0 := 0) rfl rfl 4 (by decide) (index := 24) tw_fl_RX4_24 rfl rfl rfl rfl (Nat.le_of_ble_eq_true rfl) rfl dX4_init_41 (fun H locs hG => ?_)
  replace hG : kqS D [(cI, .int)] A s H locs [(h0, .inr (4, [.ref q1, .ref q2, .ref q3, .ref q4, .ref q5, .int 0, .int 0, .int 0, .int 0, .int 0, .int 0, .null])), (q1, .inl (cI, 6, .inl (fun _ => 0))), (q2, .inl (cI, 6, .inl (fun _ => 0))), (q3, .inl (cI, 6, .inl (fun _ => 0))), (q4, .inl (cI, 6, .inl (fun _ => 0))), (q5, .inl (cI, 6, .inl (fun _ => 0)))] := hG
  refine lv_aload_n hx hb dX4_init_44 rfl (lv_at hl 0 rfl) ?_
  refine lv_iconst (v := 0) hx hb dX4_init_45 (by decide) ?_
  refine kq_put hx hb hts hiX4 tyX4 tyX4_ok nmX4 hown hG (q0 := 0) rfl rfl 5 (by decide) (index := 27) tw_fl_RX4_27 rfl rfl rfl (Nat.le_of_ble_eq_true rfl) rfl dX4_init_46 (fun H locs hG => ?_)
  replace hG : kqS D [(cI, .int)] A s H locs [(h0, .inr (4, [.ref q1, .ref q2, .ref q3, .ref q4, .ref q5, .int 0, .int 0, .int 0, .int 0, .int 0, .int 0, .null])), (q1, .inl (cI, 6, .inl (fun _ => 0))), (q2, .inl (cI, 6, .inl (fun _ => 0))), (q3, .inl (cI, 6, .inl (fun _ => 0))), (q4, .inl (cI, 6, .inl (fun _ => 0))), (q5, .inl (cI, 6, .inl (fun _ => 0)))] := hG
  refine lv_aload_n hx hb dX4_init_49 rfl (lv_at hl 0 rfl) ?_
  refine lv_iconst (v := 0) hx hb dX4_init_50 (by decide) ?_
  refine kq_put hx hb hts hiX4 tyX4 tyX4_ok nmX4 hown hG (q0 := 0) rfl rfl 6 (by decide) (index := 31) tw_fl_RX4_31 rfl rfl rfl (Nat.le_of_ble_eq_true rfl) rfl dX4_init_51 (fun H locs hG => ?_)
  replace hG : kqS D [(cI, .int)] A s H locs [(h0, .inr (4, [.ref q1, .ref q2, .ref q3, .ref q4, .ref q5, .int 0, .int 0, .int 0, .int 0, .int 0, .int 0, .null])), (q1, .inl (cI, 6, .inl (fun _ => 0))), (q2, .inl (cI, 6, .inl (fun _ => 0))), (q3, .inl (cI, 6, .inl (fun _ => 0))), (q4, .inl (cI, 6, .inl (fun _ => 0))), (q5, .inl (cI, 6, .inl (fun _ => 0)))] := hG
  refine lv_aload_n hx hb dX4_init_54 rfl (lv_at hl 0 rfl) ?_
  refine lv_iconst (v := 0) hx hb dX4_init_55 (by decide) ?_
  refine kq_put hx hb hts hiX4 tyX4 tyX4_ok nmX4 hown hG (q0 := 0) rfl rfl 7 (by decide) (index := 34) tw_fl_RX4_34 rfl rfl rfl (Nat.le_of_ble_eq_true rfl) rfl dX4_init_56 (fun H locs hG => ?_)
  replace hG : kqS D [(cI, .int)] A s H locs [(h0, .inr (4, [.ref q1, .ref q2, .ref q3, .ref q4, .ref q5, .int 0, .int 0, .int 0, .int 0, .int 0, .int 0, .null])), (q1, .inl (cI, 6, .inl (fun _ => 0))), (q2, .inl (cI, 6, .inl (fun _ => 0))), (q3, .inl (cI, 6, .inl (fun _ => 0))), (q4, .inl (cI, 6, .inl (fun _ => 0))), (q5, .inl (cI, 6, .inl (fun _ => 0)))] := hG
  refine lv_aload_n hx hb dX4_init_59 rfl (lv_at hl 0 rfl) ?_
  refine lv_iconst (v := 0) hx hb dX4_init_60 (by decide) ?_
  refine kq_put hx hb hts hiX4 tyX4 tyX4_ok nmX4 hown hG (q0 := 0) rfl rfl 8 (by decide) (index := 37) tw_fl_RX4_37 rfl rfl rfl (Nat.le_of_ble_eq_true rfl) rfl dX4_init_61 (fun H locs hG => ?_)
  replace hG : kqS D [(cI, .int)] A s H locs [(h0, .inr (4, [.ref q1, .ref q2, .ref q3, .ref q4, .ref q5, .int 0, .int 0, .int 0, .int 0, .int 0, .int 0, .null])), (q1, .inl (cI, 6, .inl (fun _ => 0))), (q2, .inl (cI, 6, .inl (fun _ => 0))), (q3, .inl (cI, 6, .inl (fun _ => 0))), (q4, .inl (cI, 6, .inl (fun _ => 0))), (q5, .inl (cI, 6, .inl (fun _ => 0)))] := hG
  refine lv_aload_n hx hb dX4_init_64 rfl (lv_at hl 0 rfl) ?_
  refine lv_iconst (v := 0) hx hb dX4_init_65 (by decide) ?_
  refine kq_put hx hb hts hiX4 tyX4 tyX4_ok nmX4 hown hG (q0 := 0) rfl rfl 9 (by decide) (index := 40) tw_fl_RX4_40 rfl rfl rfl (Nat.le_of_ble_eq_true rfl) rfl dX4_init_66 (fun H locs hG => ?_)
  replace hG : kqS D [(cI, .int)] A s H locs [(h0, .inr (4, [.ref q1, .ref q2, .ref q3, .ref q4, .ref q5, .int 0, .int 0, .int 0, .int 0, .int 0, .int 0, .null])), (q1, .inl (cI, 6, .inl (fun _ => 0))), (q2, .inl (cI, 6, .inl (fun _ => 0))), (q3, .inl (cI, 6, .inl (fun _ => 0))), (q4, .inl (cI, 6, .inl (fun _ => 0))), (q5, .inl (cI, 6, .inl (fun _ => 0)))] := hG
  refine lv_aload_n hx hb dX4_init_69 rfl (lv_at hl 0 rfl) ?_
  refine lv_iconst (v := 0) hx hb dX4_init_70 (by decide) ?_
  refine kq_put hx hb hts hiX4 tyX4 tyX4_ok nmX4 hown hG (q0 := 0) rfl rfl 10 (by decide) (index := 43) tw_fl_RX4_43 rfl rfl rfl (Nat.le_of_ble_eq_true rfl) rfl dX4_init_71 (fun H locs hG => ?_)
  replace hG : kqS D [(cI, .int)] A s H locs [(h0, .inr (4, [.ref q1, .ref q2, .ref q3, .ref q4, .ref q5, .int 0, .int 0, .int 0, .int 0, .int 0, .int 0, .null])), (q1, .inl (cI, 6, .inl (fun _ => 0))), (q2, .inl (cI, 6, .inl (fun _ => 0))), (q3, .inl (cI, 6, .inl (fun _ => 0))), (q4, .inl (cI, 6, .inl (fun _ => 0))), (q5, .inl (cI, 6, .inl (fun _ => 0)))] := hG
  refine lv_aload_n hx hb dX4_init_74 rfl (lv_at hl 0 rfl) ?_
  refine lv_aload_n hx hb dX4_init_75 rfl (lv_at hl 1 rfl) ?_
  refine kq_put hx hb hts hiX4 tyX4 tyX4_ok nmX4 hown hG (q0 := 0) rfl rfl 11 (by decide) (index := 46) tw_fl_RX4_46 rfl rfl rfl (Nat.le_of_ble_eq_true rfl) rfl dX4_init_76 (fun H locs hG => ?_)
  replace hG : kqS D [(cI, .int)] A s H locs [(h0, .inr (4, [.ref q1, .ref q2, .ref q3, .ref q4, .ref q5, .int 0, .int 0, .int 0, .int 0, .int 0, .int 0, .ref f0])), (q1, .inl (cI, 6, .inl (fun _ => 0))), (q2, .inl (cI, 6, .inl (fun _ => 0))), (q3, .inl (cI, 6, .inl (fun _ => 0))), (q4, .inl (cI, 6, .inl (fun _ => 0))), (q5, .inl (cI, 6, .inl (fun _ => 0)))] := hG
  exact kq_vret (wf := fun u => wTown cI h0 f0 u) hx hb hr hlocks hG (q1, q2, q3, q4, q5) rfl trivial dX4_init_79
