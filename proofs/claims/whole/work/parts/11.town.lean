def F_X4_has (T : Ob) (p1 : Int32) : Int32 :=
  (if p1 < 0 then 0 else (if (T.1 6) ≤ p1 then 0 else (if 6 ≤ p1 then 0 else 1)))
set_option maxHeartbeats 4000000 in
set_option maxRecDepth 100000 in
theorem c_X4_has {l : Launch} {g : GG} {sz : Nat} {bb : Ob} {tx rw : Nat → Ob} {sb dy : Ob} {tn : Nat → Ob} {mo : Ob} {jk : Nat → Nat → Int32} {o : Nat} (ho : o < 3) {T : Ob} (hT : tn o = T) (p1 : Int32)  : Met l yX4_has (Cond.code yX4_has cX4_has 2 (some .boolean) :: TT) (rmL 1) (va_Pc [.ref (gA g (40 + 6 * o)), .int p1] (gB g sz (gW g bb tx rw sb dy tn mo jk))) (va_Qi (fun r (_ : Unit) => r = (F_X4_has T p1)) (fun u t => gC g (va_A (gW g bb tx rw sb dy tn mo jk) sz) (gW g bb tx rw sb dy tn mo jk) t) (va_A (gW g bb tx rw sb dy tn mo jk) sz)) 0 0 (va_A (gW g bb tx rw sb dy tn mo jk) sz) := by
  generalize hE : F_X4_has T p1 = EE
  refine g_of (Qf := fun A => (va_Qi (fun r (_ : Unit) => r = EE) (fun u t => gC g A (gW g bb tx rw sb dy tn mo jk) t) A)) (cc := cX4_has) (maxL := 2) (ret := (some .boolean)) (by decide) (Nat.le_of_ble_eq_true rfl) ?_
  intro p e s m below meth c A ls hx hb hml hr hlocks hts hown hA hG hl
  replace hown : s.vm.findClass RX4 = some m.cls := hown
  replace hl : lv_has ls 2 [(0, .ref (gA g (40 + 6 * o))), (1, .int p1)] := hl
  show W p l e (rmL 1) s m [.ref (gA g (40 + 6 * o)), .int p1].toArray below meth c s.heap [] 0 0 (MQ below (va_Qi (fun r (_ : Unit) => r = EE) (fun u t => gC g A (gW g bb tx rw sb dy tn mo jk) t) A) [.ref (gA g (40 + 6 * o)), .int p1].toArray s 0 0 A) (F0 m 0 ls [])
  generalize hQ : MQ below (va_Qi (fun r (_ : Unit) => r = EE) (fun u t => gC g A (gW g bb tx rw sb dy tn mo jk) t) A) [.ref (gA g (40 + 6 * o)), .int p1].toArray s 0 0 A = Q
  unfold F_X4_has at hE
  refine lv_iload_n hx hb dX4_has_0 rfl (lv_at hl 1 rfl) ?_
  refine lv_if_lt (tgt := 22) hx hb dX4_has_1 (by decide) (fun c_1 => ?_) (fun c_1 => ?_)
  · replace hE := (if_pos c_1).symm.trans hE
    have i_1 : p1.toInt < 0 := i_lt.mp c_1
    refine lv_iconst (v := 0) hx hb dX4_has_22 (by decide) ?_
    subst hQ
    exact g_zret hx hb hr hlocks hG (Or.inl rfl) () rfl hE dX4_has_23
  replace hE := (if_neg c_1).symm.trans hE
  have i_1 : 0 ≤ p1.toInt := i_nlt c_1
  refine lv_iload_n hx hb dX4_has_4 rfl (lv_at hl 1 rfl) ?_
  refine lv_aload_n hx hb dX4_has_5 rfl (lv_at hl 0 rfl) ?_
  refine g_get hx hb hts hiX4 hown hG (gw_Town ho hT) rfl 6 (by decide) (index := 31) tw_fl_RX4_31 (v := .int (T.1 6)) rfl dX4_has_6 ?_
  refine lv_icmp_ge (tgt := 22) hx hb dX4_has_9 (by decide) (fun c_9 => ?_) (fun c_9 => ?_)
  · replace hE := (if_pos c_9).symm.trans hE
    have i_9 : (T.1 6).toInt ≤ p1.toInt := i_le.mp c_9
    refine lv_iconst (v := 0) hx hb dX4_has_22 (by decide) ?_
    subst hQ
    exact g_zret hx hb hr hlocks hG (Or.inl rfl) () rfl hE dX4_has_23
  replace hE := (if_neg c_9).symm.trans hE
  have i_9 : p1.toInt < (T.1 6).toInt := i_nle c_9
  refine lv_iload_n hx hb dX4_has_12 rfl (lv_at hl 1 rfl) ?_
  refine lv_bipush (v := 6) hx hb dX4_has_13 (by decide) ?_
  refine lv_icmp_ge (tgt := 22) hx hb dX4_has_15 (by decide) (fun c_15 => ?_) (fun c_15 => ?_)
  · replace hE := (if_pos c_15).symm.trans hE
    have i_15 : 6 ≤ p1.toInt := i_le.mp c_15
    refine lv_iconst (v := 0) hx hb dX4_has_22 (by decide) ?_
    subst hQ
    exact g_zret hx hb hr hlocks hG (Or.inl rfl) () rfl hE dX4_has_23
  replace hE := (if_neg c_15).symm.trans hE
  have i_15 : p1.toInt < 6 := i_nle c_15
  refine lv_iconst (v := 1) hx hb dX4_has_18 (by decide) ?_
  refine lv_goto (tgt := 23) hx hb dX4_has_19 (by decide) ?_
  subst hQ
  exact g_zret hx hb hr hlocks hG (Or.inr rfl) () rfl hE dX4_has_23
theorem has_f {T : Ob} {p : Int32} (h : ¬ F_X4_has T p = 0) : 0 ≤ p.toInt ∧ p.toInt < (T.1 6).toInt ∧ p.toInt < 6 := by
  unfold F_X4_has at h
  by_cases h1 : p < 0
  · exact absurd (if_pos h1) h
  · by_cases h2 : T.1 6 ≤ p
    · exact absurd ((if_neg h1).trans (if_pos h2)) h
    · by_cases h3 : 6 ≤ p
      · exact absurd ((if_neg h1).trans ((if_neg h2).trans (if_pos h3))) h
      · exact ⟨i_nlt h1, i_nle h2, i_nle h3⟩
def F_X4_isVowed (T : Ob) (p1 : Int32) : Int32 :=
  (if (((T.1 5) >>> (p1 &&& 31)) &&& 1) = 1 then 1 else 0)
set_option maxHeartbeats 4000000 in
set_option maxRecDepth 100000 in
theorem c_X4_isVowed {l : Launch} {g : GG} {sz : Nat} {bb : Ob} {tx rw : Nat → Ob} {sb dy : Ob} {tn : Nat → Ob} {mo : Ob} {jk : Nat → Nat → Int32} {o : Nat} (ho : o < 3) {T : Ob} (hT : tn o = T) (p1 : Int32)  : Met l yX4_isVowed (Cond.code yX4_isVowed cX4_isVowed 2 (some .boolean) :: TT) (rmL 1) (va_Pc [.ref (gA g (40 + 6 * o)), .int p1] (gB g sz (gW g bb tx rw sb dy tn mo jk))) (va_Qi (fun r (_ : Unit) => r = (F_X4_isVowed T p1)) (fun u t => gC g (va_A (gW g bb tx rw sb dy tn mo jk) sz) (gW g bb tx rw sb dy tn mo jk) t) (va_A (gW g bb tx rw sb dy tn mo jk) sz)) 0 0 (va_A (gW g bb tx rw sb dy tn mo jk) sz) := by
  generalize hE : F_X4_isVowed T p1 = EE
  refine g_of (Qf := fun A => (va_Qi (fun r (_ : Unit) => r = EE) (fun u t => gC g A (gW g bb tx rw sb dy tn mo jk) t) A)) (cc := cX4_isVowed) (maxL := 2) (ret := (some .boolean)) (by decide) (Nat.le_of_ble_eq_true rfl) ?_
  intro p e s m below meth c A ls hx hb hml hr hlocks hts hown hA hG hl
  replace hown : s.vm.findClass RX4 = some m.cls := hown
  replace hl : lv_has ls 2 [(0, .ref (gA g (40 + 6 * o))), (1, .int p1)] := hl
  show W p l e (rmL 1) s m [.ref (gA g (40 + 6 * o)), .int p1].toArray below meth c s.heap [] 0 0 (MQ below (va_Qi (fun r (_ : Unit) => r = EE) (fun u t => gC g A (gW g bb tx rw sb dy tn mo jk) t) A) [.ref (gA g (40 + 6 * o)), .int p1].toArray s 0 0 A) (F0 m 0 ls [])
  generalize hQ : MQ below (va_Qi (fun r (_ : Unit) => r = EE) (fun u t => gC g A (gW g bb tx rw sb dy tn mo jk) t) A) [.ref (gA g (40 + 6 * o)), .int p1].toArray s 0 0 A = Q
  unfold F_X4_isVowed at hE
  refine lv_aload_n hx hb dX4_isVowed_0 rfl (lv_at hl 0 rfl) ?_
  refine g_get hx hb hts hiX4 hown hG (gw_Town ho hT) rfl 5 (by decide) (index := 27) tw_fl_RX4_27 (v := .int (T.1 5)) rfl dX4_isVowed_1 ?_
  refine lv_iload_n hx hb dX4_isVowed_4 rfl (lv_at hl 1 rfl) ?_
  refine lv_ishr hx hb dX4_isVowed_5 ?_
  refine lv_iconst (v := 1) hx hb dX4_isVowed_6 (by decide) ?_
  refine lv_iand hx hb dX4_isVowed_7 ?_
  refine lv_iconst (v := 1) hx hb dX4_isVowed_8 (by decide) ?_
  refine lv_icmp_ne (tgt := 16) hx hb dX4_isVowed_9 (by decide) (fun c_9 => ?_) (fun c_9 => ?_)
  · replace hE := (if_neg c_9).symm.trans hE
    have i_9 : (((T.1 5) >>> (p1 &&& 31)) &&& 1).toInt ≠ 1 := fun h => c_9 (Int32.toInt_inj.mp h)
    refine lv_iconst (v := 0) hx hb dX4_isVowed_16 (by decide) ?_
    subst hQ
    exact g_zret hx hb hr hlocks hG (Or.inl rfl) () rfl hE dX4_isVowed_17
  replace hE := (if_pos c_9).symm.trans hE
  have i_9 : (((T.1 5) >>> (p1 &&& 31)) &&& 1).toInt = 1 := congrArg Int32.toInt c_9
  refine lv_iconst (v := 1) hx hb dX4_isVowed_12 (by decide) ?_
  refine lv_goto (tgt := 17) hx hb dX4_isVowed_13 (by decide) ?_
  subst hQ
  exact g_zret hx hb hr hlocks hG (Or.inr rfl) () rfl hE dX4_isVowed_17
def F_X4_turnVow (T : Ob) (p1 : Int32) : Ob :=
  (if (F_X4_has T p1) = 0 then T else (setS T 5 ((T.1 5) ^^^ (1 <<< (p1 &&& 31)))))
set_option maxHeartbeats 4000000 in
set_option maxRecDepth 100000 in
theorem c_X4_turnVow {l : Launch} {g : GG} {sz : Nat} {bb : Ob} {tx rw : Nat → Ob} {sb dy : Ob} {tn : Nat → Ob} {mo : Ob} {jk : Nat → Nat → Int32} {o : Nat} (ho : o < 3) {T : Ob} (hT : tn o = T) (p1 : Int32)  : Met l yX4_turnVow (Cond.code yX4_turnVow cX4_turnVow 2 none :: TT) (rmL 2) (va_Pc [.ref (gA g (40 + 6 * o)), .int p1] (gB g sz (gW g bb tx rw sb dy tn mo jk))) (va_Qv (fun (u : Ob) => (F_X4_turnVow T p1) = (u)) (fun u t => gC g (va_A (gW g bb tx rw sb dy tn mo jk) sz) (gW g bb tx rw sb dy (va_up tn o u) mo jk) t) (va_A (gW g bb tx rw sb dy tn mo jk) sz)) 0 0 (va_A (gW g bb tx rw sb dy tn mo jk) sz) := by
  generalize hE : F_X4_turnVow T p1 = EE
  refine g_of (Qf := fun A => (va_Qv (fun (u : Ob) => EE = (u)) (fun u t => gC g A (gW g bb tx rw sb dy (va_up tn o u) mo jk) t) A)) (cc := cX4_turnVow) (maxL := 2) (ret := none) (by decide) (Nat.le_of_ble_eq_true rfl) ?_
  intro p e s m below meth c A ls hx hb hml hr hlocks hts hown hA hG hl
  replace hown : s.vm.findClass RX4 = some m.cls := hown
  replace hl : lv_has ls 2 [(0, .ref (gA g (40 + 6 * o))), (1, .int p1)] := hl
  show W p l e (rmL 2) s m [.ref (gA g (40 + 6 * o)), .int p1].toArray below meth c s.heap [] 0 0 (MQ below (va_Qv (fun (u : Ob) => EE = (u)) (fun u t => gC g A (gW g bb tx rw sb dy (va_up tn o u) mo jk) t) A) [.ref (gA g (40 + 6 * o)), .int p1].toArray s 0 0 A) (F0 m 0 ls [])
  generalize hQ : MQ below (va_Qv (fun (u : Ob) => EE = (u)) (fun u t => gC g A (gW g bb tx rw sb dy (va_up tn o u) mo jk) t) A) [.ref (gA g (40 + 6 * o)), .int p1].toArray s 0 0 A = Q
  replace hG : gS g A s s.heap [] (gW g bb tx rw sb dy (va_up tn o T) mo jk) := by simpa only [← hT, up_self] using hG
  unfold F_X4_turnVow at hE
  refine lv_aload_n hx hb dX4_turnVow_0 rfl (lv_at hl 0 rfl) ?_
  refine lv_iload_n hx hb dX4_turnVow_1 rfl (lv_at hl 1 rfl) ?_
  refine g_ci (g_runV (n := 1) (rest := []) hx hb hml hown hts hG (c_X4_has ho (up_same _ _ _) p1) tw_ml_RX4_59 tw_im_X4_has tw_se_X4_has tw_in_RX4 tw_cd_X4_has (by decide +kernel) ⟨rfl, rfl, Nat.le_of_ble_eq_true rfl, Nat.le_of_ble_eq_true rfl⟩ (gw_Town ho (up_same _ _ _)) rfl rfl hl.1 rfl (Nat.le_of_ble_eq_true rfl) dX4_turnVow_2 ⟨Nat.le_refl _, Nat.le_refl _⟩) hG hA (fun r _ H locs hp hG => ?_)
  subst hp
  replace hG : gS g A s H locs (gW g bb tx rw sb dy (va_up tn o T) mo jk) := hG
  refine lv_if_eq (tgt := 20) hx hb dX4_turnVow_5 (by decide) (fun c_5 => ?_) (fun c_5 => ?_)
  · replace hE := (if_pos c_5).symm.trans hE
    subst hQ
    exact g_vret hx hb hr hlocks hG ((T) : Ob) rfl hE.symm dX4_turnVow_20
  replace hE := (if_neg c_5).symm.trans hE
  have i_5 := has_f c_5
  refine lv_aload_n hx hb dX4_turnVow_8 rfl (lv_at hl 0 rfl) ?_
  refine lv_dup hx hb dX4_turnVow_9 rfl ?_
  refine g_get hx hb hts hiX4 hown hG (gw_Town ho (up_same _ _ _)) rfl 5 (by decide) (index := 27) tw_fl_RX4_27 (v := .int (T.1 5)) rfl dX4_turnVow_10 ?_
  refine lv_iconst (v := 1) hx hb dX4_turnVow_13 (by decide) ?_
  refine lv_iload_n hx hb dX4_turnVow_14 rfl (lv_at hl 1 rfl) ?_
  refine lv_ishl hx hb dX4_turnVow_15 ?_
  refine lv_ixor hx hb dX4_turnVow_16 ?_
  refine g_put hx hb hts hiX4 tyX4 tyX4_ok nmX4 hown hG (gw_Town ho (up_same _ _ _)) rfl 5 (by decide) (index := 27) tw_fl_RX4_27 rfl rfl rfl (Nat.le_of_ble_eq_true rfl) (gt_Town_f5 ho) dX4_turnVow_17 (fun H locs hG => ?_)
  subst hQ
  exact g_vret hx hb hr hlocks hG (((setS T 5 ((T.1 5) ^^^ (1 <<< (p1 &&& 31))))) : Ob) rfl hE.symm dX4_turnVow_20
def F_X4_turnHour (T : Ob) (p1 : Int32) (p2 : Int32) : Ob :=
  (if (F_X4_has T p1) = 0 then T else (stA T 4 p1 (((T.2 4) (Int32.toNatClampNeg p1)) ^^^ (1 <<< (p2 &&& 31)))))
set_option maxHeartbeats 4000000 in
set_option maxRecDepth 100000 in
theorem c_X4_turnHour {l : Launch} {g : GG} {sz : Nat} {bb : Ob} {tx rw : Nat → Ob} {sb dy : Ob} {tn : Nat → Ob} {mo : Ob} {jk : Nat → Nat → Int32} {o : Nat} (ho : o < 3) {T : Ob} (hT : tn o = T) (p1 : Int32) (p2 : Int32)  : Met l yX4_turnHour (Cond.code yX4_turnHour cX4_turnHour 3 none :: TT) (rmL 2) (va_Pc [.ref (gA g (40 + 6 * o)), .int p1, .int p2] (gB g sz (gW g bb tx rw sb dy tn mo jk))) (va_Qv (fun (u : Ob) => (F_X4_turnHour T p1 p2) = (u)) (fun u t => gC g (va_A (gW g bb tx rw sb dy tn mo jk) sz) (gW g bb tx rw sb dy (va_up tn o u) mo jk) t) (va_A (gW g bb tx rw sb dy tn mo jk) sz)) 0 0 (va_A (gW g bb tx rw sb dy tn mo jk) sz) := by
  generalize hE : F_X4_turnHour T p1 p2 = EE
  refine g_of (Qf := fun A => (va_Qv (fun (u : Ob) => EE = (u)) (fun u t => gC g A (gW g bb tx rw sb dy (va_up tn o u) mo jk) t) A)) (cc := cX4_turnHour) (maxL := 3) (ret := none) (by decide) (Nat.le_of_ble_eq_true rfl) ?_
  intro p e s m below meth c A ls hx hb hml hr hlocks hts hown hA hG hl
  replace hown : s.vm.findClass RX4 = some m.cls := hown
  replace hl : lv_has ls 3 [(0, .ref (gA g (40 + 6 * o))), (1, .int p1), (2, .int p2)] := hl
  show W p l e (rmL 2) s m [.ref (gA g (40 + 6 * o)), .int p1, .int p2].toArray below meth c s.heap [] 0 0 (MQ below (va_Qv (fun (u : Ob) => EE = (u)) (fun u t => gC g A (gW g bb tx rw sb dy (va_up tn o u) mo jk) t) A) [.ref (gA g (40 + 6 * o)), .int p1, .int p2].toArray s 0 0 A) (F0 m 0 ls [])
  generalize hQ : MQ below (va_Qv (fun (u : Ob) => EE = (u)) (fun u t => gC g A (gW g bb tx rw sb dy (va_up tn o u) mo jk) t) A) [.ref (gA g (40 + 6 * o)), .int p1, .int p2].toArray s 0 0 A = Q
  replace hG : gS g A s s.heap [] (gW g bb tx rw sb dy (va_up tn o T) mo jk) := by simpa only [← hT, up_self] using hG
  unfold F_X4_turnHour at hE
  refine lv_aload_n hx hb dX4_turnHour_0 rfl (lv_at hl 0 rfl) ?_
  refine lv_iload_n hx hb dX4_turnHour_1 rfl (lv_at hl 1 rfl) ?_
  refine g_ci (g_runV (n := 1) (rest := []) hx hb hml hown hts hG (c_X4_has ho (up_same _ _ _) p1) tw_ml_RX4_59 tw_im_X4_has tw_se_X4_has tw_in_RX4 tw_cd_X4_has (by decide +kernel) ⟨rfl, rfl, Nat.le_of_ble_eq_true rfl, Nat.le_of_ble_eq_true rfl⟩ (gw_Town ho (up_same _ _ _)) rfl rfl hl.1 rfl (Nat.le_of_ble_eq_true rfl) dX4_turnHour_2 ⟨Nat.le_refl _, Nat.le_refl _⟩) hG hA (fun r _ H locs hp hG => ?_)
  subst hp
  replace hG : gS g A s H locs (gW g bb tx rw sb dy (va_up tn o T) mo jk) := hG
  refine lv_if_eq (tgt := 20) hx hb dX4_turnHour_5 (by decide) (fun c_5 => ?_) (fun c_5 => ?_)
  · replace hE := (if_pos c_5).symm.trans hE
    subst hQ
    exact g_vret hx hb hr hlocks hG ((T) : Ob) rfl hE.symm dX4_turnHour_20
  replace hE := (if_neg c_5).symm.trans hE
  have i_5 := has_f c_5
  refine lv_aload_n hx hb dX4_turnHour_8 rfl (lv_at hl 0 rfl) ?_
  refine g_get hx hb hts hiX4 hown hG (gw_Town ho (up_same _ _ _)) rfl 4 (by decide) (index := 24) tw_fl_RX4_24 (v := .ref (gA g (40 + 6 * o + 5))) rfl dX4_turnHour_9 ?_
  refine lv_iload_n hx hb dX4_turnHour_12 rfl (lv_at hl 1 rfl) ?_
  refine lv_dup2_11 hx hb dX4_turnHour_13 rfl rfl ?_
  refine g_ild hx hb hG (gw_Town_a4 ho (up_same _ _ _)) (vp_i (by clear hE; omega) (by clear hE; omega)) dX4_turnHour_14 ?_
  refine lv_iconst (v := 1) hx hb dX4_turnHour_15 (by decide) ?_
  refine lv_iload_n hx hb dX4_turnHour_16 rfl (lv_at hl 2 rfl) ?_
  refine lv_ishl hx hb dX4_turnHour_17 ?_
  refine lv_ixor hx hb dX4_turnHour_18 ?_
  refine g_ist hx hb hG (gw_Town_a4 ho (up_same _ _ _)) (vp_i (by clear hE; omega) (by clear hE; omega)) (gt_Town_a4 ho) dX4_turnHour_19 (fun H locs hG => ?_)
  subst hQ
  exact g_vret hx hb hr hlocks hG (((stA T 4 p1 (((T.2 4) (Int32.toNatClampNeg p1)) ^^^ (1 <<< (p2 &&& 31))))) : Ob) rfl hE.symm dX4_turnHour_20
def F_X4_obey (T : Ob) (t2 : Nat) (p2 : Int32) : Ob :=
  (setS (setS T 11 (nI t2)) 10 p2)
set_option maxHeartbeats 4000000 in
set_option maxRecDepth 100000 in
theorem c_X4_obey {l : Launch} {g : GG} {sz : Nat} {bb : Ob} {tx rw : Nat → Ob} {sb dy : Ob} {tn : Nat → Ob} {mo : Ob} {jk : Nat → Nat → Int32} {o : Nat} (ho : o < 3) {T : Ob} (hT : tn o = T) {t2 : Nat} (ht2 : t2 < 6) (p2 : Int32)  : Met l yX4_obey (Cond.code yX4_obey cX4_obey 3 none :: TT) (rmL 1) (va_Pc [.ref (gA g (40 + 6 * o)), .ref (gA g (3 + 4 * t2)), .int p2] (gB g sz (gW g bb tx rw sb dy tn mo jk))) (va_Qv (fun (u : Ob) => (F_X4_obey T t2 p2) = (u)) (fun u t => gC g (va_A (gW g bb tx rw sb dy tn mo jk) sz) (gW g bb tx rw sb dy (va_up tn o u) mo jk) t) (va_A (gW g bb tx rw sb dy tn mo jk) sz)) 0 0 (va_A (gW g bb tx rw sb dy tn mo jk) sz) := by
  generalize hE : F_X4_obey T t2 p2 = EE
  refine g_of (Qf := fun A => (va_Qv (fun (u : Ob) => EE = (u)) (fun u t => gC g A (gW g bb tx rw sb dy (va_up tn o u) mo jk) t) A)) (cc := cX4_obey) (maxL := 3) (ret := none) (by decide) (Nat.le_of_ble_eq_true rfl) ?_
  intro p e s m below meth c A ls hx hb hml hr hlocks hts hown hA hG hl
  replace hown : s.vm.findClass RX4 = some m.cls := hown
  replace hl : lv_has ls 3 [(0, .ref (gA g (40 + 6 * o))), (1, .ref (gA g (3 + 4 * t2))), (2, .int p2)] := hl
  show W p l e (rmL 1) s m [.ref (gA g (40 + 6 * o)), .ref (gA g (3 + 4 * t2)), .int p2].toArray below meth c s.heap [] 0 0 (MQ below (va_Qv (fun (u : Ob) => EE = (u)) (fun u t => gC g A (gW g bb tx rw sb dy (va_up tn o u) mo jk) t) A) [.ref (gA g (40 + 6 * o)), .ref (gA g (3 + 4 * t2)), .int p2].toArray s 0 0 A) (F0 m 0 ls [])
  generalize hQ : MQ below (va_Qv (fun (u : Ob) => EE = (u)) (fun u t => gC g A (gW g bb tx rw sb dy (va_up tn o u) mo jk) t) A) [.ref (gA g (40 + 6 * o)), .ref (gA g (3 + 4 * t2)), .int p2].toArray s 0 0 A = Q
  replace hG : gS g A s s.heap [] (gW g bb tx rw sb dy (va_up tn o T) mo jk) := by simpa only [← hT, up_self] using hG
  unfold F_X4_obey at hE
  refine lv_aload_n hx hb dX4_obey_0 rfl (lv_at hl 0 rfl) ?_
  refine lv_aload_n hx hb dX4_obey_1 rfl (lv_at hl 1 rfl) ?_
  refine g_put hx hb hts hiX4 tyX4 tyX4_ok nmX4 hown hG (gw_Town ho (up_same _ _ _)) rfl 11 (by decide) (index := 46) tw_fl_RX4_46 rfl rfl rfl (Nat.le_of_ble_eq_true rfl) (gt_Town_f11 ho ht2) dX4_obey_2 (fun H locs hG => ?_)
  refine lv_aload_n hx hb dX4_obey_5 rfl (lv_at hl 0 rfl) ?_
  refine lv_iload_n hx hb dX4_obey_6 rfl (lv_at hl 2 rfl) ?_
  refine g_put hx hb hts hiX4 tyX4 tyX4_ok nmX4 hown hG (gw_Town ho (up_same _ _ _)) rfl 10 (by decide) (index := 43) tw_fl_RX4_43 rfl rfl rfl (Nat.le_of_ble_eq_true rfl) (gt_Town_f10 ho) dX4_obey_7 (fun H locs hG => ?_)
  subst hQ
  exact g_vret hx hb hr hlocks hG (((setS (setS T 11 (nI t2)) 10 p2)) : Ob) rfl hE.symm dX4_obey_10
def F_X4_become_c123 (K2 : Ob → Ob → Int32 → Ob) (u : Ob) (T2 : Ob) : Ob :=
  u
def F_X4_become_l2 : Nat → Ob → Ob → Int32 → Ob
  | 0, T, _, _ => T
  | n + 1, T, T2, x2 =>
    (if 6 ≤ x2 then (F_X4_become_c123 (F_X4_become_l2 n ) (F_X4_obey (setS (setS (setS (setS (setS T 5 (T2.1 5)) 6 (T2.1 6)) 7 (T2.1 7)) 8 (T2.1 8)) 9 (T2.1 9)) ((T2.1 11).toNatClampNeg) (T2.1 10)) T2) else ((F_X4_become_l2 n ) (stA (stA (stA (stA (stA T 0 x2 ((T2.2 0) (Int32.toNatClampNeg x2))) 1 x2 ((T2.2 1) (Int32.toNatClampNeg x2))) 2 x2 ((T2.2 2) (Int32.toNatClampNeg x2))) 3 x2 ((T2.2 3) (Int32.toNatClampNeg x2))) 4 x2 ((T2.2 4) (Int32.toNatClampNeg x2))) T2 (x2 + 1)))
def F_X4_become (T : Ob) (T2 : Ob) : Ob :=
  (F_X4_become_l2 7  T T2 0)
set_option maxHeartbeats 4000000 in
set_option maxRecDepth 100000 in
theorem c_X4_become {l : Launch} {g : GG} {sz : Nat} {bb : Ob} {tx rw : Nat → Ob} {sb dy : Ob} {tn : Nat → Ob} {mo : Ob} {jk : Nat → Nat → Int32} {o : Nat} (ho : o < 3) {T : Ob} (hT : tn o = T) {o2 : Nat} (ho2 : o2 < 3) {T2 : Ob} (hT2 : tn o2 = T2) (hne : o2 ≠ o)  (hl2 : (T2.1 11).toNatClampNeg < 6) : Met l yX4_become (Cond.code yX4_become cX4_become 3 none :: TT) (rmL 2) (va_Pc [.ref (gA g (40 + 6 * o)), .ref (gA g (40 + 6 * o2))] (gB g sz (gW g bb tx rw sb dy tn mo jk))) (va_Qv (fun (u : Ob) => (F_X4_become T T2) = (u)) (fun u t => gC g (va_A (gW g bb tx rw sb dy tn mo jk) sz) (gW g bb tx rw sb dy (va_up tn o u) mo jk) t) (va_A (gW g bb tx rw sb dy tn mo jk) sz)) 0 0 (va_A (gW g bb tx rw sb dy tn mo jk) sz) := by
  generalize hE : F_X4_become T T2 = EE
  refine g_of (Qf := fun A => (va_Qv (fun (u : Ob) => EE = (u)) (fun u t => gC g A (gW g bb tx rw sb dy (va_up tn o u) mo jk) t) A)) (cc := cX4_become) (maxL := 3) (ret := none) (by decide) (Nat.le_of_ble_eq_true rfl) ?_
  intro p e s m below meth c A ls hx hb hml hr hlocks hts hown hA hG hl
  replace hown : s.vm.findClass RX4 = some m.cls := hown
  replace hl : lv_has ls 3 [(0, .ref (gA g (40 + 6 * o))), (1, .ref (gA g (40 + 6 * o2)))] := hl
  show W p l e (rmL 2) s m [.ref (gA g (40 + 6 * o)), .ref (gA g (40 + 6 * o2))].toArray below meth c s.heap [] 0 0 (MQ below (va_Qv (fun (u : Ob) => EE = (u)) (fun u t => gC g A (gW g bb tx rw sb dy (va_up tn o u) mo jk) t) A) [.ref (gA g (40 + 6 * o)), .ref (gA g (40 + 6 * o2))].toArray s 0 0 A) (F0 m 0 ls [])
  generalize hQ : MQ below (va_Qv (fun (u : Ob) => EE = (u)) (fun u t => gC g A (gW g bb tx rw sb dy (va_up tn o u) mo jk) t) A) [.ref (gA g (40 + 6 * o)), .ref (gA g (40 + 6 * o2))].toArray s 0 0 A = Q
  replace hG : gS g A s s.heap [] (gW g bb tx rw sb dy (va_up tn o T) mo jk) := by simpa only [← hT, up_self] using hG
  unfold F_X4_become at hE
  refine lv_iconst (v := 0) hx hb dX4_become_0 (by decide) ?_
  refine lv_istore_n (lv' := [(2, .int 0), (0, .ref (gA g (40 + 6 * o))), (1, .ref (gA g (40 + 6 * o2)))]) hx hb dX4_become_1 rfl hl (by decide) rfl (fun ls hl => ?_)
  replace hl := lv_sub hl [1, 2, 0] (l' := [(0, .ref (gA g (40 + 6 * o))), (1, .ref (gA g (40 + 6 * o2))), (2, .int 0)]) rfl
  have L2 : ∀ (n : Nat) (x2_2 : Int32) (T_2 : Ob) (H : Heap) (locs : List Loc), gS g A s H locs (gW g bb tx rw sb dy (va_up tn o T_2) mo jk) → ∀ ls : Array Slot, lv_has ls 3 [(0, .ref (gA g (40 + 6 * o))), (1, .ref (gA g (40 + 6 * o2))), (2, .int x2_2)] → 0 ≤ x2_2.toInt → x2_2.toInt ≤ 6 → 6 < x2_2.toInt + n → F_X4_become_l2 n  T_2 T2 x2_2 = EE → W p l e (rmL 2) s m [.ref (gA g (40 + 6 * o)), .ref (gA g (40 + 6 * o2))].toArray below meth c H locs 0 0 Q (F0 m 2 ls []) := by
    intro n
    induction n with
    | zero =>
      intro x2_2 T_2 H locs hG ls hl h0_2 h1_2 hm_2 hE
      omega
    | succ n ih2 =>
      intro x2_2 T_2 H locs hG ls hl h0_2 h1_2 hm_2 hE
      unfold F_X4_become_l2 at hE
      refine lv_iload_n hx hb dX4_become_2 rfl (lv_at hl 2 rfl) ?_
      refine lv_bipush (v := 6) hx hb dX4_become_3 (by decide) ?_
      refine lv_icmp_ge (tgt := 74) hx hb dX4_become_5 (by decide) (fun c_5 => ?_) (fun c_5 => ?_)
      · replace hE := (if_pos c_5).symm.trans hE
        have i_5 : 6 ≤ x2_2.toInt := i_le.mp c_5
        refine lv_aload_n hx hb dX4_become_74 rfl (lv_at hl 0 rfl) ?_
        refine lv_aload_n hx hb dX4_become_75 rfl (lv_at hl 1 rfl) ?_
        refine g_get hx hb hts hiX4 hown hG (gw_Town ho2 ((va_up_ne _ _ hne).trans hT2)) rfl 5 (by decide) (index := 27) tw_fl_RX4_27 (v := .int (T2.1 5)) rfl dX4_become_76 ?_
        refine g_put hx hb hts hiX4 tyX4 tyX4_ok nmX4 hown hG (gw_Town ho (up_same _ _ _)) rfl 5 (by decide) (index := 27) tw_fl_RX4_27 rfl rfl rfl (Nat.le_of_ble_eq_true rfl) (gt_Town_f5 ho) dX4_become_79 (fun H locs hG => ?_)
        refine lv_aload_n hx hb dX4_become_82 rfl (lv_at hl 0 rfl) ?_
        refine lv_aload_n hx hb dX4_become_83 rfl (lv_at hl 1 rfl) ?_
        refine g_get hx hb hts hiX4 hown hG (gw_Town ho2 ((va_up_ne _ _ hne).trans hT2)) rfl 6 (by decide) (index := 31) tw_fl_RX4_31 (v := .int (T2.1 6)) rfl dX4_become_84 ?_
        refine g_put hx hb hts hiX4 tyX4 tyX4_ok nmX4 hown hG (gw_Town ho (up_same _ _ _)) rfl 6 (by decide) (index := 31) tw_fl_RX4_31 rfl rfl rfl (Nat.le_of_ble_eq_true rfl) (gt_Town_f6 ho) dX4_become_87 (fun H locs hG => ?_)
        refine lv_aload_n hx hb dX4_become_90 rfl (lv_at hl 0 rfl) ?_
        refine lv_aload_n hx hb dX4_become_91 rfl (lv_at hl 1 rfl) ?_
        refine g_get hx hb hts hiX4 hown hG (gw_Town ho2 ((va_up_ne _ _ hne).trans hT2)) rfl 7 (by decide) (index := 34) tw_fl_RX4_34 (v := .int (T2.1 7)) rfl dX4_become_92 ?_
        refine g_put hx hb hts hiX4 tyX4 tyX4_ok nmX4 hown hG (gw_Town ho (up_same _ _ _)) rfl 7 (by decide) (index := 34) tw_fl_RX4_34 rfl rfl rfl (Nat.le_of_ble_eq_true rfl) (gt_Town_f7 ho) dX4_become_95 (fun H locs hG => ?_)
        refine lv_aload_n hx hb dX4_become_98 rfl (lv_at hl 0 rfl) ?_
        refine lv_aload_n hx hb dX4_become_99 rfl (lv_at hl 1 rfl) ?_
        refine g_get hx hb hts hiX4 hown hG (gw_Town ho2 ((va_up_ne _ _ hne).trans hT2)) rfl 8 (by decide) (index := 37) tw_fl_RX4_37 (v := .int (T2.1 8)) rfl dX4_become_100 ?_
        refine g_put hx hb hts hiX4 tyX4 tyX4_ok nmX4 hown hG (gw_Town ho (up_same _ _ _)) rfl 8 (by decide) (index := 37) tw_fl_RX4_37 rfl rfl rfl (Nat.le_of_ble_eq_true rfl) (gt_Town_f8 ho) dX4_become_103 (fun H locs hG => ?_)
        refine lv_aload_n hx hb dX4_become_106 rfl (lv_at hl 0 rfl) ?_
        refine lv_aload_n hx hb dX4_become_107 rfl (lv_at hl 1 rfl) ?_
        refine g_get hx hb hts hiX4 hown hG (gw_Town ho2 ((va_up_ne _ _ hne).trans hT2)) rfl 9 (by decide) (index := 40) tw_fl_RX4_40 (v := .int (T2.1 9)) rfl dX4_become_108 ?_
        refine g_put hx hb hts hiX4 tyX4 tyX4_ok nmX4 hown hG (gw_Town ho (up_same _ _ _)) rfl 9 (by decide) (index := 40) tw_fl_RX4_40 rfl rfl rfl (Nat.le_of_ble_eq_true rfl) (gt_Town_f9 ho) dX4_become_111 (fun H locs hG => ?_)
        refine lv_aload_n hx hb dX4_become_114 rfl (lv_at hl 0 rfl) ?_
        refine lv_aload_n hx hb dX4_become_115 rfl (lv_at hl 1 rfl) ?_
        refine g_get hx hb hts hiX4 hown hG (gw_Town ho2 ((va_up_ne _ _ hne).trans hT2)) rfl 11 (by decide) (index := 46) tw_fl_RX4_46 (v := .ref (gA g (3 + 4 * ((T2.1 11).toNatClampNeg)))) rfl dX4_become_116 ?_
        refine lv_aload_n hx hb dX4_become_119 rfl (lv_at hl 1 rfl) ?_
        refine g_get hx hb hts hiX4 hown hG (gw_Town ho2 ((va_up_ne _ _ hne).trans hT2)) rfl 10 (by decide) (index := 43) tw_fl_RX4_43 (v := .int (T2.1 10)) rfl dX4_become_120 ?_
        refine g_cv (g_runV (n := 2) (rest := []) hx hb hml hown hts hG (c_X4_obey ho (up_same _ _ _) hl2 (T2.1 10)) tw_ml_RX4_50 tw_im_X4_obey tw_se_X4_obey tw_in_RX4 tw_cd_X4_obey (by decide +kernel) ⟨rfl, rfl, Nat.le_of_ble_eq_true rfl, Nat.le_of_ble_eq_true rfl⟩ (gw_Town ho (up_same _ _ _)) rfl rfl hl.1 rfl (Nat.le_of_ble_eq_true rfl) dX4_become_123 ⟨Nat.le_refl _, Nat.le_refl _⟩) hG hA (fun u H locs hp hG => ?_)
        obtain ⟨T_123, rfl⟩ : ∃ z, z = u := ⟨u, rfl⟩
        replace hG : gS g A s H locs (gW g bb tx rw sb dy (va_up tn o T_123) mo jk) := by simpa only [up_up] using hG
        have hp_123 := hp
        rw [hp] at hE
        unfold F_X4_become_c123 at hE
        try dsimp only at hE
        subst hQ
        exact g_vret hx hb hr hlocks hG ((T_123) : Ob) rfl hE.symm dX4_become_126
      replace hE := (if_neg c_5).symm.trans hE
      have i_5 : x2_2.toInt < 6 := i_nle c_5
      refine lv_aload_n hx hb dX4_become_8 rfl (lv_at hl 0 rfl) ?_
      refine g_get hx hb hts hiX4 hown hG (gw_Town ho (up_same _ _ _)) rfl 0 (by decide) (index := 9) tw_fl_RX4_9 (v := .ref (gA g (40 + 6 * o + 1))) rfl dX4_become_9 ?_
      refine lv_iload_n hx hb dX4_become_12 rfl (lv_at hl 2 rfl) ?_
      refine lv_aload_n hx hb dX4_become_13 rfl (lv_at hl 1 rfl) ?_
      refine g_get hx hb hts hiX4 hown hG (gw_Town ho2 ((va_up_ne _ _ hne).trans hT2)) rfl 0 (by decide) (index := 9) tw_fl_RX4_9 (v := .ref (gA g (40 + 6 * o2 + 1))) rfl dX4_become_14 ?_
      refine lv_iload_n hx hb dX4_become_17 rfl (lv_at hl 2 rfl) ?_
      refine g_ild hx hb hG (gw_Town_a0 ho2 ((va_up_ne _ _ hne).trans hT2)) (vp_i (by clear hE; omega) (by clear hE; omega)) dX4_become_18 ?_
      refine g_ist hx hb hG (gw_Town_a0 ho (up_same _ _ _)) (vp_i (by clear hE; omega) (by clear hE; omega)) (gt_Town_a0 ho) dX4_become_19 (fun H locs hG => ?_)
      refine lv_aload_n hx hb dX4_become_20 rfl (lv_at hl 0 rfl) ?_
      refine g_get hx hb hts hiX4 hown hG (gw_Town ho (up_same _ _ _)) rfl 1 (by decide) (index := 15) tw_fl_RX4_15 (v := .ref (gA g (40 + 6 * o + 2))) rfl dX4_become_21 ?_
      refine lv_iload_n hx hb dX4_become_24 rfl (lv_at hl 2 rfl) ?_
      refine lv_aload_n hx hb dX4_become_25 rfl (lv_at hl 1 rfl) ?_
      refine g_get hx hb hts hiX4 hown hG (gw_Town ho2 ((va_up_ne _ _ hne).trans hT2)) rfl 1 (by decide) (index := 15) tw_fl_RX4_15 (v := .ref (gA g (40 + 6 * o2 + 2))) rfl dX4_become_26 ?_
      refine lv_iload_n hx hb dX4_become_29 rfl (lv_at hl 2 rfl) ?_
      refine g_ild hx hb hG (gw_Town_a1 ho2 ((va_up_ne _ _ hne).trans hT2)) (vp_i (by clear hE; omega) (by clear hE; omega)) dX4_become_30 ?_
      refine g_ist hx hb hG (gw_Town_a1 ho (up_same _ _ _)) (vp_i (by clear hE; omega) (by clear hE; omega)) (gt_Town_a1 ho) dX4_become_31 (fun H locs hG => ?_)
      refine lv_aload_n hx hb dX4_become_32 rfl (lv_at hl 0 rfl) ?_
      refine g_get hx hb hts hiX4 hown hG (gw_Town ho (up_same _ _ _)) rfl 2 (by decide) (index := 18) tw_fl_RX4_18 (v := .ref (gA g (40 + 6 * o + 3))) rfl dX4_become_33 ?_
      refine lv_iload_n hx hb dX4_become_36 rfl (lv_at hl 2 rfl) ?_
      refine lv_aload_n hx hb dX4_become_37 rfl (lv_at hl 1 rfl) ?_
      refine g_get hx hb hts hiX4 hown hG (gw_Town ho2 ((va_up_ne _ _ hne).trans hT2)) rfl 2 (by decide) (index := 18) tw_fl_RX4_18 (v := .ref (gA g (40 + 6 * o2 + 3))) rfl dX4_become_38 ?_
      refine lv_iload_n hx hb dX4_become_41 rfl (lv_at hl 2 rfl) ?_
      refine g_ild hx hb hG (gw_Town_a2 ho2 ((va_up_ne _ _ hne).trans hT2)) (vp_i (by clear hE; omega) (by clear hE; omega)) dX4_become_42 ?_
      refine g_ist hx hb hG (gw_Town_a2 ho (up_same _ _ _)) (vp_i (by clear hE; omega) (by clear hE; omega)) (gt_Town_a2 ho) dX4_become_43 (fun H locs hG => ?_)
      refine lv_aload_n hx hb dX4_become_44 rfl (lv_at hl 0 rfl) ?_
      refine g_get hx hb hts hiX4 hown hG (gw_Town ho (up_same _ _ _)) rfl 3 (by decide) (index := 21) tw_fl_RX4_21 (v := .ref (gA g (40 + 6 * o + 4))) rfl dX4_become_45 ?_
      refine lv_iload_n hx hb dX4_become_48 rfl (lv_at hl 2 rfl) ?_
      refine lv_aload_n hx hb dX4_become_49 rfl (lv_at hl 1 rfl) ?_
      refine g_get hx hb hts hiX4 hown hG (gw_Town ho2 ((va_up_ne _ _ hne).trans hT2)) rfl 3 (by decide) (index := 21) tw_fl_RX4_21 (v := .ref (gA g (40 + 6 * o2 + 4))) rfl dX4_become_50 ?_
      refine lv_iload_n hx hb dX4_become_53 rfl (lv_at hl 2 rfl) ?_
      refine g_ild hx hb hG (gw_Town_a3 ho2 ((va_up_ne _ _ hne).trans hT2)) (vp_i (by clear hE; omega) (by clear hE; omega)) dX4_become_54 ?_
      refine g_ist hx hb hG (gw_Town_a3 ho (up_same _ _ _)) (vp_i (by clear hE; omega) (by clear hE; omega)) (gt_Town_a3 ho) dX4_become_55 (fun H locs hG => ?_)
      refine lv_aload_n hx hb dX4_become_56 rfl (lv_at hl 0 rfl) ?_
      refine g_get hx hb hts hiX4 hown hG (gw_Town ho (up_same _ _ _)) rfl 4 (by decide) (index := 24) tw_fl_RX4_24 (v := .ref (gA g (40 + 6 * o + 5))) rfl dX4_become_57 ?_
      refine lv_iload_n hx hb dX4_become_60 rfl (lv_at hl 2 rfl) ?_
      refine lv_aload_n hx hb dX4_become_61 rfl (lv_at hl 1 rfl) ?_
      refine g_get hx hb hts hiX4 hown hG (gw_Town ho2 ((va_up_ne _ _ hne).trans hT2)) rfl 4 (by decide) (index := 24) tw_fl_RX4_24 (v := .ref (gA g (40 + 6 * o2 + 5))) rfl dX4_become_62 ?_
      refine lv_iload_n hx hb dX4_become_65 rfl (lv_at hl 2 rfl) ?_
      refine g_ild hx hb hG (gw_Town_a4 ho2 ((va_up_ne _ _ hne).trans hT2)) (vp_i (by clear hE; omega) (by clear hE; omega)) dX4_become_66 ?_
      refine g_ist hx hb hG (gw_Town_a4 ho (up_same _ _ _)) (vp_i (by clear hE; omega) (by clear hE; omega)) (gt_Town_a4 ho) dX4_become_67 (fun H locs hG => ?_)
      refine lv_iinc (v := (x2_2 + 1)) (lv' := [(2, .int (x2_2 + 1)), (0, .ref (gA g (40 + 6 * o))), (1, .ref (gA g (40 + 6 * o2)))]) hx hb dX4_become_68 hl (k := 2) rfl rfl (by decide) rfl (fun ls hl => ?_)
      replace hl := lv_sub hl [1, 2, 0] (l' := [(0, .ref (gA g (40 + 6 * o))), (1, .ref (gA g (40 + 6 * o2))), (2, .int (x2_2 + 1))]) rfl
      refine lv_goto (tgt := 2) hx hb dX4_become_71 (by decide) ?_
      have e1 : (x2_2 + 1).toInt = x2_2.toInt + 1 := addL (k := 1) (by decide +kernel) (by clear hE; omega) (by clear hE; omega)
      exact ih2 (x2_2 + 1) (stA (stA (stA (stA (stA T_2 0 x2_2 ((T2.2 0) (Int32.toNatClampNeg x2_2))) 1 x2_2 ((T2.2 1) (Int32.toNatClampNeg x2_2))) 2 x2_2 ((T2.2 2) (Int32.toNatClampNeg x2_2))) 3 x2_2 ((T2.2 3) (Int32.toNatClampNeg x2_2))) 4 x2_2 ((T2.2 4) (Int32.toNatClampNeg x2_2))) _ _ hG _ (lv_sub hl [0, 1, 2] rfl) (by clear hE; omega) (by clear hE; omega) (by clear hE; omega) hE
  exact L2 7 0 T _ _ hG _ (lv_sub hl [0, 1, 2] rfl) (by decide) (by decide) (by decide) hE
def F_X4_known (T : Ob) (p1 : Int32) (p2 : Int32) : Int32 :=
  (if (F_X4_has T p1) = 0 then 0 else (if p2 = 0 then ((T.2 2) (Int32.toNatClampNeg p1)) else (if p2 = 1 then ((T.2 3) (Int32.toNatClampNeg p1)) else (if p2 = 2 then ((T.2 4) (Int32.toNatClampNeg p1)) else (if (F_X4_isVowed T p1) = 0 then 0 else 1)))))
set_option maxHeartbeats 4000000 in
set_option maxRecDepth 100000 in
theorem c_X4_known {l : Launch} {g : GG} {sz : Nat} {bb : Ob} {tx rw : Nat → Ob} {sb dy : Ob} {tn : Nat → Ob} {mo : Ob} {jk : Nat → Nat → Int32} {o : Nat} (ho : o < 3) {T : Ob} (hT : tn o = T) (p1 : Int32) (p2 : Int32)  : Met l yX4_known (Cond.code yX4_known cX4_known 3 (some .int) :: TT) (rmL 2) (va_Pc [.ref (gA g (40 + 6 * o)), .int p1, .int p2] (gB g sz (gW g bb tx rw sb dy tn mo jk))) (va_Qi (fun r (_ : Unit) => r = (F_X4_known T p1 p2)) (fun u t => gC g (va_A (gW g bb tx rw sb dy tn mo jk) sz) (gW g bb tx rw sb dy tn mo jk) t) (va_A (gW g bb tx rw sb dy tn mo jk) sz)) 0 0 (va_A (gW g bb tx rw sb dy tn mo jk) sz) := by
  generalize hE : F_X4_known T p1 p2 = EE
  refine g_of (Qf := fun A => (va_Qi (fun r (_ : Unit) => r = EE) (fun u t => gC g A (gW g bb tx rw sb dy tn mo jk) t) A)) (cc := cX4_known) (maxL := 3) (ret := (some .int)) (by decide) (Nat.le_of_ble_eq_true rfl) ?_
  intro p e s m below meth c A ls hx hb hml hr hlocks hts hown hA hG hl
  replace hown : s.vm.findClass RX4 = some m.cls := hown
  replace hl : lv_has ls 3 [(0, .ref (gA g (40 + 6 * o))), (1, .int p1), (2, .int p2)] := hl
  show W p l e (rmL 2) s m [.ref (gA g (40 + 6 * o)), .int p1, .int p2].toArray below meth c s.heap [] 0 0 (MQ below (va_Qi (fun r (_ : Unit) => r = EE) (fun u t => gC g A (gW g bb tx rw sb dy tn mo jk) t) A) [.ref (gA g (40 + 6 * o)), .int p1, .int p2].toArray s 0 0 A) (F0 m 0 ls [])
  generalize hQ : MQ below (va_Qi (fun r (_ : Unit) => r = EE) (fun u t => gC g A (gW g bb tx rw sb dy tn mo jk) t) A) [.ref (gA g (40 + 6 * o)), .int p1, .int p2].toArray s 0 0 A = Q
  unfold F_X4_known at hE
  refine lv_aload_n hx hb dX4_known_0 rfl (lv_at hl 0 rfl) ?_
  refine lv_iload_n hx hb dX4_known_1 rfl (lv_at hl 1 rfl) ?_
  refine g_ci (g_runV (n := 1) (rest := []) hx hb hml hown hts hG (c_X4_has ho hT p1) tw_ml_RX4_59 tw_im_X4_has tw_se_X4_has tw_in_RX4 tw_cd_X4_has (by decide +kernel) ⟨rfl, rfl, Nat.le_of_ble_eq_true rfl, Nat.le_of_ble_eq_true rfl⟩ (gw_Town ho hT) rfl rfl hl.1 rfl (Nat.le_of_ble_eq_true rfl) dX4_known_2 ⟨Nat.le_refl _, Nat.le_refl _⟩) hG hA (fun r _ H locs hp hG => ?_)
  subst hp
  replace hG : gS g A s H locs (gW g bb tx rw sb dy tn mo jk) := hG
  refine lv_if_ne (tgt := 10) hx hb dX4_known_5 (by decide) (fun c_5 => ?_) (fun c_5 => ?_)
  · replace hE := (if_neg c_5).symm.trans hE
    have i_5 := has_f c_5
    refine lv_iload_n hx hb dX4_known_10 rfl (lv_at hl 2 rfl) ?_
    by_cases c_11_0 : p2 = 0
    · replace hE := (if_pos c_11_0).symm.trans hE
      refine lv_tableIn (off := 25) (tgt := 36) hx hb dX4_known_11 (by rw [c_11_0]; decide) (by rw [c_11_0]; decide) (by rw [c_11_0]; decide) (by decide) ?_
      have i_11_0 : p2.toInt = 0 := congrArg Int32.toInt c_11_0
      refine lv_aload_n hx hb dX4_known_36 rfl (lv_at hl 0 rfl) ?_
      refine g_get hx hb hts hiX4 hown hG (gw_Town ho hT) rfl 2 (by decide) (index := 18) tw_fl_RX4_18 (v := .ref (gA g (40 + 6 * o + 3))) rfl dX4_known_37 ?_
      refine lv_iload_n hx hb dX4_known_40 rfl (lv_at hl 1 rfl) ?_
      refine g_ild hx hb hG (gw_Town_a2 ho hT) (vp_i (by clear hE; omega) (by clear hE; omega)) dX4_known_41 ?_
      subst hQ
      exact g_iret hx hb hr hlocks hG () rfl hE dX4_known_42
    replace hE := (if_neg c_11_0).symm.trans hE
    by_cases c_11_1 : p2 = 1
    · replace hE := (if_pos c_11_1).symm.trans hE
      refine lv_tableIn (off := 32) (tgt := 43) hx hb dX4_known_11 (by rw [c_11_1]; decide) (by rw [c_11_1]; decide) (by rw [c_11_1]; decide) (by decide) ?_
      have i_11_1 : p2.toInt = 1 := congrArg Int32.toInt c_11_1
      refine lv_aload_n hx hb dX4_known_43 rfl (lv_at hl 0 rfl) ?_
      refine g_get hx hb hts hiX4 hown hG (gw_Town ho hT) rfl 3 (by decide) (index := 21) tw_fl_RX4_21 (v := .ref (gA g (40 + 6 * o + 4))) rfl dX4_known_44 ?_
      refine lv_iload_n hx hb dX4_known_47 rfl (lv_at hl 1 rfl) ?_
      refine g_ild hx hb hG (gw_Town_a3 ho hT) (vp_i (by clear hE; omega) (by clear hE; omega)) dX4_known_48 ?_
      subst hQ
      exact g_iret hx hb hr hlocks hG () rfl hE dX4_known_49
    replace hE := (if_neg c_11_1).symm.trans hE
    by_cases c_11_2 : p2 = 2
    · replace hE := (if_pos c_11_2).symm.trans hE
      refine lv_tableIn (off := 39) (tgt := 50) hx hb dX4_known_11 (by rw [c_11_2]; decide) (by rw [c_11_2]; decide) (by rw [c_11_2]; decide) (by decide) ?_
      have i_11_2 : p2.toInt = 2 := congrArg Int32.toInt c_11_2
      refine lv_aload_n hx hb dX4_known_50 rfl (lv_at hl 0 rfl) ?_
      refine g_get hx hb hts hiX4 hown hG (gw_Town ho hT) rfl 4 (by decide) (index := 24) tw_fl_RX4_24 (v := .ref (gA g (40 + 6 * o + 5))) rfl dX4_known_51 ?_
      refine lv_iload_n hx hb dX4_known_54 rfl (lv_at hl 1 rfl) ?_
      refine g_ild hx hb hG (gw_Town_a4 ho hT) (vp_i (by clear hE; omega) (by clear hE; omega)) dX4_known_55 ?_
      subst hQ
      exact g_iret hx hb hr hlocks hG () rfl hE dX4_known_56
    replace hE := (if_neg c_11_2).symm.trans hE
    refine lv_tableOut (tgt := 57) hx hb dX4_known_11 (by have k0 := lv_neT c_11_0 (a := 0) (by decide); have k1 := lv_neT c_11_1 (a := 1) (by decide); have k2 := lv_neT c_11_2 (a := 2) (by decide); omega) (by decide) ?_
    refine lv_aload_n hx hb dX4_known_57 rfl (lv_at hl 0 rfl) ?_
    refine lv_iload_n hx hb dX4_known_58 rfl (lv_at hl 1 rfl) ?_
    refine g_ci (g_runV (n := 1) (rest := []) hx hb hml hown hts hG (c_X4_isVowed ho hT p1) tw_ml_RX4_63 tw_im_X4_isVowed tw_se_X4_isVowed tw_in_RX4 tw_cd_X4_isVowed (by decide +kernel) ⟨rfl, rfl, Nat.le_of_ble_eq_true rfl, Nat.le_of_ble_eq_true rfl⟩ (gw_Town ho hT) rfl rfl hl.1 rfl (Nat.le_of_ble_eq_true rfl) dX4_known_59 ⟨Nat.le_refl _, Nat.le_refl _⟩) hG hA (fun r _ H locs hp hG => ?_)
    subst hp
    replace hG : gS g A s H locs (gW g bb tx rw sb dy tn mo jk) := hG
    refine lv_if_eq (tgt := 69) hx hb dX4_known_62 (by decide) (fun c_62 => ?_) (fun c_62 => ?_)
    · replace hE := (if_pos c_62).symm.trans hE
      refine lv_iconst (v := 0) hx hb dX4_known_69 (by decide) ?_
      subst hQ
      exact g_iret hx hb hr hlocks hG () rfl hE dX4_known_70
    replace hE := (if_neg c_62).symm.trans hE
    refine lv_iconst (v := 1) hx hb dX4_known_65 (by decide) ?_
    refine lv_goto (tgt := 70) hx hb dX4_known_66 (by decide) ?_
    subst hQ
    exact g_iret hx hb hr hlocks hG () rfl hE dX4_known_70
  replace hE := (if_pos c_5).symm.trans hE
  refine lv_iconst (v := 0) hx hb dX4_known_8 (by decide) ?_
  subst hQ
  exact g_iret hx hb hr hlocks hG () rfl hE dX4_known_9
def F_X4_change_c86 (u : Ob) : Ob :=
  u
def F_X4_change_b81 (T : Ob) (x1 : Int32) (z0 : Int32) (z1 : Int32) : Ob :=
  (if z0 = z1 then T else (F_X4_change_c86 (F_X4_turnVow T x1)))
def F_X4_change (T : Ob) (p1 : Int32) (p2 : Int32) (p3 : Int32) : Ob :=
  (if (F_X4_has T p1) = 0 then T else (if p2 = 0 then (stA T 2 p1 p3) else (if p2 = 1 then (stA T 3 p1 p3) else (if p2 = 2 then (stA T 4 p1 p3) else (if p3 = 1 then (F_X4_change_b81  T p1 (F_X4_isVowed T p1) 1) else (F_X4_change_b81  T p1 (F_X4_isVowed T p1) 0))))))
set_option maxHeartbeats 4000000 in
set_option maxRecDepth 100000 in
theorem c_X4_change {l : Launch} {g : GG} {sz : Nat} {bb : Ob} {tx rw : Nat → Ob} {sb dy : Ob} {tn : Nat → Ob} {mo : Ob} {jk : Nat → Nat → Int32} {o : Nat} (ho : o < 3) {T : Ob} (hT : tn o = T) (p1 : Int32) (p2 : Int32) (p3 : Int32)  : Met l yX4_change (Cond.code yX4_change cX4_change 4 none :: TT) (rmL 3) (va_Pc [.ref (gA g (40 + 6 * o)), .int p1, .int p2, .int p3] (gB g sz (gW g bb tx rw sb dy tn mo jk))) (va_Qv (fun (u : Ob) => (F_X4_change T p1 p2 p3) = (u)) (fun u t => gC g (va_A (gW g bb tx rw sb dy tn mo jk) sz) (gW g bb tx rw sb dy (va_up tn o u) mo jk) t) (va_A (gW g bb tx rw sb dy tn mo jk) sz)) 0 0 (va_A (gW g bb tx rw sb dy tn mo jk) sz) := by
  generalize hE : F_X4_change T p1 p2 p3 = EE
  refine g_of (Qf := fun A => (va_Qv (fun (u : Ob) => EE = (u)) (fun u t => gC g A (gW g bb tx rw sb dy (va_up tn o u) mo jk) t) A)) (cc := cX4_change) (maxL := 4) (ret := none) (by decide) (Nat.le_of_ble_eq_true rfl) ?_
  intro p e s m below meth c A ls hx hb hml hr hlocks hts hown hA hG hl
  replace hown : s.vm.findClass RX4 = some m.cls := hown
  replace hl : lv_has ls 4 [(0, .ref (gA g (40 + 6 * o))), (1, .int p1), (2, .int p2), (3, .int p3)] := hl
  show W p l e (rmL 3) s m [.ref (gA g (40 + 6 * o)), .int p1, .int p2, .int p3].toArray below meth c s.heap [] 0 0 (MQ below (va_Qv (fun (u : Ob) => EE = (u)) (fun u t => gC g A (gW g bb tx rw sb dy (va_up tn o u) mo jk) t) A) [.ref (gA g (40 + 6 * o)), .int p1, .int p2, .int p3].toArray s 0 0 A) (F0 m 0 ls [])
  generalize hQ : MQ below (va_Qv (fun (u : Ob) => EE = (u)) (fun u t => gC g A (gW g bb tx rw sb dy (va_up tn o u) mo jk) t) A) [.ref (gA g (40 + 6 * o)), .int p1, .int p2, .int p3].toArray s 0 0 A = Q
  replace hG : gS g A s s.heap [] (gW g bb tx rw sb dy (va_up tn o T) mo jk) := by simpa only [← hT, up_self] using hG
  unfold F_X4_change at hE
  refine lv_aload_n hx hb dX4_change_0 rfl (lv_at hl 0 rfl) ?_
  refine lv_iload_n hx hb dX4_change_1 rfl (lv_at hl 1 rfl) ?_
  refine g_ci (g_runV (n := 1) (rest := []) hx hb hml hown hts hG (c_X4_has ho (up_same _ _ _) p1) tw_ml_RX4_59 tw_im_X4_has tw_se_X4_has tw_in_RX4 tw_cd_X4_has (by decide +kernel) ⟨rfl, rfl, Nat.le_of_ble_eq_true rfl, Nat.le_of_ble_eq_true rfl⟩ (gw_Town ho (up_same _ _ _)) rfl rfl hl.1 rfl (Nat.le_of_ble_eq_true rfl) dX4_change_2 ⟨Nat.le_refl _, Nat.le_refl _⟩) hG hA (fun r _ H locs hp hG => ?_)
  subst hp
  replace hG : gS g A s H locs (gW g bb tx rw sb dy (va_up tn o T) mo jk) := hG
  refine lv_if_ne (tgt := 9) hx hb dX4_change_5 (by decide) (fun c_5 => ?_) (fun c_5 => ?_)
  · replace hE := (if_neg c_5).symm.trans hE
    have i_5 := has_f c_5
    refine lv_iload_n hx hb dX4_change_9 rfl (lv_at hl 2 rfl) ?_
    by_cases c_10_0 : p2 = 0
    · replace hE := (if_pos c_10_0).symm.trans hE
      refine lv_tableIn (off := 26) (tgt := 36) hx hb dX4_change_10 (by rw [c_10_0]; decide) (by rw [c_10_0]; decide) (by rw [c_10_0]; decide) (by decide) ?_
      have i_10_0 : p2.toInt = 0 := congrArg Int32.toInt c_10_0
      refine lv_aload_n hx hb dX4_change_36 rfl (lv_at hl 0 rfl) ?_
      refine g_get hx hb hts hiX4 hown hG (gw_Town ho (up_same _ _ _)) rfl 2 (by decide) (index := 18) tw_fl_RX4_18 (v := .ref (gA g (40 + 6 * o + 3))) rfl dX4_change_37 ?_
      refine lv_iload_n hx hb dX4_change_40 rfl (lv_at hl 1 rfl) ?_
      refine lv_iload_n hx hb dX4_change_41 rfl (lv_at hl 3 rfl) ?_
      refine g_ist hx hb hG (gw_Town_a2 ho (up_same _ _ _)) (vp_i (by clear hE; omega) (by clear hE; omega)) (gt_Town_a2 ho) dX4_change_42 (fun H locs hG => ?_)
      refine lv_goto (tgt := 89) hx hb dX4_change_43 (by decide) ?_
      subst hQ
      exact g_vret hx hb hr hlocks hG (((stA T 2 p1 p3)) : Ob) rfl hE.symm dX4_change_89
    replace hE := (if_neg c_10_0).symm.trans hE
    by_cases c_10_1 : p2 = 1
    · replace hE := (if_pos c_10_1).symm.trans hE
      refine lv_tableIn (off := 36) (tgt := 46) hx hb dX4_change_10 (by rw [c_10_1]; decide) (by rw [c_10_1]; decide) (by rw [c_10_1]; decide) (by decide) ?_
      have i_10_1 : p2.toInt = 1 := congrArg Int32.toInt c_10_1
      refine lv_aload_n hx hb dX4_change_46 rfl (lv_at hl 0 rfl) ?_
      refine g_get hx hb hts hiX4 hown hG (gw_Town ho (up_same _ _ _)) rfl 3 (by decide) (index := 21) tw_fl_RX4_21 (v := .ref (gA g (40 + 6 * o + 4))) rfl dX4_change_47 ?_
      refine lv_iload_n hx hb dX4_change_50 rfl (lv_at hl 1 rfl) ?_
      refine lv_iload_n hx hb dX4_change_51 rfl (lv_at hl 3 rfl) ?_
      refine g_ist hx hb hG (gw_Town_a3 ho (up_same _ _ _)) (vp_i (by clear hE; omega) (by clear hE; omega)) (gt_Town_a3 ho) dX4_change_52 (fun H locs hG => ?_)
      refine lv_goto (tgt := 89) hx hb dX4_change_53 (by decide) ?_
      subst hQ
      exact g_vret hx hb hr hlocks hG (((stA T 3 p1 p3)) : Ob) rfl hE.symm dX4_change_89
    replace hE := (if_neg c_10_1).symm.trans hE
    by_cases c_10_2 : p2 = 2
    · replace hE := (if_pos c_10_2).symm.trans hE
      refine lv_tableIn (off := 46) (tgt := 56) hx hb dX4_change_10 (by rw [c_10_2]; decide) (by rw [c_10_2]; decide) (by rw [c_10_2]; decide) (by decide) ?_
      have i_10_2 : p2.toInt = 2 := congrArg Int32.toInt c_10_2
      refine lv_aload_n hx hb dX4_change_56 rfl (lv_at hl 0 rfl) ?_
      refine g_get hx hb hts hiX4 hown hG (gw_Town ho (up_same _ _ _)) rfl 4 (by decide) (index := 24) tw_fl_RX4_24 (v := .ref (gA g (40 + 6 * o + 5))) rfl dX4_change_57 ?_
      refine lv_iload_n hx hb dX4_change_60 rfl (lv_at hl 1 rfl) ?_
      refine lv_iload_n hx hb dX4_change_61 rfl (lv_at hl 3 rfl) ?_
      refine g_ist hx hb hG (gw_Town_a4 ho (up_same _ _ _)) (vp_i (by clear hE; omega) (by clear hE; omega)) (gt_Town_a4 ho) dX4_change_62 (fun H locs hG => ?_)
      refine lv_goto (tgt := 89) hx hb dX4_change_63 (by decide) ?_
      subst hQ
      exact g_vret hx hb hr hlocks hG (((stA T 4 p1 p3)) : Ob) rfl hE.symm dX4_change_89
    replace hE := (if_neg c_10_2).symm.trans hE
    refine lv_tableOut (tgt := 66) hx hb dX4_change_10 (by have k0 := lv_neT c_10_0 (a := 0) (by decide); have k1 := lv_neT c_10_1 (a := 1) (by decide); have k2 := lv_neT c_10_2 (a := 2) (by decide); omega) (by decide) ?_
    refine lv_aload_n hx hb dX4_change_66 rfl (lv_at hl 0 rfl) ?_
    refine lv_iload_n hx hb dX4_change_67 rfl (lv_at hl 1 rfl) ?_
    refine g_ci (g_runV (n := 1) (rest := []) hx hb hml hown hts hG (c_X4_isVowed ho (up_same _ _ _) p1) tw_ml_RX4_63 tw_im_X4_isVowed tw_se_X4_isVowed tw_in_RX4 tw_cd_X4_isVowed (by decide +kernel) ⟨rfl, rfl, Nat.le_of_ble_eq_true rfl, Nat.le_of_ble_eq_true rfl⟩ (gw_Town ho (up_same _ _ _)) rfl rfl hl.1 rfl (Nat.le_of_ble_eq_true rfl) dX4_change_68 ⟨Nat.le_refl _, Nat.le_refl _⟩) hG hA (fun r _ H locs hp hG => ?_)
    subst hp
    replace hG : gS g A s H locs (gW g bb tx rw sb dy (va_up tn o T) mo jk) := hG
    refine lv_iload_n hx hb dX4_change_71 rfl (lv_at hl 3 rfl) ?_
    refine lv_iconst (v := 1) hx hb dX4_change_72 (by decide) ?_
    have J81 : ∀ (z1_81 : Int32) (H : Heap) (locs : List Loc), gS g A s H locs (gW g bb tx rw sb dy (va_up tn o T) mo jk) → ∀ ls : Array Slot, lv_has ls 4 [(0, .ref (gA g (40 + 6 * o))), (1, .int p1)] → F_X4_change_b81   T p1 (F_X4_isVowed T p1) z1_81 = EE → W p l e (rmL 3) s m [.ref (gA g (40 + 6 * o)), .int p1, .int p2, .int p3].toArray below meth c H locs 0 0 Q (F0 m 81 ls [.int z1_81, .int (F_X4_isVowed T p1)]) := by
      intro z1_81 H locs hG ls hl  hE
      unfold F_X4_change_b81 at hE
      refine lv_icmp_eq (tgt := 89) hx hb dX4_change_81 (by decide) (fun c_81 => ?_) (fun c_81 => ?_)
      · replace hE := (if_pos c_81).symm.trans hE
        subst hQ
        exact g_vret hx hb hr hlocks hG ((T) : Ob) rfl hE.symm dX4_change_89
      replace hE := (if_neg c_81).symm.trans hE
      refine lv_aload_n hx hb dX4_change_84 rfl (lv_at hl 0 rfl) ?_
      refine lv_iload_n hx hb dX4_change_85 rfl (lv_at hl 1 rfl) ?_
      refine g_cv (g_runV (n := 1) (rest := []) hx hb hml hown hts hG (c_X4_turnVow ho (up_same _ _ _) p1) tw_ml_RX4_66 tw_im_X4_turnVow tw_se_X4_turnVow tw_in_RX4 tw_cd_X4_turnVow (by decide +kernel) ⟨rfl, rfl, Nat.le_of_ble_eq_true rfl, Nat.le_of_ble_eq_true rfl⟩ (gw_Town ho (up_same _ _ _)) rfl rfl hl.1 rfl (Nat.le_of_ble_eq_true rfl) dX4_change_86 ⟨Nat.le_refl _, Nat.le_refl _⟩) hG hA (fun u H locs hp hG => ?_)
      obtain ⟨T_86, rfl⟩ : ∃ z, z = u := ⟨u, rfl⟩
      replace hG : gS g A s H locs (gW g bb tx rw sb dy (va_up tn o T_86) mo jk) := by simpa only [up_up] using hG
      have hp_86 := hp
      rw [hp] at hE
      unfold F_X4_change_c86 at hE
      try dsimp only at hE
      subst hQ
      exact g_vret hx hb hr hlocks hG ((T_86) : Ob) rfl hE.symm dX4_change_89
    refine lv_icmp_ne (tgt := 80) hx hb dX4_change_73 (by decide) (fun c_73 => ?_) (fun c_73 => ?_)
    · replace hE := (if_neg c_73).symm.trans hE
      have i_73 : p3.toInt ≠ 1 := fun h => c_73 (Int32.toInt_inj.mp h)
      refine lv_iconst (v := 0) hx hb dX4_change_80 (by decide) ?_
      exact J81 0 _ _ hG _ (lv_sub hl [0, 1] rfl) hE
    replace hE := (if_pos c_73).symm.trans hE
    have i_73 : p3.toInt = 1 := congrArg Int32.toInt c_73
    refine lv_iconst (v := 1) hx hb dX4_change_76 (by decide) ?_
    refine lv_goto (tgt := 81) hx hb dX4_change_77 (by decide) ?_
    exact J81 1 _ _ hG _ (lv_sub hl [0, 1] rfl) hE
  replace hE := (if_pos c_5).symm.trans hE
  subst hQ
  exact g_vret hx hb hr hlocks hG ((T) : Ob) rfl hE.symm dX4_change_8
def F_X4_named (T : Ob) (p1 : Int32) (p2 : Int32) : Int32 :=
  (if (F_X4_has T p2) = 0 then 0 else (if p1 = (-5) then (T.1 6) else (if p1 = (-4) then (T.1 9) else (if p1 = (-3) then ((T.1 7) - (T.1 7) / 24 * 24) else (if p1 = (-2) then (jmin ((T.2 3) (Int32.toNatClampNeg p2)) 99) else (if p1 = (-1) then ((T.2 2) (Int32.toNatClampNeg p2)) else ((T.2 1) (Int32.toNatClampNeg p2))))))))
set_option maxHeartbeats 4000000 in
set_option maxRecDepth 100000 in
theorem c_X4_named {l : Launch} {g : GG} {sz : Nat} {bb : Ob} {tx rw : Nat → Ob} {sb dy : Ob} {tn : Nat → Ob} {mo : Ob} {jk : Nat → Nat → Int32} {o : Nat} (ho : o < 3) {T : Ob} (hT : tn o = T) (p1 : Int32) (p2 : Int32)  : Met l yX4_named (Cond.code yX4_named cX4_named 3 (some .int) :: TT) (rmL 2) (va_Pc [.ref (gA g (40 + 6 * o)), .int p1, .int p2] (gB g sz (gW g bb tx rw sb dy tn mo jk))) (va_Qi (fun r (_ : Unit) => r = (F_X4_named T p1 p2)) (fun u t => gC g (va_A (gW g bb tx rw sb dy tn mo jk) sz) (gW g bb tx rw sb dy tn mo jk) t) (va_A (gW g bb tx rw sb dy tn mo jk) sz)) 0 0 (va_A (gW g bb tx rw sb dy tn mo jk) sz) := by
  generalize hE : F_X4_named T p1 p2 = EE
  refine g_of (Qf := fun A => (va_Qi (fun r (_ : Unit) => r = EE) (fun u t => gC g A (gW g bb tx rw sb dy tn mo jk) t) A)) (cc := cX4_named) (maxL := 3) (ret := (some .int)) (by decide) (Nat.le_of_ble_eq_true rfl) ?_
  intro p e s m below meth c A ls hx hb hml hr hlocks hts hown hA hG hl
  replace hown : s.vm.findClass RX4 = some m.cls := hown
  replace hl : lv_has ls 3 [(0, .ref (gA g (40 + 6 * o))), (1, .int p1), (2, .int p2)] := hl
  show W p l e (rmL 2) s m [.ref (gA g (40 + 6 * o)), .int p1, .int p2].toArray below meth c s.heap [] 0 0 (MQ below (va_Qi (fun r (_ : Unit) => r = EE) (fun u t => gC g A (gW g bb tx rw sb dy tn mo jk) t) A) [.ref (gA g (40 + 6 * o)), .int p1, .int p2].toArray s 0 0 A) (F0 m 0 ls [])
  generalize hQ : MQ below (va_Qi (fun r (_ : Unit) => r = EE) (fun u t => gC g A (gW g bb tx rw sb dy tn mo jk) t) A) [.ref (gA g (40 + 6 * o)), .int p1, .int p2].toArray s 0 0 A = Q
  unfold F_X4_named at hE
  refine lv_aload_n hx hb dX4_named_0 rfl (lv_at hl 0 rfl) ?_
  refine lv_iload_n hx hb dX4_named_1 rfl (lv_at hl 2 rfl) ?_
  refine g_ci (g_runV (n := 1) (rest := []) hx hb hml hown hts hG (c_X4_has ho hT p2) tw_ml_RX4_59 tw_im_X4_has tw_se_X4_has tw_in_RX4 tw_cd_X4_has (by decide +kernel) ⟨rfl, rfl, Nat.le_of_ble_eq_true rfl, Nat.le_of_ble_eq_true rfl⟩ (gw_Town ho hT) rfl rfl hl.1 rfl (Nat.le_of_ble_eq_true rfl) dX4_named_2 ⟨Nat.le_refl _, Nat.le_refl _⟩) hG hA (fun r _ H locs hp hG => ?_)
  subst hp
  replace hG : gS g A s H locs (gW g bb tx rw sb dy tn mo jk) := hG
  refine lv_if_ne (tgt := 10) hx hb dX4_named_5 (by decide) (fun c_5 => ?_) (fun c_5 => ?_)
  · replace hE := (if_neg c_5).symm.trans hE
    have i_5 := has_f c_5
    refine lv_iload_n hx hb dX4_named_10 rfl (lv_at hl 1 rfl) ?_
    by_cases c_11_0 : p1 = (-5)
    · replace hE := (if_pos c_11_0).symm.trans hE
      refine lv_tableIn (off := 65) (tgt := 76) hx hb dX4_named_11 (by rw [c_11_0]; decide) (by rw [c_11_0]; decide) (by rw [c_11_0]; decide) (by decide) ?_
      have i_11_0 : p1.toInt = (-5) := congrArg Int32.toInt c_11_0
      refine lv_aload_n hx hb dX4_named_76 rfl (lv_at hl 0 rfl) ?_
      refine g_get hx hb hts hiX4 hown hG (gw_Town ho hT) rfl 6 (by decide) (index := 31) tw_fl_RX4_31 (v := .int (T.1 6)) rfl dX4_named_77 ?_
      subst hQ
      exact g_iret hx hb hr hlocks hG () rfl hE dX4_named_80
    replace hE := (if_neg c_11_0).symm.trans hE
    by_cases c_11_1 : p1 = (-4)
    · replace hE := (if_pos c_11_1).symm.trans hE
      refine lv_tableIn (off := 60) (tgt := 71) hx hb dX4_named_11 (by rw [c_11_1]; decide) (by rw [c_11_1]; decide) (by rw [c_11_1]; decide) (by decide) ?_
      have i_11_1 : p1.toInt = (-4) := congrArg Int32.toInt c_11_1
      refine lv_aload_n hx hb dX4_named_71 rfl (lv_at hl 0 rfl) ?_
      refine g_get hx hb hts hiX4 hown hG (gw_Town ho hT) rfl 9 (by decide) (index := 40) tw_fl_RX4_40 (v := .int (T.1 9)) rfl dX4_named_72 ?_
      subst hQ
      exact g_iret hx hb hr hlocks hG () rfl hE dX4_named_75
    replace hE := (if_neg c_11_1).symm.trans hE
    by_cases c_11_2 : p1 = (-3)
    · replace hE := (if_pos c_11_2).symm.trans hE
      refine lv_tableIn (off := 52) (tgt := 63) hx hb dX4_named_11 (by rw [c_11_2]; decide) (by rw [c_11_2]; decide) (by rw [c_11_2]; decide) (by decide) ?_
      have i_11_2 : p1.toInt = (-3) := congrArg Int32.toInt c_11_2
      refine lv_aload_n hx hb dX4_named_63 rfl (lv_at hl 0 rfl) ?_
      refine g_get hx hb hts hiX4 hown hG (gw_Town ho hT) rfl 7 (by decide) (index := 34) tw_fl_RX4_34 (v := .int (T.1 7)) rfl dX4_named_64 ?_
      refine lv_bipush (v := 24) hx hb dX4_named_67 (by decide) ?_
      refine lv_irem hx hb dX4_named_69 (by decide) ?_
      subst hQ
      exact g_iret hx hb hr hlocks hG () rfl hE dX4_named_70
    replace hE := (if_neg c_11_2).symm.trans hE
    by_cases c_11_3 : p1 = (-2)
    · replace hE := (if_pos c_11_3).symm.trans hE
      refine lv_tableIn (off := 40) (tgt := 51) hx hb dX4_named_11 (by rw [c_11_3]; decide) (by rw [c_11_3]; decide) (by rw [c_11_3]; decide) (by decide) ?_
      have i_11_3 : p1.toInt = (-2) := congrArg Int32.toInt c_11_3
      refine lv_aload_n hx hb dX4_named_51 rfl (lv_at hl 0 rfl) ?_
      refine g_get hx hb hts hiX4 hown hG (gw_Town ho hT) rfl 3 (by decide) (index := 21) tw_fl_RX4_21 (v := .ref (gA g (40 + 6 * o + 4))) rfl dX4_named_52 ?_
      refine lv_iload_n hx hb dX4_named_55 rfl (lv_at hl 2 rfl) ?_
      refine g_ild hx hb hG (gw_Town_a3 ho hT) (vp_i (by clear hE; omega) (by clear hE; omega)) dX4_named_56 ?_
      refine lv_bipush (v := 99) hx hb dX4_named_57 (by decide) ?_
      refine g_min hx hb hml hl.1 hts hown tw_ml_RX4_70 tw_st_Mmin tw_in_RJ9 tw_cd_Mmin (Nat.le_of_ble_eq_true rfl) (Nat.le_of_ble_eq_true rfl) dX4_named_59 (kk := ?_)
      subst hQ
      exact g_iret hx hb hr hlocks hG () rfl hE dX4_named_62
    replace hE := (if_neg c_11_3).symm.trans hE
    by_cases c_11_4 : p1 = (-1)
    · replace hE := (if_pos c_11_4).symm.trans hE
      refine lv_tableIn (off := 33) (tgt := 44) hx hb dX4_named_11 (by rw [c_11_4]; decide) (by rw [c_11_4]; decide) (by rw [c_11_4]; decide) (by decide) ?_
      have i_11_4 : p1.toInt = (-1) := congrArg Int32.toInt c_11_4
      refine lv_aload_n hx hb dX4_named_44 rfl (lv_at hl 0 rfl) ?_
      refine g_get hx hb hts hiX4 hown hG (gw_Town ho hT) rfl 2 (by decide) (index := 18) tw_fl_RX4_18 (v := .ref (gA g (40 + 6 * o + 3))) rfl dX4_named_45 ?_
      refine lv_iload_n hx hb dX4_named_48 rfl (lv_at hl 2 rfl) ?_
      refine g_ild hx hb hG (gw_Town_a2 ho hT) (vp_i (by clear hE; omega) (by clear hE; omega)) dX4_named_49 ?_
      subst hQ
      exact g_iret hx hb hr hlocks hG () rfl hE dX4_named_50
    replace hE := (if_neg c_11_4).symm.trans hE
    refine lv_tableOut (tgt := 81) hx hb dX4_named_11 (by have k0 := lv_neT c_11_0 (a := -5) (by decide); have k1 := lv_neT c_11_1 (a := -4) (by decide); have k2 := lv_neT c_11_2 (a := -3) (by decide); have k3 := lv_neT c_11_3 (a := -2) (by decide); have k4 := lv_neT c_11_4 (a := -1) (by decide); omega) (by decide) ?_
    refine lv_aload_n hx hb dX4_named_81 rfl (lv_at hl 0 rfl) ?_
    refine g_get hx hb hts hiX4 hown hG (gw_Town ho hT) rfl 1 (by decide) (index := 15) tw_fl_RX4_15 (v := .ref (gA g (40 + 6 * o + 2))) rfl dX4_named_82 ?_
    refine lv_iload_n hx hb dX4_named_85 rfl (lv_at hl 2 rfl) ?_
    refine g_ild hx hb hG (gw_Town_a1 ho hT) (vp_i (by clear hE; omega) (by clear hE; omega)) dX4_named_86 ?_
    subst hQ
    exact g_iret hx hb hr hlocks hG () rfl hE dX4_named_87
  replace hE := (if_pos c_5).symm.trans hE
  refine lv_iconst (v := 0) hx hb dX4_named_8 (by decide) ?_
  subst hQ
  exact g_iret hx hb hr hlocks hG () rfl hE dX4_named_9
def F_X4_isOwnHour (T : Ob) (p1 : Int32) : Int32 :=
  (if (F_X4_has T p1) = 0 then 0 else (if ((((T.2 4) (Int32.toNatClampNeg p1)) >>> (((T.1 7) - (T.1 7) / 24 * 24) &&& 31)) &&& 1) = 1 then 1 else 0))
set_option maxHeartbeats 4000000 in
set_option maxRecDepth 100000 in
theorem c_X4_isOwnHour {l : Launch} {g : GG} {sz : Nat} {bb : Ob} {tx rw : Nat → Ob} {sb dy : Ob} {tn : Nat → Ob} {mo : Ob} {jk : Nat → Nat → Int32} {o : Nat} (ho : o < 3) {T : Ob} (hT : tn o = T) (p1 : Int32)  : Met l yX4_isOwnHour (Cond.code yX4_isOwnHour cX4_isOwnHour 2 (some .boolean) :: TT) (rmL 2) (va_Pc [.ref (gA g (40 + 6 * o)), .int p1] (gB g sz (gW g bb tx rw sb dy tn mo jk))) (va_Qi (fun r (_ : Unit) => r = (F_X4_isOwnHour T p1)) (fun u t => gC g (va_A (gW g bb tx rw sb dy tn mo jk) sz) (gW g bb tx rw sb dy tn mo jk) t) (va_A (gW g bb tx rw sb dy tn mo jk) sz)) 0 0 (va_A (gW g bb tx rw sb dy tn mo jk) sz) := by
  generalize hE : F_X4_isOwnHour T p1 = EE
  refine g_of (Qf := fun A => (va_Qi (fun r (_ : Unit) => r = EE) (fun u t => gC g A (gW g bb tx rw sb dy tn mo jk) t) A)) (cc := cX4_isOwnHour) (maxL := 2) (ret := (some .boolean)) (by decide) (Nat.le_of_ble_eq_true rfl) ?_
  intro p e s m below meth c A ls hx hb hml hr hlocks hts hown hA hG hl
  replace hown : s.vm.findClass RX4 = some m.cls := hown
  replace hl : lv_has ls 2 [(0, .ref (gA g (40 + 6 * o))), (1, .int p1)] := hl
  show W p l e (rmL 2) s m [.ref (gA g (40 + 6 * o)), .int p1].toArray below meth c s.heap [] 0 0 (MQ below (va_Qi (fun r (_ : Unit) => r = EE) (fun u t => gC g A (gW g bb tx rw sb dy tn mo jk) t) A) [.ref (gA g (40 + 6 * o)), .int p1].toArray s 0 0 A) (F0 m 0 ls [])
  generalize hQ : MQ below (va_Qi (fun r (_ : Unit) => r = EE) (fun u t => gC g A (gW g bb tx rw sb dy tn mo jk) t) A) [.ref (gA g (40 + 6 * o)), .int p1].toArray s 0 0 A = Q
  unfold F_X4_isOwnHour at hE
  refine lv_aload_n hx hb dX4_isOwnHour_0 rfl (lv_at hl 0 rfl) ?_
  refine lv_iload_n hx hb dX4_isOwnHour_1 rfl (lv_at hl 1 rfl) ?_
  refine g_ci (g_runV (n := 1) (rest := []) hx hb hml hown hts hG (c_X4_has ho hT p1) tw_ml_RX4_59 tw_im_X4_has tw_se_X4_has tw_in_RX4 tw_cd_X4_has (by decide +kernel) ⟨rfl, rfl, Nat.le_of_ble_eq_true rfl, Nat.le_of_ble_eq_true rfl⟩ (gw_Town ho hT) rfl rfl hl.1 rfl (Nat.le_of_ble_eq_true rfl) dX4_isOwnHour_2 ⟨Nat.le_refl _, Nat.le_refl _⟩) hG hA (fun r _ H locs hp hG => ?_)
  subst hp
  replace hG : gS g A s H locs (gW g bb tx rw sb dy tn mo jk) := hG
  refine lv_if_eq (tgt := 32) hx hb dX4_isOwnHour_5 (by decide) (fun c_5 => ?_) (fun c_5 => ?_)
  · replace hE := (if_pos c_5).symm.trans hE
    refine lv_iconst (v := 0) hx hb dX4_isOwnHour_32 (by decide) ?_
    subst hQ
    exact g_zret hx hb hr hlocks hG (Or.inl rfl) () rfl hE dX4_isOwnHour_33
  replace hE := (if_neg c_5).symm.trans hE
  have i_5 := has_f c_5
  refine lv_aload_n hx hb dX4_isOwnHour_8 rfl (lv_at hl 0 rfl) ?_
  refine g_get hx hb hts hiX4 hown hG (gw_Town ho hT) rfl 4 (by decide) (index := 24) tw_fl_RX4_24 (v := .ref (gA g (40 + 6 * o + 5))) rfl dX4_isOwnHour_9 ?_
  refine lv_iload_n hx hb dX4_isOwnHour_12 rfl (lv_at hl 1 rfl) ?_
  refine g_ild hx hb hG (gw_Town_a4 ho hT) (vp_i (by clear hE; omega) (by clear hE; omega)) dX4_isOwnHour_13 ?_
  refine lv_aload_n hx hb dX4_isOwnHour_14 rfl (lv_at hl 0 rfl) ?_
  refine g_get hx hb hts hiX4 hown hG (gw_Town ho hT) rfl 7 (by decide) (index := 34) tw_fl_RX4_34 (v := .int (T.1 7)) rfl dX4_isOwnHour_15 ?_
  refine lv_bipush (v := 24) hx hb dX4_isOwnHour_18 (by decide) ?_
  refine lv_irem hx hb dX4_isOwnHour_20 (by decide) ?_
  refine lv_ishr hx hb dX4_isOwnHour_21 ?_
  refine lv_iconst (v := 1) hx hb dX4_isOwnHour_22 (by decide) ?_
  refine lv_iand hx hb dX4_isOwnHour_23 ?_
  refine lv_iconst (v := 1) hx hb dX4_isOwnHour_24 (by decide) ?_
  refine lv_icmp_ne (tgt := 32) hx hb dX4_isOwnHour_25 (by decide) (fun c_25 => ?_) (fun c_25 => ?_)
  · replace hE := (if_neg c_25).symm.trans hE
    have i_25 : ((((T.2 4) (Int32.toNatClampNeg p1)) >>> (((T.1 7) - (T.1 7) / 24 * 24) &&& 31)) &&& 1).toInt ≠ 1 := fun h => c_25 (Int32.toInt_inj.mp h)
    refine lv_iconst (v := 0) hx hb dX4_isOwnHour_32 (by decide) ?_
    subst hQ
    exact g_zret hx hb hr hlocks hG (Or.inl rfl) () rfl hE dX4_isOwnHour_33
  replace hE := (if_pos c_25).symm.trans hE
  have i_25 : ((((T.2 4) (Int32.toNatClampNeg p1)) >>> (((T.1 7) - (T.1 7) / 24 * 24) &&& 31)) &&& 1).toInt = 1 := congrArg Int32.toInt c_25
  refine lv_iconst (v := 1) hx hb dX4_isOwnHour_28 (by decide) ?_
  refine lv_goto (tgt := 33) hx hb dX4_isOwnHour_29 (by decide) ?_
  subst hQ
  exact g_zret hx hb hr hlocks hG (Or.inr rfl) () rfl hE dX4_isOwnHour_33
def F_X4_isLoversHour (T : Ob) (p1 : Int32) : Int32 :=
  (if (F_X4_isOwnHour T p1) = 0 then (if (F_X4_has T p1) = 0 then 0 else (if (((T.1 7) - (T.1 7) / 24 * 24) - ((T.1 7) - (T.1 7) / 24 * 24) / 12 * 12) = ((T.2 1) (Int32.toNatClampNeg p1)) then 1 else 0)) else 1)
set_option maxHeartbeats 4000000 in
set_option maxRecDepth 100000 in
theorem c_X4_isLoversHour {l : Launch} {g : GG} {sz : Nat} {bb : Ob} {tx rw : Nat → Ob} {sb dy : Ob} {tn : Nat → Ob} {mo : Ob} {jk : Nat → Nat → Int32} {o : Nat} (ho : o < 3) {T : Ob} (hT : tn o = T) (p1 : Int32)  : Met l yX4_isLoversHour (Cond.code yX4_isLoversHour cX4_isLoversHour 2 (some .boolean) :: TT) (rmL 3) (va_Pc [.ref (gA g (40 + 6 * o)), .int p1] (gB g sz (gW g bb tx rw sb dy tn mo jk))) (va_Qi (fun r (_ : Unit) => r = (F_X4_isLoversHour T p1)) (fun u t => gC g (va_A (gW g bb tx rw sb dy tn mo jk) sz) (gW g bb tx rw sb dy tn mo jk) t) (va_A (gW g bb tx rw sb dy tn mo jk) sz)) 0 0 (va_A (gW g bb tx rw sb dy tn mo jk) sz) := by
  generalize hE : F_X4_isLoversHour T p1 = EE
  refine g_of (Qf := fun A => (va_Qi (fun r (_ : Unit) => r = EE) (fun u t => gC g A (gW g bb tx rw sb dy tn mo jk) t) A)) (cc := cX4_isLoversHour) (maxL := 2) (ret := (some .boolean)) (by decide) (Nat.le_of_ble_eq_true rfl) ?_
  intro p e s m below meth c A ls hx hb hml hr hlocks hts hown hA hG hl
  replace hown : s.vm.findClass RX4 = some m.cls := hown
  replace hl : lv_has ls 2 [(0, .ref (gA g (40 + 6 * o))), (1, .int p1)] := hl
  show W p l e (rmL 3) s m [.ref (gA g (40 + 6 * o)), .int p1].toArray below meth c s.heap [] 0 0 (MQ below (va_Qi (fun r (_ : Unit) => r = EE) (fun u t => gC g A (gW g bb tx rw sb dy tn mo jk) t) A) [.ref (gA g (40 + 6 * o)), .int p1].toArray s 0 0 A) (F0 m 0 ls [])
  generalize hQ : MQ below (va_Qi (fun r (_ : Unit) => r = EE) (fun u t => gC g A (gW g bb tx rw sb dy tn mo jk) t) A) [.ref (gA g (40 + 6 * o)), .int p1].toArray s 0 0 A = Q
  unfold F_X4_isLoversHour at hE
  refine lv_aload_n hx hb dX4_isLoversHour_0 rfl (lv_at hl 0 rfl) ?_
  refine lv_iload_n hx hb dX4_isLoversHour_1 rfl (lv_at hl 1 rfl) ?_
  refine g_ci (g_runV (n := 1) (rest := []) hx hb hml hown hts hG (c_X4_isOwnHour ho hT p1) tw_ml_RX4_76 tw_im_X4_isOwnHour tw_se_X4_isOwnHour tw_in_RX4 tw_cd_X4_isOwnHour (by decide +kernel) ⟨rfl, rfl, Nat.le_of_ble_eq_true rfl, Nat.le_of_ble_eq_true rfl⟩ (gw_Town ho hT) rfl rfl hl.1 rfl (Nat.le_of_ble_eq_true rfl) dX4_isLoversHour_2 ⟨Nat.le_refl _, Nat.le_refl _⟩) hG hA (fun r _ H locs hp hG => ?_)
  subst hp
  replace hG : gS g A s H locs (gW g bb tx rw sb dy tn mo jk) := hG
  refine lv_if_ne (tgt := 35) hx hb dX4_isLoversHour_5 (by decide) (fun c_5 => ?_) (fun c_5 => ?_)
  · replace hE := (if_neg c_5).symm.trans hE
    refine lv_iconst (v := 1) hx hb dX4_isLoversHour_35 (by decide) ?_
    refine lv_goto (tgt := 40) hx hb dX4_isLoversHour_36 (by decide) ?_
    subst hQ
    exact g_zret hx hb hr hlocks hG (Or.inr rfl) () rfl hE dX4_isLoversHour_40
  replace hE := (if_pos c_5).symm.trans hE
  refine lv_aload_n hx hb dX4_isLoversHour_8 rfl (lv_at hl 0 rfl) ?_
  refine lv_iload_n hx hb dX4_isLoversHour_9 rfl (lv_at hl 1 rfl) ?_
  refine g_ci (g_runV (n := 1) (rest := []) hx hb hml hown hts hG (c_X4_has ho hT p1) tw_ml_RX4_59 tw_im_X4_has tw_se_X4_has tw_in_RX4 tw_cd_X4_has (by decide +kernel) ⟨rfl, rfl, Nat.le_of_ble_eq_true rfl, Nat.le_of_ble_eq_true rfl⟩ (gw_Town ho hT) rfl rfl hl.1 rfl (Nat.le_of_ble_eq_true rfl) dX4_isLoversHour_10 ⟨Nat.le_refl _, Nat.le_refl _⟩) hG hA (fun r _ H locs hp hG => ?_)
  subst hp
  replace hG : gS g A s H locs (gW g bb tx rw sb dy tn mo jk) := hG
  refine lv_if_eq (tgt := 39) hx hb dX4_isLoversHour_13 (by decide) (fun c_13 => ?_) (fun c_13 => ?_)
  · replace hE := (if_pos c_13).symm.trans hE
    refine lv_iconst (v := 0) hx hb dX4_isLoversHour_39 (by decide) ?_
    subst hQ
    exact g_zret hx hb hr hlocks hG (Or.inl rfl) () rfl hE dX4_isLoversHour_40
  replace hE := (if_neg c_13).symm.trans hE
  have i_13 := has_f c_13
  refine lv_aload_n hx hb dX4_isLoversHour_16 rfl (lv_at hl 0 rfl) ?_
  refine g_get hx hb hts hiX4 hown hG (gw_Town ho hT) rfl 7 (by decide) (index := 34) tw_fl_RX4_34 (v := .int (T.1 7)) rfl dX4_isLoversHour_17 ?_
  refine lv_bipush (v := 24) hx hb dX4_isLoversHour_20 (by decide) ?_
  refine lv_irem hx hb dX4_isLoversHour_22 (by decide) ?_
  refine lv_bipush (v := 12) hx hb dX4_isLoversHour_23 (by decide) ?_
  refine lv_irem hx hb dX4_isLoversHour_25 (by decide) ?_
  refine lv_aload_n hx hb dX4_isLoversHour_26 rfl (lv_at hl 0 rfl) ?_
  refine g_get hx hb hts hiX4 hown hG (gw_Town ho hT) rfl 1 (by decide) (index := 15) tw_fl_RX4_15 (v := .ref (gA g (40 + 6 * o + 2))) rfl dX4_isLoversHour_27 ?_
  refine lv_iload_n hx hb dX4_isLoversHour_30 rfl (lv_at hl 1 rfl) ?_
  refine g_ild hx hb hG (gw_Town_a1 ho hT) (vp_i (by clear hE; omega) (by clear hE; omega)) dX4_isLoversHour_31 ?_
  refine lv_icmp_ne (tgt := 39) hx hb dX4_isLoversHour_32 (by decide) (fun c_32 => ?_) (fun c_32 => ?_)
  · replace hE := (if_neg c_32).symm.trans hE
    have i_32 : (((T.1 7) - (T.1 7) / 24 * 24) - ((T.1 7) - (T.1 7) / 24 * 24) / 12 * 12).toInt ≠ ((T.2 1) (Int32.toNatClampNeg p1)).toInt := fun h => c_32 (Int32.toInt_inj.mp h)
    refine lv_iconst (v := 0) hx hb dX4_isLoversHour_39 (by decide) ?_
    subst hQ
    exact g_zret hx hb hr hlocks hG (Or.inl rfl) () rfl hE dX4_isLoversHour_40
  replace hE := (if_pos c_32).symm.trans hE
  have i_32 : (((T.1 7) - (T.1 7) / 24 * 24) - ((T.1 7) - (T.1 7) / 24 * 24) / 12 * 12).toInt = ((T.2 1) (Int32.toNatClampNeg p1)).toInt := congrArg Int32.toInt c_32
  refine lv_iconst (v := 1) hx hb dX4_isLoversHour_35 (by decide) ?_
  refine lv_goto (tgt := 40) hx hb dX4_isLoversHour_36 (by decide) ?_
  subst hQ
  exact g_zret hx hb hr hlocks hG (Or.inr rfl) () rfl hE dX4_isLoversHour_40
