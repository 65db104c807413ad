theorem F_X4_isOwnHour_01 (T : Ob) (p : Int32) : F_X4_isOwnHour T p = 0 ∨ F_X4_isOwnHour T p = 1 := by
  unfold F_X4_isOwnHour
  repeat' split
  all_goals first | exact Or.inl rfl | exact Or.inr rfl
def F_X4_isLying (tx : Nat → Ob) (T : Ob) (p1 : Int32) : Int32 :=
  (if (F_X4_has T p1) = 0 then 0 else (if (F_X4_isVowed T p1) = 0 then (if ((T.2 0) (Int32.toNatClampNeg p1)) = 1 then (if (F_X4_isLoversHour T p1) = 0 then 0 else (if (F_X3_says (tx ((T.1 11).toNatClampNeg)) T 0 p1) = 0 then 0 else 1)) else (if ((T.2 0) (Int32.toNatClampNeg p1)) = 2 then (if (F_X4_isOwnHour T p1) = 0 then 0 else (if (F_X3_says (tx ((T.1 11).toNatClampNeg)) T 0 p1) = 0 then 0 else 1)) else (if ((T.2 0) (Int32.toNatClampNeg p1)) = 3 then (if (T.1 9) ≤ ((T.2 1) (Int32.toNatClampNeg p1)) then 0 else (if (F_X4_isLoversHour T p1) = 0 then 0 else (if (F_X3_says (tx ((T.1 11).toNatClampNeg)) T 0 p1) = 0 then 0 else 1))) else (if ((T.2 0) (Int32.toNatClampNeg p1)) = 4 then (F_X4_isOwnHour T p1) else (if ((T.2 0) (Int32.toNatClampNeg p1)) = 5 then 1 else (if (F_X4_isOwnHour T p1) = 0 then 0 else (if (F_X3_says (tx ((T.1 11).toNatClampNeg)) T 0 p1) = 0 then 0 else 1))))))) else 0))
set_option maxHeartbeats 4000000 in
set_option maxRecDepth 100000 in
theorem c_X4_isLying {l : Launch} {g : GG} {sz : Nat} {bb : Ob} {tx rw : Nat → Ob} {sb dy : Ob} {tn : Nat → Ob} {mo : Ob} {jk : Nat → Nat → Int32} {o : Nat} (ho : o < 3) {T : Ob} (hT : tn o = T) (p1 : Int32) (hv : tEv tx T) : Met l yX4_isLying (Cond.code yX4_isLying cX4_isLying 2 (some .boolean) :: TT) (rmL 5) (va_Pc [.ref (gA g (40 + 6 * o)), .int p1] (gB g sz (gW g bb tx rw sb dy tn mo jk))) (va_Qi (fun r (_ : (Nat → Nat → Int32)) => r = (F_X4_isLying tx T p1)) (fun u t => gC g (va_A (gW g bb tx rw sb dy tn mo jk) sz) (gW g bb tx rw sb dy tn mo u) t) (va_A (gW g bb tx rw sb dy tn mo jk) sz)) 0 0 (va_A (gW g bb tx rw sb dy tn mo jk) sz) := by
  generalize hE : F_X4_isLying tx T p1 = EE
  refine g_of (Qf := fun A => (va_Qi (fun r (_ : (Nat → Nat → Int32)) => r = EE) (fun u t => gC g A (gW g bb tx rw sb dy tn mo u) t) A)) (cc := cX4_isLying) (maxL := 2) (ret := (some .boolean)) (by decide) (Nat.le_of_ble_eq_true rfl) ?_
  intro p e s m below meth c A ls hx hb hml hr hlocks hts hown hA hG hl
  replace hown : s.vm.findClass RX4 = some m.cls := hown
  replace hl : lv_has ls 2 [(0, .ref (gA g (40 + 6 * o))), (1, .int p1)] := hl
  show W p l e (rmL 5) s m [.ref (gA g (40 + 6 * o)), .int p1].toArray below meth c s.heap [] 0 0 (MQ below (va_Qi (fun r (_ : (Nat → Nat → Int32)) => r = EE) (fun u t => gC g A (gW g bb tx rw sb dy tn mo u) t) A) [.ref (gA g (40 + 6 * o)), .int p1].toArray s 0 0 A) (F0 m 0 ls [])
  generalize hQ : MQ below (va_Qi (fun r (_ : (Nat → Nat → Int32)) => r = EE) (fun u t => gC g A (gW g bb tx rw sb dy tn mo u) t) A) [.ref (gA g (40 + 6 * o)), .int p1].toArray s 0 0 A = Q
  have hpo := hv.1
  unfold F_X4_isLying at hE
  refine lv_aload_n hx hb dX4_isLying_0 rfl (lv_at hl 0 rfl) ?_
  refine lv_iload_n hx hb dX4_isLying_1 rfl (lv_at hl 1 rfl) ?_
  refine g_ci (g_runV (n := 1) (rest := []) hx hb hml hown hts hG (c_X4_has ho hT p1) tw_ml_RX4_59 tw_im_X4_has tw_se_X4_has tw_in_RX4 tw_cd_X4_has (by decide +kernel) ⟨rfl, rfl, Nat.le_of_ble_eq_true rfl, Nat.le_of_ble_eq_true rfl⟩ (gw_Town ho hT) rfl rfl hl.1 rfl (Nat.le_of_ble_eq_true rfl) dX4_isLying_2 ⟨Nat.le_refl _, Nat.le_refl _⟩) hG hA (fun r _ H locs hp hG => ?_)
  subst hp
  replace hG : gS g A s H locs (gW g bb tx rw sb dy tn mo jk) := hG
  refine lv_if_eq (tgt := 16) hx hb dX4_isLying_5 (by decide) (fun c_5 => ?_) (fun c_5 => ?_)
  · replace hE := (if_pos c_5).symm.trans hE
    refine lv_iconst (v := 0) hx hb dX4_isLying_16 (by decide) ?_
    subst hQ
    exact g_zret hx hb hr hlocks hG (Or.inl rfl) ((jk) : (Nat → Nat → Int32)) rfl hE dX4_isLying_17
  replace hE := (if_neg c_5).symm.trans hE
  have i_5 := has_f c_5
  refine lv_aload_n hx hb dX4_isLying_8 rfl (lv_at hl 0 rfl) ?_
  refine lv_iload_n hx hb dX4_isLying_9 rfl (lv_at hl 1 rfl) ?_
  refine g_ci (g_runV (n := 1) (rest := []) hx hb hml hown hts hG (c_X4_isVowed ho hT p1) tw_ml_RX4_63 tw_im_X4_isVowed tw_se_X4_isVowed tw_in_RX4 tw_cd_X4_isVowed (by decide +kernel) ⟨rfl, rfl, Nat.le_of_ble_eq_true rfl, Nat.le_of_ble_eq_true rfl⟩ (gw_Town ho hT) rfl rfl hl.1 rfl (Nat.le_of_ble_eq_true rfl) dX4_isLying_10 ⟨Nat.le_refl _, Nat.le_refl _⟩) hG hA (fun r _ H locs hp hG => ?_)
  subst hp
  replace hG : gS g A s H locs (gW g bb tx rw sb dy tn mo jk) := hG
  refine lv_if_eq (tgt := 18) hx hb dX4_isLying_13 (by decide) (fun c_13 => ?_) (fun c_13 => ?_)
  · replace hE := (if_pos c_13).symm.trans hE
    refine lv_aload_n hx hb dX4_isLying_18 rfl (lv_at hl 0 rfl) ?_
    refine g_get hx hb hts hiX4 hown hG (gw_Town ho hT) rfl 0 (by decide) (index := 9) tw_fl_RX4_9 (v := .ref (gA g (40 + 6 * o + 1))) rfl dX4_isLying_19 ?_
    refine lv_iload_n hx hb dX4_isLying_22 rfl (lv_at hl 1 rfl) ?_
    refine g_ild hx hb hG (gw_Town_a0 ho hT) (vp_i (by clear hE; omega) (by clear hE; omega)) dX4_isLying_23 ?_
    by_cases c_24_0 : ((T.2 0) (Int32.toNatClampNeg p1)) = 1
    · replace hE := (if_pos c_24_0).symm.trans hE
      refine lv_tableIn (off := 36) (tgt := 60) hx hb dX4_isLying_24 (by rw [c_24_0]; decide) (by rw [c_24_0]; decide) (by rw [c_24_0]; decide) (by decide) ?_
      have i_24_0 : ((T.2 0) (Int32.toNatClampNeg p1)).toInt = 1 := congrArg Int32.toInt c_24_0
      refine lv_aload_n hx hb dX4_isLying_60 rfl (lv_at hl 0 rfl) ?_
      refine lv_iload_n hx hb dX4_isLying_61 rfl (lv_at hl 1 rfl) ?_
      refine g_ci (g_runV (n := 1) (rest := []) hx hb hml hown hts hG (c_X4_isLoversHour ho hT p1) tw_ml_RX4_79 tw_im_X4_isLoversHour tw_se_X4_isLoversHour tw_in_RX4 tw_cd_X4_isLoversHour (by decide +kernel) ⟨rfl, rfl, Nat.le_of_ble_eq_true rfl, Nat.le_of_ble_eq_true rfl⟩ (gw_Town ho hT) rfl rfl hl.1 rfl (Nat.le_of_ble_eq_true rfl) dX4_isLying_62 ⟨Nat.le_refl _, Nat.le_refl _⟩) hG hA (fun r _ H locs hp hG => ?_)
      subst hp
      replace hG : gS g A s H locs (gW g bb tx rw sb dy tn mo jk) := hG
      refine lv_if_eq (tgt := 85) hx hb dX4_isLying_65 (by decide) (fun c_65 => ?_) (fun c_65 => ?_)
      · replace hE := (if_pos c_65).symm.trans hE
        refine lv_iconst (v := 0) hx hb dX4_isLying_85 (by decide) ?_
        subst hQ
        exact g_zret hx hb hr hlocks hG (Or.inl rfl) ((jk) : (Nat → Nat → Int32)) rfl hE dX4_isLying_86
      replace hE := (if_neg c_65).symm.trans hE
      refine lv_aload_n hx hb dX4_isLying_68 rfl (lv_at hl 0 rfl) ?_
      refine g_get hx hb hts hiX4 hown hG (gw_Town ho hT) rfl 11 (by decide) (index := 46) tw_fl_RX4_46 (v := .ref (gA g (3 + 4 * ((T.1 11).toNatClampNeg)))) rfl dX4_isLying_69 ?_
      refine lv_iconst (v := 0) hx hb dX4_isLying_72 (by decide) ?_
      refine lv_aload_n hx hb dX4_isLying_73 rfl (lv_at hl 0 rfl) ?_
      refine lv_iload_n hx hb dX4_isLying_74 rfl (lv_at hl 1 rfl) ?_
      refine g_ci (g_runV (n := 3) (rest := []) hx hb hml hown hts hG (c_X3_says hv.2.1 rfl ho hT 0 p1 hv.2.2) tw_ml_RX4_82 tw_im_X3_says tw_se_X3_says tw_in_RX3 tw_cd_X3_says (by decide +kernel) ⟨rfl, rfl, Nat.le_of_ble_eq_true rfl, Nat.le_of_ble_eq_true rfl⟩ (gw_Text hv.2.1 rfl) rfl rfl hl.1 rfl (Nat.le_of_ble_eq_true rfl) dX4_isLying_75 ⟨Nat.le_refl _, Nat.le_refl _⟩) hG hA (fun r jk H locs hp hG => ?_)
      subst hp
      replace hG : gS g A s H locs (gW g bb tx rw sb dy tn mo jk) := hG
      refine lv_if_eq (tgt := 85) hx hb dX4_isLying_78 (by decide) (fun c_78 => ?_) (fun c_78 => ?_)
      · replace hE := (if_pos c_78).symm.trans hE
        refine lv_iconst (v := 0) hx hb dX4_isLying_85 (by decide) ?_
        subst hQ
        exact g_zret hx hb hr hlocks hG (Or.inl rfl) ((jk) : (Nat → Nat → Int32)) rfl hE dX4_isLying_86
      replace hE := (if_neg c_78).symm.trans hE
      refine lv_iconst (v := 1) hx hb dX4_isLying_81 (by decide) ?_
      refine lv_goto (tgt := 86) hx hb dX4_isLying_82 (by decide) ?_
      subst hQ
      exact g_zret hx hb hr hlocks hG (Or.inr rfl) ((jk) : (Nat → Nat → Int32)) rfl hE dX4_isLying_86
    replace hE := (if_neg c_24_0).symm.trans hE
    by_cases c_24_1 : ((T.2 0) (Int32.toNatClampNeg p1)) = 2
    · replace hE := (if_pos c_24_1).symm.trans hE
      refine lv_tableIn (off := 111) (tgt := 135) hx hb dX4_isLying_24 (by rw [c_24_1]; decide) (by rw [c_24_1]; decide) (by rw [c_24_1]; decide) (by decide) ?_
      have i_24_1 : ((T.2 0) (Int32.toNatClampNeg p1)).toInt = 2 := congrArg Int32.toInt c_24_1
      refine lv_aload_n hx hb dX4_isLying_135 rfl (lv_at hl 0 rfl) ?_
      refine lv_iload_n hx hb dX4_isLying_136 rfl (lv_at hl 1 rfl) ?_
      refine g_ci (g_runV (n := 1) (rest := []) hx hb hml hown hts hG (c_X4_isOwnHour ho hT p1) tw_ml_RX4_76 tw_im_X4_isOwnHour tw_se_X4_isOwnHour tw_in_RX4 tw_cd_X4_isOwnHour (by decide +kernel) ⟨rfl, rfl, Nat.le_of_ble_eq_true rfl, Nat.le_of_ble_eq_true rfl⟩ (gw_Town ho hT) rfl rfl hl.1 rfl (Nat.le_of_ble_eq_true rfl) dX4_isLying_137 ⟨Nat.le_refl _, Nat.le_refl _⟩) hG hA (fun r _ H locs hp hG => ?_)
      subst hp
      replace hG : gS g A s H locs (gW g bb tx rw sb dy tn mo jk) := hG
      refine lv_if_eq (tgt := 160) hx hb dX4_isLying_140 (by decide) (fun c_140 => ?_) (fun c_140 => ?_)
      · replace hE := (if_pos c_140).symm.trans hE
        refine lv_iconst (v := 0) hx hb dX4_isLying_160 (by decide) ?_
        subst hQ
        exact g_zret hx hb hr hlocks hG (Or.inl rfl) ((jk) : (Nat → Nat → Int32)) rfl hE dX4_isLying_161
      replace hE := (if_neg c_140).symm.trans hE
      refine lv_aload_n hx hb dX4_isLying_143 rfl (lv_at hl 0 rfl) ?_
      refine g_get hx hb hts hiX4 hown hG (gw_Town ho hT) rfl 11 (by decide) (index := 46) tw_fl_RX4_46 (v := .ref (gA g (3 + 4 * ((T.1 11).toNatClampNeg)))) rfl dX4_isLying_144 ?_
      refine lv_iconst (v := 0) hx hb dX4_isLying_147 (by decide) ?_
      refine lv_aload_n hx hb dX4_isLying_148 rfl (lv_at hl 0 rfl) ?_
      refine lv_iload_n hx hb dX4_isLying_149 rfl (lv_at hl 1 rfl) ?_
      refine g_ci (g_runV (n := 3) (rest := []) hx hb hml hown hts hG (c_X3_says hv.2.1 rfl ho hT 0 p1 hv.2.2) tw_ml_RX4_82 tw_im_X3_says tw_se_X3_says tw_in_RX3 tw_cd_X3_says (by decide +kernel) ⟨rfl, rfl, Nat.le_of_ble_eq_true rfl, Nat.le_of_ble_eq_true rfl⟩ (gw_Text hv.2.1 rfl) rfl rfl hl.1 rfl (Nat.le_of_ble_eq_true rfl) dX4_isLying_150 ⟨Nat.le_refl _, Nat.le_refl _⟩) hG hA (fun r jk H locs hp hG => ?_)
      subst hp
      replace hG : gS g A s H locs (gW g bb tx rw sb dy tn mo jk) := hG
      refine lv_if_eq (tgt := 160) hx hb dX4_isLying_153 (by decide) (fun c_153 => ?_) (fun c_153 => ?_)
      · replace hE := (if_pos c_153).symm.trans hE
        refine lv_iconst (v := 0) hx hb dX4_isLying_160 (by decide) ?_
        subst hQ
        exact g_zret hx hb hr hlocks hG (Or.inl rfl) ((jk) : (Nat → Nat → Int32)) rfl hE dX4_isLying_161
      replace hE := (if_neg c_153).symm.trans hE
      refine lv_iconst (v := 1) hx hb dX4_isLying_156 (by decide) ?_
      refine lv_goto (tgt := 161) hx hb dX4_isLying_157 (by decide) ?_
      subst hQ
      exact g_zret hx hb hr hlocks hG (Or.inr rfl) ((jk) : (Nat → Nat → Int32)) rfl hE dX4_isLying_161
    replace hE := (if_neg c_24_1).symm.trans hE
    by_cases c_24_2 : ((T.2 0) (Int32.toNatClampNeg p1)) = 3
    · replace hE := (if_pos c_24_2).symm.trans hE
      refine lv_tableIn (off := 63) (tgt := 87) hx hb dX4_isLying_24 (by rw [c_24_2]; decide) (by rw [c_24_2]; decide) (by rw [c_24_2]; decide) (by decide) ?_
      have i_24_2 : ((T.2 0) (Int32.toNatClampNeg p1)).toInt = 3 := congrArg Int32.toInt c_24_2
      refine lv_aload_n hx hb dX4_isLying_87 rfl (lv_at hl 0 rfl) ?_
      refine g_get hx hb hts hiX4 hown hG (gw_Town ho hT) rfl 9 (by decide) (index := 40) tw_fl_RX4_40 (v := .int (T.1 9)) rfl dX4_isLying_88 ?_
      refine lv_aload_n hx hb dX4_isLying_91 rfl (lv_at hl 0 rfl) ?_
      refine g_get hx hb hts hiX4 hown hG (gw_Town ho hT) rfl 1 (by decide) (index := 15) tw_fl_RX4_15 (v := .ref (gA g (40 + 6 * o + 2))) rfl dX4_isLying_92 ?_
      refine lv_iload_n hx hb dX4_isLying_95 rfl (lv_at hl 1 rfl) ?_
      refine g_ild hx hb hG (gw_Town_a1 ho hT) (vp_i (by clear hE; omega) (by clear hE; omega)) dX4_isLying_96 ?_
      refine lv_icmp_le (tgt := 125) hx hb dX4_isLying_97 (by decide) (fun c_97 => ?_) (fun c_97 => ?_)
      · replace hE := (if_pos c_97).symm.trans hE
        have i_97 : (T.1 9).toInt ≤ ((T.2 1) (Int32.toNatClampNeg p1)).toInt := i_le.mp c_97
        refine lv_iconst (v := 0) hx hb dX4_isLying_125 (by decide) ?_
        subst hQ
        exact g_zret hx hb hr hlocks hG (Or.inl rfl) ((jk) : (Nat → Nat → Int32)) rfl hE dX4_isLying_126
      replace hE := (if_neg c_97).symm.trans hE
      have i_97 : ((T.2 1) (Int32.toNatClampNeg p1)).toInt < (T.1 9).toInt := i_nle c_97
      refine lv_aload_n hx hb dX4_isLying_100 rfl (lv_at hl 0 rfl) ?_
      refine lv_iload_n hx hb dX4_isLying_101 rfl (lv_at hl 1 rfl) ?_
      refine g_ci (g_runV (n := 1) (rest := []) hx hb hml hown hts hG (c_X4_isLoversHour ho hT p1) tw_ml_RX4_79 tw_im_X4_isLoversHour tw_se_X4_isLoversHour tw_in_RX4 tw_cd_X4_isLoversHour (by decide +kernel) ⟨rfl, rfl, Nat.le_of_ble_eq_true rfl, Nat.le_of_ble_eq_true rfl⟩ (gw_Town ho hT) rfl rfl hl.1 rfl (Nat.le_of_ble_eq_true rfl) dX4_isLying_102 ⟨Nat.le_refl _, Nat.le_refl _⟩) hG hA (fun r _ H locs hp hG => ?_)
      subst hp
      replace hG : gS g A s H locs (gW g bb tx rw sb dy tn mo jk) := hG
      refine lv_if_eq (tgt := 125) hx hb dX4_isLying_105 (by decide) (fun c_105 => ?_) (fun c_105 => ?_)
      · replace hE := (if_pos c_105).symm.trans hE
        refine lv_iconst (v := 0) hx hb dX4_isLying_125 (by decide) ?_
        subst hQ
        exact g_zret hx hb hr hlocks hG (Or.inl rfl) ((jk) : (Nat → Nat → Int32)) rfl hE dX4_isLying_126
      replace hE := (if_neg c_105).symm.trans hE
      refine lv_aload_n hx hb dX4_isLying_108 rfl (lv_at hl 0 rfl) ?_
      refine g_get hx hb hts hiX4 hown hG (gw_Town ho hT) rfl 11 (by decide) (index := 46) tw_fl_RX4_46 (v := .ref (gA g (3 + 4 * ((T.1 11).toNatClampNeg)))) rfl dX4_isLying_109 ?_
      refine lv_iconst (v := 0) hx hb dX4_isLying_112 (by decide) ?_
      refine lv_aload_n hx hb dX4_isLying_113 rfl (lv_at hl 0 rfl) ?_
      refine lv_iload_n hx hb dX4_isLying_114 rfl (lv_at hl 1 rfl) ?_
      refine g_ci (g_runV (n := 3) (rest := []) hx hb hml hown hts hG (c_X3_says hv.2.1 rfl ho hT 0 p1 hv.2.2) tw_ml_RX4_82 tw_im_X3_says tw_se_X3_says tw_in_RX3 tw_cd_X3_says (by decide +kernel) ⟨rfl, rfl, Nat.le_of_ble_eq_true rfl, Nat.le_of_ble_eq_true rfl⟩ (gw_Text hv.2.1 rfl) rfl rfl hl.1 rfl (Nat.le_of_ble_eq_true rfl) dX4_isLying_115 ⟨Nat.le_refl _, Nat.le_refl _⟩) hG hA (fun r jk H locs hp hG => ?_)
      subst hp
      replace hG : gS g A s H locs (gW g bb tx rw sb dy tn mo jk) := hG
      refine lv_if_eq (tgt := 125) hx hb dX4_isLying_118 (by decide) (fun c_118 => ?_) (fun c_118 => ?_)
      · replace hE := (if_pos c_118).symm.trans hE
        refine lv_iconst (v := 0) hx hb dX4_isLying_125 (by decide) ?_
        subst hQ
        exact g_zret hx hb hr hlocks hG (Or.inl rfl) ((jk) : (Nat → Nat → Int32)) rfl hE dX4_isLying_126
      replace hE := (if_neg c_118).symm.trans hE
      refine lv_iconst (v := 1) hx hb dX4_isLying_121 (by decide) ?_
      refine lv_goto (tgt := 126) hx hb dX4_isLying_122 (by decide) ?_
      subst hQ
      exact g_zret hx hb hr hlocks hG (Or.inr rfl) ((jk) : (Nat → Nat → Int32)) rfl hE dX4_isLying_126
    replace hE := (if_neg c_24_2).symm.trans hE
    by_cases c_24_3 : ((T.2 0) (Int32.toNatClampNeg p1)) = 4
    · replace hE := (if_pos c_24_3).symm.trans hE
      refine lv_tableIn (off := 103) (tgt := 127) hx hb dX4_isLying_24 (by rw [c_24_3]; decide) (by rw [c_24_3]; decide) (by rw [c_24_3]; decide) (by decide) ?_
      have i_24_3 : ((T.2 0) (Int32.toNatClampNeg p1)).toInt = 4 := congrArg Int32.toInt c_24_3
      refine lv_aload_n hx hb dX4_isLying_127 rfl (lv_at hl 0 rfl) ?_
      refine lv_iload_n hx hb dX4_isLying_128 rfl (lv_at hl 1 rfl) ?_
      refine g_ci (g_runV (n := 1) (rest := []) hx hb hml hown hts hG (c_X4_isOwnHour ho hT p1) tw_ml_RX4_76 tw_im_X4_isOwnHour tw_se_X4_isOwnHour tw_in_RX4 tw_cd_X4_isOwnHour (by decide +kernel) ⟨rfl, rfl, Nat.le_of_ble_eq_true rfl, Nat.le_of_ble_eq_true rfl⟩ (gw_Town ho hT) rfl rfl hl.1 rfl (Nat.le_of_ble_eq_true rfl) dX4_isLying_129 ⟨Nat.le_refl _, Nat.le_refl _⟩) hG hA (fun r _ H locs hp hG => ?_)
      subst hp
      replace hG : gS g A s H locs (gW g bb tx rw sb dy tn mo jk) := hG
      subst hQ
      exact g_zret hx hb hr hlocks hG (F_X4_isOwnHour_01 _ _) ((jk) : (Nat → Nat → Int32)) rfl hE dX4_isLying_132
    replace hE := (if_neg c_24_3).symm.trans hE
    by_cases c_24_4 : ((T.2 0) (Int32.toNatClampNeg p1)) = 5
    · replace hE := (if_pos c_24_4).symm.trans hE
      refine lv_tableIn (off := 109) (tgt := 133) hx hb dX4_isLying_24 (by rw [c_24_4]; decide) (by rw [c_24_4]; decide) (by rw [c_24_4]; decide) (by decide) ?_
      have i_24_4 : ((T.2 0) (Int32.toNatClampNeg p1)).toInt = 5 := congrArg Int32.toInt c_24_4
      refine lv_iconst (v := 1) hx hb dX4_isLying_133 (by decide) ?_
      subst hQ
      exact g_zret hx hb hr hlocks hG (Or.inr rfl) ((jk) : (Nat → Nat → Int32)) rfl hE dX4_isLying_134
    replace hE := (if_neg c_24_4).symm.trans hE
    refine lv_tableOut (tgt := 135) hx hb dX4_isLying_24 (by have k0 := lv_neT c_24_0 (a := 1) (by decide); have k1 := lv_neT c_24_1 (a := 2) (by decide); have k2 := lv_neT c_24_2 (a := 3) (by decide); have k3 := lv_neT c_24_3 (a := 4) (by decide); have k4 := lv_neT c_24_4 (a := 5) (by decide); omega) (by decide) ?_
    refine lv_aload_n hx hb dX4_isLying_135 rfl (lv_at hl 0 rfl) ?_
    refine lv_iload_n hx hb dX4_isLying_136 rfl (lv_at hl 1 rfl) ?_
    refine g_ci (g_runV (n := 1) (rest := []) hx hb hml hown hts hG (c_X4_isOwnHour ho hT p1) tw_ml_RX4_76 tw_im_X4_isOwnHour tw_se_X4_isOwnHour tw_in_RX4 tw_cd_X4_isOwnHour (by decide +kernel) ⟨rfl, rfl, Nat.le_of_ble_eq_true rfl, Nat.le_of_ble_eq_true rfl⟩ (gw_Town ho hT) rfl rfl hl.1 rfl (Nat.le_of_ble_eq_true rfl) dX4_isLying_137 ⟨Nat.le_refl _, Nat.le_refl _⟩) hG hA (fun r _ H locs hp hG => ?_)
    subst hp
    replace hG : gS g A s H locs (gW g bb tx rw sb dy tn mo jk) := hG
    refine lv_if_eq (tgt := 160) hx hb dX4_isLying_140 (by decide) (fun c_140 => ?_) (fun c_140 => ?_)
    · replace hE := (if_pos c_140).symm.trans hE
      refine lv_iconst (v := 0) hx hb dX4_isLying_160 (by decide) ?_
      subst hQ
      exact g_zret hx hb hr hlocks hG (Or.inl rfl) ((jk) : (Nat → Nat → Int32)) rfl hE dX4_isLying_161
    replace hE := (if_neg c_140).symm.trans hE
    refine lv_aload_n hx hb dX4_isLying_143 rfl (lv_at hl 0 rfl) ?_
    refine g_get hx hb hts hiX4 hown hG (gw_Town ho hT) rfl 11 (by decide) (index := 46) tw_fl_RX4_46 (v := .ref (gA g (3 + 4 * ((T.1 11).toNatClampNeg)))) rfl dX4_isLying_144 ?_
    refine lv_iconst (v := 0) hx hb dX4_isLying_147 (by decide) ?_
    refine lv_aload_n hx hb dX4_isLying_148 rfl (lv_at hl 0 rfl) ?_
    refine lv_iload_n hx hb dX4_isLying_149 rfl (lv_at hl 1 rfl) ?_
    refine g_ci (g_runV (n := 3) (rest := []) hx hb hml hown hts hG (c_X3_says hv.2.1 rfl ho hT 0 p1 hv.2.2) tw_ml_RX4_82 tw_im_X3_says tw_se_X3_says tw_in_RX3 tw_cd_X3_says (by decide +kernel) ⟨rfl, rfl, Nat.le_of_ble_eq_true rfl, Nat.le_of_ble_eq_true rfl⟩ (gw_Text hv.2.1 rfl) rfl rfl hl.1 rfl (Nat.le_of_ble_eq_true rfl) dX4_isLying_150 ⟨Nat.le_refl _, Nat.le_refl _⟩) hG hA (fun r jk H locs hp hG => ?_)
    subst hp
    replace hG : gS g A s H locs (gW g bb tx rw sb dy tn mo jk) := hG
    refine lv_if_eq (tgt := 160) hx hb dX4_isLying_153 (by decide) (fun c_153 => ?_) (fun c_153 => ?_)
    · replace hE := (if_pos c_153).symm.trans hE
      refine lv_iconst (v := 0) hx hb dX4_isLying_160 (by decide) ?_
      subst hQ
      exact g_zret hx hb hr hlocks hG (Or.inl rfl) ((jk) : (Nat → Nat → Int32)) rfl hE dX4_isLying_161
    replace hE := (if_neg c_153).symm.trans hE
    refine lv_iconst (v := 1) hx hb dX4_isLying_156 (by decide) ?_
    refine lv_goto (tgt := 161) hx hb dX4_isLying_157 (by decide) ?_
    subst hQ
    exact g_zret hx hb hr hlocks hG (Or.inr rfl) ((jk) : (Nat → Nat → Int32)) rfl hE dX4_isLying_161
  replace hE := (if_neg c_13).symm.trans hE
  refine lv_iconst (v := 0) hx hb dX4_isLying_16 (by decide) ?_
  subst hQ
  exact g_zret hx hb hr hlocks hG (Or.inl rfl) ((jk) : (Nat → Nat → Int32)) rfl hE dX4_isLying_17
def F_X4_costOf (tx : Nat → Ob) (T : Ob) (p1 : Int32) : Int32 :=
  (if (F_X4_has T p1) = 0 then 0 else (if ((T.2 0) (Int32.toNatClampNeg p1)) = 1 then ((F_X3_says (tx ((T.1 11).toNatClampNeg)) T 1 p1) / 2) else (if ((T.2 0) (Int32.toNatClampNeg p1)) = 2 then (if (T.1 9) < 5 then (F_X3_says (tx ((T.1 11).toNatClampNeg)) T 1 p1) else 0) else (if ((T.2 0) (Int32.toNatClampNeg p1)) = 3 then ((F_X3_says (tx ((T.1 11).toNatClampNeg)) T 1 p1) / 2) else (if ((T.2 0) (Int32.toNatClampNeg p1)) = 4 then (if (T.1 9) < 5 then (F_X3_says (tx ((T.1 11).toNatClampNeg)) T 1 p1) else 0) else (F_X3_says (tx ((T.1 11).toNatClampNeg)) T 1 p1))))))
set_option maxHeartbeats 4000000 in
set_option maxRecDepth 100000 in
theorem c_X4_costOf {l : Launch} {g : GG} {sz : Nat} {bb : Ob} {tx rw : Nat → Ob} {sb dy : Ob} {tn : Nat → Ob} {mo : Ob} {jk : Nat → Nat → Int32} {o : Nat} (ho : o < 3) {T : Ob} (hT : tn o = T) (p1 : Int32) (hv : tEv tx T) : Met l yX4_costOf (Cond.code yX4_costOf cX4_costOf 2 (some .int) :: TT) (rmL 5) (va_Pc [.ref (gA g (40 + 6 * o)), .int p1] (gB g sz (gW g bb tx rw sb dy tn mo jk))) (va_Qi (fun r (_ : (Nat → Nat → Int32)) => r = (F_X4_costOf tx T p1)) (fun u t => gC g (va_A (gW g bb tx rw sb dy tn mo jk) sz) (gW g bb tx rw sb dy tn mo u) t) (va_A (gW g bb tx rw sb dy tn mo jk) sz)) 0 0 (va_A (gW g bb tx rw sb dy tn mo jk) sz) := by
  generalize hE : F_X4_costOf tx T p1 = EE
  refine g_of (Qf := fun A => (va_Qi (fun r (_ : (Nat → Nat → Int32)) => r = EE) (fun u t => gC g A (gW g bb tx rw sb dy tn mo u) t) A)) (cc := cX4_costOf) (maxL := 2) (ret := (some .int)) (by decide) (Nat.le_of_ble_eq_true rfl) ?_
  intro p e s m below meth c A ls hx hb hml hr hlocks hts hown hA hG hl
  replace hown : s.vm.findClass RX4 = some m.cls := hown
  replace hl : lv_has ls 2 [(0, .ref (gA g (40 + 6 * o))), (1, .int p1)] := hl
  show W p l e (rmL 5) s m [.ref (gA g (40 + 6 * o)), .int p1].toArray below meth c s.heap [] 0 0 (MQ below (va_Qi (fun r (_ : (Nat → Nat → Int32)) => r = EE) (fun u t => gC g A (gW g bb tx rw sb dy tn mo u) t) A) [.ref (gA g (40 + 6 * o)), .int p1].toArray s 0 0 A) (F0 m 0 ls [])
  generalize hQ : MQ below (va_Qi (fun r (_ : (Nat → Nat → Int32)) => r = EE) (fun u t => gC g A (gW g bb tx rw sb dy tn mo u) t) A) [.ref (gA g (40 + 6 * o)), .int p1].toArray s 0 0 A = Q
  have hpo := hv.1
  unfold F_X4_costOf at hE
  refine lv_aload_n hx hb dX4_costOf_0 rfl (lv_at hl 0 rfl) ?_
  refine lv_iload_n hx hb dX4_costOf_1 rfl (lv_at hl 1 rfl) ?_
  refine g_ci (g_runV (n := 1) (rest := []) hx hb hml hown hts hG (c_X4_has ho hT p1) tw_ml_RX4_59 tw_im_X4_has tw_se_X4_has tw_in_RX4 tw_cd_X4_has (by decide +kernel) ⟨rfl, rfl, Nat.le_of_ble_eq_true rfl, Nat.le_of_ble_eq_true rfl⟩ (gw_Town ho hT) rfl rfl hl.1 rfl (Nat.le_of_ble_eq_true rfl) dX4_costOf_2 ⟨Nat.le_refl _, Nat.le_refl _⟩) hG hA (fun r _ H locs hp hG => ?_)
  subst hp
  replace hG : gS g A s H locs (gW g bb tx rw sb dy tn mo jk) := hG
  refine lv_if_ne (tgt := 10) hx hb dX4_costOf_5 (by decide) (fun c_5 => ?_) (fun c_5 => ?_)
  · replace hE := (if_neg c_5).symm.trans hE
    have i_5 := has_f c_5
    refine lv_aload_n hx hb dX4_costOf_10 rfl (lv_at hl 0 rfl) ?_
    refine g_get hx hb hts hiX4 hown hG (gw_Town ho hT) rfl 0 (by decide) (index := 9) tw_fl_RX4_9 (v := .ref (gA g (40 + 6 * o + 1))) rfl dX4_costOf_11 ?_
    refine lv_iload_n hx hb dX4_costOf_14 rfl (lv_at hl 1 rfl) ?_
    refine g_ild hx hb hG (gw_Town_a0 ho hT) (vp_i (by clear hE; omega) (by clear hE; omega)) dX4_costOf_15 ?_
    by_cases c_16_0 : ((T.2 0) (Int32.toNatClampNeg p1)) = 1
    · replace hE := (if_pos c_16_0).symm.trans hE
      refine lv_tableIn (off := 32) (tgt := 48) hx hb dX4_costOf_16 (by rw [c_16_0]; decide) (by rw [c_16_0]; decide) (by rw [c_16_0]; decide) (by decide) ?_
      have i_16_0 : ((T.2 0) (Int32.toNatClampNeg p1)).toInt = 1 := congrArg Int32.toInt c_16_0
      refine lv_aload_n hx hb dX4_costOf_48 rfl (lv_at hl 0 rfl) ?_
      refine g_get hx hb hts hiX4 hown hG (gw_Town ho hT) rfl 11 (by decide) (index := 46) tw_fl_RX4_46 (v := .ref (gA g (3 + 4 * ((T.1 11).toNatClampNeg)))) rfl dX4_costOf_49 ?_
      refine lv_iconst (v := 1) hx hb dX4_costOf_52 (by decide) ?_
      refine lv_aload_n hx hb dX4_costOf_53 rfl (lv_at hl 0 rfl) ?_
      refine lv_iload_n hx hb dX4_costOf_54 rfl (lv_at hl 1 rfl) ?_
      refine g_ci (g_runV (n := 3) (rest := []) hx hb hml hown hts hG (c_X3_says hv.2.1 rfl ho hT 1 p1 hv.2.2) tw_ml_RX4_82 tw_im_X3_says tw_se_X3_says tw_in_RX3 tw_cd_X3_says (by decide +kernel) ⟨rfl, rfl, Nat.le_of_ble_eq_true rfl, Nat.le_of_ble_eq_true rfl⟩ (gw_Text hv.2.1 rfl) rfl rfl hl.1 rfl (Nat.le_of_ble_eq_true rfl) dX4_costOf_55 ⟨Nat.le_refl _, Nat.le_refl _⟩) hG hA (fun r jk H locs hp hG => ?_)
      subst hp
      replace hG : gS g A s H locs (gW g bb tx rw sb dy tn mo jk) := hG
      refine lv_iconst (v := 2) hx hb dX4_costOf_58 (by decide) ?_
      refine lv_idiv hx hb dX4_costOf_59 (by decide) ?_
      subst hQ
      exact g_iret hx hb hr hlocks hG ((jk) : (Nat → Nat → Int32)) rfl hE dX4_costOf_60
    replace hE := (if_neg c_16_0).symm.trans hE
    by_cases c_16_1 : ((T.2 0) (Int32.toNatClampNeg p1)) = 2
    · replace hE := (if_pos c_16_1).symm.trans hE
      refine lv_tableIn (off := 45) (tgt := 61) hx hb dX4_costOf_16 (by rw [c_16_1]; decide) (by rw [c_16_1]; decide) (by rw [c_16_1]; decide) (by decide) ?_
      have i_16_1 : ((T.2 0) (Int32.toNatClampNeg p1)).toInt = 2 := congrArg Int32.toInt c_16_1
      refine lv_aload_n hx hb dX4_costOf_61 rfl (lv_at hl 0 rfl) ?_
      refine g_get hx hb hts hiX4 hown hG (gw_Town ho hT) rfl 9 (by decide) (index := 40) tw_fl_RX4_40 (v := .int (T.1 9)) rfl dX4_costOf_62 ?_
      refine lv_iconst (v := 5) hx hb dX4_costOf_65 (by decide) ?_
      refine lv_icmp_lt (tgt := 73) hx hb dX4_costOf_66 (by decide) (fun c_66 => ?_) (fun c_66 => ?_)
      · replace hE := (if_pos c_66).symm.trans hE
        have i_66 : (T.1 9).toInt < 5 := i_lt.mp c_66
        refine lv_aload_n hx hb dX4_costOf_73 rfl (lv_at hl 0 rfl) ?_
        refine g_get hx hb hts hiX4 hown hG (gw_Town ho hT) rfl 11 (by decide) (index := 46) tw_fl_RX4_46 (v := .ref (gA g (3 + 4 * ((T.1 11).toNatClampNeg)))) rfl dX4_costOf_74 ?_
        refine lv_iconst (v := 1) hx hb dX4_costOf_77 (by decide) ?_
        refine lv_aload_n hx hb dX4_costOf_78 rfl (lv_at hl 0 rfl) ?_
        refine lv_iload_n hx hb dX4_costOf_79 rfl (lv_at hl 1 rfl) ?_
        refine g_ci (g_runV (n := 3) (rest := []) hx hb hml hown hts hG (c_X3_says hv.2.1 rfl ho hT 1 p1 hv.2.2) tw_ml_RX4_82 tw_im_X3_says tw_se_X3_says tw_in_RX3 tw_cd_X3_says (by decide +kernel) ⟨rfl, rfl, Nat.le_of_ble_eq_true rfl, Nat.le_of_ble_eq_true rfl⟩ (gw_Text hv.2.1 rfl) rfl rfl hl.1 rfl (Nat.le_of_ble_eq_true rfl) dX4_costOf_80 ⟨Nat.le_refl _, Nat.le_refl _⟩) hG hA (fun r jk H locs hp hG => ?_)
        subst hp
        replace hG : gS g A s H locs (gW g bb tx rw sb dy tn mo jk) := hG
        subst hQ
        exact g_iret hx hb hr hlocks hG ((jk) : (Nat → Nat → Int32)) rfl hE dX4_costOf_83
      replace hE := (if_neg c_66).symm.trans hE
      have i_66 : 5 ≤ (T.1 9).toInt := i_nlt c_66
      refine lv_iconst (v := 0) hx hb dX4_costOf_69 (by decide) ?_
      refine lv_goto (tgt := 83) hx hb dX4_costOf_70 (by decide) ?_
      subst hQ
      exact g_iret hx hb hr hlocks hG ((jk) : (Nat → Nat → Int32)) rfl hE dX4_costOf_83
    replace hE := (if_neg c_16_1).symm.trans hE
    by_cases c_16_2 : ((T.2 0) (Int32.toNatClampNeg p1)) = 3
    · replace hE := (if_pos c_16_2).symm.trans hE
      refine lv_tableIn (off := 32) (tgt := 48) hx hb dX4_costOf_16 (by rw [c_16_2]; decide) (by rw [c_16_2]; decide) (by rw [c_16_2]; decide) (by decide) ?_
      have i_16_2 : ((T.2 0) (Int32.toNatClampNeg p1)).toInt = 3 := congrArg Int32.toInt c_16_2
      refine lv_aload_n hx hb dX4_costOf_48 rfl (lv_at hl 0 rfl) ?_
      refine g_get hx hb hts hiX4 hown hG (gw_Town ho hT) rfl 11 (by decide) (index := 46) tw_fl_RX4_46 (v := .ref (gA g (3 + 4 * ((T.1 11).toNatClampNeg)))) rfl dX4_costOf_49 ?_
      refine lv_iconst (v := 1) hx hb dX4_costOf_52 (by decide) ?_
      refine lv_aload_n hx hb dX4_costOf_53 rfl (lv_at hl 0 rfl) ?_
      refine lv_iload_n hx hb dX4_costOf_54 rfl (lv_at hl 1 rfl) ?_
      refine g_ci (g_runV (n := 3) (rest := []) hx hb hml hown hts hG (c_X3_says hv.2.1 rfl ho hT 1 p1 hv.2.2) tw_ml_RX4_82 tw_im_X3_says tw_se_X3_says tw_in_RX3 tw_cd_X3_says (by decide +kernel) ⟨rfl, rfl, Nat.le_of_ble_eq_true rfl, Nat.le_of_ble_eq_true rfl⟩ (gw_Text hv.2.1 rfl) rfl rfl hl.1 rfl (Nat.le_of_ble_eq_true rfl) dX4_costOf_55 ⟨Nat.le_refl _, Nat.le_refl _⟩) hG hA (fun r jk H locs hp hG => ?_)
      subst hp
      replace hG : gS g A s H locs (gW g bb tx rw sb dy tn mo jk) := hG
      refine lv_iconst (v := 2) hx hb dX4_costOf_58 (by decide) ?_
      refine lv_idiv hx hb dX4_costOf_59 (by decide) ?_
      subst hQ
      exact g_iret hx hb hr hlocks hG ((jk) : (Nat → Nat → Int32)) rfl hE dX4_costOf_60
    replace hE := (if_neg c_16_2).symm.trans hE
    by_cases c_16_3 : ((T.2 0) (Int32.toNatClampNeg p1)) = 4
    · replace hE := (if_pos c_16_3).symm.trans hE
      refine lv_tableIn (off := 45) (tgt := 61) hx hb dX4_costOf_16 (by rw [c_16_3]; decide) (by rw [c_16_3]; decide) (by rw [c_16_3]; decide) (by decide) ?_
      have i_16_3 : ((T.2 0) (Int32.toNatClampNeg p1)).toInt = 4 := congrArg Int32.toInt c_16_3
      refine lv_aload_n hx hb dX4_costOf_61 rfl (lv_at hl 0 rfl) ?_
      refine g_get hx hb hts hiX4 hown hG (gw_Town ho hT) rfl 9 (by decide) (index := 40) tw_fl_RX4_40 (v := .int (T.1 9)) rfl dX4_costOf_62 ?_
      refine lv_iconst (v := 5) hx hb dX4_costOf_65 (by decide) ?_
      refine lv_icmp_lt (tgt := 73) hx hb dX4_costOf_66 (by decide) (fun c_66 => ?_) (fun c_66 => ?_)
      · replace hE := (if_pos c_66).symm.trans hE
        have i_66 : (T.1 9).toInt < 5 := i_lt.mp c_66
        refine lv_aload_n hx hb dX4_costOf_73 rfl (lv_at hl 0 rfl) ?_
        refine g_get hx hb hts hiX4 hown hG (gw_Town ho hT) rfl 11 (by decide) (index := 46) tw_fl_RX4_46 (v := .ref (gA g (3 + 4 * ((T.1 11).toNatClampNeg)))) rfl dX4_costOf_74 ?_
        refine lv_iconst (v := 1) hx hb dX4_costOf_77 (by decide) ?_
        refine lv_aload_n hx hb dX4_costOf_78 rfl (lv_at hl 0 rfl) ?_
        refine lv_iload_n hx hb dX4_costOf_79 rfl (lv_at hl 1 rfl) ?_
        refine g_ci (g_runV (n := 3) (rest := []) hx hb hml hown hts hG (c_X3_says hv.2.1 rfl ho hT 1 p1 hv.2.2) tw_ml_RX4_82 tw_im_X3_says tw_se_X3_says tw_in_RX3 tw_cd_X3_says (by decide +kernel) ⟨rfl, rfl, Nat.le_of_ble_eq_true rfl, Nat.le_of_ble_eq_true rfl⟩ (gw_Text hv.2.1 rfl) rfl rfl hl.1 rfl (Nat.le_of_ble_eq_true rfl) dX4_costOf_80 ⟨Nat.le_refl _, Nat.le_refl _⟩) hG hA (fun r jk H locs hp hG => ?_)
        subst hp
        replace hG : gS g A s H locs (gW g bb tx rw sb dy tn mo jk) := hG
        subst hQ
        exact g_iret hx hb hr hlocks hG ((jk) : (Nat → Nat → Int32)) rfl hE dX4_costOf_83
      replace hE := (if_neg c_66).symm.trans hE
      have i_66 : 5 ≤ (T.1 9).toInt := i_nlt c_66
      refine lv_iconst (v := 0) hx hb dX4_costOf_69 (by decide) ?_
      refine lv_goto (tgt := 83) hx hb dX4_costOf_70 (by decide) ?_
      subst hQ
      exact g_iret hx hb hr hlocks hG ((jk) : (Nat → Nat → Int32)) rfl hE dX4_costOf_83
    replace hE := (if_neg c_16_3).symm.trans hE
    refine lv_tableOut (tgt := 84) hx hb dX4_costOf_16 (by have k0 := lv_neT c_16_0 (a := 1) (by decide); have k1 := lv_neT c_16_1 (a := 2) (by decide); have k2 := lv_neT c_16_2 (a := 3) (by decide); have k3 := lv_neT c_16_3 (a := 4) (by decide); omega) (by decide) ?_
    refine lv_aload_n hx hb dX4_costOf_84 rfl (lv_at hl 0 rfl) ?_
    refine g_get hx hb hts hiX4 hown hG (gw_Town ho hT) rfl 11 (by decide) (index := 46) tw_fl_RX4_46 (v := .ref (gA g (3 + 4 * ((T.1 11).toNatClampNeg)))) rfl dX4_costOf_85 ?_
    refine lv_iconst (v := 1) hx hb dX4_costOf_88 (by decide) ?_
    refine lv_aload_n hx hb dX4_costOf_89 rfl (lv_at hl 0 rfl) ?_
    refine lv_iload_n hx hb dX4_costOf_90 rfl (lv_at hl 1 rfl) ?_
    refine g_ci (g_runV (n := 3) (rest := []) hx hb hml hown hts hG (c_X3_says hv.2.1 rfl ho hT 1 p1 hv.2.2) tw_ml_RX4_82 tw_im_X3_says tw_se_X3_says tw_in_RX3 tw_cd_X3_says (by decide +kernel) ⟨rfl, rfl, Nat.le_of_ble_eq_true rfl, Nat.le_of_ble_eq_true rfl⟩ (gw_Text hv.2.1 rfl) rfl rfl hl.1 rfl (Nat.le_of_ble_eq_true rfl) dX4_costOf_91 ⟨Nat.le_refl _, Nat.le_refl _⟩) hG hA (fun r jk H locs hp hG => ?_)
    subst hp
    replace hG : gS g A s H locs (gW g bb tx rw sb dy tn mo jk) := hG
    subst hQ
    exact g_iret hx hb hr hlocks hG ((jk) : (Nat → Nat → Int32)) rfl hE dX4_costOf_94
  replace hE := (if_pos c_5).symm.trans hE
  refine lv_iconst (v := 0) hx hb dX4_costOf_8 (by decide) ?_
  subst hQ
  exact g_iret hx hb hr hlocks hG ((jk) : (Nat → Nat → Int32)) rfl hE dX4_costOf_9
def F_X4_strokesOf (tx : Nat → Ob) (T : Ob) (p1 : Int32) : Int32 :=
  (if (F_X4_has T p1) = 0 then 0 else (if ((T.2 0) (Int32.toNatClampNeg p1)) = 2 then ((F_X3_says (tx ((T.1 11).toNatClampNeg)) T 2 p1) + ((T.2 1) (Int32.toNatClampNeg p1))) else (if ((T.2 0) (Int32.toNatClampNeg p1)) = 3 then (2 * (F_X3_says (tx ((T.1 11).toNatClampNeg)) T 2 p1)) else (if ((T.2 0) (Int32.toNatClampNeg p1)) = 4 then (if (((T.1 7) - (T.1 7) / 24 * 24) - ((T.1 7) - (T.1 7) / 24 * 24) / 3 * 3) = 0 then 0 else ((F_X3_says (tx ((T.1 11).toNatClampNeg)) T 2 p1) + ((T.2 1) (Int32.toNatClampNeg p1)))) else (if ((T.2 0) (Int32.toNatClampNeg p1)) = 5 then 0 else (F_X3_says (tx ((T.1 11).toNatClampNeg)) T 2 p1))))))
set_option maxHeartbeats 4000000 in
set_option maxRecDepth 100000 in
theorem c_X4_strokesOf {l : Launch} {g : GG} {sz : Nat} {bb : Ob} {tx rw : Nat → Ob} {sb dy : Ob} {tn : Nat → Ob} {mo : Ob} {jk : Nat → Nat → Int32} {o : Nat} (ho : o < 3) {T : Ob} (hT : tn o = T) (p1 : Int32) (hv : tEv tx T) : Met l yX4_strokesOf (Cond.code yX4_strokesOf cX4_strokesOf 2 (some .int) :: TT) (rmL 5) (va_Pc [.ref (gA g (40 + 6 * o)), .int p1] (gB g sz (gW g bb tx rw sb dy tn mo jk))) (va_Qi (fun r (_ : (Nat → Nat → Int32)) => r = (F_X4_strokesOf tx T p1)) (fun u t => gC g (va_A (gW g bb tx rw sb dy tn mo jk) sz) (gW g bb tx rw sb dy tn mo u) t) (va_A (gW g bb tx rw sb dy tn mo jk) sz)) 0 0 (va_A (gW g bb tx rw sb dy tn mo jk) sz) := by
  generalize hE : F_X4_strokesOf tx T p1 = EE
  refine g_of (Qf := fun A => (va_Qi (fun r (_ : (Nat → Nat → Int32)) => r = EE) (fun u t => gC g A (gW g bb tx rw sb dy tn mo u) t) A)) (cc := cX4_strokesOf) (maxL := 2) (ret := (some .int)) (by decide) (Nat.le_of_ble_eq_true rfl) ?_
  intro p e s m below meth c A ls hx hb hml hr hlocks hts hown hA hG hl
  replace hown : s.vm.findClass RX4 = some m.cls := hown
  replace hl : lv_has ls 2 [(0, .ref (gA g (40 + 6 * o))), (1, .int p1)] := hl
  show W p l e (rmL 5) s m [.ref (gA g (40 + 6 * o)), .int p1].toArray below meth c s.heap [] 0 0 (MQ below (va_Qi (fun r (_ : (Nat → Nat → Int32)) => r = EE) (fun u t => gC g A (gW g bb tx rw sb dy tn mo u) t) A) [.ref (gA g (40 + 6 * o)), .int p1].toArray s 0 0 A) (F0 m 0 ls [])
  generalize hQ : MQ below (va_Qi (fun r (_ : (Nat → Nat → Int32)) => r = EE) (fun u t => gC g A (gW g bb tx rw sb dy tn mo u) t) A) [.ref (gA g (40 + 6 * o)), .int p1].toArray s 0 0 A = Q
  have hpo := hv.1
  unfold F_X4_strokesOf at hE
  refine lv_aload_n hx hb dX4_strokesOf_0 rfl (lv_at hl 0 rfl) ?_
  refine lv_iload_n hx hb dX4_strokesOf_1 rfl (lv_at hl 1 rfl) ?_
  refine g_ci (g_runV (n := 1) (rest := []) hx hb hml hown hts hG (c_X4_has ho hT p1) tw_ml_RX4_59 tw_im_X4_has tw_se_X4_has tw_in_RX4 tw_cd_X4_has (by decide +kernel) ⟨rfl, rfl, Nat.le_of_ble_eq_true rfl, Nat.le_of_ble_eq_true rfl⟩ (gw_Town ho hT) rfl rfl hl.1 rfl (Nat.le_of_ble_eq_true rfl) dX4_strokesOf_2 ⟨Nat.le_refl _, Nat.le_refl _⟩) hG hA (fun r _ H locs hp hG => ?_)
  subst hp
  replace hG : gS g A s H locs (gW g bb tx rw sb dy tn mo jk) := hG
  refine lv_if_ne (tgt := 10) hx hb dX4_strokesOf_5 (by decide) (fun c_5 => ?_) (fun c_5 => ?_)
  · replace hE := (if_neg c_5).symm.trans hE
    have i_5 := has_f c_5
    refine lv_aload_n hx hb dX4_strokesOf_10 rfl (lv_at hl 0 rfl) ?_
    refine g_get hx hb hts hiX4 hown hG (gw_Town ho hT) rfl 0 (by decide) (index := 9) tw_fl_RX4_9 (v := .ref (gA g (40 + 6 * o + 1))) rfl dX4_strokesOf_11 ?_
    refine lv_iload_n hx hb dX4_strokesOf_14 rfl (lv_at hl 1 rfl) ?_
    refine g_ild hx hb hG (gw_Town_a0 ho hT) (vp_i (by clear hE; omega) (by clear hE; omega)) dX4_strokesOf_15 ?_
    by_cases c_16_0 : ((T.2 0) (Int32.toNatClampNeg p1)) = 2
    · replace hE := (if_pos c_16_0).symm.trans hE
      refine lv_tableIn (off := 32) (tgt := 48) hx hb dX4_strokesOf_16 (by rw [c_16_0]; decide) (by rw [c_16_0]; decide) (by rw [c_16_0]; decide) (by decide) ?_
      have i_16_0 : ((T.2 0) (Int32.toNatClampNeg p1)).toInt = 2 := congrArg Int32.toInt c_16_0
      refine lv_aload_n hx hb dX4_strokesOf_48 rfl (lv_at hl 0 rfl) ?_
      refine g_get hx hb hts hiX4 hown hG (gw_Town ho hT) rfl 11 (by decide) (index := 46) tw_fl_RX4_46 (v := .ref (gA g (3 + 4 * ((T.1 11).toNatClampNeg)))) rfl dX4_strokesOf_49 ?_
      refine lv_iconst (v := 2) hx hb dX4_strokesOf_52 (by decide) ?_
      refine lv_aload_n hx hb dX4_strokesOf_53 rfl (lv_at hl 0 rfl) ?_
      refine lv_iload_n hx hb dX4_strokesOf_54 rfl (lv_at hl 1 rfl) ?_
      refine g_ci (g_runV (n := 3) (rest := []) hx hb hml hown hts hG (c_X3_says hv.2.1 rfl ho hT 2 p1 hv.2.2) tw_ml_RX4_82 tw_im_X3_says tw_se_X3_says tw_in_RX3 tw_cd_X3_says (by decide +kernel) ⟨rfl, rfl, Nat.le_of_ble_eq_true rfl, Nat.le_of_ble_eq_true rfl⟩ (gw_Text hv.2.1 rfl) rfl rfl hl.1 rfl (Nat.le_of_ble_eq_true rfl) dX4_strokesOf_55 ⟨Nat.le_refl _, Nat.le_refl _⟩) hG hA (fun r jk H locs hp hG => ?_)
      subst hp
      replace hG : gS g A s H locs (gW g bb tx rw sb dy tn mo jk) := hG
      refine lv_aload_n hx hb dX4_strokesOf_58 rfl (lv_at hl 0 rfl) ?_
      refine g_get hx hb hts hiX4 hown hG (gw_Town ho hT) rfl 1 (by decide) (index := 15) tw_fl_RX4_15 (v := .ref (gA g (40 + 6 * o + 2))) rfl dX4_strokesOf_59 ?_
      refine lv_iload_n hx hb dX4_strokesOf_62 rfl (lv_at hl 1 rfl) ?_
      refine g_ild hx hb hG (gw_Town_a1 ho hT) (vp_i (by clear hE; omega) (by clear hE; omega)) dX4_strokesOf_63 ?_
      refine lv_iadd hx hb dX4_strokesOf_64 ?_
      subst hQ
      exact g_iret hx hb hr hlocks hG ((jk) : (Nat → Nat → Int32)) rfl hE dX4_strokesOf_65
    replace hE := (if_neg c_16_0).symm.trans hE
    by_cases c_16_1 : ((T.2 0) (Int32.toNatClampNeg p1)) = 3
    · replace hE := (if_pos c_16_1).symm.trans hE
      refine lv_tableIn (off := 50) (tgt := 66) hx hb dX4_strokesOf_16 (by rw [c_16_1]; decide) (by rw [c_16_1]; decide) (by rw [c_16_1]; decide) (by decide) ?_
      have i_16_1 : ((T.2 0) (Int32.toNatClampNeg p1)).toInt = 3 := congrArg Int32.toInt c_16_1
      refine lv_iconst (v := 2) hx hb dX4_strokesOf_66 (by decide) ?_
      refine lv_aload_n hx hb dX4_strokesOf_67 rfl (lv_at hl 0 rfl) ?_
      refine g_get hx hb hts hiX4 hown hG (gw_Town ho hT) rfl 11 (by decide) (index := 46) tw_fl_RX4_46 (v := .ref (gA g (3 + 4 * ((T.1 11).toNatClampNeg)))) rfl dX4_strokesOf_68 ?_
      refine lv_iconst (v := 2) hx hb dX4_strokesOf_71 (by decide) ?_
      refine lv_aload_n hx hb dX4_strokesOf_72 rfl (lv_at hl 0 rfl) ?_
      refine lv_iload_n hx hb dX4_strokesOf_73 rfl (lv_at hl 1 rfl) ?_
      refine g_ci (g_runV (n := 3) (rest := [.int 2]) hx hb hml hown hts hG (c_X3_says hv.2.1 rfl ho hT 2 p1 hv.2.2) tw_ml_RX4_82 tw_im_X3_says tw_se_X3_says tw_in_RX3 tw_cd_X3_says (by decide +kernel) ⟨rfl, rfl, Nat.le_of_ble_eq_true rfl, Nat.le_of_ble_eq_true rfl⟩ (gw_Text hv.2.1 rfl) rfl rfl hl.1 rfl (Nat.le_of_ble_eq_true rfl) dX4_strokesOf_74 ⟨Nat.le_refl _, Nat.le_refl _⟩) hG hA (fun r jk H locs hp hG => ?_)
      subst hp
      replace hG : gS g A s H locs (gW g bb tx rw sb dy tn mo jk) := hG
      refine lv_imul hx hb dX4_strokesOf_77 ?_
      subst hQ
      exact g_iret hx hb hr hlocks hG ((jk) : (Nat → Nat → Int32)) rfl hE dX4_strokesOf_78
    replace hE := (if_neg c_16_1).symm.trans hE
    by_cases c_16_2 : ((T.2 0) (Int32.toNatClampNeg p1)) = 4
    · replace hE := (if_pos c_16_2).symm.trans hE
      refine lv_tableIn (off := 63) (tgt := 79) hx hb dX4_strokesOf_16 (by rw [c_16_2]; decide) (by rw [c_16_2]; decide) (by rw [c_16_2]; decide) (by decide) ?_
      have i_16_2 : ((T.2 0) (Int32.toNatClampNeg p1)).toInt = 4 := congrArg Int32.toInt c_16_2
      refine lv_aload_n hx hb dX4_strokesOf_79 rfl (lv_at hl 0 rfl) ?_
      refine g_get hx hb hts hiX4 hown hG (gw_Town ho hT) rfl 7 (by decide) (index := 34) tw_fl_RX4_34 (v := .int (T.1 7)) rfl dX4_strokesOf_80 ?_
      refine lv_bipush (v := 24) hx hb dX4_strokesOf_83 (by decide) ?_
      refine lv_irem hx hb dX4_strokesOf_85 (by decide) ?_
      refine lv_iconst (v := 3) hx hb dX4_strokesOf_86 (by decide) ?_
      refine lv_irem hx hb dX4_strokesOf_87 (by decide) ?_
      refine lv_if_ne (tgt := 95) hx hb dX4_strokesOf_88 (by decide) (fun c_88 => ?_) (fun c_88 => ?_)
      · replace hE := (if_neg c_88).symm.trans hE
        have i_88 : (((T.1 7) - (T.1 7) / 24 * 24) - ((T.1 7) - (T.1 7) / 24 * 24) / 3 * 3).toInt ≠ 0 := fun h => c_88 (Int32.toInt_inj.mp h)
        refine lv_aload_n hx hb dX4_strokesOf_95 rfl (lv_at hl 0 rfl) ?_
        refine g_get hx hb hts hiX4 hown hG (gw_Town ho hT) rfl 11 (by decide) (index := 46) tw_fl_RX4_46 (v := .ref (gA g (3 + 4 * ((T.1 11).toNatClampNeg)))) rfl dX4_strokesOf_96 ?_
        refine lv_iconst (v := 2) hx hb dX4_strokesOf_99 (by decide) ?_
        refine lv_aload_n hx hb dX4_strokesOf_100 rfl (lv_at hl 0 rfl) ?_
        refine lv_iload_n hx hb dX4_strokesOf_101 rfl (lv_at hl 1 rfl) ?_
        refine g_ci (g_runV (n := 3) (rest := []) hx hb hml hown hts hG (c_X3_says hv.2.1 rfl ho hT 2 p1 hv.2.2) tw_ml_RX4_82 tw_im_X3_says tw_se_X3_says tw_in_RX3 tw_cd_X3_says (by decide +kernel) ⟨rfl, rfl, Nat.le_of_ble_eq_true rfl, Nat.le_of_ble_eq_true rfl⟩ (gw_Text hv.2.1 rfl) rfl rfl hl.1 rfl (Nat.le_of_ble_eq_true rfl) dX4_strokesOf_102 ⟨Nat.le_refl _, Nat.le_refl _⟩) hG hA (fun r jk H locs hp hG => ?_)
        subst hp
        replace hG : gS g A s H locs (gW g bb tx rw sb dy tn mo jk) := hG
        refine lv_aload_n hx hb dX4_strokesOf_105 rfl (lv_at hl 0 rfl) ?_
        refine g_get hx hb hts hiX4 hown hG (gw_Town ho hT) rfl 1 (by decide) (index := 15) tw_fl_RX4_15 (v := .ref (gA g (40 + 6 * o + 2))) rfl dX4_strokesOf_106 ?_
        refine lv_iload_n hx hb dX4_strokesOf_109 rfl (lv_at hl 1 rfl) ?_
        refine g_ild hx hb hG (gw_Town_a1 ho hT) (vp_i (by clear hE; omega) (by clear hE; omega)) dX4_strokesOf_110 ?_
        refine lv_iadd hx hb dX4_strokesOf_111 ?_
        subst hQ
        exact g_iret hx hb hr hlocks hG ((jk) : (Nat → Nat → Int32)) rfl hE dX4_strokesOf_112
      replace hE := (if_pos c_88).symm.trans hE
      have i_88 : (((T.1 7) - (T.1 7) / 24 * 24) - ((T.1 7) - (T.1 7) / 24 * 24) / 3 * 3).toInt = 0 := congrArg Int32.toInt c_88
      refine lv_iconst (v := 0) hx hb dX4_strokesOf_91 (by decide) ?_
      refine lv_goto (tgt := 112) hx hb dX4_strokesOf_92 (by decide) ?_
      subst hQ
      exact g_iret hx hb hr hlocks hG ((jk) : (Nat → Nat → Int32)) rfl hE dX4_strokesOf_112
    replace hE := (if_neg c_16_2).symm.trans hE
    by_cases c_16_3 : ((T.2 0) (Int32.toNatClampNeg p1)) = 5
    · replace hE := (if_pos c_16_3).symm.trans hE
      refine lv_tableIn (off := 97) (tgt := 113) hx hb dX4_strokesOf_16 (by rw [c_16_3]; decide) (by rw [c_16_3]; decide) (by rw [c_16_3]; decide) (by decide) ?_
      have i_16_3 : ((T.2 0) (Int32.toNatClampNeg p1)).toInt = 5 := congrArg Int32.toInt c_16_3
      refine lv_iconst (v := 0) hx hb dX4_strokesOf_113 (by decide) ?_
      subst hQ
      exact g_iret hx hb hr hlocks hG ((jk) : (Nat → Nat → Int32)) rfl hE dX4_strokesOf_114
    replace hE := (if_neg c_16_3).symm.trans hE
    refine lv_tableOut (tgt := 115) hx hb dX4_strokesOf_16 (by have k0 := lv_neT c_16_0 (a := 2) (by decide); have k1 := lv_neT c_16_1 (a := 3) (by decide); have k2 := lv_neT c_16_2 (a := 4) (by decide); have k3 := lv_neT c_16_3 (a := 5) (by decide); omega) (by decide) ?_
    refine lv_aload_n hx hb dX4_strokesOf_115 rfl (lv_at hl 0 rfl) ?_
    refine g_get hx hb hts hiX4 hown hG (gw_Town ho hT) rfl 11 (by decide) (index := 46) tw_fl_RX4_46 (v := .ref (gA g (3 + 4 * ((T.1 11).toNatClampNeg)))) rfl dX4_strokesOf_116 ?_
    refine lv_iconst (v := 2) hx hb dX4_strokesOf_119 (by decide) ?_
    refine lv_aload_n hx hb dX4_strokesOf_120 rfl (lv_at hl 0 rfl) ?_
    refine lv_iload_n hx hb dX4_strokesOf_121 rfl (lv_at hl 1 rfl) ?_
    refine g_ci (g_runV (n := 3) (rest := []) hx hb hml hown hts hG (c_X3_says hv.2.1 rfl ho hT 2 p1 hv.2.2) tw_ml_RX4_82 tw_im_X3_says tw_se_X3_says tw_in_RX3 tw_cd_X3_says (by decide +kernel) ⟨rfl, rfl, Nat.le_of_ble_eq_true rfl, Nat.le_of_ble_eq_true rfl⟩ (gw_Text hv.2.1 rfl) rfl rfl hl.1 rfl (Nat.le_of_ble_eq_true rfl) dX4_strokesOf_122 ⟨Nat.le_refl _, Nat.le_refl _⟩) hG hA (fun r jk H locs hp hG => ?_)
    subst hp
    replace hG : gS g A s H locs (gW g bb tx rw sb dy tn mo jk) := hG
    subst hQ
    exact g_iret hx hb hr hlocks hG ((jk) : (Nat → Nat → Int32)) rfl hE dX4_strokesOf_125
  replace hE := (if_pos c_5).symm.trans hE
  refine lv_iconst (v := 0) hx hb dX4_strokesOf_8 (by decide) ?_
  subst hQ
  exact g_iret hx hb hr hlocks hG ((jk) : (Nat → Nat → Int32)) rfl hE dX4_strokesOf_9
def F_X4_liars_b26 (K4 : (Nat → Ob) → Ob → Int32 → Int32 → Int32) (tx : Nat → Ob) (T : Ob) (x1 : Int32) (x2 : Int32) : Int32 :=
  (K4 tx T x1 (x2 + 1))
def F_X4_liars_l4 : Nat → (Nat → Ob) → Ob → Int32 → Int32 → Int32
  | 0, _, _, _, _ => 0
  | n + 1, tx, T, x1, x2 =>
    (if (T.1 6) ≤ x2 then x1 else (if (F_X4_isLying tx T x2) = 0 then (F_X4_liars_b26 (F_X4_liars_l4 n ) tx T x1 x2) else (F_X4_liars_b26 (F_X4_liars_l4 n ) tx T (x1 ||| (1 <<< (x2 &&& 31))) x2)))
def F_X4_liars (tx : Nat → Ob) (T : Ob) : Int32 :=
  (F_X4_liars_l4 7  tx T 0 0)
set_option maxHeartbeats 4000000 in
set_option maxRecDepth 100000 in
theorem c_X4_liars {l : Launch} {g : GG} {sz : Nat} {bb : Ob} {tx rw : Nat → Ob} {sb dy : Ob} {tn : Nat → Ob} {mo : Ob} {jk : Nat → Nat → Int32} {o : Nat} (ho : o < 3) {T : Ob} (hT : tn o = T)  (hv : tEv tx T) : Met l yX4_liars (Cond.code yX4_liars cX4_liars 3 (some .int) :: TT) (rmL 6) (va_Pc [.ref (gA g (40 + 6 * o))] (gB g sz (gW g bb tx rw sb dy tn mo jk))) (va_Qi (fun r (_ : (Nat → Nat → Int32)) => r = (F_X4_liars tx T)) (fun u t => gC g (va_A (gW g bb tx rw sb dy tn mo jk) sz) (gW g bb tx rw sb dy tn mo u) t) (va_A (gW g bb tx rw sb dy tn mo jk) sz)) 0 0 (va_A (gW g bb tx rw sb dy tn mo jk) sz) := by
  generalize hE : F_X4_liars tx T = EE
  refine g_of (Qf := fun A => (va_Qi (fun r (_ : (Nat → Nat → Int32)) => r = EE) (fun u t => gC g A (gW g bb tx rw sb dy tn mo u) t) A)) (cc := cX4_liars) (maxL := 3) (ret := (some .int)) (by decide) (Nat.le_of_ble_eq_true rfl) ?_
  intro p e s m below meth c A ls hx hb hml hr hlocks hts hown hA hG hl
  replace hown : s.vm.findClass RX4 = some m.cls := hown
  replace hl : lv_has ls 3 [(0, .ref (gA g (40 + 6 * o)))] := hl
  show W p l e (rmL 6) s m [.ref (gA g (40 + 6 * o))].toArray below meth c s.heap [] 0 0 (MQ below (va_Qi (fun r (_ : (Nat → Nat → Int32)) => r = EE) (fun u t => gC g A (gW g bb tx rw sb dy tn mo u) t) A) [.ref (gA g (40 + 6 * o))].toArray s 0 0 A) (F0 m 0 ls [])
  generalize hQ : MQ below (va_Qi (fun r (_ : (Nat → Nat → Int32)) => r = EE) (fun u t => gC g A (gW g bb tx rw sb dy tn mo u) t) A) [.ref (gA g (40 + 6 * o))].toArray s 0 0 A = Q
  have hpo := hv.1
  unfold F_X4_liars at hE
  refine lv_iconst (v := 0) hx hb dX4_liars_0 (by decide) ?_
  refine lv_istore_n (lv' := [(1, .int 0), (0, .ref (gA g (40 + 6 * o)))]) hx hb dX4_liars_1 rfl hl (by decide) rfl (fun ls hl => ?_)
  replace hl := lv_sub hl [1, 0] (l' := [(0, .ref (gA g (40 + 6 * o))), (1, .int 0)]) rfl
  refine lv_iconst (v := 0) hx hb dX4_liars_2 (by decide) ?_
  refine lv_istore_n (lv' := [(2, .int 0), (0, .ref (gA g (40 + 6 * o))), (1, .int 0)]) hx hb dX4_liars_3 rfl hl (by decide) rfl (fun ls hl => ?_)
  replace hl := lv_sub hl [1, 2, 0] (l' := [(0, .ref (gA g (40 + 6 * o))), (1, .int 0), (2, .int 0)]) rfl
  have L4 : ∀ (n : Nat) (x1_4 : Int32) (x2_4 : Int32) (jk : (Nat → Nat → Int32)) (H : Heap) (locs : List Loc), gS g A s H locs (gW g bb tx rw sb dy tn mo jk) → ∀ ls : Array Slot, lv_has ls 3 [(0, .ref (gA g (40 + 6 * o))), (1, .int x1_4), (2, .int x2_4)] → 0 ≤ x2_4.toInt → x2_4.toInt ≤ 6 → 6 < x2_4.toInt + n → F_X4_liars_l4 n  tx T x1_4 x2_4 = EE → W p l e (rmL 6) s m [.ref (gA g (40 + 6 * o))].toArray below meth c H locs 0 0 Q (F0 m 4 ls []) := by
    intro n
    induction n with
    | zero =>
      intro x1_4 x2_4 jk H locs hG ls hl h0_4 h1_4 hm_4 hE
      omega
    | succ n ih4 =>
      intro x1_4 x2_4 jk H locs hG ls hl h0_4 h1_4 hm_4 hE
      unfold F_X4_liars_l4 at hE
      refine lv_iload_n hx hb dX4_liars_4 rfl (lv_at hl 2 rfl) ?_
      refine lv_aload_n hx hb dX4_liars_5 rfl (lv_at hl 0 rfl) ?_
      refine g_get hx hb hts hiX4 hown hG (gw_Town ho hT) rfl 6 (by decide) (index := 31) tw_fl_RX4_31 (v := .int (T.1 6)) rfl dX4_liars_6 ?_
      refine lv_icmp_ge (tgt := 32) hx hb dX4_liars_9 (by decide) (fun c_9 => ?_) (fun c_9 => ?_)
      · replace hE := (if_pos c_9).symm.trans hE
        have i_9 : (T.1 6).toInt ≤ x2_4.toInt := i_le.mp c_9
        refine lv_iload_n hx hb dX4_liars_32 rfl (lv_at hl 1 rfl) ?_
        subst hQ
        exact g_iret hx hb hr hlocks hG ((jk) : (Nat → Nat → Int32)) rfl hE dX4_liars_33
      replace hE := (if_neg c_9).symm.trans hE
      have i_9 : x2_4.toInt < (T.1 6).toInt := i_nle c_9
      refine lv_aload_n hx hb dX4_liars_12 rfl (lv_at hl 0 rfl) ?_
      refine lv_iload_n hx hb dX4_liars_13 rfl (lv_at hl 2 rfl) ?_
      refine g_ci (g_runV (n := 1) (rest := []) hx hb hml hown hts hG (c_X4_isLying ho hT x2_4 hv) tw_ml_RX4_88 tw_im_X4_isLying tw_se_X4_isLying tw_in_RX4 tw_cd_X4_isLying (by decide +kernel) ⟨rfl, rfl, Nat.le_of_ble_eq_true rfl, Nat.le_of_ble_eq_true rfl⟩ (gw_Town ho hT) rfl rfl hl.1 rfl (Nat.le_of_ble_eq_true rfl) dX4_liars_14 ⟨Nat.le_refl _, Nat.le_refl _⟩) hG hA (fun r jk H locs hp hG => ?_)
      subst hp
      replace hG : gS g A s H locs (gW g bb tx rw sb dy tn mo jk) := hG
      have J26 : ∀ (x1_26 : Int32) (jk : (Nat → Nat → Int32)) (H : Heap) (locs : List Loc), gS g A s H locs (gW g bb tx rw sb dy tn mo jk) → ∀ ls : Array Slot, lv_has ls 3 [(0, .ref (gA g (40 + 6 * o))), (1, .int x1_26), (2, .int x2_4)] → F_X4_liars_b26  (F_X4_liars_l4 n ) tx T x1_26 x2_4 = EE → W p l e (rmL 6) s m [.ref (gA g (40 + 6 * o))].toArray below meth c H locs 0 0 Q (F0 m 26 ls []) := by
        intro x1_26 jk H locs hG ls hl  hE
        unfold F_X4_liars_b26 at hE
        refine lv_iinc (v := (x2_4 + 1)) (lv' := [(2, .int (x2_4 + 1)), (0, .ref (gA g (40 + 6 * o))), (1, .int x1_26)]) hx hb dX4_liars_26 hl (k := 2) rfl rfl (by decide) rfl (fun ls hl => ?_)
        replace hl := lv_sub hl [1, 2, 0] (l' := [(0, .ref (gA g (40 + 6 * o))), (1, .int x1_26), (2, .int (x2_4 + 1))]) rfl
        refine lv_goto (tgt := 4) hx hb dX4_liars_29 (by decide) ?_
        have e1 : (x2_4 + 1).toInt = x2_4.toInt + 1 := addL (k := 1) (by decide +kernel) (by clear hE; omega) (by clear hE; omega)
        exact ih4 x1_26 (x2_4 + 1) _ _ _ hG _ (lv_sub hl [0, 1, 2] rfl) (by clear hE; omega) (by clear hE; omega) (by clear hE; omega) hE
      refine lv_if_eq (tgt := 26) hx hb dX4_liars_17 (by decide) (fun c_17 => ?_) (fun c_17 => ?_)
      · replace hE := (if_pos c_17).symm.trans hE
        exact J26 x1_4 _ _ _ hG _ (lv_sub hl [0, 1, 2] rfl) hE
      replace hE := (if_neg c_17).symm.trans hE
      refine lv_iload_n hx hb dX4_liars_20 rfl (lv_at hl 1 rfl) ?_
      refine lv_iconst (v := 1) hx hb dX4_liars_21 (by decide) ?_
      refine lv_iload_n hx hb dX4_liars_22 rfl (lv_at hl 2 rfl) ?_
      refine lv_ishl hx hb dX4_liars_23 ?_
      refine lv_ior hx hb dX4_liars_24 ?_
      refine lv_istore_n (lv' := [(1, .int (x1_4 ||| (1 <<< (x2_4 &&& 31)))), (0, .ref (gA g (40 + 6 * o))), (2, .int x2_4)]) hx hb dX4_liars_25 rfl hl (by decide) rfl (fun ls hl => ?_)
      replace hl := lv_sub hl [1, 0, 2] (l' := [(0, .ref (gA g (40 + 6 * o))), (1, .int (x1_4 ||| (1 <<< (x2_4 &&& 31)))), (2, .int x2_4)]) rfl
      exact J26 (x1_4 ||| (1 <<< (x2_4 &&& 31))) _ _ _ hG _ (lv_sub hl [0, 1, 2] rfl) hE
  exact L4 7 0 0 _ _ _ hG _ (lv_sub hl [0, 1, 2] rfl) (by decide) (by decide) (by decide) hE
def F_X4_strikesOf_b29 (K4 : (Nat → Ob) → Ob → Int32 → Int32 → Int32 → Int32) (tx : Nat → Ob) (T : Ob) (x1 : Int32) (x2 : Int32) (x3 : Int32) : Int32 :=
  (K4 tx T x1 x2 (x3 + 1))
def F_X4_strikesOf_l4 : Nat → (Nat → Ob) → Ob → Int32 → Int32 → Int32 → Int32
  | 0, _, _, _, _, _ => 0
  | n + 1, tx, T, x1, x2, x3 =>
    (if (T.1 6) ≤ x3 then x2 else (if ((x1 >>> (x3 &&& 31)) &&& 1) = 1 then (F_X4_strikesOf_b29 (F_X4_strikesOf_l4 n ) tx T x1 (x2 + (F_X4_strokesOf tx T x3)) x3) else (F_X4_strikesOf_b29 (F_X4_strikesOf_l4 n ) tx T x1 x2 x3)))
def F_X4_strikesOf (tx : Nat → Ob) (T : Ob) (p1 : Int32) : Int32 :=
  (F_X4_strikesOf_l4 7  tx T p1 0 0)
set_option maxHeartbeats 4000000 in
set_option maxRecDepth 100000 in
theorem c_X4_strikesOf {l : Launch} {g : GG} {sz : Nat} {bb : Ob} {tx rw : Nat → Ob} {sb dy : Ob} {tn : Nat → Ob} {mo : Ob} {jk : Nat → Nat → Int32} {o : Nat} (ho : o < 3) {T : Ob} (hT : tn o = T) (p1 : Int32) (hv : tEv tx T) : Met l yX4_strikesOf (Cond.code yX4_strikesOf cX4_strikesOf 4 (some .int) :: TT) (rmL 6) (va_Pc [.ref (gA g (40 + 6 * o)), .int p1] (gB g sz (gW g bb tx rw sb dy tn mo jk))) (va_Qi (fun r (_ : (Nat → Nat → Int32)) => r = (F_X4_strikesOf tx T p1)) (fun u t => gC g (va_A (gW g bb tx rw sb dy tn mo jk) sz) (gW g bb tx rw sb dy tn mo u) t) (va_A (gW g bb tx rw sb dy tn mo jk) sz)) 0 0 (va_A (gW g bb tx rw sb dy tn mo jk) sz) := by
  generalize hE : F_X4_strikesOf tx T p1 = EE
  refine g_of (Qf := fun A => (va_Qi (fun r (_ : (Nat → Nat → Int32)) => r = EE) (fun u t => gC g A (gW g bb tx rw sb dy tn mo u) t) A)) (cc := cX4_strikesOf) (maxL := 4) (ret := (some .int)) (by decide) (Nat.le_of_ble_eq_true rfl) ?_
  intro p e s m below meth c A ls hx hb hml hr hlocks hts hown hA hG hl
  replace hown : s.vm.findClass RX4 = some m.cls := hown
  replace hl : lv_has ls 4 [(0, .ref (gA g (40 + 6 * o))), (1, .int p1)] := hl
  show W p l e (rmL 6) s m [.ref (gA g (40 + 6 * o)), .int p1].toArray below meth c s.heap [] 0 0 (MQ below (va_Qi (fun r (_ : (Nat → Nat → Int32)) => r = EE) (fun u t => gC g A (gW g bb tx rw sb dy tn mo u) t) A) [.ref (gA g (40 + 6 * o)), .int p1].toArray s 0 0 A) (F0 m 0 ls [])
  generalize hQ : MQ below (va_Qi (fun r (_ : (Nat → Nat → Int32)) => r = EE) (fun u t => gC g A (gW g bb tx rw sb dy tn mo u) t) A) [.ref (gA g (40 + 6 * o)), .int p1].toArray s 0 0 A = Q
  have hpo := hv.1
  unfold F_X4_strikesOf at hE
  refine lv_iconst (v := 0) hx hb dX4_strikesOf_0 (by decide) ?_
  refine lv_istore_n (lv' := [(2, .int 0), (0, .ref (gA g (40 + 6 * o))), (1, .int p1)]) hx hb dX4_strikesOf_1 rfl hl (by decide) rfl (fun ls hl => ?_)
  replace hl := lv_sub hl [1, 2, 0] (l' := [(0, .ref (gA g (40 + 6 * o))), (1, .int p1), (2, .int 0)]) rfl
  refine lv_iconst (v := 0) hx hb dX4_strikesOf_2 (by decide) ?_
  refine lv_istore_n (lv' := [(3, .int 0), (0, .ref (gA g (40 + 6 * o))), (1, .int p1), (2, .int 0)]) hx hb dX4_strikesOf_3 rfl hl (by decide) rfl (fun ls hl => ?_)
  replace hl := lv_sub hl [1, 2, 3, 0] (l' := [(0, .ref (gA g (40 + 6 * o))), (1, .int p1), (2, .int 0), (3, .int 0)]) rfl
  have L4 : ∀ (n : Nat) (x2_4 : Int32) (x3_4 : Int32) (jk : (Nat → Nat → Int32)) (H : Heap) (locs : List Loc), gS g A s H locs (gW g bb tx rw sb dy tn mo jk) → ∀ ls : Array Slot, lv_has ls 4 [(0, .ref (gA g (40 + 6 * o))), (1, .int p1), (2, .int x2_4), (3, .int x3_4)] → 0 ≤ x3_4.toInt → x3_4.toInt ≤ 6 → 6 < x3_4.toInt + n → F_X4_strikesOf_l4 n  tx T p1 x2_4 x3_4 = EE → W p l e (rmL 6) s m [.ref (gA g (40 + 6 * o)), .int p1].toArray below meth c H locs 0 0 Q (F0 m 4 ls []) := by
    intro n
    induction n with
    | zero =>
      intro x2_4 x3_4 jk H locs hG ls hl h0_4 h1_4 hm_4 hE
      omega
    | succ n ih4 =>
      intro x2_4 x3_4 jk H locs hG ls hl h0_4 h1_4 hm_4 hE
      unfold F_X4_strikesOf_l4 at hE
      refine lv_iload_n hx hb dX4_strikesOf_4 rfl (lv_at hl 3 rfl) ?_
      refine lv_aload_n hx hb dX4_strikesOf_5 rfl (lv_at hl 0 rfl) ?_
      refine g_get hx hb hts hiX4 hown hG (gw_Town ho hT) rfl 6 (by decide) (index := 31) tw_fl_RX4_31 (v := .int (T.1 6)) rfl dX4_strikesOf_6 ?_
      refine lv_icmp_ge (tgt := 35) hx hb dX4_strikesOf_9 (by decide) (fun c_9 => ?_) (fun c_9 => ?_)
      · replace hE := (if_pos c_9).symm.trans hE
        have i_9 : (T.1 6).toInt ≤ x3_4.toInt := i_le.mp c_9
        refine lv_iload_n hx hb dX4_strikesOf_35 rfl (lv_at hl 2 rfl) ?_
        subst hQ
        exact g_iret hx hb hr hlocks hG ((jk) : (Nat → Nat → Int32)) rfl hE dX4_strikesOf_36
      replace hE := (if_neg c_9).symm.trans hE
      have i_9 : x3_4.toInt < (T.1 6).toInt := i_nle c_9
      refine lv_iload_n hx hb dX4_strikesOf_12 rfl (lv_at hl 1 rfl) ?_
      refine lv_iload_n hx hb dX4_strikesOf_13 rfl (lv_at hl 3 rfl) ?_
      refine lv_ishr hx hb dX4_strikesOf_14 ?_
      refine lv_iconst (v := 1) hx hb dX4_strikesOf_15 (by decide) ?_
      refine lv_iand hx hb dX4_strikesOf_16 ?_
      refine lv_iconst (v := 1) hx hb dX4_strikesOf_17 (by decide) ?_
      have J29 : ∀ (x2_29 : Int32) (jk : (Nat → Nat → Int32)) (H : Heap) (locs : List Loc), gS g A s H locs (gW g bb tx rw sb dy tn mo jk) → ∀ ls : Array Slot, lv_has ls 4 [(0, .ref (gA g (40 + 6 * o))), (1, .int p1), (2, .int x2_29), (3, .int x3_4)] → F_X4_strikesOf_b29  (F_X4_strikesOf_l4 n ) tx T p1 x2_29 x3_4 = EE → W p l e (rmL 6) s m [.ref (gA g (40 + 6 * o)), .int p1].toArray below meth c H locs 0 0 Q (F0 m 29 ls []) := by
        intro x2_29 jk H locs hG ls hl  hE
        unfold F_X4_strikesOf_b29 at hE
        refine lv_iinc (v := (x3_4 + 1)) (lv' := [(3, .int (x3_4 + 1)), (0, .ref (gA g (40 + 6 * o))), (1, .int p1), (2, .int x2_29)]) hx hb dX4_strikesOf_29 hl (k := 3) rfl rfl (by decide) rfl (fun ls hl => ?_)
        replace hl := lv_sub hl [1, 2, 3, 0] (l' := [(0, .ref (gA g (40 + 6 * o))), (1, .int p1), (2, .int x2_29), (3, .int (x3_4 + 1))]) rfl
        refine lv_goto (tgt := 4) hx hb dX4_strikesOf_32 (by decide) ?_
        have e1 : (x3_4 + 1).toInt = x3_4.toInt + 1 := addL (k := 1) (by decide +kernel) (by clear hE; omega) (by clear hE; omega)
        exact ih4 x2_29 (x3_4 + 1) _ _ _ hG _ (lv_sub hl [0, 1, 2, 3] rfl) (by clear hE; omega) (by clear hE; omega) (by clear hE; omega) hE
      refine lv_icmp_ne (tgt := 29) hx hb dX4_strikesOf_18 (by decide) (fun c_18 => ?_) (fun c_18 => ?_)
      · replace hE := (if_neg c_18).symm.trans hE
        have i_18 : ((p1 >>> (x3_4 &&& 31)) &&& 1).toInt ≠ 1 := fun h => c_18 (Int32.toInt_inj.mp h)
        exact J29 x2_4 _ _ _ hG _ (lv_sub hl [0, 1, 2, 3] rfl) hE
      replace hE := (if_pos c_18).symm.trans hE
      have i_18 : ((p1 >>> (x3_4 &&& 31)) &&& 1).toInt = 1 := congrArg Int32.toInt c_18
      refine lv_iload_n hx hb dX4_strikesOf_21 rfl (lv_at hl 2 rfl) ?_
      refine lv_aload_n hx hb dX4_strikesOf_22 rfl (lv_at hl 0 rfl) ?_
      refine lv_iload_n hx hb dX4_strikesOf_23 rfl (lv_at hl 3 rfl) ?_
      refine g_ci (g_runV (n := 1) (rest := [.int x2_4]) hx hb hml hown hts hG (c_X4_strokesOf ho hT x3_4 hv) tw_ml_RX4_91 tw_im_X4_strokesOf tw_se_X4_strokesOf tw_in_RX4 tw_cd_X4_strokesOf (by decide +kernel) ⟨rfl, rfl, Nat.le_of_ble_eq_true rfl, Nat.le_of_ble_eq_true rfl⟩ (gw_Town ho hT) rfl rfl hl.1 rfl (Nat.le_of_ble_eq_true rfl) dX4_strikesOf_24 ⟨Nat.le_refl _, Nat.le_refl _⟩) hG hA (fun r jk H locs hp hG => ?_)
      subst hp
      replace hG : gS g A s H locs (gW g bb tx rw sb dy tn mo jk) := hG
      refine lv_iadd hx hb dX4_strikesOf_27 ?_
      refine lv_istore_n (lv' := [(2, .int (x2_4 + (F_X4_strokesOf tx T x3_4))), (0, .ref (gA g (40 + 6 * o))), (1, .int p1), (3, .int x3_4)]) hx hb dX4_strikesOf_28 rfl hl (by decide) rfl (fun ls hl => ?_)
      replace hl := lv_sub hl [1, 2, 0, 3] (l' := [(0, .ref (gA g (40 + 6 * o))), (1, .int p1), (2, .int (x2_4 + (F_X4_strokesOf tx T x3_4))), (3, .int x3_4)]) rfl
      exact J29 (x2_4 + (F_X4_strokesOf tx T x3_4)) _ _ _ hG _ (lv_sub hl [0, 1, 2, 3] rfl) hE
  exact L4 7 0 0 _ _ _ hG _ (lv_sub hl [0, 1, 2, 3] rfl) (by decide) (by decide) (by decide) hE
def F_X4_passHour_b84 (tx : Nat → Ob) (T : Ob) (x2 : Int32) : Int32 × Ob :=
  (x2, (setS (setS (setS T 9 (jmin 99 x2)) 8 (jmin 999999 (((setS T 9 (jmin 99 x2)).1 8) + x2))) 7 (((setS (setS T 9 (jmin 99 x2)) 8 (jmin 999999 (((setS T 9 (jmin 99 x2)).1 8) + x2))).1 7) + 1)))
def F_X4_passHour_b78 (K8 : (Nat → Ob) → Ob → Int32 → Int32 → Int32 → Int32 × Ob) (tx : Nat → Ob) (T : Ob) (x1 : Int32) (x2 : Int32) (x3 : Int32) : Int32 × Ob :=
  (K8 tx T x1 x2 (x3 + 1))
def F_X4_passHour_l8 : Nat → (Nat → Ob) → Ob → Int32 → Int32 → Int32 → Int32 × Ob
  | 0, _, T, _, _, _ => (0, T)
  | n + 1, tx, T, x1, x2, x3 =>
    (if (T.1 6) ≤ x3 then (F_X4_passHour_b84  tx T x2) else (if 6 ≤ x3 then (F_X4_passHour_b84  tx T x2) else (if ((x1 >>> (x3 &&& 31)) &&& 1) = 1 then (F_X4_passHour_b78 (F_X4_passHour_l8 n ) tx (stA (stA T 2 x3 (jmax 0 (jmin 99 (((T.2 2) (Int32.toNatClampNeg x3)) - (F_X4_costOf tx T x3))))) 3 x3 (jmin 9999 ((((stA T 2 x3 (jmax 0 (jmin 99 (((T.2 2) (Int32.toNatClampNeg x3)) - (F_X4_costOf tx T x3))))).2 3) (Int32.toNatClampNeg x3)) + 1))) x1 x2 x3) else (F_X4_passHour_b78 (F_X4_passHour_l8 n ) tx T x1 x2 x3))))
def F_X4_passHour (tx : Nat → Ob) (T : Ob) (p1 : Int32) : Int32 × Ob :=
  (F_X4_passHour_l8 7  tx T p1 (F_X4_strikesOf tx T p1) 0)
set_option maxHeartbeats 4000000 in
set_option maxRecDepth 100000 in
theorem c_X4_passHour {l : Launch} {g : GG} {sz : Nat} {bb : Ob} {tx rw : Nat → Ob} {sb dy : Ob} {tn : Nat → Ob} {mo : Ob} {jk : Nat → Nat → Int32} {o : Nat} (ho : o < 3) {T : Ob} (hT : tn o = T) (p1 : Int32) (hv : tEv tx T) : Met l yX4_passHour (Cond.code yX4_passHour cX4_passHour 4 (some .int) :: TT) (rmL 7) (va_Pc [.ref (gA g (40 + 6 * o)), .int p1] (gB g sz (gW g bb tx rw sb dy tn mo jk))) (va_Qi (fun r (u : Ob × (Nat → Nat → Int32)) => (F_X4_passHour tx T p1) = (r, u.1)) (fun u t => gC g (va_A (gW g bb tx rw sb dy tn mo jk) sz) (gW g bb tx rw sb dy (va_up tn o u.1) mo u.2) t) (va_A (gW g bb tx rw sb dy tn mo jk) sz)) 0 0 (va_A (gW g bb tx rw sb dy tn mo jk) sz) := by
  generalize hE : F_X4_passHour tx T p1 = EE
  refine g_of (Qf := fun A => (va_Qi (fun r (u : Ob × (Nat → Nat → Int32)) => EE = (r, u.1)) (fun u t => gC g A (gW g bb tx rw sb dy (va_up tn o u.1) mo u.2) t) A)) (cc := cX4_passHour) (maxL := 4) (ret := (some .int)) (by decide) (Nat.le_of_ble_eq_true rfl) ?_
  intro p e s m below meth c A ls hx hb hml hr hlocks hts hown hA hG hl
  replace hown : s.vm.findClass RX4 = some m.cls := hown
  replace hl : lv_has ls 4 [(0, .ref (gA g (40 + 6 * o))), (1, .int p1)] := hl
  show W p l e (rmL 7) s m [.ref (gA g (40 + 6 * o)), .int p1].toArray below meth c s.heap [] 0 0 (MQ below (va_Qi (fun r (u : Ob × (Nat → Nat → Int32)) => EE = (r, u.1)) (fun u t => gC g A (gW g bb tx rw sb dy (va_up tn o u.1) mo u.2) t) A) [.ref (gA g (40 + 6 * o)), .int p1].toArray s 0 0 A) (F0 m 0 ls [])
  generalize hQ : MQ below (va_Qi (fun r (u : Ob × (Nat → Nat → Int32)) => EE = (r, u.1)) (fun u t => gC g A (gW g bb tx rw sb dy (va_up tn o u.1) mo u.2) t) A) [.ref (gA g (40 + 6 * o)), .int p1].toArray s 0 0 A = Q
  replace hG : gS g A s s.heap [] (gW g bb tx rw sb dy (va_up tn o T) mo jk) := by simpa only [← hT, up_self] using hG
  have hpo := hv.1
  unfold F_X4_passHour at hE
  refine lv_aload_n hx hb dX4_passHour_0 rfl (lv_at hl 0 rfl) ?_
  refine lv_iload_n hx hb dX4_passHour_1 rfl (lv_at hl 1 rfl) ?_
  refine g_ci (g_runV (n := 1) (rest := []) hx hb hml hown hts hG (c_X4_strikesOf ho (up_same _ _ _) p1 hv) tw_ml_RX4_95 tw_im_X4_strikesOf tw_se_X4_strikesOf tw_in_RX4 tw_cd_X4_strikesOf (by decide +kernel) ⟨rfl, rfl, Nat.le_of_ble_eq_true rfl, Nat.le_of_ble_eq_true rfl⟩ (gw_Town ho (up_same _ _ _)) rfl rfl hl.1 rfl (Nat.le_of_ble_eq_true rfl) dX4_passHour_2 ⟨Nat.le_refl _, Nat.le_refl _⟩) hG hA (fun r jk H locs hp hG => ?_)
  subst hp
  replace hG : gS g A s H locs (gW g bb tx rw sb dy (va_up tn o T) mo jk) := hG
  refine lv_istore_n (lv' := [(2, .int (F_X4_strikesOf tx T p1)), (0, .ref (gA g (40 + 6 * o))), (1, .int p1)]) hx hb dX4_passHour_5 rfl hl (by decide) rfl (fun ls hl => ?_)
  replace hl := lv_sub hl [1, 2, 0] (l' := [(0, .ref (gA g (40 + 6 * o))), (1, .int p1), (2, .int (F_X4_strikesOf tx T p1))]) rfl
  refine lv_iconst (v := 0) hx hb dX4_passHour_6 (by decide) ?_
  refine lv_istore_n (lv' := [(3, .int 0), (0, .ref (gA g (40 + 6 * o))), (1, .int p1), (2, .int (F_X4_strikesOf tx T p1))]) hx hb dX4_passHour_7 rfl hl (by decide) rfl (fun ls hl => ?_)
  replace hl := lv_sub hl [1, 2, 3, 0] (l' := [(0, .ref (gA g (40 + 6 * o))), (1, .int p1), (2, .int (F_X4_strikesOf tx T p1)), (3, .int 0)]) rfl
  have L8 : ∀ (n : Nat) (x3_8 : Int32) (T_8 : Ob) (jk : (Nat → Nat → Int32)) (H : Heap) (locs : List Loc), gS g A s H locs (gW g bb tx rw sb dy (va_up tn o T_8) mo jk) → ∀ ls : Array Slot, lv_has ls 4 [(0, .ref (gA g (40 + 6 * o))), (1, .int p1), (2, .int (F_X4_strikesOf tx T p1)), (3, .int x3_8)] → 0 ≤ x3_8.toInt → x3_8.toInt ≤ 6 → 6 < x3_8.toInt + n → tEv tx T_8 → F_X4_passHour_l8 n  tx T_8 p1 (F_X4_strikesOf tx T p1) x3_8 = EE → W p l e (rmL 7) s m [.ref (gA g (40 + 6 * o)), .int p1].toArray below meth c H locs 0 0 Q (F0 m 8 ls []) := by
    intro n
    induction n with
    | zero =>
      intro x3_8 T_8 jk H locs hG ls hl h0_8 h1_8 hm_8 hv8 hE
      omega
    | succ n ih8 =>
      intro x3_8 T_8 jk H locs hG ls hl h0_8 h1_8 hm_8 hv8 hE
      unfold F_X4_passHour_l8 at hE
      have hpo8 := hv8.1
      refine lv_iload_n hx hb dX4_passHour_8 rfl (lv_at hl 3 rfl) ?_
      refine lv_aload_n hx hb dX4_passHour_9 rfl (lv_at hl 0 rfl) ?_
      refine g_get hx hb hts hiX4 hown hG (gw_Town ho (up_same _ _ _)) rfl 6 (by decide) (index := 31) tw_fl_RX4_31 (v := .int (T_8.1 6)) rfl dX4_passHour_10 ?_
      have J84 : ∀  (jk : (Nat → Nat → Int32)) (H : Heap) (locs : List Loc), gS g A s H locs (gW g bb tx rw sb dy (va_up tn o T_8) mo jk) → ∀ ls : Array Slot, lv_has ls 4 [(0, .ref (gA g (40 + 6 * o))), (2, .int (F_X4_strikesOf tx T p1))] → F_X4_passHour_b84   tx T_8 (F_X4_strikesOf tx T p1) = EE → W p l e (rmL 7) s m [.ref (gA g (40 + 6 * o)), .int p1].toArray below meth c H locs 0 0 Q (F0 m 84 ls []) := by
        intro  jk H locs hG ls hl  hE
        unfold F_X4_passHour_b84 at hE
        refine lv_aload_n hx hb dX4_passHour_84 rfl (lv_at hl 0 rfl) ?_
        refine lv_bipush (v := 99) hx hb dX4_passHour_85 (by decide) ?_
        refine lv_iload_n hx hb dX4_passHour_87 rfl (lv_at hl 1 rfl) ?_
        refine g_min hx hb hml hl.1 hts hown tw_ml_RX4_70 tw_st_Mmin tw_in_RJ9 tw_cd_Mmin (Nat.le_of_ble_eq_true rfl) (Nat.le_of_ble_eq_true rfl) dX4_passHour_88 (kk := ?_)
        refine g_put hx hb hts hiX4 tyX4 tyX4_ok nmX4 hown hG (gw_Town ho (up_same _ _ _)) rfl 9 (by decide) (index := 40) tw_fl_RX4_40 rfl rfl rfl (Nat.le_of_ble_eq_true rfl) (gt_Town_f9 ho) dX4_passHour_91 (fun H locs hG => ?_)
        refine lv_aload_n hx hb dX4_passHour_94 rfl (lv_at hl 0 rfl) ?_
        refine lv_ldc (v := 999999) hx hb hown (hts _ tw_co_RX4_104) dX4_passHour_95 ?_
        refine lv_aload_n hx hb dX4_passHour_97 rfl (lv_at hl 0 rfl) ?_
        refine g_get hx hb hts hiX4 hown hG (gw_Town ho (up_same _ _ _)) rfl 8 (by decide) (index := 37) tw_fl_RX4_37 (v := .int ((setS T_8 9 (jmin 99 (F_X4_strikesOf tx T p1))).1 8)) rfl dX4_passHour_98 ?_
        refine lv_iload_n hx hb dX4_passHour_101 rfl (lv_at hl 1 rfl) ?_
        refine lv_iadd hx hb dX4_passHour_102 ?_
        refine g_min hx hb hml hl.1 hts hown tw_ml_RX4_70 tw_st_Mmin tw_in_RJ9 tw_cd_Mmin (Nat.le_of_ble_eq_true rfl) (Nat.le_of_ble_eq_true rfl) dX4_passHour_103 (kk := ?_)
        refine g_put hx hb hts hiX4 tyX4 tyX4_ok nmX4 hown hG (gw_Town ho (up_same _ _ _)) rfl 8 (by decide) (index := 37) tw_fl_RX4_37 rfl rfl rfl (Nat.le_of_ble_eq_true rfl) (gt_Town_f8 ho) dX4_passHour_106 (fun H locs hG => ?_)
        refine lv_aload_n hx hb dX4_passHour_109 rfl (lv_at hl 0 rfl) ?_
        refine lv_dup hx hb dX4_passHour_110 rfl ?_
        refine g_get hx hb hts hiX4 hown hG (gw_Town ho (up_same _ _ _)) rfl 7 (by decide) (index := 34) tw_fl_RX4_34 (v := .int ((setS (setS T_8 9 (jmin 99 (F_X4_strikesOf tx T p1))) 8 (jmin 999999 (((setS T_8 9 (jmin 99 (F_X4_strikesOf tx T p1))).1 8) + (F_X4_strikesOf tx T p1)))).1 7)) rfl dX4_passHour_111 ?_
        refine lv_iconst (v := 1) hx hb dX4_passHour_114 (by decide) ?_
        refine lv_iadd hx hb dX4_passHour_115 ?_
        refine g_put hx hb hts hiX4 tyX4 tyX4_ok nmX4 hown hG (gw_Town ho (up_same _ _ _)) rfl 7 (by decide) (index := 34) tw_fl_RX4_34 rfl rfl rfl (Nat.le_of_ble_eq_true rfl) (gt_Town_f7 ho) dX4_passHour_116 (fun H locs hG => ?_)
        refine lv_iload_n hx hb dX4_passHour_119 rfl (lv_at hl 1 rfl) ?_
        subst hQ
        exact g_iret hx hb hr hlocks hG (((setS (setS (setS T_8 9 (jmin 99 (F_X4_strikesOf tx T p1))) 8 (jmin 999999 (((setS T_8 9 (jmin 99 (F_X4_strikesOf tx T p1))).1 8) + (F_X4_strikesOf tx T p1)))) 7 (((setS (setS T_8 9 (jmin 99 (F_X4_strikesOf tx T p1))) 8 (jmin 999999 (((setS T_8 9 (jmin 99 (F_X4_strikesOf tx T p1))).1 8) + (F_X4_strikesOf tx T p1)))).1 7) + 1)), jk) : Ob × (Nat → Nat → Int32)) rfl hE.symm dX4_passHour_120
      refine lv_icmp_ge (tgt := 84) hx hb dX4_passHour_13 (by decide) (fun c_13 => ?_) (fun c_13 => ?_)
      · replace hE := (if_pos c_13).symm.trans hE
        have i_13 : (T_8.1 6).toInt ≤ x3_8.toInt := i_le.mp c_13
        exact J84 _ _ _ hG _ (lv_sub hl [0, 2] rfl) hE
      replace hE := (if_neg c_13).symm.trans hE
      have i_13 : x3_8.toInt < (T_8.1 6).toInt := i_nle c_13
      refine lv_iload_n hx hb dX4_passHour_16 rfl (lv_at hl 3 rfl) ?_
      refine lv_bipush (v := 6) hx hb dX4_passHour_17 (by decide) ?_
      refine lv_icmp_ge (tgt := 84) hx hb dX4_passHour_19 (by decide) (fun c_19 => ?_) (fun c_19 => ?_)
      · replace hE := (if_pos c_19).symm.trans hE
        have i_19 : 6 ≤ x3_8.toInt := i_le.mp c_19
        exact J84 _ _ _ hG _ (lv_sub hl [0, 2] rfl) hE
      replace hE := (if_neg c_19).symm.trans hE
      have i_19 : x3_8.toInt < 6 := i_nle c_19
      refine lv_iload_n hx hb dX4_passHour_22 rfl (lv_at hl 1 rfl) ?_
      refine lv_iload_n hx hb dX4_passHour_23 rfl (lv_at hl 3 rfl) ?_
      refine lv_ishr hx hb dX4_passHour_24 ?_
      refine lv_iconst (v := 1) hx hb dX4_passHour_25 (by decide) ?_
      refine lv_iand hx hb dX4_passHour_26 ?_
      refine lv_iconst (v := 1) hx hb dX4_passHour_27 (by decide) ?_
      have J78 : ∀ (T_78 : Ob) (jk : (Nat → Nat → Int32)) (H : Heap) (locs : List Loc), gS g A s H locs (gW g bb tx rw sb dy (va_up tn o T_78) mo jk) → ∀ ls : Array Slot, lv_has ls 4 [(0, .ref (gA g (40 + 6 * o))), (1, .int p1), (2, .int (F_X4_strikesOf tx T p1)), (3, .int x3_8)] → tEv tx T_78 → F_X4_passHour_b78  (F_X4_passHour_l8 n ) tx T_78 p1 (F_X4_strikesOf tx T p1) x3_8 = EE → W p l e (rmL 7) s m [.ref (gA g (40 + 6 * o)), .int p1].toArray below meth c H locs 0 0 Q (F0 m 78 ls []) := by
        intro T_78 jk H locs hG ls hl hv78 hE
        unfold F_X4_passHour_b78 at hE
        refine lv_iinc (v := (x3_8 + 1)) (lv' := [(3, .int (x3_8 + 1)), (0, .ref (gA g (40 + 6 * o))), (1, .int p1), (2, .int (F_X4_strikesOf tx T p1))]) hx hb dX4_passHour_78 hl (k := 3) rfl rfl (by decide) rfl (fun ls hl => ?_)
        replace hl := lv_sub hl [1, 2, 3, 0] (l' := [(0, .ref (gA g (40 + 6 * o))), (1, .int p1), (2, .int (F_X4_strikesOf tx T p1)), (3, .int (x3_8 + 1))]) rfl
        refine lv_goto (tgt := 8) hx hb dX4_passHour_81 (by decide) ?_
        have e1 : (x3_8 + 1).toInt = x3_8.toInt + 1 := addL (k := 1) (by decide +kernel) (by clear hE; omega) (by clear hE; omega)
        exact ih8 (x3_8 + 1) T_78 _ _ _ hG _ (lv_sub hl [0, 1, 2, 3] rfl) (by clear hE; omega) (by clear hE; omega) (by clear hE; omega) hv78 hE
      refine lv_icmp_ne (tgt := 78) hx hb dX4_passHour_28 (by decide) (fun c_28 => ?_) (fun c_28 => ?_)
      · replace hE := (if_neg c_28).symm.trans hE
        have i_28 : ((p1 >>> (x3_8 &&& 31)) &&& 1).toInt ≠ 1 := fun h => c_28 (Int32.toInt_inj.mp h)
        exact J78 T_8 _ _ _ hG _ (lv_sub hl [0, 1, 2, 3] rfl) hv8 hE
      replace hE := (if_pos c_28).symm.trans hE
      have i_28 : ((p1 >>> (x3_8 &&& 31)) &&& 1).toInt = 1 := congrArg Int32.toInt c_28
      refine lv_aload_n hx hb dX4_passHour_31 rfl (lv_at hl 0 rfl) ?_
      refine g_get hx hb hts hiX4 hown hG (gw_Town ho (up_same _ _ _)) rfl 2 (by decide) (index := 18) tw_fl_RX4_18 (v := .ref (gA g (40 + 6 * o + 3))) rfl dX4_passHour_32 ?_
      refine lv_iload_n hx hb dX4_passHour_35 rfl (lv_at hl 3 rfl) ?_
      refine lv_iconst (v := 0) hx hb dX4_passHour_36 (by decide) ?_
      refine lv_bipush (v := 99) hx hb dX4_passHour_37 (by decide) ?_
      refine lv_aload_n hx hb dX4_passHour_39 rfl (lv_at hl 0 rfl) ?_
      refine g_get hx hb hts hiX4 hown hG (gw_Town ho (up_same _ _ _)) rfl 2 (by decide) (index := 18) tw_fl_RX4_18 (v := .ref (gA g (40 + 6 * o + 3))) rfl dX4_passHour_40 ?_
      refine lv_iload_n hx hb dX4_passHour_43 rfl (lv_at hl 3 rfl) ?_
      refine g_ild hx hb hG (gw_Town_a2 ho (up_same _ _ _)) (vp_i (by clear hE; omega) (by clear hE; omega)) dX4_passHour_44 ?_
      refine lv_aload_n hx hb dX4_passHour_45 rfl (lv_at hl 0 rfl) ?_
      refine lv_iload_n hx hb dX4_passHour_46 rfl (lv_at hl 3 rfl) ?_
      refine g_ci (g_runV (n := 1) (rest := [.int ((T_8.2 2) (Int32.toNatClampNeg x3_8)), .int 99, .int 0, .int x3_8, .ref (gA g (40 + 6 * o + 3))]) hx hb hml hown hts hG (c_X4_costOf ho (up_same _ _ _) x3_8 hv8) tw_ml_RX4_98 tw_im_X4_costOf tw_se_X4_costOf tw_in_RX4 tw_cd_X4_costOf (by decide +kernel) ⟨rfl, rfl, Nat.le_of_ble_eq_true rfl, Nat.le_of_ble_eq_true rfl⟩ (gw_Town ho (up_same _ _ _)) rfl rfl hl.1 rfl (Nat.le_of_ble_eq_true rfl) dX4_passHour_47 ⟨Nat.le_refl _, Nat.le_refl _⟩) hG hA (fun r jk H locs hp hG => ?_)
      subst hp
      replace hG : gS g A s H locs (gW g bb tx rw sb dy (va_up tn o T_8) mo jk) := hG
      refine lv_isub hx hb dX4_passHour_50 ?_
      refine g_min hx hb hml hl.1 hts hown tw_ml_RX4_70 tw_st_Mmin tw_in_RJ9 tw_cd_Mmin (Nat.le_of_ble_eq_true rfl) (Nat.le_of_ble_eq_true rfl) dX4_passHour_51 (kk := ?_)
      refine g_max hx hb hml hl.1 hts hown tw_ml_RX4_101 tw_st_Mmax tw_in_RJ9 tw_cd_Mmax (Nat.le_of_ble_eq_true rfl) (Nat.le_of_ble_eq_true rfl) dX4_passHour_54 (kk := ?_)
      refine g_ist hx hb hG (gw_Town_a2 ho (up_same _ _ _)) (vp_i (by clear hE; omega) (by clear hE; omega)) (gt_Town_a2 ho) dX4_passHour_57 (fun H locs hG => ?_)
      refine lv_aload_n hx hb dX4_passHour_58 rfl (lv_at hl 0 rfl) ?_
      refine g_get hx hb hts hiX4 hown hG (gw_Town ho (up_same _ _ _)) rfl 3 (by decide) (index := 21) tw_fl_RX4_21 (v := .ref (gA g (40 + 6 * o + 4))) rfl dX4_passHour_59 ?_
      refine lv_iload_n hx hb dX4_passHour_62 rfl (lv_at hl 3 rfl) ?_
      refine lv_sipush (v := 9999) hx hb dX4_passHour_63 (by decide) ?_
      refine lv_aload_n hx hb dX4_passHour_66 rfl (lv_at hl 0 rfl) ?_
      refine g_get hx hb hts hiX4 hown hG (gw_Town ho (up_same _ _ _)) rfl 3 (by decide) (index := 21) tw_fl_RX4_21 (v := .ref (gA g (40 + 6 * o + 4))) rfl dX4_passHour_67 ?_
      refine lv_iload_n hx hb dX4_passHour_70 rfl (lv_at hl 3 rfl) ?_
      refine g_ild hx hb hG (gw_Town_a3 ho (up_same _ _ _)) (vp_i (by clear hE; omega) (by clear hE; omega)) dX4_passHour_71 ?_
      refine lv_iconst (v := 1) hx hb dX4_passHour_72 (by decide) ?_
      refine lv_iadd hx hb dX4_passHour_73 ?_
      refine g_min hx hb hml hl.1 hts hown tw_ml_RX4_70 tw_st_Mmin tw_in_RJ9 tw_cd_Mmin (Nat.le_of_ble_eq_true rfl) (Nat.le_of_ble_eq_true rfl) dX4_passHour_74 (kk := ?_)
      refine g_ist hx hb hG (gw_Town_a3 ho (up_same _ _ _)) (vp_i (by clear hE; omega) (by clear hE; omega)) (gt_Town_a3 ho) dX4_passHour_77 (fun H locs hG => ?_)
      exact J78 (stA (stA T_8 2 x3_8 (jmax 0 (jmin 99 (((T_8.2 2) (Int32.toNatClampNeg x3_8)) - (F_X4_costOf tx T_8 x3_8))))) 3 x3_8 (jmin 9999 ((((stA T_8 2 x3_8 (jmax 0 (jmin 99 (((T_8.2 2) (Int32.toNatClampNeg x3_8)) - (F_X4_costOf tx T_8 x3_8))))).2 3) (Int32.toNatClampNeg x3_8)) + 1))) _ _ _ hG _ (lv_sub hl [0, 1, 2, 3] rfl) hv8 hE
  exact L8 7 0 T _ _ _ hG _ (lv_sub hl [0, 1, 2, 3] rfl) (by decide) (by decide) (by decide) hv hE
theorem passHour_l8 (tx : Nat → Ob) : ∀ (n : Nat) (T : Ob) (x1 x2 x3 : Int32), (F_X4_passHour_l8 n tx T x1 x2 x3).2.1 6 = T.1 6 ∧ (F_X4_passHour_l8 n tx T x1 x2 x3).2.1 11 = T.1 11 := by
  intro n
  induction n with
  | zero => intro T x1 x2 x3; exact ⟨rfl, rfl⟩
  | succ n ih =>
    intro T x1 x2 x3
    unfold F_X4_passHour_l8
    split
    · exact ⟨rfl, rfl⟩
    · split
      · exact ⟨rfl, rfl⟩
      · split
        · unfold F_X4_passHour_b78
          exact ih _ _ _ _
        · unfold F_X4_passHour_b78
          exact ih _ _ _ _
theorem tEv_passHour {tx : Nat → Ob} {T : Ob} (h : tEv tx T) (p : Int32) : tEv tx (F_X4_passHour tx T p).2 := by
  have k : (F_X4_passHour tx T p).2.1 6 = T.1 6 ∧ (F_X4_passHour tx T p).2.1 11 = T.1 11 := passHour_l8 tx _ _ _ _ _
  unfold tEv
  rw [k.1, k.2]
  exact h
def F_X4_passHours_c15 (K4 : (Nat → Ob) → Ob → Int32 → Int32 → Int32 → Int32 × Ob) (u : Int32 × Ob) (tx : Nat → Ob) (x1 : Int32) (x3 : Int32) (z0 : Int32) : Int32 × Ob :=
  (K4 tx u.2 x1 (z0 + u.1) (x3 + 1))
def F_X4_passHours_l4 : Nat → (Nat → Ob) → Ob → Int32 → Int32 → Int32 → Int32 × Ob
  | 0, _, T, _, _, _ => (0, T)
  | n + 1, tx, T, x1, x2, x3 =>
    (if x1 ≤ x3 then (x2, T) else (F_X4_passHours_c15 (F_X4_passHours_l4 n ) (F_X4_passHour tx T (F_X4_liars tx T)) tx x1 x3 x2))
def F_X4_passHours (tx : Nat → Ob) (T : Ob) (p1 : Int32) : Int32 × Ob :=
  (F_X4_passHours_l4 49  tx T p1 0 0)
set_option maxHeartbeats 4000000 in
set_option maxRecDepth 100000 in
theorem c_X4_passHours {l : Launch} {g : GG} {sz : Nat} {bb : Ob} {tx rw : Nat → Ob} {sb dy : Ob} {tn : Nat → Ob} {mo : Ob} {jk : Nat → Nat → Int32} {o : Nat} (ho : o < 3) {T : Ob} (hT : tn o = T) (p1 : Int32) (hv : tEv tx T) (hn : p1.toInt ≤ 48) : Met l yX4_passHours (Cond.code yX4_passHours cX4_passHours 4 (some .int) :: TT) (rmL 8) (va_Pc [.ref (gA g (40 + 6 * o)), .int p1] (gB g sz (gW g bb tx rw sb dy tn mo jk))) (va_Qi (fun r (u : Ob × (Nat → Nat → Int32)) => (F_X4_passHours tx T p1) = (r, u.1)) (fun u t => gC g (va_A (gW g bb tx rw sb dy tn mo jk) sz) (gW g bb tx rw sb dy (va_up tn o u.1) mo u.2) t) (va_A (gW g bb tx rw sb dy tn mo jk) sz)) 0 0 (va_A (gW g bb tx rw sb dy tn mo jk) sz) := by
  generalize hE : F_X4_passHours tx T p1 = EE
  refine g_of (Qf := fun A => (va_Qi (fun r (u : Ob × (Nat → Nat → Int32)) => EE = (r, u.1)) (fun u t => gC g A (gW g bb tx rw sb dy (va_up tn o u.1) mo u.2) t) A)) (cc := cX4_passHours) (maxL := 4) (ret := (some .int)) (by decide) (Nat.le_of_ble_eq_true rfl) ?_
  intro p e s m below meth c A ls hx hb hml hr hlocks hts hown hA hG hl
  replace hown : s.vm.findClass RX4 = some m.cls := hown
  replace hl : lv_has ls 4 [(0, .ref (gA g (40 + 6 * o))), (1, .int p1)] := hl
  show W p l e (rmL 8) s m [.ref (gA g (40 + 6 * o)), .int p1].toArray below meth c s.heap [] 0 0 (MQ below (va_Qi (fun r (u : Ob × (Nat → Nat → Int32)) => EE = (r, u.1)) (fun u t => gC g A (gW g bb tx rw sb dy (va_up tn o u.1) mo u.2) t) A) [.ref (gA g (40 + 6 * o)), .int p1].toArray s 0 0 A) (F0 m 0 ls [])
  generalize hQ : MQ below (va_Qi (fun r (u : Ob × (Nat → Nat → Int32)) => EE = (r, u.1)) (fun u t => gC g A (gW g bb tx rw sb dy (va_up tn o u.1) mo u.2) t) A) [.ref (gA g (40 + 6 * o)), .int p1].toArray s 0 0 A = Q
  replace hG : gS g A s s.heap [] (gW g bb tx rw sb dy (va_up tn o T) mo jk) := by simpa only [← hT, up_self] using hG
  unfold F_X4_passHours at hE
  refine lv_iconst (v := 0) hx hb dX4_passHours_0 (by decide) ?_
  refine lv_istore_n (lv' := [(2, .int 0), (0, .ref (gA g (40 + 6 * o))), (1, .int p1)]) hx hb dX4_passHours_1 rfl hl (by decide) rfl (fun ls hl => ?_)
  replace hl := lv_sub hl [1, 2, 0] (l' := [(0, .ref (gA g (40 + 6 * o))), (1, .int p1), (2, .int 0)]) rfl
  refine lv_iconst (v := 0) hx hb dX4_passHours_2 (by decide) ?_
  refine lv_istore_n (lv' := [(3, .int 0), (0, .ref (gA g (40 + 6 * o))), (1, .int p1), (2, .int 0)]) hx hb dX4_passHours_3 rfl hl (by decide) rfl (fun ls hl => ?_)
  replace hl := lv_sub hl [1, 2, 3, 0] (l' := [(0, .ref (gA g (40 + 6 * o))), (1, .int p1), (2, .int 0), (3, .int 0)]) rfl
  have L4 : ∀ (n : Nat) (x2_4 : Int32) (x3_4 : Int32) (T_4 : Ob) (jk : (Nat → Nat → Int32)) (H : Heap) (locs : List Loc), gS g A s H locs (gW g bb tx rw sb dy (va_up tn o T_4) mo jk) → ∀ ls : Array Slot, lv_has ls 4 [(0, .ref (gA g (40 + 6 * o))), (1, .int p1), (2, .int x2_4), (3, .int x3_4)] → 0 ≤ x3_4.toInt → x3_4.toInt ≤ 48 → 48 < x3_4.toInt + n → tEv tx T_4 → F_X4_passHours_l4 n  tx T_4 p1 x2_4 x3_4 = EE → W p l e (rmL 8) s m [.ref (gA g (40 + 6 * o)), .int p1].toArray below meth c H locs 0 0 Q (F0 m 4 ls []) := by
    intro n
    induction n with
    | zero =>
      intro x2_4 x3_4 T_4 jk H locs hG ls hl h0_4 h1_4 hm_4 hv4 hE
      omega
    | succ n ih4 =>
      intro x2_4 x3_4 T_4 jk H locs hG ls hl h0_4 h1_4 hm_4 hv4 hE
      unfold F_X4_passHours_l4 at hE
      refine lv_iload_n hx hb dX4_passHours_4 rfl (lv_at hl 3 rfl) ?_
      refine lv_iload_n hx hb dX4_passHours_5 rfl (lv_at hl 1 rfl) ?_
      refine lv_icmp_ge (tgt := 26) hx hb dX4_passHours_6 (by decide) (fun c_6 => ?_) (fun c_6 => ?_)
      · replace hE := (if_pos c_6).symm.trans hE
        have i_6 : p1.toInt ≤ x3_4.toInt := i_le.mp c_6
        refine lv_iload_n hx hb dX4_passHours_26 rfl (lv_at hl 2 rfl) ?_
        subst hQ
        exact g_iret hx hb hr hlocks hG ((T_4, jk) : Ob × (Nat → Nat → Int32)) rfl hE.symm dX4_passHours_27
      replace hE := (if_neg c_6).symm.trans hE
      have i_6 : x3_4.toInt < p1.toInt := i_nle c_6
      refine lv_iload_n hx hb dX4_passHours_9 rfl (lv_at hl 2 rfl) ?_
      refine lv_aload_n hx hb dX4_passHours_10 rfl (lv_at hl 0 rfl) ?_
      refine lv_aload_n hx hb dX4_passHours_11 rfl (lv_at hl 0 rfl) ?_
      refine g_ci (g_runV (n := 0) (rest := [.ref (gA g (40 + 6 * o)), .int x2_4]) hx hb hml hown hts hG (c_X4_liars ho (up_same _ _ _) hv4) tw_ml_RX4_105 tw_im_X4_liars tw_se_X4_liars tw_in_RX4 tw_cd_X4_liars (by decide +kernel) ⟨rfl, rfl, Nat.le_of_ble_eq_true rfl, Nat.le_of_ble_eq_true rfl⟩ (gw_Town ho (up_same _ _ _)) rfl rfl hl.1 rfl (Nat.le_of_ble_eq_true rfl) dX4_passHours_12 ⟨Nat.le_refl _, Nat.le_refl _⟩) hG hA (fun r jk H locs hp hG => ?_)
      subst hp
      replace hG : gS g A s H locs (gW g bb tx rw sb dy (va_up tn o T_4) mo jk) := hG
      refine g_ci (g_runV (n := 1) (rest := [.int x2_4]) hx hb hml hown hts hG (c_X4_passHour ho (up_same _ _ _) (F_X4_liars tx T_4) hv4) tw_ml_RX4_109 tw_im_X4_passHour tw_se_X4_passHour tw_in_RX4 tw_cd_X4_passHour (by decide +kernel) ⟨rfl, rfl, Nat.le_of_ble_eq_true rfl, Nat.le_of_ble_eq_true rfl⟩ (gw_Town ho (up_same _ _ _)) rfl rfl hl.1 rfl (Nat.le_of_ble_eq_true rfl) dX4_passHours_15 ⟨Nat.le_refl _, Nat.le_refl _⟩) hG hA (fun r_15 u H locs hp hG => ?_)
      obtain ⟨T_15, jk⟩ := u
      replace hG : gS g A s H locs (gW g bb tx rw sb dy (va_up tn o T_15) mo jk) := by simpa only [up_up] using hG
      have hp_15 := hp
      rw [hp] at hE
      unfold F_X4_passHours_c15 at hE
      try dsimp only at hE
      have hv15 : tEv tx T_15 := by
        have h := tEv_passHour hv4 (F_X4_liars tx T_4)
        rw [hp_15] at h; exact h
      refine lv_iadd hx hb dX4_passHours_18 ?_
      refine lv_istore_n (lv' := [(2, .int (x2_4 + r_15)), (0, .ref (gA g (40 + 6 * o))), (1, .int p1), (3, .int x3_4)]) hx hb dX4_passHours_19 rfl hl (by decide) rfl (fun ls hl => ?_)
      replace hl := lv_sub hl [1, 2, 0, 3] (l' := [(0, .ref (gA g (40 + 6 * o))), (1, .int p1), (2, .int (x2_4 + r_15)), (3, .int x3_4)]) rfl
      refine lv_iinc (v := (x3_4 + 1)) (lv' := [(3, .int (x3_4 + 1)), (0, .ref (gA g (40 + 6 * o))), (1, .int p1), (2, .int (x2_4 + r_15))]) hx hb dX4_passHours_20 hl (k := 3) rfl rfl (by decide) rfl (fun ls hl => ?_)
      replace hl := lv_sub hl [1, 2, 3, 0] (l' := [(0, .ref (gA g (40 + 6 * o))), (1, .int p1), (2, .int (x2_4 + r_15)), (3, .int (x3_4 + 1))]) rfl
      refine lv_goto (tgt := 4) hx hb dX4_passHours_23 (by decide) ?_
      have e1 : (x3_4 + 1).toInt = x3_4.toInt + 1 := addL (k := 1) (by decide +kernel) (by clear hE; omega) (by clear hE; omega)
      exact ih4 (x2_4 + r_15) (x3_4 + 1) T_15 _ _ _ hG _ (lv_sub hl [0, 1, 2, 3] rfl) (by clear hE; omega) (by clear hE; omega) (by clear hE; omega) hv15 hE
  exact L4 49 0 0 T _ _ _ hG _ (lv_sub hl [0, 1, 2, 3] rfl) (by decide) (by decide) (by decide) hv hE
