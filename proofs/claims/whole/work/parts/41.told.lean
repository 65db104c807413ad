def F_X6_sheetWrong (mo : Ob) (p1 : Int32) : Int32 :=
  (if (F_X6_in p1 0 3) = 0 then (-2) else (if ((mo.2 14) (Int32.toNatClampNeg p1)) = (-1) then (-11) else (if ((mo.2 15) (Int32.toNatClampNeg p1)) ≤ 24 then 0 else (-2))))
set_option maxHeartbeats 4000000 in
set_option maxRecDepth 100000 in
theorem c_X6_sheetWrong {l : Launch} {g : GG} {sz : Nat} {bb : Ob} {tx rw : Nat → Ob} {sb dy : Ob} {tn : Nat → Ob} {mo : Ob} {jk : Nat → Nat → Int32}  (p1 : Int32)  : Met l yX6_sheetWrong (Cond.code yX6_sheetWrong cX6_sheetWrong 2 (some .int) :: TT) (rmL (2)) (va_Pc [.ref (gA g 58), .int p1] (gB g sz (gW g bb tx rw sb dy tn mo jk))) (va_Qi (fun r (_ : Unit) => r = (F_X6_sheetWrong mo p1)) (fun u t => gC g (va_A (gW g bb tx rw sb dy tn mo jk) sz) (gW g bb tx rw sb dy tn mo jk) t) (va_A (gW g bb tx rw sb dy tn mo jk) sz)) 0 0 (va_A (gW g bb tx rw sb dy tn mo jk) sz) := by
  generalize hE : F_X6_sheetWrong mo p1 = EE
  refine g_of (Qf := fun A => (va_Qi (fun r (_ : Unit) => r = EE) (fun u t => gC g A (gW g bb tx rw sb dy tn mo jk) t) A)) (cc := cX6_sheetWrong) (maxL := 2) (ret := (some .int)) (by decide) (Nat.le_of_ble_eq_true rfl) ?_
  intro p e s m below meth c A ls hx hb hml hr hlocks hts hown hA hG hl
  replace hown : s.vm.findClass RX6 = some m.cls := hown
  replace hl : lv_has ls 2 [(0, .ref (gA g 58)), (1, .int p1)] := hl
  show W p l e (rmL (2)) s m [.ref (gA g 58), .int p1].toArray below meth c s.heap [] 0 0 (MQ below (va_Qi (fun r (_ : Unit) => r = EE) (fun u t => gC g A (gW g bb tx rw sb dy tn mo jk) t) A) [.ref (gA g 58), .int p1].toArray s 0 0 A) (F0 m 0 ls [])
  generalize hQ : MQ below (va_Qi (fun r (_ : Unit) => r = EE) (fun u t => gC g A (gW g bb tx rw sb dy tn mo jk) t) A) [.ref (gA g 58), .int p1].toArray s 0 0 A = Q
  unfold F_X6_sheetWrong at hE
  refine lv_iload_n hx hb dX6_sheetWrong_0 rfl (lv_at hl 1 rfl) ?_
  refine lv_iconst (v := 0) hx hb dX6_sheetWrong_1 (by decide) ?_
  refine lv_iconst (v := 3) hx hb dX6_sheetWrong_2 (by decide) ?_
  refine g_si (g_runS (n := 3) (rest := []) hx hb hml hown hts hG (c_X6_in p1 0 3) tw_ml_RX6_81 tw_st_X6_in tw_in_RX6 tw_cd_X6_in (by decide +kernel) ⟨rfl, rfl, Nat.le_of_ble_eq_true rfl, Nat.le_of_ble_eq_true rfl⟩ rfl hl.1 rfl (Nat.le_of_ble_eq_true rfl) dX6_sheetWrong_3 ⟨Nat.le_refl _, Nat.le_refl _⟩) hG hA (fun H locs hG => ?_)
  refine lv_if_ne (tgt := 12) hx hb dX6_sheetWrong_6 (by decide) (fun c_6 => ?_) (fun c_6 => ?_)
  · replace hE := (if_neg c_6).symm.trans hE
    have i_6 : 0 ≤ p1.toInt ∧ p1.toInt ≤ 3 := in_f c_6
    refine lv_aload_n hx hb dX6_sheetWrong_12 rfl (lv_at hl 0 rfl) ?_
    refine g_get hx hb hts hiX6 hown hG gw_Model rfl 14 (by decide) (index := 37) tw_fl_RX6_37 (v := .ref (gA g 68)) rfl dX6_sheetWrong_13 ?_
    refine lv_iload_n hx hb dX6_sheetWrong_16 rfl (lv_at hl 1 rfl) ?_
    refine g_ild (f := (mo.2 14)) hx hb hG gw_Model_a14 (show vp_in p1 4 from (vp_i (by clear hE; omega) (by clear hE; omega))) dX6_sheetWrong_17 ?_
    refine lv_iconst (v := (-1)) hx hb dX6_sheetWrong_18 (by decide) ?_
    refine lv_icmp_ne (tgt := 25) hx hb dX6_sheetWrong_19 (by decide) (fun c_19 => ?_) (fun c_19 => ?_)
    · replace hE := (if_neg c_19).symm.trans hE
      have i_19 : ((mo.2 14) (Int32.toNatClampNeg p1)).toInt ≠ (-1) := fun h => c_19 (Int32.toInt_inj.mp h)
      refine lv_aload_n hx hb dX6_sheetWrong_25 rfl (lv_at hl 0 rfl) ?_
      refine g_get hx hb hts hiX6 hown hG gw_Model rfl 15 (by decide) (index := 40) tw_fl_RX6_40 (v := .ref (gA g 69)) rfl dX6_sheetWrong_26 ?_
      refine lv_iload_n hx hb dX6_sheetWrong_29 rfl (lv_at hl 1 rfl) ?_
      refine g_ild (f := (mo.2 15)) hx hb hG gw_Model_a15 (show vp_in p1 4 from (vp_i (by clear hE; omega) (by clear hE; omega))) dX6_sheetWrong_30 ?_
      refine lv_bipush (v := 24) hx hb dX6_sheetWrong_31 (by decide) ?_
      refine lv_icmp_le (tgt := 41) hx hb dX6_sheetWrong_33 (by decide) (fun c_33 => ?_) (fun c_33 => ?_)
      · replace hE := (if_pos c_33).symm.trans hE
        have i_33 : ((mo.2 15) (Int32.toNatClampNeg p1)).toInt ≤ 24 := i_le.mp c_33
        refine lv_iconst (v := 0) hx hb dX6_sheetWrong_41 (by decide) ?_
        subst hQ
        exact g_iret hx hb hr hlocks hG () rfl hE dX6_sheetWrong_42
      replace hE := (if_neg c_33).symm.trans hE
      have i_33 : 24 < ((mo.2 15) (Int32.toNatClampNeg p1)).toInt := i_nle c_33
      refine lv_bipush (v := (-2)) hx hb dX6_sheetWrong_36 (by decide) ?_
      refine lv_goto (tgt := 42) hx hb dX6_sheetWrong_38 (by decide) ?_
      subst hQ
      exact g_iret hx hb hr hlocks hG () rfl hE dX6_sheetWrong_42
    replace hE := (if_pos c_19).symm.trans hE
    have i_19 : ((mo.2 14) (Int32.toNatClampNeg p1)).toInt = (-1) := congrArg Int32.toInt c_19
    refine lv_bipush (v := (-11)) hx hb dX6_sheetWrong_22 (by decide) ?_
    subst hQ
    exact g_iret hx hb hr hlocks hG () rfl hE dX6_sheetWrong_24
  replace hE := (if_pos c_6).symm.trans hE
  refine lv_bipush (v := (-2)) hx hb dX6_sheetWrong_9 (by decide) ?_
  subst hQ
  exact g_iret hx hb hr hlocks hG () rfl hE dX6_sheetWrong_11
theorem sheetWrong_f {m : Ob} {p : Int32} (h : F_X6_sheetWrong m p = 0) : (0 ≤ p.toInt ∧ p.toInt ≤ 3) ∧ ((m.2 15) (Int32.toNatClampNeg p)).toInt ≤ 24 := by
  unfold F_X6_sheetWrong at h
  split at h
  · exact absurd h (by decide)
  · rename_i c
    have k := in_f c
    split at h
    · exact absurd h (by decide)
    · split at h
      · rename_i d
        exact ⟨k, i_le.mp d⟩
      · exact absurd h (by decide)

def F_X6_unlike_c54 (u : Ob) (x2 : Int32) : Int32 × Ob :=
  (x2, u)
def F_X6_unlike_b53 (mo : Ob) (x2 : Int32) : Int32 × Ob :=
  (F_X6_unlike_c54 (F_X6_lays mo) x2)
def F_X6_unlike_b46 (K8 : Ob → Int32 → Int32 → Int32 → Int32 × Ob) (mo : Ob) (x1 : Int32) (x3 : Int32) (z0 : Int32) : Int32 × Ob :=
  (K8 mo x1 z0 (x3 + 1))
def F_X6_unlike_c35 (K8 : Ob → Int32 → Int32 → Int32 → Int32 × Ob) (u : Int32 × Ob) (x1 : Int32) (x3 : Int32) (z0 : Int32) : Int32 × Ob :=
  (if z0 = u.1 then (F_X6_unlike_b46 K8 u.2 x1 x3 (-1)) else (F_X6_unlike_b46 K8 u.2 x1 x3 x3))
def F_X6_unlike_l8 : Nat → Ob → Int32 → Int32 → Int32 → Int32 × Ob
  | 0, mo, _, _, _ => (0, mo)
  | n + 1, mo, x1, x2, x3 =>
    (if ((mo.2 15) (Int32.toNatClampNeg x1)) ≤ x3 then (F_X6_unlike_b53  mo x2) else (if x2 = (-1) then (F_X6_unlike_c35 (F_X6_unlike_l8 n ) (F_X6_hourOf mo) x1 x3 ((mo.2 16) (Int32.toNatClampNeg ((40 * x1) + x3)))) else (F_X6_unlike_b53  mo x2)))
def F_X6_unlike_c3 (u : Ob) (x1 : Int32) (x2 : Int32) : Int32 × Ob :=
  (F_X6_unlike_l8 41  u x1 x2 0)
def F_X6_unlike (mo : Ob) (p1 : Int32) : Int32 × Ob :=
  (F_X6_unlike_c3 (F_X6_keeps mo) p1 (-1))
set_option maxHeartbeats 4000000 in
set_option maxRecDepth 100000 in
theorem c_X6_unlike {l : Launch} {g : GG} {sz : Nat} {bb : Ob} {tx rw : Nat → Ob} {sb dy : Ob} {tn : Nat → Ob} {mo : Ob} {jk : Nat → Nat → Int32}  (p1 : Int32) (hv : mEv mo) (hs : 0 ≤ p1.toInt ∧ p1.toInt < 4) (hz : ((mo.2 15) (Int32.toNatClampNeg p1)).toInt ≤ 40) : Met l yX6_unlike (Cond.code yX6_unlike cX6_unlike 4 (some .int) :: TT) (rmL (7)) (va_Pc [.ref (gA g 58), .int p1] (gB g sz (gW g bb tx rw sb dy tn mo jk))) (va_Qi (fun r (u : Ob × (Nat → Nat → Int32)) => (F_X6_unlike mo p1) = (r, u.1)) (fun u t => gC g (va_A (gW g bb tx rw sb dy tn mo jk) sz) (gW g bb tx rw sb dy tn u.1 u.2) t) (va_A (gW g bb tx rw sb dy tn mo jk) sz)) 0 0 (va_A (gW g bb tx rw sb dy tn mo jk) sz) := by
  generalize hE : F_X6_unlike mo p1 = EE
  refine g_of (Qf := fun A => (va_Qi (fun r (u : Ob × (Nat → Nat → Int32)) => EE = (r, u.1)) (fun u t => gC g A (gW g bb tx rw sb dy tn u.1 u.2) t) A)) (cc := cX6_unlike) (maxL := 4) (ret := (some .int)) (by decide) (Nat.le_of_ble_eq_true rfl) ?_
  intro p e s m below meth c A ls hx hb hml hr hlocks hts hown hA hG hl
  replace hown : s.vm.findClass RX6 = some m.cls := hown
  replace hl : lv_has ls 4 [(0, .ref (gA g 58)), (1, .int p1)] := hl
  show W p l e (rmL (7)) s m [.ref (gA g 58), .int p1].toArray below meth c s.heap [] 0 0 (MQ below (va_Qi (fun r (u : Ob × (Nat → Nat → Int32)) => EE = (r, u.1)) (fun u t => gC g A (gW g bb tx rw sb dy tn u.1 u.2) t) A) [.ref (gA g 58), .int p1].toArray s 0 0 A) (F0 m 0 ls [])
  generalize hQ : MQ below (va_Qi (fun r (u : Ob × (Nat → Nat → Int32)) => EE = (r, u.1)) (fun u t => gC g A (gW g bb tx rw sb dy tn u.1 u.2) t) A) [.ref (gA g 58), .int p1].toArray s 0 0 A = Q
  unfold F_X6_unlike at hE
  refine lv_iconst (v := (-1)) hx hb dX6_unlike_0 (by decide) ?_
  refine lv_istore_n (lv' := [(2, .int (-1)), (0, .ref (gA g 58)), (1, .int p1)]) hx hb dX6_unlike_1 rfl hl (by decide) rfl (fun ls hl => ?_)
  replace hl := lv_sub hl [1, 2, 0] (l' := [(0, .ref (gA g 58)), (1, .int p1), (2, .int (-1))]) rfl
  refine lv_aload_n hx hb dX6_unlike_2 rfl (lv_at hl 0 rfl) ?_
  refine g_cv (g_runV (n := 0) (rest := []) hx hb hml hown hts hG (c_X6_keeps) tw_ml_RX6_199 tw_im_X6_keeps tw_se_X6_keeps tw_in_RX6 tw_cd_X6_keeps (by decide +kernel) ⟨rfl, rfl, Nat.le_of_ble_eq_true rfl, Nat.le_of_ble_eq_true rfl⟩ gw_Model rfl rfl hl.1 rfl (Nat.le_of_ble_eq_true rfl) dX6_unlike_3 ⟨Nat.le_refl _, Nat.le_refl _⟩) hG hA (fun u H locs hp hG => ?_)
  obtain ⟨mo_3, rfl⟩ : ∃ z, z = u := ⟨u, rfl⟩
  replace hG : gS g A s H locs (gW g bb tx rw sb dy tn mo_3 jk) := by simpa only [up_up] using hG
  have hp_3 := hp
  rw [hp] at hE
  unfold F_X6_unlike_c3 at hE
  try dsimp only at hE
  have hv3 : mEv mo_3 := (keeps_hR hp_3).mEv hv
  have hz3 : ((mo_3.2 15) (Int32.toNatClampNeg p1)).toInt ≤ 40 := by rw [(keeps_hR hp_3).2 15 (by decide) (by decide) (by decide)]; exact hz
  refine lv_iconst (v := 0) hx hb dX6_unlike_6 (by decide) ?_
  refine lv_istore_n (lv' := [(3, .int 0), (0, .ref (gA g 58)), (1, .int p1), (2, .int (-1))]) hx hb dX6_unlike_7 rfl hl (by decide) rfl (fun ls hl => ?_)
  replace hl := lv_sub hl [1, 2, 3, 0] (l' := [(0, .ref (gA g 58)), (1, .int p1), (2, .int (-1)), (3, .int 0)]) rfl
  have L8 : ∀ (n8 : Nat) (x2_8 : Int32) (x3_8 : Int32) (mo_8 : Ob) (jk : (Nat → Nat → Int32)) (H : Heap) (locs : List Loc), gS g A s H locs (gW g bb tx rw sb dy tn mo_8 jk) → ∀ ls : Array Slot, lv_has ls 4 [(0, .ref (gA g 58)), (1, .int p1), (2, .int x2_8), (3, .int x3_8)] → 0 ≤ x3_8.toInt → x3_8.toInt ≤ 40 → 40 < x3_8.toInt + n8 → mEv mo_8 → ((mo_8.2 15) (Int32.toNatClampNeg p1)).toInt ≤ 40 → F_X6_unlike_l8 n8  mo_8 p1 x2_8 x3_8 = EE → W p l e (rmL (7)) s m [.ref (gA g 58), .int p1].toArray below meth c H locs 0 0 Q (F0 m 8 ls []) := by
    intro n8
    induction n8 with
    | zero =>
      intro x2_8 x3_8 mo_8 jk H locs hG ls hl h0_8 h1_8 hm_8 hv8 hz8 hE
      clear hE; omega
    | succ n8 ih8 =>
      intro x2_8 x3_8 mo_8 jk H locs hG ls hl h0_8 h1_8 hm_8 hv8 hz8 hE
      unfold F_X6_unlike_l8 at hE
      refine lv_iload_n hx hb dX6_unlike_8 rfl (lv_at hl 3 rfl) ?_
      refine lv_aload_n hx hb dX6_unlike_9 rfl (lv_at hl 0 rfl) ?_
      refine g_get hx hb hts hiX6 hown hG gw_Model rfl 15 (by decide) (index := 40) tw_fl_RX6_40 (v := .ref (gA g 69)) rfl dX6_unlike_10 ?_
      refine lv_iload_n hx hb dX6_unlike_13 rfl (lv_at hl 1 rfl) ?_
      refine g_ild (f := (mo_8.2 15)) hx hb hG gw_Model_a15 (show vp_in p1 4 from (vp_i (by clear hE; omega) (by clear hE; omega))) dX6_unlike_14 ?_
      have J53 : ∀  (jk : (Nat → Nat → Int32)) (H : Heap) (locs : List Loc), gS g A s H locs (gW g bb tx rw sb dy tn mo_8 jk) → ∀ ls : Array Slot, lv_has ls 4 [(0, .ref (gA g 58)), (2, .int x2_8)] → F_X6_unlike_b53   mo_8 x2_8 = EE → W p l e (rmL (7)) s m [.ref (gA g 58), .int p1].toArray below meth c H locs 0 0 Q (F0 m 53 ls []) := by
        intro  jk H locs hG ls hl  hE
        unfold F_X6_unlike_b53 at hE
        refine lv_aload_n hx hb dX6_unlike_53 rfl (lv_at hl 0 rfl) ?_
        refine g_cv (g_runV (n := 0) (rest := []) hx hb hml hown hts hG (c_X6_lays) tw_ml_RX6_205 tw_im_X6_lays tw_se_X6_lays tw_in_RX6 tw_cd_X6_lays (by decide +kernel) ⟨rfl, rfl, Nat.le_of_ble_eq_true rfl, Nat.le_of_ble_eq_true rfl⟩ gw_Model rfl rfl hl.1 rfl (Nat.le_of_ble_eq_true rfl) dX6_unlike_54 ⟨Nat.le_refl _, Nat.le_refl _⟩) hG hA (fun u H locs hp hG => ?_)
        obtain ⟨mo_54, rfl⟩ : ∃ z, z = u := ⟨u, rfl⟩
        replace hG : gS g A s H locs (gW g bb tx rw sb dy tn mo_54 jk) := by simpa only [up_up] using hG
        have hp_54 := hp
        rw [hp] at hE
        unfold F_X6_unlike_c54 at hE
        try dsimp only at hE
        refine lv_iload_n hx hb dX6_unlike_57 rfl (lv_at hl 1 rfl) ?_
        subst hQ
        exact g_iret hx hb hr hlocks hG ((mo_54, jk) : Ob × (Nat → Nat → Int32)) rfl hE.symm dX6_unlike_58
      refine lv_icmp_ge (tgt := 53) hx hb dX6_unlike_15 (by decide) (fun c_15 => ?_) (fun c_15 => ?_)
      · replace hE := (if_pos c_15).symm.trans hE
        have i_15 : ((mo_8.2 15) (Int32.toNatClampNeg p1)).toInt ≤ x3_8.toInt := i_le.mp c_15
        exact J53 _ _ _ hG _ (lv_sub hl [0, 2] rfl) hE
      replace hE := (if_neg c_15).symm.trans hE
      have i_15 : x3_8.toInt < ((mo_8.2 15) (Int32.toNatClampNeg p1)).toInt := i_nle c_15
      refine lv_iload_n hx hb dX6_unlike_18 rfl (lv_at hl 2 rfl) ?_
      refine lv_iconst (v := (-1)) hx hb dX6_unlike_19 (by decide) ?_
      refine lv_icmp_ne (tgt := 53) hx hb dX6_unlike_20 (by decide) (fun c_20 => ?_) (fun c_20 => ?_)
      · replace hE := (if_neg c_20).symm.trans hE
        have i_20 : x2_8.toInt ≠ (-1) := fun h => c_20 (Int32.toInt_inj.mp h)
        exact J53 _ _ _ hG _ (lv_sub hl [0, 2] rfl) hE
      replace hE := (if_pos c_20).symm.trans hE
      have i_20 : x2_8.toInt = (-1) := congrArg Int32.toInt c_20
      refine lv_aload_n hx hb dX6_unlike_23 rfl (lv_at hl 0 rfl) ?_
      refine g_get hx hb hts hiX6 hown hG gw_Model rfl 16 (by decide) (index := 43) tw_fl_RX6_43 (v := .ref (gA g 70)) rfl dX6_unlike_24 ?_
      refine lv_bipush (v := 40) hx hb dX6_unlike_27 (by decide) ?_
      refine lv_iload_n hx hb dX6_unlike_29 rfl (lv_at hl 1 rfl) ?_
      refine lv_imul hx hb dX6_unlike_30 ?_
      refine lv_iload_n hx hb dX6_unlike_31 rfl (lv_at hl 3 rfl) ?_
      refine lv_iadd hx hb dX6_unlike_32 ?_
      have e1 : (40 * p1).toInt = 40 * p1.toInt := mulL (k := 40) (by decide +kernel) (by clear hE; omega) (by clear hE; omega)
      have e2 : ((40 * p1) + x3_8).toInt = (40 * p1).toInt + x3_8.toInt := fb_addI (by clear hE; omega) (by clear hE; omega)
      refine g_ild (f := (mo_8.2 16)) hx hb hG gw_Model_a16 (show vp_in ((40 * p1) + x3_8) 160 from (vp_i (by clear hE; omega) (by clear hE; omega))) dX6_unlike_33 ?_
      refine lv_aload_n hx hb dX6_unlike_34 rfl (lv_at hl 0 rfl) ?_
      refine g_ci (g_runV (n := 0) (rest := [.int ((mo_8.2 16) (Int32.toNatClampNeg ((40 * p1) + x3_8)))]) hx hb hml hown hts hG (c_X6_hourOf hv8) tw_ml_RX6_196 tw_im_X6_hourOf tw_se_X6_hourOf tw_in_RX6 tw_cd_X6_hourOf (by decide +kernel) ⟨rfl, rfl, Nat.le_of_ble_eq_true rfl, Nat.le_of_ble_eq_true rfl⟩ gw_Model rfl rfl hl.1 rfl (Nat.le_of_ble_eq_true rfl) dX6_unlike_35 ⟨Nat.le_refl _, Nat.le_refl _⟩) hG hA (fun r_35 u H locs hp hG => ?_)
      obtain ⟨mo_35, jk⟩ := u
      replace hG : gS g A s H locs (gW g bb tx rw sb dy tn mo_35 jk) := by simpa only [up_up] using hG
      have hp_35 := hp
      rw [hp] at hE
      unfold F_X6_unlike_c35 at hE
      try dsimp only at hE
      have hv35 : mEv mo_35 := hR.mEv (hourOf_hR hp_35) hv8
      have hz35 : ((mo_35.2 15) (Int32.toNatClampNeg p1)).toInt ≤ 40 := by rw [(hourOf_hR hp_35).2 15 (by decide) (by decide) (by decide)]; exact hz8
      have J46 : ∀ (z0_46 : Int32) (jk : (Nat → Nat → Int32)) (H : Heap) (locs : List Loc), gS g A s H locs (gW g bb tx rw sb dy tn mo_35 jk) → ∀ ls : Array Slot, lv_has ls 4 [(0, .ref (gA g 58)), (1, .int p1), (3, .int x3_8)] → F_X6_unlike_b46  (F_X6_unlike_l8 n8 ) mo_35 p1 x3_8 z0_46 = EE → W p l e (rmL (7)) s m [.ref (gA g 58), .int p1].toArray below meth c H locs 0 0 Q (F0 m 46 ls [.int z0_46]) := by
        intro z0_46 jk H locs hG ls hl  hE
        unfold F_X6_unlike_b46 at hE
        refine lv_istore_n (lv' := [(2, .int z0_46), (0, .ref (gA g 58)), (1, .int p1), (3, .int x3_8)]) hx hb dX6_unlike_46 rfl hl (by decide) rfl (fun ls hl => ?_)
        replace hl := lv_sub hl [1, 2, 0, 3] (l' := [(0, .ref (gA g 58)), (1, .int p1), (2, .int z0_46), (3, .int x3_8)]) rfl
        refine lv_iinc (v := (x3_8 + 1)) (lv' := [(3, .int (x3_8 + 1)), (0, .ref (gA g 58)), (1, .int p1), (2, .int z0_46)]) hx hb dX6_unlike_47 hl (k := 3) rfl rfl (by decide) rfl (fun ls hl => ?_)
        replace hl := lv_sub hl [1, 2, 3, 0] (l' := [(0, .ref (gA g 58)), (1, .int p1), (2, .int z0_46), (3, .int (x3_8 + 1))]) rfl
        refine lv_goto (tgt := 8) hx hb dX6_unlike_50 (by decide) ?_
        have e3 : (x3_8 + 1).toInt = x3_8.toInt + 1 := addL (k := 1) (by decide +kernel) (by clear hE; omega) (by clear hE; omega)
        exact ih8 z0_46 (x3_8 + 1) mo_35 _ _ _ hG _ (lv_sub hl [0, 1, 2, 3] rfl) (by clear hE; omega) (by clear hE; omega) (by clear hE; omega) hv35 hz35 hE
      refine lv_icmp_ne (tgt := 45) hx hb dX6_unlike_38 (by decide) (fun c_38 => ?_) (fun c_38 => ?_)
      · replace hE := (if_neg c_38).symm.trans hE
        have i_38 : ((mo_8.2 16) (Int32.toNatClampNeg ((40 * p1) + x3_8))).toInt ≠ r_35.toInt := fun h => c_38 (Int32.toInt_inj.mp h)
        refine lv_iload_n hx hb dX6_unlike_45 rfl (lv_at hl 3 rfl) ?_
        exact J46 x3_8 _ _ _ hG _ (lv_sub hl [0, 1, 3] rfl) hE
      replace hE := (if_pos c_38).symm.trans hE
      have i_38 : ((mo_8.2 16) (Int32.toNatClampNeg ((40 * p1) + x3_8))).toInt = r_35.toInt := congrArg Int32.toInt c_38
      refine lv_iconst (v := (-1)) hx hb dX6_unlike_41 (by decide) ?_
      refine lv_goto (tgt := 46) hx hb dX6_unlike_42 (by decide) ?_
      exact J46 (-1) _ _ _ hG _ (lv_sub hl [0, 1, 3] rfl) hE
  exact L8 41 (-1) 0 mo_3 _ _ _ hG _ (lv_sub hl [0, 1, 2, 3] rfl) (by decide) (by decide) (by decide) hv3 hz3 hE
theorem unlike_hR {m r : Ob} {v p : Int32} (hp : F_X6_unlike m p = (v, r)) : hR m r := by
  have k53 : ∀ (r : Ob) (x : Int32), hR m r → hR m (F_X6_unlike_b53 r x).2 := fun r x h => h.trans (lays_hR rfl)
  have k : ∀ (n : Nat) (r : Ob) (x1 x2 x3 : Int32), hR m r → hR m (F_X6_unlike_l8 n r x1 x2 x3).2 := by
    intro n
    induction n with
    | zero => intro r x1 x2 x3 h; exact h
    | succ n ih =>
      intro r x1 x2 x3 h
      unfold F_X6_unlike_l8
      split
      · exact k53 _ _ h
      · split
        · have q := h.trans (hourOf_hR (v := (F_X6_hourOf r).1) rfl)
          unfold F_X6_unlike_c35
          split
          · exact ih _ _ _ _ q
          · exact ih _ _ _ _ q
        · exact k53 _ _ h
  have e : r = (F_X6_unlike m p).2 := by rw [hp]
  rw [e]
  unfold F_X6_unlike F_X6_unlike_c3
  exact k 41 _ _ _ _ (keeps_hR rfl)
/-- what the trying of laws asks -/
def lEv (m : Ob) : Prop := (0 ≤ (m.1 0).toInt ∧ (m.1 0).toInt ≤ 6) ∧ (0 ≤ (m.1 9).toInt ∧ (m.1 9).toInt ≤ 6) ∧ ∀ t : Int32, 0 ≤ t.toInt → t.toInt < (m.1 9).toInt → wfM m t
theorem lEv.mEv {m : Ob} (h : lEv m) {t : Int32} (h0 : 0 ≤ t.toInt) (h1 : t.toInt < (m.1 9).toInt) : mEv (setS m 10 t) := ⟨h.1, ⟨h0, by have := h.2.1; show t.toInt ≤ 5; omega⟩, h.2.2 t h0 h1⟩
theorem lEv.s10 {m : Ob} (h : lEv m) {t : Int32} : lEv (setS m 10 t) := ⟨h.1, h.2.1, h.2.2⟩
theorem hR.lEv {m r : Ob} (k : hR m r) (h : lEv m) : lEv r := by
  have e0 := k.1 0 (by decide)
  have e9 := k.1 9 (by decide)
  have e7 := k.2 7 (by decide) (by decide) (by decide)
  have e8 := k.2 8 (by decide) (by decide) (by decide)
  refine ⟨by rw [e0]; exact h.1, by rw [e9]; exact h.2.1, fun t h0 h1 => ?_⟩
  rw [e9] at h1
  have z := h.2.2 t h0 h1
  unfold wfM at z ⊢
  rw [e7, e8]
  exact z

def F_X6_judge_c12 (u : Int32 × Ob) : Int32 × Ob :=
  (u.1, u.2)
def F_X6_judge (mo : Ob) (p1 : Int32) : Int32 × Ob :=
  (if (F_X6_sheetWrong mo p1) = 0 then (F_X6_judge_c12 (F_X6_unlike mo p1)) else ((F_X6_sheetWrong mo p1), mo))
set_option maxHeartbeats 4000000 in
set_option maxRecDepth 100000 in
theorem c_X6_judge {l : Launch} {g : GG} {sz : Nat} {bb : Ob} {tx rw : Nat → Ob} {sb dy : Ob} {tn : Nat → Ob} {mo : Ob} {jk : Nat → Nat → Int32}  (p1 : Int32) (hv : mEv mo) : Met l yX6_judge (Cond.code yX6_judge cX6_judge 3 (some .int) :: TT) (rmL (8)) (va_Pc [.ref (gA g 58), .int p1] (gB g sz (gW g bb tx rw sb dy tn mo jk))) (va_Qi (fun r (u : Ob × (Nat → Nat → Int32)) => (F_X6_judge mo p1) = (r, u.1)) (fun u t => gC g (va_A (gW g bb tx rw sb dy tn mo jk) sz) (gW g bb tx rw sb dy tn u.1 u.2) t) (va_A (gW g bb tx rw sb dy tn mo jk) sz)) 0 0 (va_A (gW g bb tx rw sb dy tn mo jk) sz) := by
  generalize hE : F_X6_judge mo p1 = EE
  refine g_of (Qf := fun A => (va_Qi (fun r (u : Ob × (Nat → Nat → Int32)) => EE = (r, u.1)) (fun u t => gC g A (gW g bb tx rw sb dy tn u.1 u.2) t) A)) (cc := cX6_judge) (maxL := 3) (ret := (some .int)) (by decide) (Nat.le_of_ble_eq_true rfl) ?_
  intro p e s m below meth c A ls hx hb hml hr hlocks hts hown hA hG hl
  replace hown : s.vm.findClass RX6 = some m.cls := hown
  replace hl : lv_has ls 3 [(0, .ref (gA g 58)), (1, .int p1)] := hl
  show W p l e (rmL (8)) s m [.ref (gA g 58), .int p1].toArray below meth c s.heap [] 0 0 (MQ below (va_Qi (fun r (u : Ob × (Nat → Nat → Int32)) => EE = (r, u.1)) (fun u t => gC g A (gW g bb tx rw sb dy tn u.1 u.2) t) A) [.ref (gA g 58), .int p1].toArray s 0 0 A) (F0 m 0 ls [])
  generalize hQ : MQ below (va_Qi (fun r (u : Ob × (Nat → Nat → Int32)) => EE = (r, u.1)) (fun u t => gC g A (gW g bb tx rw sb dy tn u.1 u.2) t) A) [.ref (gA g 58), .int p1].toArray s 0 0 A = Q
  unfold F_X6_judge at hE
  refine lv_aload_n hx hb dX6_judge_0 rfl (lv_at hl 0 rfl) ?_
  refine lv_iload_n hx hb dX6_judge_1 rfl (lv_at hl 1 rfl) ?_
  refine g_ci (g_runV (n := 1) (rest := []) hx hb hml hown hts hG (c_X6_sheetWrong p1) tw_ml_RX6_235 tw_im_X6_sheetWrong tw_se_X6_sheetWrong tw_in_RX6 tw_cd_X6_sheetWrong (by decide +kernel) ⟨rfl, rfl, Nat.le_of_ble_eq_true rfl, Nat.le_of_ble_eq_true rfl⟩ gw_Model rfl rfl hl.1 rfl (Nat.le_of_ble_eq_true rfl) dX6_judge_2 ⟨Nat.le_refl _, Nat.le_refl _⟩) hG hA (fun r _ H locs hp hG => ?_)
  subst hp
  replace hG : gS g A s H locs (gW g bb tx rw sb dy tn mo jk) := hG
  refine lv_istore_n (lv' := [(2, .int (F_X6_sheetWrong mo p1)), (0, .ref (gA g 58)), (1, .int p1)]) hx hb dX6_judge_5 rfl hl (by decide) rfl (fun ls hl => ?_)
  replace hl := lv_sub hl [1, 2, 0] (l' := [(0, .ref (gA g 58)), (1, .int p1), (2, .int (F_X6_sheetWrong mo p1))]) rfl
  refine lv_iload_n hx hb dX6_judge_6 rfl (lv_at hl 2 rfl) ?_
  refine lv_if_ne (tgt := 18) hx hb dX6_judge_7 (by decide) (fun c_7 => ?_) (fun c_7 => ?_)
  · replace hE := (if_neg c_7).symm.trans hE
    refine lv_iload_n hx hb dX6_judge_18 rfl (lv_at hl 2 rfl) ?_
    subst hQ
    exact g_iret hx hb hr hlocks hG ((mo, jk) : Ob × (Nat → Nat → Int32)) rfl hE.symm dX6_judge_19
  replace hE := (if_pos c_7).symm.trans hE
  have i_7 := sheetWrong_f c_7
  refine lv_aload_n hx hb dX6_judge_10 rfl (lv_at hl 0 rfl) ?_
  refine lv_iload_n hx hb dX6_judge_11 rfl (lv_at hl 1 rfl) ?_
  refine g_ci (g_runV (n := 1) (rest := []) hx hb hml hown hts hG (c_X6_unlike p1 hv (by clear hE; omega) (show _ ≤ _ from Int.le_trans i_7.2 (by decide))) tw_ml_RX6_238 tw_im_X6_unlike tw_se_X6_unlike tw_in_RX6 tw_cd_X6_unlike (by decide +kernel) ⟨rfl, rfl, Nat.le_of_ble_eq_true rfl, Nat.le_of_ble_eq_true rfl⟩ gw_Model rfl rfl hl.1 rfl (Nat.le_of_ble_eq_true rfl) dX6_judge_12 ⟨Nat.le_refl _, Nat.le_refl _⟩) hG hA (fun r_12 u H locs hp hG => ?_)
  obtain ⟨mo_12, jk⟩ := u
  replace hG : gS g A s H locs (gW g bb tx rw sb dy tn mo_12 jk) := by simpa only [up_up] using hG
  have hp_12 := hp
  rw [hp] at hE
  unfold F_X6_judge_c12 at hE
  try dsimp only at hE
  refine lv_goto (tgt := 19) hx hb dX6_judge_15 (by decide) ?_
  subst hQ
  exact g_iret hx hb hr hlocks hG ((mo_12, jk) : Ob × (Nat → Nat → Int32)) rfl hE.symm dX6_judge_19
def F_X6_kinds_b130 (K60 : Ob → Int32 → Int32 → Int32 → Int32 → Int32 → Int32 → Int32 → Int32 × Ob) (mo : Ob) (x1 : Int32) (x2 : Int32) (x3 : Int32) (x5 : Int32) (x6 : Int32) (x8 : Int32) (z0 : Int32) (z1 : Int32) : Int32 × Ob :=
  (K60 mo x1 x2 x3 x5 x6 (z0 ||| z1) (x8 + 1))
def F_X6_kinds_c115 (K60 : Ob → Int32 → Int32 → Int32 → Int32 → Int32 → Int32 → Int32 → Int32 × Ob) (u : Int32 × Ob) (x1 : Int32) (x2 : Int32) (x3 : Int32) (x5 : Int32) (x6 : Int32) (x8 : Int32) (z0 : Int32) : Int32 × Ob :=
  (if u.1 = (-1) then (F_X6_kinds_b130 K60 u.2 x1 x2 x3 x5 x6 x8 z0 (1 <<< (x8 &&& 31))) else (F_X6_kinds_b130 K60 u.2 x1 x2 x3 x5 x6 x8 z0 0))
def F_X6_kinds_b110 (K60 : Ob → Int32 → Int32 → Int32 → Int32 → Int32 → Int32 → Int32 → Int32 × Ob) (mo : Ob) (x1 : Int32) (x2 : Int32) (x3 : Int32) (x5 : Int32) (x6 : Int32) (x7 : Int32) (x8 : Int32) (z1 : Int32) (z2 : Int32) : Int32 × Ob :=
  (F_X6_kinds_c115 K60 (F_X6_unlike (stA mo 2 z1 z2) x1) x1 x2 x3 x5 x6 x8 x7)
def F_X6_kinds_b92 (K60 : Ob → Int32 → Int32 → Int32 → Int32 → Int32 → Int32 → Int32 → Int32 × Ob) (mo : Ob) (x1 : Int32) (x2 : Int32) (x3 : Int32) (x5 : Int32) (x6 : Int32) (x7 : Int32) (x8 : Int32) (z1 : Int32) (z2 : Int32) : Int32 × Ob :=
  (if x3 = 1 then (F_X6_kinds_b110 K60 (stA mo 1 z1 z2) x1 x2 x3 x5 x6 x7 x8 x2 x8) else (F_X6_kinds_b110 K60 (stA mo 1 z1 z2) x1 x2 x3 x5 x6 x7 x8 x2 x6))
def F_X6_kinds_b73 (K60 : Ob → Int32 → Int32 → Int32 → Int32 → Int32 → Int32 → Int32 → Int32 × Ob) (mo : Ob) (x1 : Int32) (x2 : Int32) (x3 : Int32) (x5 : Int32) (x6 : Int32) (x7 : Int32) (x8 : Int32) (z0 : Int32) (z1 : Int32) : Int32 × Ob :=
  (if z1 ≤ z0 then (x7, (stA (stA mo 1 x2 x5) 2 x2 x6)) else (if x3 = 0 then (F_X6_kinds_b92 K60 mo x1 x2 x3 x5 x6 x7 x8 x2 x8) else (F_X6_kinds_b92 K60 mo x1 x2 x3 x5 x6 x7 x8 x2 x5)))
def F_X6_kinds_l60 : Nat → Ob → Int32 → Int32 → Int32 → Int32 → Int32 → Int32 → Int32 → Int32 × Ob
  | 0, mo, _, _, _, _, _, _, _ => (0, mo)
  | n + 1, mo, x1, x2, x3, x5, x6, x7, x8 =>
    (if x3 = 0 then (F_X6_kinds_b73 (F_X6_kinds_l60 n ) mo x1 x2 x3 x5 x6 x7 x8 x8 6) else (F_X6_kinds_b73 (F_X6_kinds_l60 n ) mo x1 x2 x3 x5 x6 x7 x8 x8 10))
def F_X6_kinds (mo : Ob) (p1 : Int32) (p2 : Int32) (p3 : Int32) : Int32 × Ob :=
  (if (F_X6_sheetWrong mo p1) = 0 then (if (F_X6_isOne mo p2) = 0 then ((-5), mo) else (if (F_X6_in p3 0 1) = 0 then ((-7), mo) else (F_X6_kinds_l60 11  mo p1 p2 p3 ((mo.2 1) (Int32.toNatClampNeg p2)) ((mo.2 2) (Int32.toNatClampNeg p2)) 0 0))) else ((F_X6_sheetWrong mo p1), mo))
set_option maxHeartbeats 4000000 in
set_option maxRecDepth 100000 in
theorem c_X6_kinds {l : Launch} {g : GG} {sz : Nat} {bb : Ob} {tx rw : Nat → Ob} {sb dy : Ob} {tn : Nat → Ob} {mo : Ob} {jk : Nat → Nat → Int32}  (p1 : Int32) (p2 : Int32) (p3 : Int32) (hv : mEv mo) : Met l yX6_kinds (Cond.code yX6_kinds cX6_kinds 9 (some .int) :: TT) (rmL (8)) (va_Pc [.ref (gA g 58), .int p1, .int p2, .int p3] (gB g sz (gW g bb tx rw sb dy tn mo jk))) (va_Qi (fun r (u : Ob × (Nat → Nat → Int32)) => (F_X6_kinds mo p1 p2 p3) = (r, u.1)) (fun u t => gC g (va_A (gW g bb tx rw sb dy tn mo jk) sz) (gW g bb tx rw sb dy tn u.1 u.2) t) (va_A (gW g bb tx rw sb dy tn mo jk) sz)) 0 0 (va_A (gW g bb tx rw sb dy tn mo jk) sz) := by
  generalize hE : F_X6_kinds mo p1 p2 p3 = EE
  refine g_of (Qf := fun A => (va_Qi (fun r (u : Ob × (Nat → Nat → Int32)) => EE = (r, u.1)) (fun u t => gC g A (gW g bb tx rw sb dy tn u.1 u.2) t) A)) (cc := cX6_kinds) (maxL := 9) (ret := (some .int)) (by decide) (Nat.le_of_ble_eq_true rfl) ?_
  intro p e s m below meth c A ls hx hb hml hr hlocks hts hown hA hG hl
  replace hown : s.vm.findClass RX6 = some m.cls := hown
  replace hl : lv_has ls 9 [(0, .ref (gA g 58)), (1, .int p1), (2, .int p2), (3, .int p3)] := hl
  show W p l e (rmL (8)) s m [.ref (gA g 58), .int p1, .int p2, .int p3].toArray below meth c s.heap [] 0 0 (MQ below (va_Qi (fun r (u : Ob × (Nat → Nat → Int32)) => EE = (r, u.1)) (fun u t => gC g A (gW g bb tx rw sb dy tn u.1 u.2) t) A) [.ref (gA g 58), .int p1, .int p2, .int p3].toArray s 0 0 A) (F0 m 0 ls [])
  generalize hQ : MQ below (va_Qi (fun r (u : Ob × (Nat → Nat → Int32)) => EE = (r, u.1)) (fun u t => gC g A (gW g bb tx rw sb dy tn u.1 u.2) t) A) [.ref (gA g 58), .int p1, .int p2, .int p3].toArray s 0 0 A = Q
  have hpo := hv.1
  have e_pe : ((mo.1 0) - 1).toInt = (mo.1 0).toInt - 1 := subL (k := 1) (by decide +kernel) (by omega) (by omega)
  unfold F_X6_kinds at hE
  refine lv_aload_n hx hb dX6_kinds_0 rfl (lv_at hl 0 rfl) ?_
  refine lv_iload_n hx hb dX6_kinds_1 rfl (lv_at hl 1 rfl) ?_
  refine g_ci (g_runV (n := 1) (rest := []) hx hb hml hown hts hG (c_X6_sheetWrong p1) tw_ml_RX6_235 tw_im_X6_sheetWrong tw_se_X6_sheetWrong tw_in_RX6 tw_cd_X6_sheetWrong (by decide +kernel) ⟨rfl, rfl, Nat.le_of_ble_eq_true rfl, Nat.le_of_ble_eq_true rfl⟩ gw_Model rfl rfl hl.1 rfl (Nat.le_of_ble_eq_true rfl) dX6_kinds_2 ⟨Nat.le_refl _, Nat.le_refl _⟩) hG hA (fun r _ H locs hp hG => ?_)
  subst hp
  replace hG : gS g A s H locs (gW g bb tx rw sb dy tn mo jk) := hG
  refine lv_istore (lv' := [(4, .int (F_X6_sheetWrong mo p1)), (0, .ref (gA g 58)), (1, .int p1), (2, .int p2), (3, .int p3)]) hx hb dX6_kinds_5 hl (by decide) rfl (fun ls hl => ?_)
  replace hl := lv_sub hl [1, 2, 3, 4, 0] (l' := [(0, .ref (gA g 58)), (1, .int p1), (2, .int p2), (3, .int p3), (4, .int (F_X6_sheetWrong mo p1))]) rfl
  refine lv_iload hx hb dX6_kinds_7 (lv_at hl 4 rfl) ?_
  refine lv_if_eq (tgt := 15) hx hb dX6_kinds_9 (by decide) (fun c_9 => ?_) (fun c_9 => ?_)
  · replace hE := (if_pos c_9).symm.trans hE
    have i_9 := sheetWrong_f c_9
    refine lv_aload_n hx hb dX6_kinds_15 rfl (lv_at hl 0 rfl) ?_
    refine lv_iload_n hx hb dX6_kinds_16 rfl (lv_at hl 2 rfl) ?_
    refine g_ci (g_runV (n := 1) (rest := []) hx hb hml hown hts hG (c_X6_isOne p2) tw_ml_RX6_164 tw_im_X6_isOne tw_se_X6_isOne tw_in_RX6 tw_cd_X6_isOne (by decide +kernel) ⟨rfl, rfl, Nat.le_of_ble_eq_true rfl, Nat.le_of_ble_eq_true rfl⟩ gw_Model rfl rfl hl.1 rfl (Nat.le_of_ble_eq_true rfl) dX6_kinds_17 ⟨Nat.le_refl _, Nat.le_refl _⟩) hG hA (fun r _ H locs hp hG => ?_)
    subst hp
    replace hG : gS g A s H locs (gW g bb tx rw sb dy tn mo jk) := hG
    refine lv_if_ne (tgt := 26) hx hb dX6_kinds_20 (by decide) (fun c_20 => ?_) (fun c_20 => ?_)
    · replace hE := (if_neg c_20).symm.trans hE
      have i_20 := isOne_f c_20
      refine lv_iload_n hx hb dX6_kinds_26 rfl (lv_at hl 3 rfl) ?_
      refine lv_iconst (v := 0) hx hb dX6_kinds_27 (by decide) ?_
      refine lv_iconst (v := 1) hx hb dX6_kinds_28 (by decide) ?_
      refine g_si (g_runS (n := 3) (rest := []) hx hb hml hown hts hG (c_X6_in p3 0 1) tw_ml_RX6_81 tw_st_X6_in tw_in_RX6 tw_cd_X6_in (by decide +kernel) ⟨rfl, rfl, Nat.le_of_ble_eq_true rfl, Nat.le_of_ble_eq_true rfl⟩ rfl hl.1 rfl (Nat.le_of_ble_eq_true rfl) dX6_kinds_29 ⟨Nat.le_refl _, Nat.le_refl _⟩) hG hA (fun H locs hG => ?_)
      refine lv_if_ne (tgt := 38) hx hb dX6_kinds_32 (by decide) (fun c_32 => ?_) (fun c_32 => ?_)
      · replace hE := (if_neg c_32).symm.trans hE
        have i_32 : 0 ≤ p3.toInt ∧ p3.toInt ≤ 1 := in_f c_32
        refine lv_aload_n hx hb dX6_kinds_38 rfl (lv_at hl 0 rfl) ?_
        refine g_get hx hb hts hiX6 hown hG gw_Model rfl 1 (by decide) (index := 7) tw_fl_RX6_7 (v := .ref (gA g 59)) rfl dX6_kinds_39 ?_
        refine lv_iload_n hx hb dX6_kinds_42 rfl (lv_at hl 2 rfl) ?_
        refine g_ild (f := (mo.2 1)) hx hb hG gw_Model_a1 (show vp_in p2 6 from (vp_i (by clear hE; omega) (by clear hE; omega))) dX6_kinds_43 ?_
        refine lv_istore (lv' := [(5, .int ((mo.2 1) (Int32.toNatClampNeg p2))), (0, .ref (gA g 58)), (1, .int p1), (2, .int p2), (3, .int p3), (4, .int (F_X6_sheetWrong mo p1))]) hx hb dX6_kinds_44 hl (by decide) rfl (fun ls hl => ?_)
        replace hl := lv_sub hl [1, 2, 3, 4, 5, 0] (l' := [(0, .ref (gA g 58)), (1, .int p1), (2, .int p2), (3, .int p3), (4, .int (F_X6_sheetWrong mo p1)), (5, .int ((mo.2 1) (Int32.toNatClampNeg p2)))]) rfl
        refine lv_aload_n hx hb dX6_kinds_46 rfl (lv_at hl 0 rfl) ?_
        refine g_get hx hb hts hiX6 hown hG gw_Model rfl 2 (by decide) (index := 13) tw_fl_RX6_13 (v := .ref (gA g 60)) rfl dX6_kinds_47 ?_
        refine lv_iload_n hx hb dX6_kinds_50 rfl (lv_at hl 2 rfl) ?_
        refine g_ild (f := (mo.2 2)) hx hb hG gw_Model_a2 (show vp_in p2 6 from (vp_i (by clear hE; omega) (by clear hE; omega))) dX6_kinds_51 ?_
        refine lv_istore (lv' := [(6, .int ((mo.2 2) (Int32.toNatClampNeg p2))), (0, .ref (gA g 58)), (1, .int p1), (2, .int p2), (3, .int p3), (4, .int (F_X6_sheetWrong mo p1)), (5, .int ((mo.2 1) (Int32.toNatClampNeg p2)))]) hx hb dX6_kinds_52 hl (by decide) rfl (fun ls hl => ?_)
        replace hl := lv_sub hl [1, 2, 3, 4, 5, 6, 0] (l' := [(0, .ref (gA g 58)), (1, .int p1), (2, .int p2), (3, .int p3), (4, .int (F_X6_sheetWrong mo p1)), (5, .int ((mo.2 1) (Int32.toNatClampNeg p2))), (6, .int ((mo.2 2) (Int32.toNatClampNeg p2)))]) rfl
        refine lv_iconst (v := 0) hx hb dX6_kinds_54 (by decide) ?_
        refine lv_istore (lv' := [(7, .int 0), (0, .ref (gA g 58)), (1, .int p1), (2, .int p2), (3, .int p3), (4, .int (F_X6_sheetWrong mo p1)), (5, .int ((mo.2 1) (Int32.toNatClampNeg p2))), (6, .int ((mo.2 2) (Int32.toNatClampNeg p2)))]) hx hb dX6_kinds_55 hl (by decide) rfl (fun ls hl => ?_)
        replace hl := lv_sub hl [1, 2, 3, 4, 5, 6, 7, 0] (l' := [(0, .ref (gA g 58)), (1, .int p1), (2, .int p2), (3, .int p3), (4, .int (F_X6_sheetWrong mo p1)), (5, .int ((mo.2 1) (Int32.toNatClampNeg p2))), (6, .int ((mo.2 2) (Int32.toNatClampNeg p2))), (7, .int 0)]) rfl
        refine lv_iconst (v := 0) hx hb dX6_kinds_57 (by decide) ?_
        refine lv_istore (lv' := [(8, .int 0), (0, .ref (gA g 58)), (1, .int p1), (2, .int p2), (3, .int p3), (4, .int (F_X6_sheetWrong mo p1)), (5, .int ((mo.2 1) (Int32.toNatClampNeg p2))), (6, .int ((mo.2 2) (Int32.toNatClampNeg p2))), (7, .int 0)]) hx hb dX6_kinds_58 hl (by decide) rfl (fun ls hl => ?_)
        replace hl := lv_sub hl [1, 2, 3, 4, 5, 6, 7, 8, 0] (l' := [(0, .ref (gA g 58)), (1, .int p1), (2, .int p2), (3, .int p3), (4, .int (F_X6_sheetWrong mo p1)), (5, .int ((mo.2 1) (Int32.toNatClampNeg p2))), (6, .int ((mo.2 2) (Int32.toNatClampNeg p2))), (7, .int 0), (8, .int 0)]) rfl
        have L60 : ∀ (n60 : Nat) (x7_60 : Int32) (x8_60 : Int32) (mo_60 : Ob) (jk : (Nat → Nat → Int32)) (H : Heap) (locs : List Loc), gS g A s H locs (gW g bb tx rw sb dy tn mo_60 jk) → ∀ ls : Array Slot, lv_has ls 9 [(0, .ref (gA g 58)), (1, .int p1), (2, .int p2), (3, .int p3), (5, .int ((mo.2 1) (Int32.toNatClampNeg p2))), (6, .int ((mo.2 2) (Int32.toNatClampNeg p2))), (7, .int x7_60), (8, .int x8_60)] → 0 ≤ x8_60.toInt → x8_60.toInt ≤ 10 → 10 < x8_60.toInt + n60 → mEv mo_60 → ((mo_60.2 15) (Int32.toNatClampNeg p1)).toInt ≤ 24 → F_X6_kinds_l60 n60  mo_60 p1 p2 p3 ((mo.2 1) (Int32.toNatClampNeg p2)) ((mo.2 2) (Int32.toNatClampNeg p2)) x7_60 x8_60 = EE → W p l e (rmL (8)) s m [.ref (gA g 58), .int p1, .int p2, .int p3].toArray below meth c H locs 0 0 Q (F0 m 60 ls []) := by
          intro n60
          induction n60 with
          | zero =>
            intro x7_60 x8_60 mo_60 jk H locs hG ls hl h0_60 h1_60 hm_60 hv60 hz60 hE
            clear hE; omega
          | succ n60 ih60 =>
            intro x7_60 x8_60 mo_60 jk H locs hG ls hl h0_60 h1_60 hm_60 hv60 hz60 hE
            unfold F_X6_kinds_l60 at hE
            refine lv_iload hx hb dX6_kinds_60 (lv_at hl 7 rfl) ?_
            refine lv_iload_n hx hb dX6_kinds_62 rfl (lv_at hl 3 rfl) ?_
            have J73 : ∀ (z1_73 : Int32) (jk : (Nat → Nat → Int32)) (H : Heap) (locs : List Loc), gS g A s H locs (gW g bb tx rw sb dy tn mo_60 jk) → ∀ ls : Array Slot, lv_has ls 9 [(0, .ref (gA g 58)), (1, .int p1), (2, .int p2), (3, .int p3), (5, .int ((mo.2 1) (Int32.toNatClampNeg p2))), (6, .int ((mo.2 2) (Int32.toNatClampNeg p2))), (7, .int x7_60), (8, .int x8_60)] → z1_73.toInt ≤ 10 → F_X6_kinds_b73  (F_X6_kinds_l60 n60 ) mo_60 p1 p2 p3 ((mo.2 1) (Int32.toNatClampNeg p2)) ((mo.2 2) (Int32.toNatClampNeg p2)) x7_60 x8_60 x8_60 z1_73 = EE → W p l e (rmL (8)) s m [.ref (gA g 58), .int p1, .int p2, .int p3].toArray below meth c H locs 0 0 Q (F0 m 73 ls [.int z1_73, .int x8_60]) := by
              intro z1_73 jk H locs hG ls hl hj73 hE
              unfold F_X6_kinds_b73 at hE
              refine lv_icmp_ge (tgt := 139) hx hb dX6_kinds_73 (by decide) (fun c_73 => ?_) (fun c_73 => ?_)
              · replace hE := (if_pos c_73).symm.trans hE
                have i_73 : z1_73.toInt ≤ x8_60.toInt := i_le.mp c_73
                refine lv_aload_n hx hb dX6_kinds_139 rfl (lv_at hl 0 rfl) ?_
                refine g_get hx hb hts hiX6 hown hG gw_Model rfl 1 (by decide) (index := 7) tw_fl_RX6_7 (v := .ref (gA g 59)) rfl dX6_kinds_140 ?_
                refine lv_iload_n hx hb dX6_kinds_143 rfl (lv_at hl 2 rfl) ?_
                refine lv_iload hx hb dX6_kinds_144 (lv_at hl 4 rfl) ?_
                refine g_ist hx hb hG gw_Model_a1 (show vp_in p2 6 from (vp_i (by clear hE; omega) (by clear hE; omega))) gs_Model_a1 dX6_kinds_146 (fun H locs hG => ?_)
                refine lv_aload_n hx hb dX6_kinds_147 rfl (lv_at hl 0 rfl) ?_
                refine g_get hx hb hts hiX6 hown hG gw_Model rfl 2 (by decide) (index := 13) tw_fl_RX6_13 (v := .ref (gA g 60)) rfl dX6_kinds_148 ?_
                refine lv_iload_n hx hb dX6_kinds_151 rfl (lv_at hl 2 rfl) ?_
                refine lv_iload hx hb dX6_kinds_152 (lv_at hl 5 rfl) ?_
                refine g_ist hx hb hG gw_Model_a2 (show vp_in p2 6 from (vp_i (by clear hE; omega) (by clear hE; omega))) gs_Model_a2 dX6_kinds_154 (fun H locs hG => ?_)
                refine lv_iload hx hb dX6_kinds_155 (lv_at hl 6 rfl) ?_
                subst hQ
                exact g_iret hx hb hr hlocks hG (((stA (stA mo_60 1 p2 ((mo.2 1) (Int32.toNatClampNeg p2))) 2 p2 ((mo.2 2) (Int32.toNatClampNeg p2))), jk) : Ob × (Nat → Nat → Int32)) rfl hE.symm dX6_kinds_157
              replace hE := (if_neg c_73).symm.trans hE
              have i_73 : x8_60.toInt < z1_73.toInt := i_nle c_73
              refine lv_aload_n hx hb dX6_kinds_76 rfl (lv_at hl 0 rfl) ?_
              refine g_get hx hb hts hiX6 hown hG gw_Model rfl 1 (by decide) (index := 7) tw_fl_RX6_7 (v := .ref (gA g 59)) rfl dX6_kinds_77 ?_
              refine lv_iload_n hx hb dX6_kinds_80 rfl (lv_at hl 2 rfl) ?_
              refine lv_iload_n hx hb dX6_kinds_81 rfl (lv_at hl 3 rfl) ?_
              have J92 : ∀ (z2_92 : Int32) (jk : (Nat → Nat → Int32)) (H : Heap) (locs : List Loc), gS g A s H locs (gW g bb tx rw sb dy tn mo_60 jk) → ∀ ls : Array Slot, lv_has ls 9 [(0, .ref (gA g 58)), (1, .int p1), (2, .int p2), (3, .int p3), (5, .int ((mo.2 1) (Int32.toNatClampNeg p2))), (6, .int ((mo.2 2) (Int32.toNatClampNeg p2))), (7, .int x7_60), (8, .int x8_60)] → F_X6_kinds_b92  (F_X6_kinds_l60 n60 ) mo_60 p1 p2 p3 ((mo.2 1) (Int32.toNatClampNeg p2)) ((mo.2 2) (Int32.toNatClampNeg p2)) x7_60 x8_60 p2 z2_92 = EE → W p l e (rmL (8)) s m [.ref (gA g 58), .int p1, .int p2, .int p3].toArray below meth c H locs 0 0 Q (F0 m 92 ls [.int z2_92, .int p2, .ref (gA g 59)]) := by
                intro z2_92 jk H locs hG ls hl  hE
                unfold F_X6_kinds_b92 at hE
                refine g_ist hx hb hG gw_Model_a1 (show vp_in p2 6 from (vp_i (by clear hE; omega) (by clear hE; omega))) gs_Model_a1 dX6_kinds_92 (fun H locs hG => ?_)
                refine lv_aload_n hx hb dX6_kinds_93 rfl (lv_at hl 0 rfl) ?_
                refine g_get hx hb hts hiX6 hown hG gw_Model rfl 2 (by decide) (index := 13) tw_fl_RX6_13 (v := .ref (gA g 60)) rfl dX6_kinds_94 ?_
                refine lv_iload_n hx hb dX6_kinds_97 rfl (lv_at hl 2 rfl) ?_
                refine lv_iload_n hx hb dX6_kinds_98 rfl (lv_at hl 3 rfl) ?_
                refine lv_iconst (v := 1) hx hb dX6_kinds_99 (by decide) ?_
                have J110 : ∀ (z2_110 : Int32) (jk : (Nat → Nat → Int32)) (H : Heap) (locs : List Loc), gS g A s H locs (gW g bb tx rw sb dy tn (stA mo_60 1 p2 z2_92) jk) → ∀ ls : Array Slot, lv_has ls 9 [(0, .ref (gA g 58)), (1, .int p1), (2, .int p2), (3, .int p3), (5, .int ((mo.2 1) (Int32.toNatClampNeg p2))), (6, .int ((mo.2 2) (Int32.toNatClampNeg p2))), (7, .int x7_60), (8, .int x8_60)] → F_X6_kinds_b110  (F_X6_kinds_l60 n60 ) (stA mo_60 1 p2 z2_92) p1 p2 p3 ((mo.2 1) (Int32.toNatClampNeg p2)) ((mo.2 2) (Int32.toNatClampNeg p2)) x7_60 x8_60 p2 z2_110 = EE → W p l e (rmL (8)) s m [.ref (gA g 58), .int p1, .int p2, .int p3].toArray below meth c H locs 0 0 Q (F0 m 110 ls [.int z2_110, .int p2, .ref (gA g 60)]) := by
                  intro z2_110 jk H locs hG ls hl  hE
                  unfold F_X6_kinds_b110 at hE
                  refine g_ist hx hb hG gw_Model_a2 (show vp_in p2 6 from (vp_i (by clear hE; omega) (by clear hE; omega))) gs_Model_a2 dX6_kinds_110 (fun H locs hG => ?_)
                  refine lv_iload hx hb dX6_kinds_111 (lv_at hl 6 rfl) ?_
                  refine lv_aload_n hx hb dX6_kinds_113 rfl (lv_at hl 0 rfl) ?_
                  refine lv_iload_n hx hb dX6_kinds_114 rfl (lv_at hl 1 rfl) ?_
                  refine g_ci (g_runV (n := 1) (rest := [.int x7_60]) hx hb hml hown hts hG (c_X6_unlike p1 (mEv_of hv60 rfl rfl rfl rfl) (by clear hE; omega) (show _ ≤ _ from Int.le_trans hz60 (by decide))) tw_ml_RX6_238 tw_im_X6_unlike tw_se_X6_unlike tw_in_RX6 tw_cd_X6_unlike (by decide +kernel) ⟨rfl, rfl, Nat.le_of_ble_eq_true rfl, Nat.le_of_ble_eq_true rfl⟩ gw_Model rfl rfl hl.1 rfl (Nat.le_of_ble_eq_true rfl) dX6_kinds_115 ⟨Nat.le_refl _, Nat.le_refl _⟩) hG hA (fun r_115 u H locs hp hG => ?_)
                  obtain ⟨mo_115, jk⟩ := u
                  replace hG : gS g A s H locs (gW g bb tx rw sb dy tn mo_115 jk) := by simpa only [up_up] using hG
                  have hp_115 := hp
                  rw [hp] at hE
                  unfold F_X6_kinds_c115 at hE
                  try dsimp only at hE
                  have hv115 : mEv mo_115 := (unlike_hR hp_115).mEv (mEv_of hv60 rfl rfl rfl rfl)
                  have hz115 : ((mo_115.2 15) (Int32.toNatClampNeg p1)).toInt ≤ 24 := by rw [(unlike_hR hp_115).2 15 (by decide) (by decide) (by decide)]; exact hz60
                  refine lv_iconst (v := (-1)) hx hb dX6_kinds_118 (by decide) ?_
                  have J130 : ∀ (z1_130 : Int32) (jk : (Nat → Nat → Int32)) (H : Heap) (locs : List Loc), gS g A s H locs (gW g bb tx rw sb dy tn mo_115 jk) → ∀ ls : Array Slot, lv_has ls 9 [(0, .ref (gA g 58)), (1, .int p1), (2, .int p2), (3, .int p3), (5, .int ((mo.2 1) (Int32.toNatClampNeg p2))), (6, .int ((mo.2 2) (Int32.toNatClampNeg p2))), (8, .int x8_60)] → F_X6_kinds_b130  (F_X6_kinds_l60 n60 ) mo_115 p1 p2 p3 ((mo.2 1) (Int32.toNatClampNeg p2)) ((mo.2 2) (Int32.toNatClampNeg p2)) x8_60 x7_60 z1_130 = EE → W p l e (rmL (8)) s m [.ref (gA g 58), .int p1, .int p2, .int p3].toArray below meth c H locs 0 0 Q (F0 m 130 ls [.int z1_130, .int x7_60]) := by
                    intro z1_130 jk H locs hG ls hl  hE
                    unfold F_X6_kinds_b130 at hE
                    refine lv_ior hx hb dX6_kinds_130 ?_
                    refine lv_istore (lv' := [(7, .int (x7_60 ||| z1_130)), (0, .ref (gA g 58)), (1, .int p1), (2, .int p2), (3, .int p3), (5, .int ((mo.2 1) (Int32.toNatClampNeg p2))), (6, .int ((mo.2 2) (Int32.toNatClampNeg p2))), (8, .int x8_60)]) hx hb dX6_kinds_131 hl (by decide) rfl (fun ls hl => ?_)
                    replace hl := lv_sub hl [1, 2, 3, 4, 5, 6, 0, 7] (l' := [(0, .ref (gA g 58)), (1, .int p1), (2, .int p2), (3, .int p3), (5, .int ((mo.2 1) (Int32.toNatClampNeg p2))), (6, .int ((mo.2 2) (Int32.toNatClampNeg p2))), (7, .int (x7_60 ||| z1_130)), (8, .int x8_60)]) rfl
                    refine lv_iinc (v := (x8_60 + 1)) (lv' := [(8, .int (x8_60 + 1)), (0, .ref (gA g 58)), (1, .int p1), (2, .int p2), (3, .int p3), (5, .int ((mo.2 1) (Int32.toNatClampNeg p2))), (6, .int ((mo.2 2) (Int32.toNatClampNeg p2))), (7, .int (x7_60 ||| z1_130))]) hx hb dX6_kinds_133 hl (k := 7) rfl rfl (by decide) rfl (fun ls hl => ?_)
                    replace hl := lv_sub hl [1, 2, 3, 4, 5, 6, 7, 0] (l' := [(0, .ref (gA g 58)), (1, .int p1), (2, .int p2), (3, .int p3), (5, .int ((mo.2 1) (Int32.toNatClampNeg p2))), (6, .int ((mo.2 2) (Int32.toNatClampNeg p2))), (7, .int (x7_60 ||| z1_130)), (8, .int (x8_60 + 1))]) rfl
                    refine lv_goto (tgt := 60) hx hb dX6_kinds_136 (by decide) ?_
                    have e1 : (x8_60 + 1).toInt = x8_60.toInt + 1 := addL (k := 1) (by decide +kernel) (by clear hE; omega) (by clear hE; omega)
                    exact ih60 (x7_60 ||| z1_130) (x8_60 + 1) mo_115 _ _ _ hG _ (lv_sub hl [0, 1, 2, 3, 4, 5, 6, 7] rfl) (by clear hE; omega) (by clear hE; omega) (by clear hE; omega) hv115 hz115 hE
                  refine lv_icmp_ne (tgt := 129) hx hb dX6_kinds_119 (by decide) (fun c_119 => ?_) (fun c_119 => ?_)
                  · replace hE := (if_neg c_119).symm.trans hE
                    have i_119 : r_115.toInt ≠ (-1) := fun h => c_119 (Int32.toInt_inj.mp h)
                    refine lv_iconst (v := 0) hx hb dX6_kinds_129 (by decide) ?_
                    exact J130 0 _ _ _ hG _ (lv_sub hl [0, 1, 2, 3, 4, 5, 7] rfl) hE
                  replace hE := (if_pos c_119).symm.trans hE
                  have i_119 : r_115.toInt = (-1) := congrArg Int32.toInt c_119
                  refine lv_iconst (v := 1) hx hb dX6_kinds_122 (by decide) ?_
                  refine lv_iload hx hb dX6_kinds_123 (lv_at hl 7 rfl) ?_
                  refine lv_ishl hx hb dX6_kinds_125 ?_
                  refine lv_goto (tgt := 130) hx hb dX6_kinds_126 (by decide) ?_
                  exact J130 (1 <<< (x8_60 &&& 31)) _ _ _ hG _ (lv_sub hl [0, 1, 2, 3, 4, 5, 7] rfl) hE
                refine lv_icmp_ne (tgt := 108) hx hb dX6_kinds_100 (by decide) (fun c_100 => ?_) (fun c_100 => ?_)
                · replace hE := (if_neg c_100).symm.trans hE
                  have i_100 : p3.toInt ≠ 1 := fun h => c_100 (Int32.toInt_inj.mp h)
                  refine lv_iload hx hb dX6_kinds_108 (lv_at hl 5 rfl) ?_
                  exact J110 ((mo.2 2) (Int32.toNatClampNeg p2)) _ _ _ hG _ (lv_sub hl [0, 1, 2, 3, 4, 5, 6, 7] rfl) hE
                replace hE := (if_pos c_100).symm.trans hE
                have i_100 : p3.toInt = 1 := congrArg Int32.toInt c_100
                refine lv_iload hx hb dX6_kinds_103 (lv_at hl 7 rfl) ?_
                refine lv_goto (tgt := 110) hx hb dX6_kinds_105 (by decide) ?_
                exact J110 x8_60 _ _ _ hG _ (lv_sub hl [0, 1, 2, 3, 4, 5, 6, 7] rfl) hE
              refine lv_if_ne (tgt := 90) hx hb dX6_kinds_82 (by decide) (fun c_82 => ?_) (fun c_82 => ?_)
              · replace hE := (if_neg c_82).symm.trans hE
                have i_82 : p3.toInt ≠ 0 := fun h => c_82 (Int32.toInt_inj.mp h)
                refine lv_iload hx hb dX6_kinds_90 (lv_at hl 4 rfl) ?_
                exact J92 ((mo.2 1) (Int32.toNatClampNeg p2)) _ _ _ hG _ (lv_sub hl [0, 1, 2, 3, 4, 5, 6, 7] rfl) hE
              replace hE := (if_pos c_82).symm.trans hE
              have i_82 : p3.toInt = 0 := congrArg Int32.toInt c_82
              refine lv_iload hx hb dX6_kinds_85 (lv_at hl 7 rfl) ?_
              refine lv_goto (tgt := 92) hx hb dX6_kinds_87 (by decide) ?_
              exact J92 x8_60 _ _ _ hG _ (lv_sub hl [0, 1, 2, 3, 4, 5, 6, 7] rfl) hE
            refine lv_if_ne (tgt := 71) hx hb dX6_kinds_63 (by decide) (fun c_63 => ?_) (fun c_63 => ?_)
            · replace hE := (if_neg c_63).symm.trans hE
              have i_63 : p3.toInt ≠ 0 := fun h => c_63 (Int32.toInt_inj.mp h)
              refine lv_bipush (v := 10) hx hb dX6_kinds_71 (by decide) ?_
              exact J73 10 _ _ _ hG _ (lv_sub hl [0, 1, 2, 3, 4, 5, 6, 7] rfl) (by decide) hE
            replace hE := (if_pos c_63).symm.trans hE
            have i_63 : p3.toInt = 0 := congrArg Int32.toInt c_63
            refine lv_bipush (v := 6) hx hb dX6_kinds_66 (by decide) ?_
            refine lv_goto (tgt := 73) hx hb dX6_kinds_68 (by decide) ?_
            exact J73 6 _ _ _ hG _ (lv_sub hl [0, 1, 2, 3, 4, 5, 6, 7] rfl) (by decide) hE
        exact L60 11 0 0 mo _ _ _ hG _ (lv_sub hl [0, 1, 2, 3, 5, 6, 7, 8] rfl) (by decide) (by decide) (by decide) hv i_9.2 hE
      replace hE := (if_pos c_32).symm.trans hE
      refine lv_bipush (v := (-7)) hx hb dX6_kinds_35 (by decide) ?_
      subst hQ
      exact g_iret hx hb hr hlocks hG ((mo, jk) : Ob × (Nat → Nat → Int32)) rfl hE.symm dX6_kinds_37
    replace hE := (if_pos c_20).symm.trans hE
    refine lv_bipush (v := (-5)) hx hb dX6_kinds_23 (by decide) ?_
    subst hQ
    exact g_iret hx hb hr hlocks hG ((mo, jk) : Ob × (Nat → Nat → Int32)) rfl hE.symm dX6_kinds_25
  replace hE := (if_neg c_9).symm.trans hE
  refine lv_iload hx hb dX6_kinds_12 (lv_at hl 4 rfl) ?_
  subst hQ
  exact g_iret hx hb hr hlocks hG ((mo, jk) : Ob × (Nat → Nat → Int32)) rfl hE.symm dX6_kinds_14
def F_X6_nerves_b123 (K57 : Ob → Int32 → Int32 → Int32 → Int32 → Int32 → Int32 → Int32 → Int32 × Ob) (mo : Ob) (x1 : Int32) (x2 : Int32) (x3 : Int32) (x5 : Int32) (x6 : Int32) (x8 : Int32) (z0 : Int32) : Int32 × Ob :=
  (K57 mo x1 x2 x3 x5 x6 z0 (x8 + 1))
def F_X6_nerves_b121 (K57 : Ob → Int32 → Int32 → Int32 → Int32 → Int32 → Int32 → Int32 → Int32 × Ob) (mo : Ob) (x1 : Int32) (x2 : Int32) (x3 : Int32) (x5 : Int32) (x6 : Int32) (x7 : Int32) (x8 : Int32) : Int32 × Ob :=
  (F_X6_nerves_b123 K57 mo x1 x2 x3 x5 x6 x8 x7)
def F_X6_nerves_b102 (K57 : Ob → Int32 → Int32 → Int32 → Int32 → Int32 → Int32 → Int32 → Int32 × Ob) (mo : Ob) (x1 : Int32) (x2 : Int32) (x3 : Int32) (x5 : Int32) (x7 : Int32) (x8 : Int32) (x9 : Int32) (z0 : Int32) (z1 : Int32) : Int32 × Ob :=
  (if x9 = 0 then (F_X6_nerves_b121 K57 mo x1 x2 x3 x5 (z0 + z1) x7 x8) else (if x7 = (-1) then (F_X6_nerves_b123 K57 mo x1 x2 x3 x5 (z0 + z1) x8 x8) else (F_X6_nerves_b121 K57 mo x1 x2 x3 x5 (z0 + z1) x7 x8)))
def F_X6_nerves_b88 (K57 : Ob → Int32 → Int32 → Int32 → Int32 → Int32 → Int32 → Int32 → Int32 × Ob) (mo : Ob) (x1 : Int32) (x2 : Int32) (x3 : Int32) (x5 : Int32) (x6 : Int32) (x7 : Int32) (x8 : Int32) (z0 : Int32) : Int32 × Ob :=
  (if z0 = 0 then (F_X6_nerves_b102 K57 mo x1 x2 x3 x5 x7 x8 z0 x6 0) else (F_X6_nerves_b102 K57 mo x1 x2 x3 x5 x7 x8 z0 x6 1))
def F_X6_nerves_c76 (K57 : Ob → Int32 → Int32 → Int32 → Int32 → Int32 → Int32 → Int32 → Int32 × Ob) (u : Int32 × Ob) (x1 : Int32) (x2 : Int32) (x3 : Int32) (x5 : Int32) (x6 : Int32) (x7 : Int32) (x8 : Int32) : Int32 × Ob :=
  (if u.1 = (-1) then (F_X6_nerves_b88 K57 u.2 x1 x2 x3 x5 x6 x7 x8 1) else (F_X6_nerves_b88 K57 u.2 x1 x2 x3 x5 x6 x7 x8 0))
def F_X6_nerves_l57 : Nat → Ob → Int32 → Int32 → Int32 → Int32 → Int32 → Int32 → Int32 → Int32 × Ob
  | 0, mo, _, _, _, _, _, _, _ => (0, mo)
  | n + 1, mo, x1, x2, x3, x5, x6, x7, x8 =>
    (if 99 < x8 then (if x3 = 0 then (x6, (stA mo 3 (4 * x2) x5)) else (x7, (stA mo 3 (4 * x2) x5))) else (F_X6_nerves_c76 (F_X6_nerves_l57 n ) (F_X6_unlike (stA mo 3 (4 * x2) x8) x1) x1 x2 x3 x5 x6 x7 x8))
def F_X6_nerves (mo : Ob) (p1 : Int32) (p2 : Int32) (p3 : Int32) : Int32 × Ob :=
  (if (F_X6_sheetWrong mo p1) = 0 then (if (F_X6_isOne mo p2) = 0 then ((-5), mo) else (if (F_X6_in p3 0 1) = 0 then ((-7), mo) else (F_X6_nerves_l57 101  mo p1 p2 p3 ((mo.2 3) (Int32.toNatClampNeg (4 * p2))) 0 (-1) 0))) else ((F_X6_sheetWrong mo p1), mo))
set_option maxHeartbeats 4000000 in
set_option maxRecDepth 100000 in
theorem c_X6_nerves {l : Launch} {g : GG} {sz : Nat} {bb : Ob} {tx rw : Nat → Ob} {sb dy : Ob} {tn : Nat → Ob} {mo : Ob} {jk : Nat → Nat → Int32}  (p1 : Int32) (p2 : Int32) (p3 : Int32) (hv : mEv mo) : Met l yX6_nerves (Cond.code yX6_nerves cX6_nerves 10 (some .int) :: TT) (rmL (8)) (va_Pc [.ref (gA g 58), .int p1, .int p2, .int p3] (gB g sz (gW g bb tx rw sb dy tn mo jk))) (va_Qi (fun r (u : Ob × (Nat → Nat → Int32)) => (F_X6_nerves mo p1 p2 p3) = (r, u.1)) (fun u t => gC g (va_A (gW g bb tx rw sb dy tn mo jk) sz) (gW g bb tx rw sb dy tn u.1 u.2) t) (va_A (gW g bb tx rw sb dy tn mo jk) sz)) 0 0 (va_A (gW g bb tx rw sb dy tn mo jk) sz) := by
  generalize hE : F_X6_nerves mo p1 p2 p3 = EE
  refine g_of (Qf := fun A => (va_Qi (fun r (u : Ob × (Nat → Nat → Int32)) => EE = (r, u.1)) (fun u t => gC g A (gW g bb tx rw sb dy tn u.1 u.2) t) A)) (cc := cX6_nerves) (maxL := 10) (ret := (some .int)) (by decide) (Nat.le_of_ble_eq_true rfl) ?_
  intro p e s m below meth c A ls hx hb hml hr hlocks hts hown hA hG hl
  replace hown : s.vm.findClass RX6 = some m.cls := hown
  replace hl : lv_has ls 10 [(0, .ref (gA g 58)), (1, .int p1), (2, .int p2), (3, .int p3)] := hl
  show W p l e (rmL (8)) s m [.ref (gA g 58), .int p1, .int p2, .int p3].toArray below meth c s.heap [] 0 0 (MQ below (va_Qi (fun r (u : Ob × (Nat → Nat → Int32)) => EE = (r, u.1)) (fun u t => gC g A (gW g bb tx rw sb dy tn u.1 u.2) t) A) [.ref (gA g 58), .int p1, .int p2, .int p3].toArray s 0 0 A) (F0 m 0 ls [])
  generalize hQ : MQ below (va_Qi (fun r (u : Ob × (Nat → Nat → Int32)) => EE = (r, u.1)) (fun u t => gC g A (gW g bb tx rw sb dy tn u.1 u.2) t) A) [.ref (gA g 58), .int p1, .int p2, .int p3].toArray s 0 0 A = Q
  have hpo := hv.1
  have e_pe : ((mo.1 0) - 1).toInt = (mo.1 0).toInt - 1 := subL (k := 1) (by decide +kernel) (by omega) (by omega)
  unfold F_X6_nerves at hE
  refine lv_aload_n hx hb dX6_nerves_0 rfl (lv_at hl 0 rfl) ?_
  refine lv_iload_n hx hb dX6_nerves_1 rfl (lv_at hl 1 rfl) ?_
  refine g_ci (g_runV (n := 1) (rest := []) hx hb hml hown hts hG (c_X6_sheetWrong p1) tw_ml_RX6_235 tw_im_X6_sheetWrong tw_se_X6_sheetWrong tw_in_RX6 tw_cd_X6_sheetWrong (by decide +kernel) ⟨rfl, rfl, Nat.le_of_ble_eq_true rfl, Nat.le_of_ble_eq_true rfl⟩ gw_Model rfl rfl hl.1 rfl (Nat.le_of_ble_eq_true rfl) dX6_nerves_2 ⟨Nat.le_refl _, Nat.le_refl _⟩) hG hA (fun r _ H locs hp hG => ?_)
  subst hp
  replace hG : gS g A s H locs (gW g bb tx rw sb dy tn mo jk) := hG
  refine lv_istore (lv' := [(4, .int (F_X6_sheetWrong mo p1)), (0, .ref (gA g 58)), (1, .int p1), (2, .int p2), (3, .int p3)]) hx hb dX6_nerves_5 hl (by decide) rfl (fun ls hl => ?_)
  replace hl := lv_sub hl [1, 2, 3, 4, 0] (l' := [(0, .ref (gA g 58)), (1, .int p1), (2, .int p2), (3, .int p3), (4, .int (F_X6_sheetWrong mo p1))]) rfl
  refine lv_iload hx hb dX6_nerves_7 (lv_at hl 4 rfl) ?_
  refine lv_if_eq (tgt := 15) hx hb dX6_nerves_9 (by decide) (fun c_9 => ?_) (fun c_9 => ?_)
  · replace hE := (if_pos c_9).symm.trans hE
    have i_9 := sheetWrong_f c_9
    refine lv_aload_n hx hb dX6_nerves_15 rfl (lv_at hl 0 rfl) ?_
    refine lv_iload_n hx hb dX6_nerves_16 rfl (lv_at hl 2 rfl) ?_
    refine g_ci (g_runV (n := 1) (rest := []) hx hb hml hown hts hG (c_X6_isOne p2) tw_ml_RX6_164 tw_im_X6_isOne tw_se_X6_isOne tw_in_RX6 tw_cd_X6_isOne (by decide +kernel) ⟨rfl, rfl, Nat.le_of_ble_eq_true rfl, Nat.le_of_ble_eq_true rfl⟩ gw_Model rfl rfl hl.1 rfl (Nat.le_of_ble_eq_true rfl) dX6_nerves_17 ⟨Nat.le_refl _, Nat.le_refl _⟩) hG hA (fun r _ H locs hp hG => ?_)
    subst hp
    replace hG : gS g A s H locs (gW g bb tx rw sb dy tn mo jk) := hG
    refine lv_if_ne (tgt := 26) hx hb dX6_nerves_20 (by decide) (fun c_20 => ?_) (fun c_20 => ?_)
    · replace hE := (if_neg c_20).symm.trans hE
      have i_20 := isOne_f c_20
      refine lv_iload_n hx hb dX6_nerves_26 rfl (lv_at hl 3 rfl) ?_
      refine lv_iconst (v := 0) hx hb dX6_nerves_27 (by decide) ?_
      refine lv_iconst (v := 1) hx hb dX6_nerves_28 (by decide) ?_
      refine g_si (g_runS (n := 3) (rest := []) hx hb hml hown hts hG (c_X6_in p3 0 1) tw_ml_RX6_81 tw_st_X6_in tw_in_RX6 tw_cd_X6_in (by decide +kernel) ⟨rfl, rfl, Nat.le_of_ble_eq_true rfl, Nat.le_of_ble_eq_true rfl⟩ rfl hl.1 rfl (Nat.le_of_ble_eq_true rfl) dX6_nerves_29 ⟨Nat.le_refl _, Nat.le_refl _⟩) hG hA (fun H locs hG => ?_)
      refine lv_if_ne (tgt := 38) hx hb dX6_nerves_32 (by decide) (fun c_32 => ?_) (fun c_32 => ?_)
      · replace hE := (if_neg c_32).symm.trans hE
        have i_32 : 0 ≤ p3.toInt ∧ p3.toInt ≤ 1 := in_f c_32
        refine lv_aload_n hx hb dX6_nerves_38 rfl (lv_at hl 0 rfl) ?_
        refine g_get hx hb hts hiX6 hown hG gw_Model rfl 3 (by decide) (index := 16) tw_fl_RX6_16 (v := .ref (gA g 61)) rfl dX6_nerves_39 ?_
        refine lv_iconst (v := 4) hx hb dX6_nerves_42 (by decide) ?_
        refine lv_iload_n hx hb dX6_nerves_43 rfl (lv_at hl 2 rfl) ?_
        refine lv_imul hx hb dX6_nerves_44 ?_
        have e1 : (4 * p2).toInt = 4 * p2.toInt := mulL (k := 4) (by decide +kernel) (by clear hE; omega) (by clear hE; omega)
        refine g_ild (f := (mo.2 3)) hx hb hG gw_Model_a3 (show vp_in (4 * p2) 24 from (vp_i (by clear hE; omega) (by clear hE; omega))) dX6_nerves_45 ?_
        refine lv_istore (lv' := [(5, .int ((mo.2 3) (Int32.toNatClampNeg (4 * p2)))), (0, .ref (gA g 58)), (1, .int p1), (2, .int p2), (3, .int p3), (4, .int (F_X6_sheetWrong mo p1))]) hx hb dX6_nerves_46 hl (by decide) rfl (fun ls hl => ?_)
        replace hl := lv_sub hl [1, 2, 3, 4, 5, 0] (l' := [(0, .ref (gA g 58)), (1, .int p1), (2, .int p2), (3, .int p3), (4, .int (F_X6_sheetWrong mo p1)), (5, .int ((mo.2 3) (Int32.toNatClampNeg (4 * p2))))]) rfl
        refine lv_iconst (v := 0) hx hb dX6_nerves_48 (by decide) ?_
        refine lv_istore (lv' := [(6, .int 0), (0, .ref (gA g 58)), (1, .int p1), (2, .int p2), (3, .int p3), (4, .int (F_X6_sheetWrong mo p1)), (5, .int ((mo.2 3) (Int32.toNatClampNeg (4 * p2))))]) hx hb dX6_nerves_49 hl (by decide) rfl (fun ls hl => ?_)
        replace hl := lv_sub hl [1, 2, 3, 4, 5, 6, 0] (l' := [(0, .ref (gA g 58)), (1, .int p1), (2, .int p2), (3, .int p3), (4, .int (F_X6_sheetWrong mo p1)), (5, .int ((mo.2 3) (Int32.toNatClampNeg (4 * p2)))), (6, .int 0)]) rfl
        refine lv_iconst (v := (-1)) hx hb dX6_nerves_51 (by decide) ?_
        refine lv_istore (lv' := [(7, .int (-1)), (0, .ref (gA g 58)), (1, .int p1), (2, .int p2), (3, .int p3), (4, .int (F_X6_sheetWrong mo p1)), (5, .int ((mo.2 3) (Int32.toNatClampNeg (4 * p2)))), (6, .int 0)]) hx hb dX6_nerves_52 hl (by decide) rfl (fun ls hl => ?_)
        replace hl := lv_sub hl [1, 2, 3, 4, 5, 6, 7, 0] (l' := [(0, .ref (gA g 58)), (1, .int p1), (2, .int p2), (3, .int p3), (4, .int (F_X6_sheetWrong mo p1)), (5, .int ((mo.2 3) (Int32.toNatClampNeg (4 * p2)))), (6, .int 0), (7, .int (-1))]) rfl
        refine lv_iconst (v := 0) hx hb dX6_nerves_54 (by decide) ?_
        refine lv_istore (lv' := [(8, .int 0), (0, .ref (gA g 58)), (1, .int p1), (2, .int p2), (3, .int p3), (4, .int (F_X6_sheetWrong mo p1)), (5, .int ((mo.2 3) (Int32.toNatClampNeg (4 * p2)))), (6, .int 0), (7, .int (-1))]) hx hb dX6_nerves_55 hl (by decide) rfl (fun ls hl => ?_)
        replace hl := lv_sub hl [1, 2, 3, 4, 5, 6, 7, 8, 0] (l' := [(0, .ref (gA g 58)), (1, .int p1), (2, .int p2), (3, .int p3), (4, .int (F_X6_sheetWrong mo p1)), (5, .int ((mo.2 3) (Int32.toNatClampNeg (4 * p2)))), (6, .int 0), (7, .int (-1)), (8, .int 0)]) rfl
        have L57 : ∀ (n57 : Nat) (x6_57 : Int32) (x7_57 : Int32) (x8_57 : Int32) (mo_57 : Ob) (jk : (Nat → Nat → Int32)) (H : Heap) (locs : List Loc), gS g A s H locs (gW g bb tx rw sb dy tn mo_57 jk) → ∀ ls : Array Slot, lv_has ls 10 [(0, .ref (gA g 58)), (1, .int p1), (2, .int p2), (3, .int p3), (5, .int ((mo.2 3) (Int32.toNatClampNeg (4 * p2)))), (6, .int x6_57), (7, .int x7_57), (8, .int x8_57)] → 0 ≤ x8_57.toInt → x8_57.toInt ≤ 100 → 100 < x8_57.toInt + n57 → mEv mo_57 → ((mo_57.2 15) (Int32.toNatClampNeg p1)).toInt ≤ 24 → F_X6_nerves_l57 n57  mo_57 p1 p2 p3 ((mo.2 3) (Int32.toNatClampNeg (4 * p2))) x6_57 x7_57 x8_57 = EE → W p l e (rmL (8)) s m [.ref (gA g 58), .int p1, .int p2, .int p3].toArray below meth c H locs 0 0 Q (F0 m 57 ls []) := by
          intro n57
          induction n57 with
          | zero =>
            intro x6_57 x7_57 x8_57 mo_57 jk H locs hG ls hl h0_57 h1_57 hm_57 hv57 hz57 hE
            clear hE; omega
          | succ n57 ih57 =>
            intro x6_57 x7_57 x8_57 mo_57 jk H locs hG ls hl h0_57 h1_57 hm_57 hv57 hz57 hE
            unfold F_X6_nerves_l57 at hE
            refine lv_iload hx hb dX6_nerves_57 (lv_at hl 7 rfl) ?_
            refine lv_bipush (v := 99) hx hb dX6_nerves_59 (by decide) ?_
            refine lv_icmp_gt (tgt := 131) hx hb dX6_nerves_61 (by decide) (fun c_61 => ?_) (fun c_61 => ?_)
            · replace hE := (if_pos c_61).symm.trans hE
              have i_61 : 99 < x8_57.toInt := i_lt.mp c_61
              refine lv_aload_n hx hb dX6_nerves_131 rfl (lv_at hl 0 rfl) ?_
              refine g_get hx hb hts hiX6 hown hG gw_Model rfl 3 (by decide) (index := 16) tw_fl_RX6_16 (v := .ref (gA g 61)) rfl dX6_nerves_132 ?_
              refine lv_iconst (v := 4) hx hb dX6_nerves_135 (by decide) ?_
              refine lv_iload_n hx hb dX6_nerves_136 rfl (lv_at hl 2 rfl) ?_
              refine lv_imul hx hb dX6_nerves_137 ?_
              refine lv_iload hx hb dX6_nerves_138 (lv_at hl 4 rfl) ?_
              have e2 : (4 * p2).toInt = 4 * p2.toInt := mulL (k := 4) (by decide +kernel) (by clear hE; omega) (by clear hE; omega)
              refine g_ist hx hb hG gw_Model_a3 (show vp_in (4 * p2) 24 from (vp_i (by clear hE; omega) (by clear hE; omega))) gs_Model_a3 dX6_nerves_140 (fun H locs hG => ?_)
              refine lv_iload_n hx hb dX6_nerves_141 rfl (lv_at hl 3 rfl) ?_
              refine lv_if_ne (tgt := 150) hx hb dX6_nerves_142 (by decide) (fun c_142 => ?_) (fun c_142 => ?_)
              · replace hE := (if_neg c_142).symm.trans hE
                have i_142 : p3.toInt ≠ 0 := fun h => c_142 (Int32.toInt_inj.mp h)
                refine lv_iload hx hb dX6_nerves_150 (lv_at hl 6 rfl) ?_
                subst hQ
                exact g_iret hx hb hr hlocks hG (((stA mo_57 3 (4 * p2) ((mo.2 3) (Int32.toNatClampNeg (4 * p2)))), jk) : Ob × (Nat → Nat → Int32)) rfl hE.symm dX6_nerves_152
              replace hE := (if_pos c_142).symm.trans hE
              have i_142 : p3.toInt = 0 := congrArg Int32.toInt c_142
              refine lv_iload hx hb dX6_nerves_145 (lv_at hl 5 rfl) ?_
              refine lv_goto (tgt := 152) hx hb dX6_nerves_147 (by decide) ?_
              subst hQ
              exact g_iret hx hb hr hlocks hG (((stA mo_57 3 (4 * p2) ((mo.2 3) (Int32.toNatClampNeg (4 * p2)))), jk) : Ob × (Nat → Nat → Int32)) rfl hE.symm dX6_nerves_152
            replace hE := (if_neg c_61).symm.trans hE
            have i_61 : x8_57.toInt ≤ 99 := i_nlt c_61
            refine lv_aload_n hx hb dX6_nerves_64 rfl (lv_at hl 0 rfl) ?_
            refine g_get hx hb hts hiX6 hown hG gw_Model rfl 3 (by decide) (index := 16) tw_fl_RX6_16 (v := .ref (gA g 61)) rfl dX6_nerves_65 ?_
            refine lv_iconst (v := 4) hx hb dX6_nerves_68 (by decide) ?_
            refine lv_iload_n hx hb dX6_nerves_69 rfl (lv_at hl 2 rfl) ?_
            refine lv_imul hx hb dX6_nerves_70 ?_
            refine lv_iload hx hb dX6_nerves_71 (lv_at hl 7 rfl) ?_
            have e3 : (4 * p2).toInt = 4 * p2.toInt := mulL (k := 4) (by decide +kernel) (by clear hE; omega) (by clear hE; omega)
            refine g_ist hx hb hG gw_Model_a3 (show vp_in (4 * p2) 24 from (vp_i (by clear hE; omega) (by clear hE; omega))) gs_Model_a3 dX6_nerves_73 (fun H locs hG => ?_)
            refine lv_aload_n hx hb dX6_nerves_74 rfl (lv_at hl 0 rfl) ?_
            refine lv_iload_n hx hb dX6_nerves_75 rfl (lv_at hl 1 rfl) ?_
            refine g_ci (g_runV (n := 1) (rest := []) hx hb hml hown hts hG (c_X6_unlike p1 (mEv_of hv57 rfl rfl rfl rfl) (by clear hE; omega) (show _ ≤ _ from Int.le_trans hz57 (by decide))) tw_ml_RX6_238 tw_im_X6_unlike tw_se_X6_unlike tw_in_RX6 tw_cd_X6_unlike (by decide +kernel) ⟨rfl, rfl, Nat.le_of_ble_eq_true rfl, Nat.le_of_ble_eq_true rfl⟩ gw_Model rfl rfl hl.1 rfl (Nat.le_of_ble_eq_true rfl) dX6_nerves_76 ⟨Nat.le_refl _, Nat.le_refl _⟩) hG hA (fun r_76 u H locs hp hG => ?_)
            obtain ⟨mo_76, jk⟩ := u
            replace hG : gS g A s H locs (gW g bb tx rw sb dy tn mo_76 jk) := by simpa only [up_up] using hG
            have hp_76 := hp
            rw [hp] at hE
            unfold F_X6_nerves_c76 at hE
            try dsimp only at hE
            have hv76 : mEv mo_76 := (unlike_hR hp_76).mEv (mEv_of hv57 rfl rfl rfl rfl)
            have hz76 : ((mo_76.2 15) (Int32.toNatClampNeg p1)).toInt ≤ 24 := by rw [(unlike_hR hp_76).2 15 (by decide) (by decide) (by decide)]; exact hz57
            refine lv_iconst (v := (-1)) hx hb dX6_nerves_79 (by decide) ?_
            have J88 : ∀ (z0_88 : Int32) (jk : (Nat → Nat → Int32)) (H : Heap) (locs : List Loc), gS g A s H locs (gW g bb tx rw sb dy tn mo_76 jk) → ∀ ls : Array Slot, lv_has ls 10 [(0, .ref (gA g 58)), (1, .int p1), (2, .int p2), (3, .int p3), (5, .int ((mo.2 3) (Int32.toNatClampNeg (4 * p2)))), (6, .int x6_57), (7, .int x7_57), (8, .int x8_57)] → F_X6_nerves_b88  (F_X6_nerves_l57 n57 ) mo_76 p1 p2 p3 ((mo.2 3) (Int32.toNatClampNeg (4 * p2))) x6_57 x7_57 x8_57 z0_88 = EE → W p l e (rmL (8)) s m [.ref (gA g 58), .int p1, .int p2, .int p3].toArray below meth c H locs 0 0 Q (F0 m 88 ls [.int z0_88]) := by
              intro z0_88 jk H locs hG ls hl  hE
              unfold F_X6_nerves_b88 at hE
              refine lv_istore (lv' := [(9, .int z0_88), (0, .ref (gA g 58)), (1, .int p1), (2, .int p2), (3, .int p3), (5, .int ((mo.2 3) (Int32.toNatClampNeg (4 * p2)))), (6, .int x6_57), (7, .int x7_57), (8, .int x8_57)]) hx hb dX6_nerves_88 hl (by decide) rfl (fun ls hl => ?_)
              replace hl := lv_sub hl [1, 2, 3, 4, 5, 6, 7, 8, 0] (l' := [(0, .ref (gA g 58)), (1, .int p1), (2, .int p2), (3, .int p3), (5, .int ((mo.2 3) (Int32.toNatClampNeg (4 * p2)))), (6, .int x6_57), (7, .int x7_57), (8, .int x8_57), (9, .int z0_88)]) rfl
              refine lv_iload hx hb dX6_nerves_90 (lv_at hl 5 rfl) ?_
              refine lv_iload hx hb dX6_nerves_92 (lv_at hl 8 rfl) ?_
              have J102 : ∀ (z1_102 : Int32) (jk : (Nat → Nat → Int32)) (H : Heap) (locs : List Loc), gS g A s H locs (gW g bb tx rw sb dy tn mo_76 jk) → ∀ ls : Array Slot, lv_has ls 10 [(0, .ref (gA g 58)), (1, .int p1), (2, .int p2), (3, .int p3), (5, .int ((mo.2 3) (Int32.toNatClampNeg (4 * p2)))), (7, .int x7_57), (8, .int x8_57), (9, .int z0_88)] → F_X6_nerves_b102  (F_X6_nerves_l57 n57 ) mo_76 p1 p2 p3 ((mo.2 3) (Int32.toNatClampNeg (4 * p2))) x7_57 x8_57 z0_88 x6_57 z1_102 = EE → W p l e (rmL (8)) s m [.ref (gA g 58), .int p1, .int p2, .int p3].toArray below meth c H locs 0 0 Q (F0 m 102 ls [.int z1_102, .int x6_57]) := by
                intro z1_102 jk H locs hG ls hl  hE
                unfold F_X6_nerves_b102 at hE
                refine lv_iadd hx hb dX6_nerves_102 ?_
                refine lv_istore (lv' := [(6, .int (x6_57 + z1_102)), (0, .ref (gA g 58)), (1, .int p1), (2, .int p2), (3, .int p3), (5, .int ((mo.2 3) (Int32.toNatClampNeg (4 * p2)))), (7, .int x7_57), (8, .int x8_57), (9, .int z0_88)]) hx hb dX6_nerves_103 hl (by decide) rfl (fun ls hl => ?_)
                replace hl := lv_sub hl [1, 2, 3, 4, 5, 0, 6, 7, 8] (l' := [(0, .ref (gA g 58)), (1, .int p1), (2, .int p2), (3, .int p3), (5, .int ((mo.2 3) (Int32.toNatClampNeg (4 * p2)))), (6, .int (x6_57 + z1_102)), (7, .int x7_57), (8, .int x8_57), (9, .int z0_88)]) rfl
                refine lv_iload hx hb dX6_nerves_105 (lv_at hl 8 rfl) ?_
                have J123 : ∀ (z0_123 : Int32) (jk : (Nat → Nat → Int32)) (H : Heap) (locs : List Loc), gS g A s H locs (gW g bb tx rw sb dy tn mo_76 jk) → ∀ ls : Array Slot, lv_has ls 10 [(0, .ref (gA g 58)), (1, .int p1), (2, .int p2), (3, .int p3), (5, .int ((mo.2 3) (Int32.toNatClampNeg (4 * p2)))), (6, .int (x6_57 + z1_102)), (8, .int x8_57)] → F_X6_nerves_b123  (F_X6_nerves_l57 n57 ) mo_76 p1 p2 p3 ((mo.2 3) (Int32.toNatClampNeg (4 * p2))) (x6_57 + z1_102) x8_57 z0_123 = EE → W p l e (rmL (8)) s m [.ref (gA g 58), .int p1, .int p2, .int p3].toArray below meth c H locs 0 0 Q (F0 m 123 ls [.int z0_123]) := by
                  intro z0_123 jk H locs hG ls hl  hE
                  unfold F_X6_nerves_b123 at hE
                  refine lv_istore (lv' := [(7, .int z0_123), (0, .ref (gA g 58)), (1, .int p1), (2, .int p2), (3, .int p3), (5, .int ((mo.2 3) (Int32.toNatClampNeg (4 * p2)))), (6, .int (x6_57 + z1_102)), (8, .int x8_57)]) hx hb dX6_nerves_123 hl (by decide) rfl (fun ls hl => ?_)
                  replace hl := lv_sub hl [1, 2, 3, 4, 5, 6, 0, 7] (l' := [(0, .ref (gA g 58)), (1, .int p1), (2, .int p2), (3, .int p3), (5, .int ((mo.2 3) (Int32.toNatClampNeg (4 * p2)))), (6, .int (x6_57 + z1_102)), (7, .int z0_123), (8, .int x8_57)]) rfl
                  refine lv_iinc (v := (x8_57 + 1)) (lv' := [(8, .int (x8_57 + 1)), (0, .ref (gA g 58)), (1, .int p1), (2, .int p2), (3, .int p3), (5, .int ((mo.2 3) (Int32.toNatClampNeg (4 * p2)))), (6, .int (x6_57 + z1_102)), (7, .int z0_123)]) hx hb dX6_nerves_125 hl (k := 7) rfl rfl (by decide) rfl (fun ls hl => ?_)
                  replace hl := lv_sub hl [1, 2, 3, 4, 5, 6, 7, 0] (l' := [(0, .ref (gA g 58)), (1, .int p1), (2, .int p2), (3, .int p3), (5, .int ((mo.2 3) (Int32.toNatClampNeg (4 * p2)))), (6, .int (x6_57 + z1_102)), (7, .int z0_123), (8, .int (x8_57 + 1))]) rfl
                  refine lv_goto (tgt := 57) hx hb dX6_nerves_128 (by decide) ?_
                  have e4 : (x8_57 + 1).toInt = x8_57.toInt + 1 := addL (k := 1) (by decide +kernel) (by clear hE; omega) (by clear hE; omega)
                  exact ih57 (x6_57 + z1_102) z0_123 (x8_57 + 1) mo_76 _ _ _ hG _ (lv_sub hl [0, 1, 2, 3, 4, 5, 6, 7] rfl) (by clear hE; omega) (by clear hE; omega) (by clear hE; omega) hv76 hz76 hE
                have J121 : ∀  (jk : (Nat → Nat → Int32)) (H : Heap) (locs : List Loc), gS g A s H locs (gW g bb tx rw sb dy tn mo_76 jk) → ∀ ls : Array Slot, lv_has ls 10 [(0, .ref (gA g 58)), (1, .int p1), (2, .int p2), (3, .int p3), (5, .int ((mo.2 3) (Int32.toNatClampNeg (4 * p2)))), (6, .int (x6_57 + z1_102)), (7, .int x7_57), (8, .int x8_57)] → F_X6_nerves_b121  (F_X6_nerves_l57 n57 ) mo_76 p1 p2 p3 ((mo.2 3) (Int32.toNatClampNeg (4 * p2))) (x6_57 + z1_102) x7_57 x8_57 = EE → W p l e (rmL (8)) s m [.ref (gA g 58), .int p1, .int p2, .int p3].toArray below meth c H locs 0 0 Q (F0 m 121 ls []) := by
                  intro  jk H locs hG ls hl  hE
                  unfold F_X6_nerves_b121 at hE
                  refine lv_iload hx hb dX6_nerves_121 (lv_at hl 6 rfl) ?_
                  exact J123 x7_57 _ _ _ hG _ (lv_sub hl [0, 1, 2, 3, 4, 5, 7] rfl) hE
                refine lv_if_eq (tgt := 121) hx hb dX6_nerves_107 (by decide) (fun c_107 => ?_) (fun c_107 => ?_)
                · replace hE := (if_pos c_107).symm.trans hE
                  have i_107 : z0_88.toInt = 0 := congrArg Int32.toInt c_107
                  exact J121 _ _ _ hG _ (lv_sub hl [0, 1, 2, 3, 4, 5, 6, 7] rfl) hE
                replace hE := (if_neg c_107).symm.trans hE
                have i_107 : z0_88.toInt ≠ 0 := fun h => c_107 (Int32.toInt_inj.mp h)
                refine lv_iload hx hb dX6_nerves_110 (lv_at hl 6 rfl) ?_
                refine lv_iconst (v := (-1)) hx hb dX6_nerves_112 (by decide) ?_
                refine lv_icmp_ne (tgt := 121) hx hb dX6_nerves_113 (by decide) (fun c_113 => ?_) (fun c_113 => ?_)
                · replace hE := (if_neg c_113).symm.trans hE
                  have i_113 : x7_57.toInt ≠ (-1) := fun h => c_113 (Int32.toInt_inj.mp h)
                  exact J121 _ _ _ hG _ (lv_sub hl [0, 1, 2, 3, 4, 5, 6, 7] rfl) hE
                replace hE := (if_pos c_113).symm.trans hE
                have i_113 : x7_57.toInt = (-1) := congrArg Int32.toInt c_113
                refine lv_iload hx hb dX6_nerves_116 (lv_at hl 7 rfl) ?_
                refine lv_goto (tgt := 123) hx hb dX6_nerves_118 (by decide) ?_
                exact J123 x8_57 _ _ _ hG _ (lv_sub hl [0, 1, 2, 3, 4, 5, 7] rfl) hE
              refine lv_if_eq (tgt := 101) hx hb dX6_nerves_94 (by decide) (fun c_94 => ?_) (fun c_94 => ?_)
              · replace hE := (if_pos c_94).symm.trans hE
                have i_94 : z0_88.toInt = 0 := congrArg Int32.toInt c_94
                refine lv_iconst (v := 0) hx hb dX6_nerves_101 (by decide) ?_
                exact J102 0 _ _ _ hG _ (lv_sub hl [0, 1, 2, 3, 4, 6, 7, 8] rfl) hE
              replace hE := (if_neg c_94).symm.trans hE
              have i_94 : z0_88.toInt ≠ 0 := fun h => c_94 (Int32.toInt_inj.mp h)
              refine lv_iconst (v := 1) hx hb dX6_nerves_97 (by decide) ?_
              refine lv_goto (tgt := 102) hx hb dX6_nerves_98 (by decide) ?_
              exact J102 1 _ _ _ hG _ (lv_sub hl [0, 1, 2, 3, 4, 6, 7, 8] rfl) hE
            refine lv_icmp_ne (tgt := 87) hx hb dX6_nerves_80 (by decide) (fun c_80 => ?_) (fun c_80 => ?_)
            · replace hE := (if_neg c_80).symm.trans hE
              have i_80 : r_76.toInt ≠ (-1) := fun h => c_80 (Int32.toInt_inj.mp h)
              refine lv_iconst (v := 0) hx hb dX6_nerves_87 (by decide) ?_
              exact J88 0 _ _ _ hG _ (lv_sub hl [0, 1, 2, 3, 4, 5, 6, 7] rfl) hE
            replace hE := (if_pos c_80).symm.trans hE
            have i_80 : r_76.toInt = (-1) := congrArg Int32.toInt c_80
            refine lv_iconst (v := 1) hx hb dX6_nerves_83 (by decide) ?_
            refine lv_goto (tgt := 88) hx hb dX6_nerves_84 (by decide) ?_
            exact J88 1 _ _ _ hG _ (lv_sub hl [0, 1, 2, 3, 4, 5, 6, 7] rfl) hE
        exact L57 101 0 (-1) 0 mo _ _ _ hG _ (lv_sub hl [0, 1, 2, 3, 5, 6, 7, 8] rfl) (by decide) (by decide) (by decide) hv i_9.2 hE
      replace hE := (if_pos c_32).symm.trans hE
      refine lv_bipush (v := (-7)) hx hb dX6_nerves_35 (by decide) ?_
      subst hQ
      exact g_iret hx hb hr hlocks hG ((mo, jk) : Ob × (Nat → Nat → Int32)) rfl hE.symm dX6_nerves_37
    replace hE := (if_pos c_20).symm.trans hE
    refine lv_bipush (v := (-5)) hx hb dX6_nerves_23 (by decide) ?_
    subst hQ
    exact g_iret hx hb hr hlocks hG ((mo, jk) : Ob × (Nat → Nat → Int32)) rfl hE.symm dX6_nerves_25
  replace hE := (if_neg c_9).symm.trans hE
  refine lv_iload hx hb dX6_nerves_12 (lv_at hl 4 rfl) ?_
  subst hQ
  exact g_iret hx hb hr hlocks hG ((mo, jk) : Ob × (Nat → Nat → Int32)) rfl hE.symm dX6_nerves_14
def F_X6_turned_b68 (K17 : Ob → Int32 → Int32 → Int32 → Int32 × Ob) (mo : Ob) (x1 : Int32) (x4 : Int32) (z0 : Int32) (z1 : Int32) : Int32 × Ob :=
  (K17 (stA mo 3 ((4 * x4) + 3) (1 - ((mo.2 3) (Int32.toNatClampNeg ((4 * x4) + 3))))) x1 (z0 ||| z1) (x4 + 1))
def F_X6_turned_c53 (K17 : Ob → Int32 → Int32 → Int32 → Int32 × Ob) (u : Int32 × Ob) (x1 : Int32) (x4 : Int32) (z0 : Int32) : Int32 × Ob :=
  (if u.1 = (-1) then (F_X6_turned_b68 K17 u.2 x1 x4 z0 (1 <<< (x4 &&& 31))) else (F_X6_turned_b68 K17 u.2 x1 x4 z0 0))
def F_X6_turned_l17 : Nat → Ob → Int32 → Int32 → Int32 → Int32 × Ob
  | 0, mo, _, _, _ => (0, mo)
  | n + 1, mo, x1, x3, x4 =>
    (if (mo.1 0) ≤ x4 then (x3, mo) else (F_X6_turned_c53 (F_X6_turned_l17 n ) (F_X6_unlike (stA mo 3 ((4 * x4) + 3) (1 - ((mo.2 3) (Int32.toNatClampNeg ((4 * x4) + 3))))) x1) x1 x4 x3))
def F_X6_turned (mo : Ob) (p1 : Int32) : Int32 × Ob :=
  (if (F_X6_sheetWrong mo p1) = 0 then (F_X6_turned_l17 7  mo p1 0 0) else ((F_X6_sheetWrong mo p1), mo))
set_option maxHeartbeats 4000000 in
set_option maxRecDepth 100000 in
theorem c_X6_turned {l : Launch} {g : GG} {sz : Nat} {bb : Ob} {tx rw : Nat → Ob} {sb dy : Ob} {tn : Nat → Ob} {mo : Ob} {jk : Nat → Nat → Int32}  (p1 : Int32) (hv : mEv mo) : Met l yX6_turned (Cond.code yX6_turned cX6_turned 5 (some .int) :: TT) (rmL (8)) (va_Pc [.ref (gA g 58), .int p1] (gB g sz (gW g bb tx rw sb dy tn mo jk))) (va_Qi (fun r (u : Ob × (Nat → Nat → Int32)) => (F_X6_turned mo p1) = (r, u.1)) (fun u t => gC g (va_A (gW g bb tx rw sb dy tn mo jk) sz) (gW g bb tx rw sb dy tn u.1 u.2) t) (va_A (gW g bb tx rw sb dy tn mo jk) sz)) 0 0 (va_A (gW g bb tx rw sb dy tn mo jk) sz) := by
  generalize hE : F_X6_turned mo p1 = EE
  refine g_of (Qf := fun A => (va_Qi (fun r (u : Ob × (Nat → Nat → Int32)) => EE = (r, u.1)) (fun u t => gC g A (gW g bb tx rw sb dy tn u.1 u.2) t) A)) (cc := cX6_turned) (maxL := 5) (ret := (some .int)) (by decide) (Nat.le_of_ble_eq_true rfl) ?_
  intro p e s m below meth c A ls hx hb hml hr hlocks hts hown hA hG hl
  replace hown : s.vm.findClass RX6 = some m.cls := hown
  replace hl : lv_has ls 5 [(0, .ref (gA g 58)), (1, .int p1)] := hl
  show W p l e (rmL (8)) s m [.ref (gA g 58), .int p1].toArray below meth c s.heap [] 0 0 (MQ below (va_Qi (fun r (u : Ob × (Nat → Nat → Int32)) => EE = (r, u.1)) (fun u t => gC g A (gW g bb tx rw sb dy tn u.1 u.2) t) A) [.ref (gA g 58), .int p1].toArray s 0 0 A) (F0 m 0 ls [])
  generalize hQ : MQ below (va_Qi (fun r (u : Ob × (Nat → Nat → Int32)) => EE = (r, u.1)) (fun u t => gC g A (gW g bb tx rw sb dy tn u.1 u.2) t) A) [.ref (gA g 58), .int p1].toArray s 0 0 A = Q
  have hpo := hv.1
  unfold F_X6_turned at hE
  refine lv_aload_n hx hb dX6_turned_0 rfl (lv_at hl 0 rfl) ?_
  refine lv_iload_n hx hb dX6_turned_1 rfl (lv_at hl 1 rfl) ?_
  refine g_ci (g_runV (n := 1) (rest := []) hx hb hml hown hts hG (c_X6_sheetWrong p1) tw_ml_RX6_235 tw_im_X6_sheetWrong tw_se_X6_sheetWrong tw_in_RX6 tw_cd_X6_sheetWrong (by decide +kernel) ⟨rfl, rfl, Nat.le_of_ble_eq_true rfl, Nat.le_of_ble_eq_true rfl⟩ gw_Model rfl rfl hl.1 rfl (Nat.le_of_ble_eq_true rfl) dX6_turned_2 ⟨Nat.le_refl _, Nat.le_refl _⟩) hG hA (fun r _ H locs hp hG => ?_)
  subst hp
  replace hG : gS g A s H locs (gW g bb tx rw sb dy tn mo jk) := hG
  refine lv_istore_n (lv' := [(2, .int (F_X6_sheetWrong mo p1)), (0, .ref (gA g 58)), (1, .int p1)]) hx hb dX6_turned_5 rfl hl (by decide) rfl (fun ls hl => ?_)
  replace hl := lv_sub hl [1, 2, 0] (l' := [(0, .ref (gA g 58)), (1, .int p1), (2, .int (F_X6_sheetWrong mo p1))]) rfl
  refine lv_iload_n hx hb dX6_turned_6 rfl (lv_at hl 2 rfl) ?_
  refine lv_if_eq (tgt := 12) hx hb dX6_turned_7 (by decide) (fun c_7 => ?_) (fun c_7 => ?_)
  · replace hE := (if_pos c_7).symm.trans hE
    have i_7 := sheetWrong_f c_7
    refine lv_iconst (v := 0) hx hb dX6_turned_12 (by decide) ?_
    refine lv_istore_n (lv' := [(3, .int 0), (0, .ref (gA g 58)), (1, .int p1), (2, .int (F_X6_sheetWrong mo p1))]) hx hb dX6_turned_13 rfl hl (by decide) rfl (fun ls hl => ?_)
    replace hl := lv_sub hl [1, 2, 3, 0] (l' := [(0, .ref (gA g 58)), (1, .int p1), (2, .int (F_X6_sheetWrong mo p1)), (3, .int 0)]) rfl
    refine lv_iconst (v := 0) hx hb dX6_turned_14 (by decide) ?_
    refine lv_istore (lv' := [(4, .int 0), (0, .ref (gA g 58)), (1, .int p1), (2, .int (F_X6_sheetWrong mo p1)), (3, .int 0)]) hx hb dX6_turned_15 hl (by decide) rfl (fun ls hl => ?_)
    replace hl := lv_sub hl [1, 2, 3, 4, 0] (l' := [(0, .ref (gA g 58)), (1, .int p1), (2, .int (F_X6_sheetWrong mo p1)), (3, .int 0), (4, .int 0)]) rfl
    have L17 : ∀ (n17 : Nat) (x3_17 : Int32) (x4_17 : Int32) (mo_17 : Ob) (jk : (Nat → Nat → Int32)) (H : Heap) (locs : List Loc), gS g A s H locs (gW g bb tx rw sb dy tn mo_17 jk) → ∀ ls : Array Slot, lv_has ls 5 [(0, .ref (gA g 58)), (1, .int p1), (3, .int x3_17), (4, .int x4_17)] → 0 ≤ x4_17.toInt → x4_17.toInt ≤ 6 → 6 < x4_17.toInt + n17 → mEv mo_17 → ((mo_17.2 15) (Int32.toNatClampNeg p1)).toInt ≤ 24 → F_X6_turned_l17 n17  mo_17 p1 x3_17 x4_17 = EE → W p l e (rmL (8)) s m [.ref (gA g 58), .int p1].toArray below meth c H locs 0 0 Q (F0 m 17 ls []) := by
      intro n17
      induction n17 with
      | zero =>
        intro x3_17 x4_17 mo_17 jk H locs hG ls hl h0_17 h1_17 hm_17 hv17 hz17 hE
        clear hE; omega
      | succ n17 ih17 =>
        intro x3_17 x4_17 mo_17 jk H locs hG ls hl h0_17 h1_17 hm_17 hv17 hz17 hE
        unfold F_X6_turned_l17 at hE
        have hpo17 := hv17.1
        refine lv_iload hx hb dX6_turned_17 (lv_at hl 3 rfl) ?_
        refine lv_aload_n hx hb dX6_turned_19 rfl (lv_at hl 0 rfl) ?_
        refine g_get hx hb hts hiX6 hown hG gw_Model rfl 0 (by decide) (index := 78) tw_fl_RX6_78 (v := .int (mo_17.1 0)) rfl dX6_turned_20 ?_
        refine lv_icmp_ge (tgt := 100) hx hb dX6_turned_23 (by decide) (fun c_23 => ?_) (fun c_23 => ?_)
        · replace hE := (if_pos c_23).symm.trans hE
          have i_23 : (mo_17.1 0).toInt ≤ x4_17.toInt := i_le.mp c_23
          refine lv_iload_n hx hb dX6_turned_100 rfl (lv_at hl 2 rfl) ?_
          subst hQ
          exact g_iret hx hb hr hlocks hG ((mo_17, jk) : Ob × (Nat → Nat → Int32)) rfl hE.symm dX6_turned_101
        replace hE := (if_neg c_23).symm.trans hE
        have i_23 : x4_17.toInt < (mo_17.1 0).toInt := i_nle c_23
        refine lv_aload_n hx hb dX6_turned_26 rfl (lv_at hl 0 rfl) ?_
        refine g_get hx hb hts hiX6 hown hG gw_Model rfl 3 (by decide) (index := 16) tw_fl_RX6_16 (v := .ref (gA g 61)) rfl dX6_turned_27 ?_
        refine lv_iconst (v := 4) hx hb dX6_turned_30 (by decide) ?_
        refine lv_iload hx hb dX6_turned_31 (lv_at hl 3 rfl) ?_
        refine lv_imul hx hb dX6_turned_33 ?_
        refine lv_iconst (v := 3) hx hb dX6_turned_34 (by decide) ?_
        refine lv_iadd hx hb dX6_turned_35 ?_
        refine lv_iconst (v := 1) hx hb dX6_turned_36 (by decide) ?_
        refine lv_aload_n hx hb dX6_turned_37 rfl (lv_at hl 0 rfl) ?_
        refine g_get hx hb hts hiX6 hown hG gw_Model rfl 3 (by decide) (index := 16) tw_fl_RX6_16 (v := .ref (gA g 61)) rfl dX6_turned_38 ?_
        refine lv_iconst (v := 4) hx hb dX6_turned_41 (by decide) ?_
        refine lv_iload hx hb dX6_turned_42 (lv_at hl 3 rfl) ?_
        refine lv_imul hx hb dX6_turned_44 ?_
        refine lv_iconst (v := 3) hx hb dX6_turned_45 (by decide) ?_
        refine lv_iadd hx hb dX6_turned_46 ?_
        have e1 : (4 * x4_17).toInt = 4 * x4_17.toInt := mulL (k := 4) (by decide +kernel) (by clear hE; omega) (by clear hE; omega)
        have e2 : ((4 * x4_17) + 3).toInt = (4 * x4_17).toInt + 3 := addL (k := 3) (by decide +kernel) (by clear hE; omega) (by clear hE; omega)
        refine g_ild (f := (mo_17.2 3)) hx hb hG gw_Model_a3 (show vp_in ((4 * x4_17) + 3) 24 from (vp_i (by clear hE; omega) (by clear hE; omega))) dX6_turned_47 ?_
        refine lv_isub hx hb dX6_turned_48 ?_
        have e3 : (4 * x4_17).toInt = 4 * x4_17.toInt := mulL (k := 4) (by decide +kernel) (by clear hE; omega) (by clear hE; omega)
        have e4 : ((4 * x4_17) + 3).toInt = (4 * x4_17).toInt + 3 := addL (k := 3) (by decide +kernel) (by clear hE; omega) (by clear hE; omega)
        refine g_ist hx hb hG gw_Model_a3 (show vp_in ((4 * x4_17) + 3) 24 from (vp_i (by clear hE; omega) (by clear hE; omega))) gs_Model_a3 dX6_turned_49 (fun H locs hG => ?_)
        refine lv_iload_n hx hb dX6_turned_50 rfl (lv_at hl 2 rfl) ?_
        refine lv_aload_n hx hb dX6_turned_51 rfl (lv_at hl 0 rfl) ?_
        refine lv_iload_n hx hb dX6_turned_52 rfl (lv_at hl 1 rfl) ?_
        refine g_ci (g_runV (n := 1) (rest := [.int x3_17]) hx hb hml hown hts hG (c_X6_unlike p1 (mEv_of hv17 rfl rfl rfl rfl) (by clear hE; omega) (show _ ≤ _ from Int.le_trans hz17 (by decide))) tw_ml_RX6_238 tw_im_X6_unlike tw_se_X6_unlike tw_in_RX6 tw_cd_X6_unlike (by decide +kernel) ⟨rfl, rfl, Nat.le_of_ble_eq_true rfl, Nat.le_of_ble_eq_true rfl⟩ gw_Model rfl rfl hl.1 rfl (Nat.le_of_ble_eq_true rfl) dX6_turned_53 ⟨Nat.le_refl _, Nat.le_refl _⟩) hG hA (fun r_53 u H locs hp hG => ?_)
        obtain ⟨mo_53, jk⟩ := u
        replace hG : gS g A s H locs (gW g bb tx rw sb dy tn mo_53 jk) := by simpa only [up_up] using hG
        have hp_53 := hp
        rw [hp] at hE
        unfold F_X6_turned_c53 at hE
        try dsimp only at hE
        have hv53 : mEv mo_53 := (unlike_hR hp_53).mEv (mEv_of hv17 rfl rfl rfl rfl)
        have hz53 : ((mo_53.2 15) (Int32.toNatClampNeg p1)).toInt ≤ 24 := by rw [(unlike_hR hp_53).2 15 (by decide) (by decide) (by decide)]; exact hz17
        refine lv_iconst (v := (-1)) hx hb dX6_turned_56 (by decide) ?_
        have J68 : ∀ (z1_68 : Int32) (jk : (Nat → Nat → Int32)) (H : Heap) (locs : List Loc), gS g A s H locs (gW g bb tx rw sb dy tn mo_53 jk) → ∀ ls : Array Slot, lv_has ls 5 [(0, .ref (gA g 58)), (1, .int p1), (4, .int x4_17)] → F_X6_turned_b68  (F_X6_turned_l17 n17 ) mo_53 p1 x4_17 x3_17 z1_68 = EE → W p l e (rmL (8)) s m [.ref (gA g 58), .int p1].toArray below meth c H locs 0 0 Q (F0 m 68 ls [.int z1_68, .int x3_17]) := by
          intro z1_68 jk H locs hG ls hl  hE
          unfold F_X6_turned_b68 at hE
          refine lv_ior hx hb dX6_turned_68 ?_
          refine lv_istore_n (lv' := [(3, .int (x3_17 ||| z1_68)), (0, .ref (gA g 58)), (1, .int p1), (4, .int x4_17)]) hx hb dX6_turned_69 rfl hl (by decide) rfl (fun ls hl => ?_)
          replace hl := lv_sub hl [1, 2, 0, 3] (l' := [(0, .ref (gA g 58)), (1, .int p1), (3, .int (x3_17 ||| z1_68)), (4, .int x4_17)]) rfl
          refine lv_aload_n hx hb dX6_turned_70 rfl (lv_at hl 0 rfl) ?_
          refine g_get hx hb hts hiX6 hown hG gw_Model rfl 3 (by decide) (index := 16) tw_fl_RX6_16 (v := .ref (gA g 61)) rfl dX6_turned_71 ?_
          refine lv_iconst (v := 4) hx hb dX6_turned_74 (by decide) ?_
          refine lv_iload hx hb dX6_turned_75 (lv_at hl 3 rfl) ?_
          refine lv_imul hx hb dX6_turned_77 ?_
          refine lv_iconst (v := 3) hx hb dX6_turned_78 (by decide) ?_
          refine lv_iadd hx hb dX6_turned_79 ?_
          refine lv_iconst (v := 1) hx hb dX6_turned_80 (by decide) ?_
          refine lv_aload_n hx hb dX6_turned_81 rfl (lv_at hl 0 rfl) ?_
          refine g_get hx hb hts hiX6 hown hG gw_Model rfl 3 (by decide) (index := 16) tw_fl_RX6_16 (v := .ref (gA g 61)) rfl dX6_turned_82 ?_
          refine lv_iconst (v := 4) hx hb dX6_turned_85 (by decide) ?_
          refine lv_iload hx hb dX6_turned_86 (lv_at hl 3 rfl) ?_
          refine lv_imul hx hb dX6_turned_88 ?_
          refine lv_iconst (v := 3) hx hb dX6_turned_89 (by decide) ?_
          refine lv_iadd hx hb dX6_turned_90 ?_
          have e5 : (4 * x4_17).toInt = 4 * x4_17.toInt := mulL (k := 4) (by decide +kernel) (by clear hE; omega) (by clear hE; omega)
          have e6 : ((4 * x4_17) + 3).toInt = (4 * x4_17).toInt + 3 := addL (k := 3) (by decide +kernel) (by clear hE; omega) (by clear hE; omega)
          refine g_ild (f := (mo_53.2 3)) hx hb hG gw_Model_a3 (show vp_in ((4 * x4_17) + 3) 24 from (vp_i (by clear hE; omega) (by clear hE; omega))) dX6_turned_91 ?_
          refine lv_isub hx hb dX6_turned_92 ?_
          have e7 : (4 * x4_17).toInt = 4 * x4_17.toInt := mulL (k := 4) (by decide +kernel) (by clear hE; omega) (by clear hE; omega)
          have e8 : ((4 * x4_17) + 3).toInt = (4 * x4_17).toInt + 3 := addL (k := 3) (by decide +kernel) (by clear hE; omega) (by clear hE; omega)
          refine g_ist hx hb hG gw_Model_a3 (show vp_in ((4 * x4_17) + 3) 24 from (vp_i (by clear hE; omega) (by clear hE; omega))) gs_Model_a3 dX6_turned_93 (fun H locs hG => ?_)
          refine lv_iinc (v := (x4_17 + 1)) (lv' := [(4, .int (x4_17 + 1)), (0, .ref (gA g 58)), (1, .int p1), (3, .int (x3_17 ||| z1_68))]) hx hb dX6_turned_94 hl (k := 3) rfl rfl (by decide) rfl (fun ls hl => ?_)
          replace hl := lv_sub hl [1, 2, 3, 0] (l' := [(0, .ref (gA g 58)), (1, .int p1), (3, .int (x3_17 ||| z1_68)), (4, .int (x4_17 + 1))]) rfl
          refine lv_goto (tgt := 17) hx hb dX6_turned_97 (by decide) ?_
          have e9 : (x4_17 + 1).toInt = x4_17.toInt + 1 := addL (k := 1) (by decide +kernel) (by clear hE; omega) (by clear hE; omega)
          exact ih17 (x3_17 ||| z1_68) (x4_17 + 1) (stA mo_53 3 ((4 * x4_17) + 3) (1 - ((mo_53.2 3) (Int32.toNatClampNeg ((4 * x4_17) + 3))))) _ _ _ hG _ (lv_sub hl [0, 1, 2, 3] rfl) (by clear hE; omega) (by clear hE; omega) (by clear hE; omega) (mEv_of hv53 rfl rfl rfl rfl) hz53 hE
        refine lv_icmp_ne (tgt := 67) hx hb dX6_turned_57 (by decide) (fun c_57 => ?_) (fun c_57 => ?_)
        · replace hE := (if_neg c_57).symm.trans hE
          have i_57 : r_53.toInt ≠ (-1) := fun h => c_57 (Int32.toInt_inj.mp h)
          refine lv_iconst (v := 0) hx hb dX6_turned_67 (by decide) ?_
          exact J68 0 _ _ _ hG _ (lv_sub hl [0, 1, 3] rfl) hE
        replace hE := (if_pos c_57).symm.trans hE
        have i_57 : r_53.toInt = (-1) := congrArg Int32.toInt c_57
        refine lv_iconst (v := 1) hx hb dX6_turned_60 (by decide) ?_
        refine lv_iload hx hb dX6_turned_61 (lv_at hl 3 rfl) ?_
        refine lv_ishl hx hb dX6_turned_63 ?_
        refine lv_goto (tgt := 68) hx hb dX6_turned_64 (by decide) ?_
        exact J68 (1 <<< (x4_17 &&& 31)) _ _ _ hG _ (lv_sub hl [0, 1, 3] rfl) hE
    exact L17 7 0 0 mo _ _ _ hG _ (lv_sub hl [0, 1, 3, 4] rfl) (by decide) (by decide) (by decide) hv i_7.2 hE
  replace hE := (if_neg c_7).symm.trans hE
  refine lv_iload_n hx hb dX6_turned_10 rfl (lv_at hl 2 rfl) ?_
  subst hQ
  exact g_iret hx hb hr hlocks hG ((mo, jk) : Ob × (Nat → Nat → Int32)) rfl hE.symm dX6_turned_11
def F_X6_hours_b59 (K25 : Ob → Int32 → Int32 → Int32 → Int32 → Int32 × Ob) (mo : Ob) (x1 : Int32) (x3 : Int32) (x5 : Int32) (z0 : Int32) (z1 : Int32) : Int32 × Ob :=
  (K25 mo x1 x3 (z0 ||| z1) (x5 + 1))
def F_X6_hours_c44 (K25 : Ob → Int32 → Int32 → Int32 → Int32 → Int32 × Ob) (u : Int32 × Ob) (x1 : Int32) (x3 : Int32) (x5 : Int32) (z0 : Int32) : Int32 × Ob :=
  (if u.1 = (-1) then (F_X6_hours_b59 K25 u.2 x1 x3 x5 z0 (1 <<< (x5 &&& 31))) else (F_X6_hours_b59 K25 u.2 x1 x3 x5 z0 0))
def F_X6_hours_l25 : Nat → Ob → Int32 → Int32 → Int32 → Int32 → Int32 × Ob
  | 0, mo, _, _, _, _ => (0, mo)
  | n + 1, mo, x1, x3, x4, x5 =>
    (if 24 ≤ x5 then (x4, (stA mo 4 0 x3)) else (F_X6_hours_c44 (F_X6_hours_l25 n ) (F_X6_unlike (stA mo 4 0 x5) x1) x1 x3 x5 x4))
def F_X6_hours (mo : Ob) (p1 : Int32) : Int32 × Ob :=
  (if (F_X6_sheetWrong mo p1) = 0 then (F_X6_hours_l25 25  mo p1 ((mo.2 4) (Int32.toNatClampNeg 0)) 0 0) else ((F_X6_sheetWrong mo p1), mo))
set_option maxHeartbeats 4000000 in
set_option maxRecDepth 100000 in
theorem c_X6_hours {l : Launch} {g : GG} {sz : Nat} {bb : Ob} {tx rw : Nat → Ob} {sb dy : Ob} {tn : Nat → Ob} {mo : Ob} {jk : Nat → Nat → Int32}  (p1 : Int32) (hv : mEv mo) : Met l yX6_hours (Cond.code yX6_hours cX6_hours 6 (some .int) :: TT) (rmL (8)) (va_Pc [.ref (gA g 58), .int p1] (gB g sz (gW g bb tx rw sb dy tn mo jk))) (va_Qi (fun r (u : Ob × (Nat → Nat → Int32)) => (F_X6_hours mo p1) = (r, u.1)) (fun u t => gC g (va_A (gW g bb tx rw sb dy tn mo jk) sz) (gW g bb tx rw sb dy tn u.1 u.2) t) (va_A (gW g bb tx rw sb dy tn mo jk) sz)) 0 0 (va_A (gW g bb tx rw sb dy tn mo jk) sz) := by
  generalize hE : F_X6_hours mo p1 = EE
  refine g_of (Qf := fun A => (va_Qi (fun r (u : Ob × (Nat → Nat → Int32)) => EE = (r, u.1)) (fun u t => gC g A (gW g bb tx rw sb dy tn u.1 u.2) t) A)) (cc := cX6_hours) (maxL := 6) (ret := (some .int)) (by decide) (Nat.le_of_ble_eq_true rfl) ?_
  intro p e s m below meth c A ls hx hb hml hr hlocks hts hown hA hG hl
  replace hown : s.vm.findClass RX6 = some m.cls := hown
  replace hl : lv_has ls 6 [(0, .ref (gA g 58)), (1, .int p1)] := hl
  show W p l e (rmL (8)) s m [.ref (gA g 58), .int p1].toArray below meth c s.heap [] 0 0 (MQ below (va_Qi (fun r (u : Ob × (Nat → Nat → Int32)) => EE = (r, u.1)) (fun u t => gC g A (gW g bb tx rw sb dy tn u.1 u.2) t) A) [.ref (gA g 58), .int p1].toArray s 0 0 A) (F0 m 0 ls [])
  generalize hQ : MQ below (va_Qi (fun r (u : Ob × (Nat → Nat → Int32)) => EE = (r, u.1)) (fun u t => gC g A (gW g bb tx rw sb dy tn u.1 u.2) t) A) [.ref (gA g 58), .int p1].toArray s 0 0 A = Q
  have hpo := hv.1
  unfold F_X6_hours at hE
  refine lv_aload_n hx hb dX6_hours_0 rfl (lv_at hl 0 rfl) ?_
  refine lv_iload_n hx hb dX6_hours_1 rfl (lv_at hl 1 rfl) ?_
  refine g_ci (g_runV (n := 1) (rest := []) hx hb hml hown hts hG (c_X6_sheetWrong p1) tw_ml_RX6_235 tw_im_X6_sheetWrong tw_se_X6_sheetWrong tw_in_RX6 tw_cd_X6_sheetWrong (by decide +kernel) ⟨rfl, rfl, Nat.le_of_ble_eq_true rfl, Nat.le_of_ble_eq_true rfl⟩ gw_Model rfl rfl hl.1 rfl (Nat.le_of_ble_eq_true rfl) dX6_hours_2 ⟨Nat.le_refl _, Nat.le_refl _⟩) hG hA (fun r _ H locs hp hG => ?_)
  subst hp
  replace hG : gS g A s H locs (gW g bb tx rw sb dy tn mo jk) := hG
  refine lv_istore_n (lv' := [(2, .int (F_X6_sheetWrong mo p1)), (0, .ref (gA g 58)), (1, .int p1)]) hx hb dX6_hours_5 rfl hl (by decide) rfl (fun ls hl => ?_)
  replace hl := lv_sub hl [1, 2, 0] (l' := [(0, .ref (gA g 58)), (1, .int p1), (2, .int (F_X6_sheetWrong mo p1))]) rfl
  refine lv_iload_n hx hb dX6_hours_6 rfl (lv_at hl 2 rfl) ?_
  refine lv_if_eq (tgt := 12) hx hb dX6_hours_7 (by decide) (fun c_7 => ?_) (fun c_7 => ?_)
  · replace hE := (if_pos c_7).symm.trans hE
    have i_7 := sheetWrong_f c_7
    refine lv_aload_n hx hb dX6_hours_12 rfl (lv_at hl 0 rfl) ?_
    refine g_get hx hb hts hiX6 hown hG gw_Model rfl 4 (by decide) (index := 19) tw_fl_RX6_19 (v := .ref (gA g 62)) rfl dX6_hours_13 ?_
    refine lv_iconst (v := 0) hx hb dX6_hours_16 (by decide) ?_
    refine g_ild (f := (mo.2 4)) hx hb hG gw_Model_a4 (show vp_in 0 3 from (by unfold vp_in; decide)) dX6_hours_17 ?_
    refine lv_istore_n (lv' := [(3, .int ((mo.2 4) (Int32.toNatClampNeg 0))), (0, .ref (gA g 58)), (1, .int p1), (2, .int (F_X6_sheetWrong mo p1))]) hx hb dX6_hours_18 rfl hl (by decide) rfl (fun ls hl => ?_)
    replace hl := lv_sub hl [1, 2, 3, 0] (l' := [(0, .ref (gA g 58)), (1, .int p1), (2, .int (F_X6_sheetWrong mo p1)), (3, .int ((mo.2 4) (Int32.toNatClampNeg 0)))]) rfl
    refine lv_iconst (v := 0) hx hb dX6_hours_19 (by decide) ?_
    refine lv_istore (lv' := [(4, .int 0), (0, .ref (gA g 58)), (1, .int p1), (2, .int (F_X6_sheetWrong mo p1)), (3, .int ((mo.2 4) (Int32.toNatClampNeg 0)))]) hx hb dX6_hours_20 hl (by decide) rfl (fun ls hl => ?_)
    replace hl := lv_sub hl [1, 2, 3, 4, 0] (l' := [(0, .ref (gA g 58)), (1, .int p1), (2, .int (F_X6_sheetWrong mo p1)), (3, .int ((mo.2 4) (Int32.toNatClampNeg 0))), (4, .int 0)]) rfl
    refine lv_iconst (v := 0) hx hb dX6_hours_22 (by decide) ?_
    refine lv_istore (lv' := [(5, .int 0), (0, .ref (gA g 58)), (1, .int p1), (2, .int (F_X6_sheetWrong mo p1)), (3, .int ((mo.2 4) (Int32.toNatClampNeg 0))), (4, .int 0)]) hx hb dX6_hours_23 hl (by decide) rfl (fun ls hl => ?_)
    replace hl := lv_sub hl [1, 2, 3, 4, 5, 0] (l' := [(0, .ref (gA g 58)), (1, .int p1), (2, .int (F_X6_sheetWrong mo p1)), (3, .int ((mo.2 4) (Int32.toNatClampNeg 0))), (4, .int 0), (5, .int 0)]) rfl
    have L25 : ∀ (n25 : Nat) (x4_25 : Int32) (x5_25 : Int32) (mo_25 : Ob) (jk : (Nat → Nat → Int32)) (H : Heap) (locs : List Loc), gS g A s H locs (gW g bb tx rw sb dy tn mo_25 jk) → ∀ ls : Array Slot, lv_has ls 6 [(0, .ref (gA g 58)), (1, .int p1), (3, .int ((mo.2 4) (Int32.toNatClampNeg 0))), (4, .int x4_25), (5, .int x5_25)] → 0 ≤ x5_25.toInt → x5_25.toInt ≤ 24 → 24 < x5_25.toInt + n25 → mEv mo_25 → ((mo_25.2 15) (Int32.toNatClampNeg p1)).toInt ≤ 24 → F_X6_hours_l25 n25  mo_25 p1 ((mo.2 4) (Int32.toNatClampNeg 0)) x4_25 x5_25 = EE → W p l e (rmL (8)) s m [.ref (gA g 58), .int p1].toArray below meth c H locs 0 0 Q (F0 m 25 ls []) := by
      intro n25
      induction n25 with
      | zero =>
        intro x4_25 x5_25 mo_25 jk H locs hG ls hl h0_25 h1_25 hm_25 hv25 hz25 hE
        clear hE; omega
      | succ n25 ih25 =>
        intro x4_25 x5_25 mo_25 jk H locs hG ls hl h0_25 h1_25 hm_25 hv25 hz25 hE
        unfold F_X6_hours_l25 at hE
        refine lv_iload hx hb dX6_hours_25 (lv_at hl 4 rfl) ?_
        refine lv_bipush (v := 24) hx hb dX6_hours_27 (by decide) ?_
        refine lv_icmp_ge (tgt := 68) hx hb dX6_hours_29 (by decide) (fun c_29 => ?_) (fun c_29 => ?_)
        · replace hE := (if_pos c_29).symm.trans hE
          have i_29 : 24 ≤ x5_25.toInt := i_le.mp c_29
          refine lv_aload_n hx hb dX6_hours_68 rfl (lv_at hl 0 rfl) ?_
          refine g_get hx hb hts hiX6 hown hG gw_Model rfl 4 (by decide) (index := 19) tw_fl_RX6_19 (v := .ref (gA g 62)) rfl dX6_hours_69 ?_
          refine lv_iconst (v := 0) hx hb dX6_hours_72 (by decide) ?_
          refine lv_iload_n hx hb dX6_hours_73 rfl (lv_at hl 2 rfl) ?_
          refine g_ist hx hb hG gw_Model_a4 (show vp_in 0 3 from (by unfold vp_in; decide)) gs_Model_a4 dX6_hours_74 (fun H locs hG => ?_)
          refine lv_iload hx hb dX6_hours_75 (lv_at hl 3 rfl) ?_
          subst hQ
          exact g_iret hx hb hr hlocks hG (((stA mo_25 4 0 ((mo.2 4) (Int32.toNatClampNeg 0))), jk) : Ob × (Nat → Nat → Int32)) rfl hE.symm dX6_hours_77
        replace hE := (if_neg c_29).symm.trans hE
        have i_29 : x5_25.toInt < 24 := i_nle c_29
        refine lv_aload_n hx hb dX6_hours_32 rfl (lv_at hl 0 rfl) ?_
        refine g_get hx hb hts hiX6 hown hG gw_Model rfl 4 (by decide) (index := 19) tw_fl_RX6_19 (v := .ref (gA g 62)) rfl dX6_hours_33 ?_
        refine lv_iconst (v := 0) hx hb dX6_hours_36 (by decide) ?_
        refine lv_iload hx hb dX6_hours_37 (lv_at hl 4 rfl) ?_
        refine g_ist hx hb hG gw_Model_a4 (show vp_in 0 3 from (by unfold vp_in; decide)) gs_Model_a4 dX6_hours_39 (fun H locs hG => ?_)
        refine lv_iload hx hb dX6_hours_40 (lv_at hl 3 rfl) ?_
        refine lv_aload_n hx hb dX6_hours_42 rfl (lv_at hl 0 rfl) ?_
        refine lv_iload_n hx hb dX6_hours_43 rfl (lv_at hl 1 rfl) ?_
        refine g_ci (g_runV (n := 1) (rest := [.int x4_25]) hx hb hml hown hts hG (c_X6_unlike p1 (mEv_of hv25 rfl rfl rfl rfl) (by clear hE; omega) (show _ ≤ _ from Int.le_trans hz25 (by decide))) tw_ml_RX6_238 tw_im_X6_unlike tw_se_X6_unlike tw_in_RX6 tw_cd_X6_unlike (by decide +kernel) ⟨rfl, rfl, Nat.le_of_ble_eq_true rfl, Nat.le_of_ble_eq_true rfl⟩ gw_Model rfl rfl hl.1 rfl (Nat.le_of_ble_eq_true rfl) dX6_hours_44 ⟨Nat.le_refl _, Nat.le_refl _⟩) hG hA (fun r_44 u H locs hp hG => ?_)
        obtain ⟨mo_44, jk⟩ := u
        replace hG : gS g A s H locs (gW g bb tx rw sb dy tn mo_44 jk) := by simpa only [up_up] using hG
        have hp_44 := hp
        rw [hp] at hE
        unfold F_X6_hours_c44 at hE
        try dsimp only at hE
        have hv44 : mEv mo_44 := (unlike_hR hp_44).mEv (mEv_of hv25 rfl rfl rfl rfl)
        have hz44 : ((mo_44.2 15) (Int32.toNatClampNeg p1)).toInt ≤ 24 := by rw [(unlike_hR hp_44).2 15 (by decide) (by decide) (by decide)]; exact hz25
        refine lv_iconst (v := (-1)) hx hb dX6_hours_47 (by decide) ?_
        have J59 : ∀ (z1_59 : Int32) (jk : (Nat → Nat → Int32)) (H : Heap) (locs : List Loc), gS g A s H locs (gW g bb tx rw sb dy tn mo_44 jk) → ∀ ls : Array Slot, lv_has ls 6 [(0, .ref (gA g 58)), (1, .int p1), (3, .int ((mo.2 4) (Int32.toNatClampNeg 0))), (5, .int x5_25)] → F_X6_hours_b59  (F_X6_hours_l25 n25 ) mo_44 p1 ((mo.2 4) (Int32.toNatClampNeg 0)) x5_25 x4_25 z1_59 = EE → W p l e (rmL (8)) s m [.ref (gA g 58), .int p1].toArray below meth c H locs 0 0 Q (F0 m 59 ls [.int z1_59, .int x4_25]) := by
          intro z1_59 jk H locs hG ls hl  hE
          unfold F_X6_hours_b59 at hE
          refine lv_ior hx hb dX6_hours_59 ?_
          refine lv_istore (lv' := [(4, .int (x4_25 ||| z1_59)), (0, .ref (gA g 58)), (1, .int p1), (3, .int ((mo.2 4) (Int32.toNatClampNeg 0))), (5, .int x5_25)]) hx hb dX6_hours_60 hl (by decide) rfl (fun ls hl => ?_)
          replace hl := lv_sub hl [1, 2, 3, 0, 4] (l' := [(0, .ref (gA g 58)), (1, .int p1), (3, .int ((mo.2 4) (Int32.toNatClampNeg 0))), (4, .int (x4_25 ||| z1_59)), (5, .int x5_25)]) rfl
          refine lv_iinc (v := (x5_25 + 1)) (lv' := [(5, .int (x5_25 + 1)), (0, .ref (gA g 58)), (1, .int p1), (3, .int ((mo.2 4) (Int32.toNatClampNeg 0))), (4, .int (x4_25 ||| z1_59))]) hx hb dX6_hours_62 hl (k := 4) rfl rfl (by decide) rfl (fun ls hl => ?_)
          replace hl := lv_sub hl [1, 2, 3, 4, 0] (l' := [(0, .ref (gA g 58)), (1, .int p1), (3, .int ((mo.2 4) (Int32.toNatClampNeg 0))), (4, .int (x4_25 ||| z1_59)), (5, .int (x5_25 + 1))]) rfl
          refine lv_goto (tgt := 25) hx hb dX6_hours_65 (by decide) ?_
          have e1 : (x5_25 + 1).toInt = x5_25.toInt + 1 := addL (k := 1) (by decide +kernel) (by clear hE; omega) (by clear hE; omega)
          exact ih25 (x4_25 ||| z1_59) (x5_25 + 1) mo_44 _ _ _ hG _ (lv_sub hl [0, 1, 2, 3, 4] rfl) (by clear hE; omega) (by clear hE; omega) (by clear hE; omega) hv44 hz44 hE
        refine lv_icmp_ne (tgt := 58) hx hb dX6_hours_48 (by decide) (fun c_48 => ?_) (fun c_48 => ?_)
        · replace hE := (if_neg c_48).symm.trans hE
          have i_48 : r_44.toInt ≠ (-1) := fun h => c_48 (Int32.toInt_inj.mp h)
          refine lv_iconst (v := 0) hx hb dX6_hours_58 (by decide) ?_
          exact J59 0 _ _ _ hG _ (lv_sub hl [0, 1, 2, 4] rfl) hE
        replace hE := (if_pos c_48).symm.trans hE
        have i_48 : r_44.toInt = (-1) := congrArg Int32.toInt c_48
        refine lv_iconst (v := 1) hx hb dX6_hours_51 (by decide) ?_
        refine lv_iload hx hb dX6_hours_52 (lv_at hl 4 rfl) ?_
        refine lv_ishl hx hb dX6_hours_54 ?_
        refine lv_goto (tgt := 59) hx hb dX6_hours_55 (by decide) ?_
        exact J59 (1 <<< (x5_25 &&& 31)) _ _ _ hG _ (lv_sub hl [0, 1, 2, 4] rfl) hE
    exact L25 25 0 0 mo _ _ _ hG _ (lv_sub hl [0, 1, 3, 4, 5] rfl) (by decide) (by decide) (by decide) hv i_7.2 hE
  replace hE := (if_neg c_7).symm.trans hE
  refine lv_iload_n hx hb dX6_hours_10 rfl (lv_at hl 2 rfl) ?_
  subst hQ
  exact g_iret hx hb hr hlocks hG ((mo, jk) : Ob × (Nat → Nat → Int32)) rfl hE.symm dX6_hours_11
def F_X6_laws_b57 (K23 : Ob → Int32 → Int32 → Int32 → Int32 → Int32 × Ob) (mo : Ob) (x1 : Int32) (x3 : Int32) (x5 : Int32) (z0 : Int32) (z1 : Int32) : Int32 × Ob :=
  (K23 mo x1 x3 (z0 ||| z1) (x5 + 1))
def F_X6_laws_c42 (K23 : Ob → Int32 → Int32 → Int32 → Int32 → Int32 × Ob) (u : Int32 × Ob) (x1 : Int32) (x3 : Int32) (x5 : Int32) (z0 : Int32) : Int32 × Ob :=
  (if u.1 = (-1) then (F_X6_laws_b57 K23 u.2 x1 x3 x5 z0 (1 <<< (x5 &&& 31))) else (F_X6_laws_b57 K23 u.2 x1 x3 x5 z0 0))
def F_X6_laws_l23 : Nat → Ob → Int32 → Int32 → Int32 → Int32 → Int32 × Ob
  | 0, mo, _, _, _, _ => (0, mo)
  | n + 1, mo, x1, x3, x4, x5 =>
    (if (mo.1 9) ≤ x5 then (x4, (setS mo 10 x3)) else (F_X6_laws_c42 (F_X6_laws_l23 n ) (F_X6_unlike (setS mo 10 x5) x1) x1 x3 x5 x4))
def F_X6_laws (mo : Ob) (p1 : Int32) : Int32 × Ob :=
  (if (F_X6_sheetWrong mo p1) = 0 then (F_X6_laws_l23 7  mo p1 (mo.1 10) 0 0) else ((F_X6_sheetWrong mo p1), mo))
set_option maxHeartbeats 4000000 in
set_option maxRecDepth 100000 in
theorem c_X6_laws {l : Launch} {g : GG} {sz : Nat} {bb : Ob} {tx rw : Nat → Ob} {sb dy : Ob} {tn : Nat → Ob} {mo : Ob} {jk : Nat → Nat → Int32}  (p1 : Int32) (hlm : lEv mo) : Met l yX6_laws (Cond.code yX6_laws cX6_laws 6 (some .int) :: TT) (rmL (8)) (va_Pc [.ref (gA g 58), .int p1] (gB g sz (gW g bb tx rw sb dy tn mo jk))) (va_Qi (fun r (u : Ob × (Nat → Nat → Int32)) => (F_X6_laws mo p1) = (r, u.1)) (fun u t => gC g (va_A (gW g bb tx rw sb dy tn mo jk) sz) (gW g bb tx rw sb dy tn u.1 u.2) t) (va_A (gW g bb tx rw sb dy tn mo jk) sz)) 0 0 (va_A (gW g bb tx rw sb dy tn mo jk) sz) := by
  generalize hE : F_X6_laws mo p1 = EE
  refine g_of (Qf := fun A => (va_Qi (fun r (u : Ob × (Nat → Nat → Int32)) => EE = (r, u.1)) (fun u t => gC g A (gW g bb tx rw sb dy tn u.1 u.2) t) A)) (cc := cX6_laws) (maxL := 6) (ret := (some .int)) (by decide) (Nat.le_of_ble_eq_true rfl) ?_
  intro p e s m below meth c A ls hx hb hml hr hlocks hts hown hA hG hl
  replace hown : s.vm.findClass RX6 = some m.cls := hown
  replace hl : lv_has ls 6 [(0, .ref (gA g 58)), (1, .int p1)] := hl
  show W p l e (rmL (8)) s m [.ref (gA g 58), .int p1].toArray below meth c s.heap [] 0 0 (MQ below (va_Qi (fun r (u : Ob × (Nat → Nat → Int32)) => EE = (r, u.1)) (fun u t => gC g A (gW g bb tx rw sb dy tn u.1 u.2) t) A) [.ref (gA g 58), .int p1].toArray s 0 0 A) (F0 m 0 ls [])
  generalize hQ : MQ below (va_Qi (fun r (u : Ob × (Nat → Nat → Int32)) => EE = (r, u.1)) (fun u t => gC g A (gW g bb tx rw sb dy tn u.1 u.2) t) A) [.ref (gA g 58), .int p1].toArray s 0 0 A = Q
  unfold F_X6_laws at hE
  refine lv_aload_n hx hb dX6_laws_0 rfl (lv_at hl 0 rfl) ?_
  refine lv_iload_n hx hb dX6_laws_1 rfl (lv_at hl 1 rfl) ?_
  refine g_ci (g_runV (n := 1) (rest := []) hx hb hml hown hts hG (c_X6_sheetWrong p1) tw_ml_RX6_235 tw_im_X6_sheetWrong tw_se_X6_sheetWrong tw_in_RX6 tw_cd_X6_sheetWrong (by decide +kernel) ⟨rfl, rfl, Nat.le_of_ble_eq_true rfl, Nat.le_of_ble_eq_true rfl⟩ gw_Model rfl rfl hl.1 rfl (Nat.le_of_ble_eq_true rfl) dX6_laws_2 ⟨Nat.le_refl _, Nat.le_refl _⟩) hG hA (fun r _ H locs hp hG => ?_)
  subst hp
  replace hG : gS g A s H locs (gW g bb tx rw sb dy tn mo jk) := hG
  refine lv_istore_n (lv' := [(2, .int (F_X6_sheetWrong mo p1)), (0, .ref (gA g 58)), (1, .int p1)]) hx hb dX6_laws_5 rfl hl (by decide) rfl (fun ls hl => ?_)
  replace hl := lv_sub hl [1, 2, 0] (l' := [(0, .ref (gA g 58)), (1, .int p1), (2, .int (F_X6_sheetWrong mo p1))]) rfl
  refine lv_iload_n hx hb dX6_laws_6 rfl (lv_at hl 2 rfl) ?_
  refine lv_if_eq (tgt := 12) hx hb dX6_laws_7 (by decide) (fun c_7 => ?_) (fun c_7 => ?_)
  · replace hE := (if_pos c_7).symm.trans hE
    have i_7 := sheetWrong_f c_7
    refine lv_aload_n hx hb dX6_laws_12 rfl (lv_at hl 0 rfl) ?_
    refine g_get hx hb hts hiX6 hown hG gw_Model rfl 10 (by decide) (index := 88) tw_fl_RX6_88 (v := .int (mo.1 10)) rfl dX6_laws_13 ?_
    refine lv_istore_n (lv' := [(3, .int (mo.1 10)), (0, .ref (gA g 58)), (1, .int p1), (2, .int (F_X6_sheetWrong mo p1))]) hx hb dX6_laws_16 rfl hl (by decide) rfl (fun ls hl => ?_)
    replace hl := lv_sub hl [1, 2, 3, 0] (l' := [(0, .ref (gA g 58)), (1, .int p1), (2, .int (F_X6_sheetWrong mo p1)), (3, .int (mo.1 10))]) rfl
    refine lv_iconst (v := 0) hx hb dX6_laws_17 (by decide) ?_
    refine lv_istore (lv' := [(4, .int 0), (0, .ref (gA g 58)), (1, .int p1), (2, .int (F_X6_sheetWrong mo p1)), (3, .int (mo.1 10))]) hx hb dX6_laws_18 hl (by decide) rfl (fun ls hl => ?_)
    replace hl := lv_sub hl [1, 2, 3, 4, 0] (l' := [(0, .ref (gA g 58)), (1, .int p1), (2, .int (F_X6_sheetWrong mo p1)), (3, .int (mo.1 10)), (4, .int 0)]) rfl
    refine lv_iconst (v := 0) hx hb dX6_laws_20 (by decide) ?_
    refine lv_istore (lv' := [(5, .int 0), (0, .ref (gA g 58)), (1, .int p1), (2, .int (F_X6_sheetWrong mo p1)), (3, .int (mo.1 10)), (4, .int 0)]) hx hb dX6_laws_21 hl (by decide) rfl (fun ls hl => ?_)
    replace hl := lv_sub hl [1, 2, 3, 4, 5, 0] (l' := [(0, .ref (gA g 58)), (1, .int p1), (2, .int (F_X6_sheetWrong mo p1)), (3, .int (mo.1 10)), (4, .int 0), (5, .int 0)]) rfl
    have L23 : ∀ (n23 : Nat) (x4_23 : Int32) (x5_23 : Int32) (mo_23 : Ob) (jk : (Nat → Nat → Int32)) (H : Heap) (locs : List Loc), gS g A s H locs (gW g bb tx rw sb dy tn mo_23 jk) → ∀ ls : Array Slot, lv_has ls 6 [(0, .ref (gA g 58)), (1, .int p1), (3, .int (mo.1 10)), (4, .int x4_23), (5, .int x5_23)] → 0 ≤ x5_23.toInt → x5_23.toInt ≤ 6 → 6 < x5_23.toInt + n23 → lEv mo_23 → ((mo_23.2 15) (Int32.toNatClampNeg p1)).toInt ≤ 24 → F_X6_laws_l23 n23  mo_23 p1 (mo.1 10) x4_23 x5_23 = EE → W p l e (rmL (8)) s m [.ref (gA g 58), .int p1].toArray below meth c H locs 0 0 Q (F0 m 23 ls []) := by
      intro n23
      induction n23 with
      | zero =>
        intro x4_23 x5_23 mo_23 jk H locs hG ls hl h0_23 h1_23 hm_23 hv23 hz23 hE
        clear hE; omega
      | succ n23 ih23 =>
        intro x4_23 x5_23 mo_23 jk H locs hG ls hl h0_23 h1_23 hm_23 hv23 hz23 hE
        unfold F_X6_laws_l23 at hE
        have ht23 := hv23.2.1
        refine lv_iload hx hb dX6_laws_23 (lv_at hl 4 rfl) ?_
        refine lv_aload_n hx hb dX6_laws_25 rfl (lv_at hl 0 rfl) ?_
        refine g_get hx hb hts hiX6 hown hG gw_Model rfl 9 (by decide) (index := 85) tw_fl_RX6_85 (v := .int (mo_23.1 9)) rfl dX6_laws_26 ?_
        refine lv_icmp_ge (tgt := 66) hx hb dX6_laws_29 (by decide) (fun c_29 => ?_) (fun c_29 => ?_)
        · replace hE := (if_pos c_29).symm.trans hE
          have i_29 : (mo_23.1 9).toInt ≤ x5_23.toInt := i_le.mp c_29
          refine lv_aload_n hx hb dX6_laws_66 rfl (lv_at hl 0 rfl) ?_
          refine lv_iload_n hx hb dX6_laws_67 rfl (lv_at hl 2 rfl) ?_
          refine g_put hx hb hts hiX6 tyX6 tyX6_ok nmX6 hown hG gw_Model rfl 10 (by decide) (index := 88) tw_fl_RX6_88 rfl rfl rfl (Nat.le_of_ble_eq_true rfl) gs_Model_f10 dX6_laws_68 (fun H locs hG => ?_)
          refine lv_iload hx hb dX6_laws_71 (lv_at hl 3 rfl) ?_
          subst hQ
          exact g_iret hx hb hr hlocks hG (((setS mo_23 10 (mo.1 10)), jk) : Ob × (Nat → Nat → Int32)) rfl hE.symm dX6_laws_73
        replace hE := (if_neg c_29).symm.trans hE
        have i_29 : x5_23.toInt < (mo_23.1 9).toInt := i_nle c_29
        refine lv_aload_n hx hb dX6_laws_32 rfl (lv_at hl 0 rfl) ?_
        refine lv_iload hx hb dX6_laws_33 (lv_at hl 4 rfl) ?_
        refine g_put hx hb hts hiX6 tyX6 tyX6_ok nmX6 hown hG gw_Model rfl 10 (by decide) (index := 88) tw_fl_RX6_88 rfl rfl rfl (Nat.le_of_ble_eq_true rfl) gs_Model_f10 dX6_laws_35 (fun H locs hG => ?_)
        refine lv_iload hx hb dX6_laws_38 (lv_at hl 3 rfl) ?_
        refine lv_aload_n hx hb dX6_laws_40 rfl (lv_at hl 0 rfl) ?_
        refine lv_iload_n hx hb dX6_laws_41 rfl (lv_at hl 1 rfl) ?_
        refine g_ci (g_runV (n := 1) (rest := [.int x4_23]) hx hb hml hown hts hG (c_X6_unlike p1 (hv23.mEv h0_23 (by clear hE; omega)) (by clear hE; omega) (show _ ≤ _ from Int.le_trans hz23 (by decide))) tw_ml_RX6_238 tw_im_X6_unlike tw_se_X6_unlike tw_in_RX6 tw_cd_X6_unlike (by decide +kernel) ⟨rfl, rfl, Nat.le_of_ble_eq_true rfl, Nat.le_of_ble_eq_true rfl⟩ gw_Model rfl rfl hl.1 rfl (Nat.le_of_ble_eq_true rfl) dX6_laws_42 ⟨Nat.le_refl _, Nat.le_refl _⟩) hG hA (fun r_42 u H locs hp hG => ?_)
        obtain ⟨mo_42, jk⟩ := u
        replace hG : gS g A s H locs (gW g bb tx rw sb dy tn mo_42 jk) := by simpa only [up_up] using hG
        have hp_42 := hp
        rw [hp] at hE
        unfold F_X6_laws_c42 at hE
        try dsimp only at hE
        have hv42 : lEv mo_42 := (unlike_hR hp_42).lEv (lEv.s10 hv23)
        have hz42 : ((mo_42.2 15) (Int32.toNatClampNeg p1)).toInt ≤ 24 := by rw [(unlike_hR hp_42).2 15 (by decide) (by decide) (by decide)]; exact hz23
        refine lv_iconst (v := (-1)) hx hb dX6_laws_45 (by decide) ?_
        have J57 : ∀ (z1_57 : Int32) (jk : (Nat → Nat → Int32)) (H : Heap) (locs : List Loc), gS g A s H locs (gW g bb tx rw sb dy tn mo_42 jk) → ∀ ls : Array Slot, lv_has ls 6 [(0, .ref (gA g 58)), (1, .int p1), (3, .int (mo.1 10)), (5, .int x5_23)] → F_X6_laws_b57  (F_X6_laws_l23 n23 ) mo_42 p1 (mo.1 10) x5_23 x4_23 z1_57 = EE → W p l e (rmL (8)) s m [.ref (gA g 58), .int p1].toArray below meth c H locs 0 0 Q (F0 m 57 ls [.int z1_57, .int x4_23]) := by
          intro z1_57 jk H locs hG ls hl  hE
          unfold F_X6_laws_b57 at hE
          refine lv_ior hx hb dX6_laws_57 ?_
          refine lv_istore (lv' := [(4, .int (x4_23 ||| z1_57)), (0, .ref (gA g 58)), (1, .int p1), (3, .int (mo.1 10)), (5, .int x5_23)]) hx hb dX6_laws_58 hl (by decide) rfl (fun ls hl => ?_)
          replace hl := lv_sub hl [1, 2, 3, 0, 4] (l' := [(0, .ref (gA g 58)), (1, .int p1), (3, .int (mo.1 10)), (4, .int (x4_23 ||| z1_57)), (5, .int x5_23)]) rfl
          refine lv_iinc (v := (x5_23 + 1)) (lv' := [(5, .int (x5_23 + 1)), (0, .ref (gA g 58)), (1, .int p1), (3, .int (mo.1 10)), (4, .int (x4_23 ||| z1_57))]) hx hb dX6_laws_60 hl (k := 4) rfl rfl (by decide) rfl (fun ls hl => ?_)
          replace hl := lv_sub hl [1, 2, 3, 4, 0] (l' := [(0, .ref (gA g 58)), (1, .int p1), (3, .int (mo.1 10)), (4, .int (x4_23 ||| z1_57)), (5, .int (x5_23 + 1))]) rfl
          refine lv_goto (tgt := 23) hx hb dX6_laws_63 (by decide) ?_
          have e1 : (x5_23 + 1).toInt = x5_23.toInt + 1 := addL (k := 1) (by decide +kernel) (by clear hE; omega) (by clear hE; omega)
          exact ih23 (x4_23 ||| z1_57) (x5_23 + 1) mo_42 _ _ _ hG _ (lv_sub hl [0, 1, 2, 3, 4] rfl) (by clear hE; omega) (by clear hE; omega) (by clear hE; omega) hv42 hz42 hE
        refine lv_icmp_ne (tgt := 56) hx hb dX6_laws_46 (by decide) (fun c_46 => ?_) (fun c_46 => ?_)
        · replace hE := (if_neg c_46).symm.trans hE
          have i_46 : r_42.toInt ≠ (-1) := fun h => c_46 (Int32.toInt_inj.mp h)
          refine lv_iconst (v := 0) hx hb dX6_laws_56 (by decide) ?_
          exact J57 0 _ _ _ hG _ (lv_sub hl [0, 1, 2, 4] rfl) hE
        replace hE := (if_pos c_46).symm.trans hE
        have i_46 : r_42.toInt = (-1) := congrArg Int32.toInt c_46
        refine lv_iconst (v := 1) hx hb dX6_laws_49 (by decide) ?_
        refine lv_iload hx hb dX6_laws_50 (lv_at hl 4 rfl) ?_
        refine lv_ishl hx hb dX6_laws_52 ?_
        refine lv_goto (tgt := 57) hx hb dX6_laws_53 (by decide) ?_
        exact J57 (1 <<< (x5_23 &&& 31)) _ _ _ hG _ (lv_sub hl [0, 1, 2, 4] rfl) hE
    exact L23 7 0 0 mo _ _ _ hG _ (lv_sub hl [0, 1, 3, 4, 5] rfl) (by decide) (by decide) (by decide) hlm i_7.2 hE
  replace hE := (if_neg c_7).symm.trans hE
  refine lv_iload_n hx hb dX6_laws_10 rfl (lv_at hl 2 rfl) ?_
  subst hQ
  exact g_iret hx hb hr hlocks hG ((mo, jk) : Ob × (Nat → Nat → Int32)) rfl hE.symm dX6_laws_11
def F_X6_film_c82 (K45 : Ob → Int32 → Int32 → Int32 → Int32 × Ob) (u : Ob) (x2 : Int32) : Int32 × Ob :=
  (x2, u)
def F_X6_film_b74 (K45 : Ob → Int32 → Int32 → Int32 → Int32 × Ob) (mo : Ob) (x1 : Int32) (x2 : Int32) (x3 : Int32) (z1 : Int32) (z2 : Int32) : Int32 × Ob :=
  (K45 (stA mo 16 z1 z2) x1 x2 (x3 + 1))
def F_X6_film_c67 (K45 : Ob → Int32 → Int32 → Int32 → Int32 × Ob) (u : Int32 × Ob) (x1 : Int32) (x2 : Int32) (x3 : Int32) (z1 : Int32) : Int32 × Ob :=
  (F_X6_film_b74 K45 u.2 x1 x2 x3 z1 u.1)
def F_X6_film_l45 : Nat → Ob → Int32 → Int32 → Int32 → Int32 × Ob
  | 0, mo, _, _, _ => (0, mo)
  | n + 1, mo, x1, x2, x3 =>
    (if 40 ≤ x3 then (F_X6_film_c82 (F_X6_film_l45 n ) (F_X6_lays mo) x2) else (if x2 ≤ x3 then (F_X6_film_b74 (F_X6_film_l45 n ) mo x1 x2 x3 ((40 * x1) + x3) 0) else (F_X6_film_c67 (F_X6_film_l45 n ) (F_X6_hourOf mo) x1 x2 x3 ((40 * x1) + x3))))
def F_X6_film_c40 (u : Ob) (x1 : Int32) (x2 : Int32) : Int32 × Ob :=
  (F_X6_film_l45 41  u x1 x2 0)
def F_X6_film (mo : Ob) (p1 : Int32) (p2 : Int32) : Int32 × Ob :=
  (if (F_X6_in p1 0 3) = 0 then ((-2), mo) else (if (F_X6_in p2 0 24) = 0 then ((-7), mo) else (F_X6_film_c40 (F_X6_keeps (stA (stA mo 14 p1 2) 15 p1 p2)) p1 p2)))
set_option maxHeartbeats 4000000 in
set_option maxRecDepth 100000 in
theorem c_X6_film {l : Launch} {g : GG} {sz : Nat} {bb : Ob} {tx rw : Nat → Ob} {sb dy : Ob} {tn : Nat → Ob} {mo : Ob} {jk : Nat → Nat → Int32}  (p1 : Int32) (p2 : Int32) (hv : mEv mo) : Met l yX6_film (Cond.code yX6_film cX6_film 4 (some .int) :: TT) (rmL (7)) (va_Pc [.ref (gA g 58), .int p1, .int p2] (gB g sz (gW g bb tx rw sb dy tn mo jk))) (va_Qi (fun r (u : Ob × (Nat → Nat → Int32)) => (F_X6_film mo p1 p2) = (r, u.1)) (fun u t => gC g (va_A (gW g bb tx rw sb dy tn mo jk) sz) (gW g bb tx rw sb dy tn u.1 u.2) t) (va_A (gW g bb tx rw sb dy tn mo jk) sz)) 0 0 (va_A (gW g bb tx rw sb dy tn mo jk) sz) := by
  generalize hE : F_X6_film mo p1 p2 = EE
  refine g_of (Qf := fun A => (va_Qi (fun r (u : Ob × (Nat → Nat → Int32)) => EE = (r, u.1)) (fun u t => gC g A (gW g bb tx rw sb dy tn u.1 u.2) t) A)) (cc := cX6_film) (maxL := 4) (ret := (some .int)) (by decide) (Nat.le_of_ble_eq_true rfl) ?_
  intro p e s m below meth c A ls hx hb hml hr hlocks hts hown hA hG hl
  replace hown : s.vm.findClass RX6 = some m.cls := hown
  replace hl : lv_has ls 4 [(0, .ref (gA g 58)), (1, .int p1), (2, .int p2)] := hl
  show W p l e (rmL (7)) s m [.ref (gA g 58), .int p1, .int p2].toArray below meth c s.heap [] 0 0 (MQ below (va_Qi (fun r (u : Ob × (Nat → Nat → Int32)) => EE = (r, u.1)) (fun u t => gC g A (gW g bb tx rw sb dy tn u.1 u.2) t) A) [.ref (gA g 58), .int p1, .int p2].toArray s 0 0 A) (F0 m 0 ls [])
  generalize hQ : MQ below (va_Qi (fun r (u : Ob × (Nat → Nat → Int32)) => EE = (r, u.1)) (fun u t => gC g A (gW g bb tx rw sb dy tn u.1 u.2) t) A) [.ref (gA g 58), .int p1, .int p2].toArray s 0 0 A = Q
  unfold F_X6_film at hE
  refine lv_iload_n hx hb dX6_film_0 rfl (lv_at hl 1 rfl) ?_
  refine lv_iconst (v := 0) hx hb dX6_film_1 (by decide) ?_
  refine lv_iconst (v := 3) hx hb dX6_film_2 (by decide) ?_
  refine g_si (g_runS (n := 3) (rest := []) hx hb hml hown hts hG (c_X6_in p1 0 3) tw_ml_RX6_81 tw_st_X6_in tw_in_RX6 tw_cd_X6_in (by decide +kernel) ⟨rfl, rfl, Nat.le_of_ble_eq_true rfl, Nat.le_of_ble_eq_true rfl⟩ rfl hl.1 rfl (Nat.le_of_ble_eq_true rfl) dX6_film_3 ⟨Nat.le_refl _, Nat.le_refl _⟩) hG hA (fun H locs hG => ?_)
  refine lv_if_ne (tgt := 12) hx hb dX6_film_6 (by decide) (fun c_6 => ?_) (fun c_6 => ?_)
  · replace hE := (if_neg c_6).symm.trans hE
    have i_6 : 0 ≤ p1.toInt ∧ p1.toInt ≤ 3 := in_f c_6
    refine lv_iload_n hx hb dX6_film_12 rfl (lv_at hl 2 rfl) ?_
    refine lv_iconst (v := 0) hx hb dX6_film_13 (by decide) ?_
    refine lv_bipush (v := 24) hx hb dX6_film_14 (by decide) ?_
    refine g_si (g_runS (n := 3) (rest := []) hx hb hml hown hts hG (c_X6_in p2 0 24) tw_ml_RX6_81 tw_st_X6_in tw_in_RX6 tw_cd_X6_in (by decide +kernel) ⟨rfl, rfl, Nat.le_of_ble_eq_true rfl, Nat.le_of_ble_eq_true rfl⟩ rfl hl.1 rfl (Nat.le_of_ble_eq_true rfl) dX6_film_16 ⟨Nat.le_refl _, Nat.le_refl _⟩) hG hA (fun H locs hG => ?_)
    refine lv_if_ne (tgt := 25) hx hb dX6_film_19 (by decide) (fun c_19 => ?_) (fun c_19 => ?_)
    · replace hE := (if_neg c_19).symm.trans hE
      have i_19 : 0 ≤ p2.toInt ∧ p2.toInt ≤ 24 := in_f c_19
      refine lv_aload_n hx hb dX6_film_25 rfl (lv_at hl 0 rfl) ?_
      refine g_get hx hb hts hiX6 hown hG gw_Model rfl 14 (by decide) (index := 37) tw_fl_RX6_37 (v := .ref (gA g 68)) rfl dX6_film_26 ?_
      refine lv_iload_n hx hb dX6_film_29 rfl (lv_at hl 1 rfl) ?_
      refine lv_iconst (v := 2) hx hb dX6_film_30 (by decide) ?_
      refine g_ist hx hb hG gw_Model_a14 (show vp_in p1 4 from (vp_i (by clear hE; omega) (by clear hE; omega))) gs_Model_a14 dX6_film_31 (fun H locs hG => ?_)
      refine lv_aload_n hx hb dX6_film_32 rfl (lv_at hl 0 rfl) ?_
      refine g_get hx hb hts hiX6 hown hG gw_Model rfl 15 (by decide) (index := 40) tw_fl_RX6_40 (v := .ref (gA g 69)) rfl dX6_film_33 ?_
      refine lv_iload_n hx hb dX6_film_36 rfl (lv_at hl 1 rfl) ?_
      refine lv_iload_n hx hb dX6_film_37 rfl (lv_at hl 2 rfl) ?_
      refine g_ist hx hb hG gw_Model_a15 (show vp_in p1 4 from (vp_i (by clear hE; omega) (by clear hE; omega))) gs_Model_a15 dX6_film_38 (fun H locs hG => ?_)
      refine lv_aload_n hx hb dX6_film_39 rfl (lv_at hl 0 rfl) ?_
      refine g_cv (g_runV (n := 0) (rest := []) hx hb hml hown hts hG (c_X6_keeps) tw_ml_RX6_199 tw_im_X6_keeps tw_se_X6_keeps tw_in_RX6 tw_cd_X6_keeps (by decide +kernel) ⟨rfl, rfl, Nat.le_of_ble_eq_true rfl, Nat.le_of_ble_eq_true rfl⟩ gw_Model rfl rfl hl.1 rfl (Nat.le_of_ble_eq_true rfl) dX6_film_40 ⟨Nat.le_refl _, Nat.le_refl _⟩) hG hA (fun u H locs hp hG => ?_)
      obtain ⟨mo_40, rfl⟩ : ∃ z, z = u := ⟨u, rfl⟩
      replace hG : gS g A s H locs (gW g bb tx rw sb dy tn mo_40 jk) := by simpa only [up_up] using hG
      have hp_40 := hp
      rw [hp] at hE
      unfold F_X6_film_c40 at hE
      try dsimp only at hE
      have hv40 : mEv mo_40 := (keeps_hR hp_40).mEv (mEv_of hv rfl rfl rfl rfl)
      refine lv_iconst (v := 0) hx hb dX6_film_43 (by decide) ?_
      refine lv_istore_n (lv' := [(3, .int 0), (0, .ref (gA g 58)), (1, .int p1), (2, .int p2)]) hx hb dX6_film_44 rfl hl (by decide) rfl (fun ls hl => ?_)
      replace hl := lv_sub hl [1, 2, 3, 0] (l' := [(0, .ref (gA g 58)), (1, .int p1), (2, .int p2), (3, .int 0)]) rfl
      have L45 : ∀ (n45 : Nat) (x3_45 : Int32) (mo_45 : Ob) (jk : (Nat → Nat → Int32)) (H : Heap) (locs : List Loc), gS g A s H locs (gW g bb tx rw sb dy tn mo_45 jk) → ∀ ls : Array Slot, lv_has ls 4 [(0, .ref (gA g 58)), (1, .int p1), (2, .int p2), (3, .int x3_45)] → 0 ≤ x3_45.toInt → x3_45.toInt ≤ 40 → 40 < x3_45.toInt + n45 → mEv mo_45 → F_X6_film_l45 n45  mo_45 p1 p2 x3_45 = EE → W p l e (rmL (7)) s m [.ref (gA g 58), .int p1, .int p2].toArray below meth c H locs 0 0 Q (F0 m 45 ls []) := by
        intro n45
        induction n45 with
        | zero =>
          intro x3_45 mo_45 jk H locs hG ls hl h0_45 h1_45 hm_45 hv45 hE
          clear hE; omega
        | succ n45 ih45 =>
          intro x3_45 mo_45 jk H locs hG ls hl h0_45 h1_45 hm_45 hv45 hE
          unfold F_X6_film_l45 at hE
          refine lv_iload_n hx hb dX6_film_45 rfl (lv_at hl 3 rfl) ?_
          refine lv_bipush (v := 40) hx hb dX6_film_46 (by decide) ?_
          refine lv_icmp_ge (tgt := 81) hx hb dX6_film_48 (by decide) (fun c_48 => ?_) (fun c_48 => ?_)
          · replace hE := (if_pos c_48).symm.trans hE
            have i_48 : 40 ≤ x3_45.toInt := i_le.mp c_48
            refine lv_aload_n hx hb dX6_film_81 rfl (lv_at hl 0 rfl) ?_
            refine g_cv (g_runV (n := 0) (rest := []) hx hb hml hown hts hG (c_X6_lays) tw_ml_RX6_205 tw_im_X6_lays tw_se_X6_lays tw_in_RX6 tw_cd_X6_lays (by decide +kernel) ⟨rfl, rfl, Nat.le_of_ble_eq_true rfl, Nat.le_of_ble_eq_true rfl⟩ gw_Model rfl rfl hl.1 rfl (Nat.le_of_ble_eq_true rfl) dX6_film_82 ⟨Nat.le_refl _, Nat.le_refl _⟩) hG hA (fun u H locs hp hG => ?_)
            obtain ⟨mo_82, rfl⟩ : ∃ z, z = u := ⟨u, rfl⟩
            replace hG : gS g A s H locs (gW g bb tx rw sb dy tn mo_82 jk) := by simpa only [up_up] using hG
            have hp_82 := hp
            rw [hp] at hE
            unfold F_X6_film_c82 at hE
            try dsimp only at hE
            refine lv_iload_n hx hb dX6_film_85 rfl (lv_at hl 2 rfl) ?_
            subst hQ
            exact g_iret hx hb hr hlocks hG ((mo_82, jk) : Ob × (Nat → Nat → Int32)) rfl hE.symm dX6_film_86
          replace hE := (if_neg c_48).symm.trans hE
          have i_48 : x3_45.toInt < 40 := i_nle c_48
          refine lv_aload_n hx hb dX6_film_51 rfl (lv_at hl 0 rfl) ?_
          refine g_get hx hb hts hiX6 hown hG gw_Model rfl 16 (by decide) (index := 43) tw_fl_RX6_43 (v := .ref (gA g 70)) rfl dX6_film_52 ?_
          refine lv_bipush (v := 40) hx hb dX6_film_55 (by decide) ?_
          refine lv_iload_n hx hb dX6_film_57 rfl (lv_at hl 1 rfl) ?_
          refine lv_imul hx hb dX6_film_58 ?_
          refine lv_iload_n hx hb dX6_film_59 rfl (lv_at hl 3 rfl) ?_
          refine lv_iadd hx hb dX6_film_60 ?_
          refine lv_iload_n hx hb dX6_film_61 rfl (lv_at hl 3 rfl) ?_
          refine lv_iload_n hx hb dX6_film_62 rfl (lv_at hl 2 rfl) ?_
          have J74 : ∀ (z2_74 : Int32) (mo_74 : Ob) (jk : (Nat → Nat → Int32)) (H : Heap) (locs : List Loc), gS g A s H locs (gW g bb tx rw sb dy tn mo_74 jk) → ∀ ls : Array Slot, lv_has ls 4 [(0, .ref (gA g 58)), (1, .int p1), (2, .int p2), (3, .int x3_45)] → mEv mo_74 → F_X6_film_b74  (F_X6_film_l45 n45 ) mo_74 p1 p2 x3_45 ((40 * p1) + x3_45) z2_74 = EE → W p l e (rmL (7)) s m [.ref (gA g 58), .int p1, .int p2].toArray below meth c H locs 0 0 Q (F0 m 74 ls [.int z2_74, .int ((40 * p1) + x3_45), .ref (gA g 70)]) := by
            intro z2_74 mo_74 jk H locs hG ls hl hv74 hE
            unfold F_X6_film_b74 at hE
            have e1 : (40 * p1).toInt = 40 * p1.toInt := mulL (k := 40) (by decide +kernel) (by clear hE; omega) (by clear hE; omega)
            have e2 : ((40 * p1) + x3_45).toInt = (40 * p1).toInt + x3_45.toInt := fb_addI (by clear hE; omega) (by clear hE; omega)
            refine g_ist hx hb hG gw_Model_a16 (show vp_in ((40 * p1) + x3_45) 160 from (vp_i (by clear hE; omega) (by clear hE; omega))) gs_Model_a16 dX6_film_74 (fun H locs hG => ?_)
            refine lv_iinc (v := (x3_45 + 1)) (lv' := [(3, .int (x3_45 + 1)), (0, .ref (gA g 58)), (1, .int p1), (2, .int p2)]) hx hb dX6_film_75 hl (k := 3) rfl rfl (by decide) rfl (fun ls hl => ?_)
            replace hl := lv_sub hl [1, 2, 3, 0] (l' := [(0, .ref (gA g 58)), (1, .int p1), (2, .int p2), (3, .int (x3_45 + 1))]) rfl
            refine lv_goto (tgt := 45) hx hb dX6_film_78 (by decide) ?_
            have e3 : (x3_45 + 1).toInt = x3_45.toInt + 1 := addL (k := 1) (by decide +kernel) (by clear hE; omega) (by clear hE; omega)
            exact ih45 (x3_45 + 1) (stA mo_74 16 ((40 * p1) + x3_45) z2_74) _ _ _ hG _ (lv_sub hl [0, 1, 2, 3] rfl) (by clear hE; omega) (by clear hE; omega) (by clear hE; omega) (mEv_of hv74 rfl rfl rfl rfl) hE
          refine lv_icmp_ge (tgt := 73) hx hb dX6_film_63 (by decide) (fun c_63 => ?_) (fun c_63 => ?_)
          · replace hE := (if_pos c_63).symm.trans hE
            have i_63 : p2.toInt ≤ x3_45.toInt := i_le.mp c_63
            refine lv_iconst (v := 0) hx hb dX6_film_73 (by decide) ?_
            exact J74 0 mo_45 _ _ _ hG _ (lv_sub hl [0, 1, 2, 3] rfl) (by first | exact hv67 | exact hv45) hE
          replace hE := (if_neg c_63).symm.trans hE
          have i_63 : x3_45.toInt < p2.toInt := i_nle c_63
          refine lv_aload_n hx hb dX6_film_66 rfl (lv_at hl 0 rfl) ?_
          refine g_ci (g_runV (n := 0) (rest := [.int ((40 * p1) + x3_45), .ref (gA g 70)]) hx hb hml hown hts hG (c_X6_hourOf hv45) tw_ml_RX6_196 tw_im_X6_hourOf tw_se_X6_hourOf tw_in_RX6 tw_cd_X6_hourOf (by decide +kernel) ⟨rfl, rfl, Nat.le_of_ble_eq_true rfl, Nat.le_of_ble_eq_true rfl⟩ gw_Model rfl rfl hl.1 rfl (Nat.le_of_ble_eq_true rfl) dX6_film_67 ⟨Nat.le_refl _, Nat.le_refl _⟩) hG hA (fun r_67 u H locs hp hG => ?_)
          obtain ⟨mo_67, jk⟩ := u
          replace hG : gS g A s H locs (gW g bb tx rw sb dy tn mo_67 jk) := by simpa only [up_up] using hG
          have hp_67 := hp
          rw [hp] at hE
          unfold F_X6_film_c67 at hE
          try dsimp only at hE
          have hv67 : mEv mo_67 := hR.mEv (hourOf_hR hp_67) hv45
          refine lv_goto (tgt := 74) hx hb dX6_film_70 (by decide) ?_
          exact J74 r_67 mo_67 _ _ _ hG _ (lv_sub hl [0, 1, 2, 3] rfl) (by first | exact hv67 | exact hv45) hE
      exact L45 41 0 mo_40 _ _ _ hG _ (lv_sub hl [0, 1, 2, 3] rfl) (by decide) (by decide) (by decide) hv40 hE
    replace hE := (if_pos c_19).symm.trans hE
    refine lv_bipush (v := (-7)) hx hb dX6_film_22 (by decide) ?_
    subst hQ
    exact g_iret hx hb hr hlocks hG ((mo, jk) : Ob × (Nat → Nat → Int32)) rfl hE.symm dX6_film_24
  replace hE := (if_pos c_6).symm.trans hE
  refine lv_bipush (v := (-2)) hx hb dX6_film_9 (by decide) ?_
  subst hQ
  exact g_iret hx hb hr hlocks hG ((mo, jk) : Ob × (Nat → Nat → Int32)) rfl hE.symm dX6_film_11
