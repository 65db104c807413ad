def cRd (l : Launch) (y : MethodName) (cc : ByteArray) (maxL lev : Nat) (f : Ob → Ob → Int32 → Ob × Ob) (p : Int32) : Prop := ∀ {g : GG} {sz : Nat} {bb : Ob} {tx rw : Nat → Ob} {sb dy : Ob} {tn : Nat → Ob} {mo : Ob} {jk : Nat → Nat → Int32} {t2 : Nat} (_ : t2 < 6) {T2 : Ob} (_ : tx t2 = T2) (p2 : Int32) (_ : p2 = p) (_ : sOK sb) (_ : 0 ≤ (T2.1 3).toInt), Met l y (Cond.code y cc maxL none :: TT) (rmL lev) (va_Pc [.ref (gA g 35), .ref (gA g (3 + 4 * t2)), .int p2] (gB g sz (gW g bb tx rw sb dy tn mo jk))) (va_Qv (fun (u : Ob × Ob) => f sb T2 p2 = (u.1, u.2)) (fun u t => gC g (va_A (gW g bb tx rw sb dy tn mo jk) sz) (gW g bb (va_up tx t2 u.2) rw u.1 dy tn mo jk) t) (va_A (gW g bb tx rw sb dy tn mo jk) sz)) 0 0 (va_A (gW g bb tx rw sb dy tn mo jk) sz)
def keepR (f : Ob → Ob → Int32 → Ob × Ob) (p : Int32) : Prop := ∀ sb T : Ob, sOK sb → 0 ≤ (T.1 3).toInt → sOK (f sb T p).1 ∧ 0 ≤ ((f sb T p).2.1 3).toInt
theorem keep_hp {f : Ob → Ob → Int32 → Ob × Ob} {p : Int32} {sb T sb2 T2 : Ob} (hp : f sb T p = (sb2, T2)) (h : keepR f p) (hok : sOK sb) (hs : 0 ≤ (T.1 3).toInt) : sOK sb2 ∧ 0 ≤ (T2.1 3).toInt := by
  have k := h sb T hok hs
  rw [hp] at k
  exact k
theorem mayOpen_lt {sb sb2 : Ob} {p r : Int32} (hp : F_X2_mayOpen sb p = (r, sb2)) (h : ¬ r = 0) : p < 5 := by
  unfold F_X2_mayOpen at hp
  split at hp
  · rename_i c; exact c
  · exact absurd ((Prod.mk.inj hp).1).symm h

def F_X2_readTerm_c37 (K8 : (Ob → Ob → Int32 → Ob × Ob) → Ob → Ob → Int32 → Int32 → Ob × Ob) (u : Ob) (ro : Ob → Ob → Int32 → Ob × Ob) (sb : Ob) (x2 : Int32) (x3 : Int32) : Ob × Ob :=
  (K8 ro sb u x2 (x3 + 1))
def F_X2_readTerm_c31 (K8 : (Ob → Ob → Int32 → Ob × Ob) → Ob → Ob → Int32 → Int32 → Ob × Ob) (u : Ob × Ob) (ro : Ob → Ob → Int32 → Ob × Ob) (x2 : Int32) (x3 : Int32) : Ob × Ob :=
  (F_X2_readTerm_c37 K8 (F_X3_add u.2 (-14)) ro u.1 x2 x3)
def F_X2_readTerm_c25 (K8 : (Ob → Ob → Int32 → Ob × Ob) → Ob → Ob → Int32 → Int32 → Ob × Ob) (u : Ob) (ro : Ob → Ob → Int32 → Ob × Ob) (T2 : Ob) (x2 : Int32) (x3 : Int32) : Ob × Ob :=
  (F_X2_readTerm_c31 K8 (ro u T2 x2) ro x2 x3)
def F_X2_readTerm_l8 : Nat → (Ob → Ob → Int32 → Ob × Ob) → Ob → Ob → Int32 → Int32 → Ob × Ob
  | 0, _, sb, T2, _, _ => (sb, T2)
  | n + 1, ro, sb, T2, x2, x3 =>
    (if 160 ≤ x3 then (sb, T2) else (if (sb.1 4) = 42 then (F_X2_readTerm_c25 (F_X2_readTerm_l8 n ) (F_X2_step sb) ro T2 x2 x3) else (sb, T2)))
def F_X2_readTerm_c3 (u : Ob × Ob) (ro : Ob → Ob → Int32 → Ob × Ob) (x2 : Int32) : Ob × Ob :=
  (F_X2_readTerm_l8 161  ro u.1 u.2 x2 0)
def F_X2_readTerm (ro : Ob → Ob → Int32 → Ob × Ob) (sb : Ob) (T2 : Ob) (p2 : Int32) : Ob × Ob :=
  (F_X2_readTerm_c3 (ro sb T2 p2) ro p2)
set_option maxHeartbeats 4000000 in
set_option maxRecDepth 100000 in
theorem c_X2_readTerm {l : Launch} {g : GG} {sz : Nat} {bb : Ob} {tx rw : Nat → Ob} {sb dy : Ob} {tn : Nat → Ob} {mo : Ob} {jk : Nat → Nat → Int32} {t2 : Nat} (ht2 : t2 < 6) {T2 : Ob} (hT2 : tx t2 = T2) {ro : Ob → Ob → Int32 → Ob × Ob} {lev : Nat} (hlev : 8 ≤ lev) (p2 : Int32) (hro : cRd l yX2_readOne cX2_readOne 3 lev ro (p2)) (kro : keepR ro (p2)) (hok : sOK sb) (hs : 0 ≤ (T2.1 3).toInt) : Met l yX2_readTerm (Cond.code yX2_readTerm cX2_readTerm 4 none :: TT) (rmL (lev + 1)) (va_Pc [.ref (gA g 35), .ref (gA g (3 + 4 * t2)), .int p2] (gB g sz (gW g bb tx rw sb dy tn mo jk))) (va_Qv (fun (u : Ob × Ob) => (F_X2_readTerm ro sb T2 p2) = (u.1, u.2)) (fun u t => gC g (va_A (gW g bb tx rw sb dy tn mo jk) sz) (gW g bb (va_up tx t2 u.2) rw u.1 dy tn mo jk) t) (va_A (gW g bb tx rw sb dy tn mo jk) sz)) 0 0 (va_A (gW g bb tx rw sb dy tn mo jk) sz) := by
  generalize hE : F_X2_readTerm ro sb T2 p2 = EE
  refine g_of (Qf := fun A => (va_Qv (fun (u : Ob × Ob) => EE = (u.1, u.2)) (fun u t => gC g A (gW g bb (va_up tx t2 u.2) rw u.1 dy tn mo jk) t) A)) (cc := cX2_readTerm) (maxL := 4) (ret := none) (by decide) (Nat.le_of_ble_eq_true rfl) ?_
  intro p e s m below meth c A ls hx hb hml hr hlocks hts hown hA hG hl
  replace hown : s.vm.findClass RX2 = some m.cls := hown
  replace hl : lv_has ls 4 [(0, .ref (gA g 35)), (1, .ref (gA g (3 + 4 * t2))), (2, .int p2)] := hl
  show W p l e (rmL (lev + 1)) s m [.ref (gA g 35), .ref (gA g (3 + 4 * t2)), .int p2].toArray below meth c s.heap [] 0 0 (MQ below (va_Qv (fun (u : Ob × Ob) => EE = (u.1, u.2)) (fun u t => gC g A (gW g bb (va_up tx t2 u.2) rw u.1 dy tn mo jk) t) A) [.ref (gA g 35), .ref (gA g (3 + 4 * t2)), .int p2].toArray s 0 0 A) (F0 m 0 ls [])
  generalize hQ : MQ below (va_Qv (fun (u : Ob × Ob) => EE = (u.1, u.2)) (fun u t => gC g A (gW g bb (va_up tx t2 u.2) rw u.1 dy tn mo jk) t) A) [.ref (gA g 35), .ref (gA g (3 + 4 * t2)), .int p2].toArray s 0 0 A = Q
  replace hG : gS g A s s.heap [] (gW g bb (va_up tx t2 T2) rw sb dy tn mo jk) := by simpa only [← hT2, up_self] using hG
  unfold F_X2_readTerm at hE
  refine lv_aload_n hx hb dX2_readTerm_0 rfl (lv_at hl 0 rfl) ?_
  refine lv_aload_n hx hb dX2_readTerm_1 rfl (lv_at hl 1 rfl) ?_
  refine lv_iload_n hx hb dX2_readTerm_2 rfl (lv_at hl 2 rfl) ?_
  refine g_cv (g_runV (n := 2) (rest := []) hx hb hml hown hts hG (hro ht2 (up_same _ _ _) p2 rfl hok hs) tw_ml_RX2_72 tw_im_X2_readOne tw_se_X2_readOne tw_in_RX2 tw_cd_X2_readOne (by decide +kernel) ⟨rfl, rfl, by show lev + 1 ≤ lev + 1; clear hE; omega, by show 8 + (3 + 11) + 40 * (lev) ≤ 40 * (lev + 1); clear hE; omega⟩ gw_Scribe rfl rfl hl.1 rfl (Nat.le_of_ble_eq_true rfl) dX2_readTerm_3 ⟨Nat.le_refl _, Nat.le_refl _⟩) hG hA (fun u H locs hp hG => ?_)
  obtain ⟨sb_3, T2_3⟩ := u
  replace hG : gS g A s H locs (gW g bb (va_up tx t2 T2_3) rw sb_3 dy tn mo jk) := by simpa only [up_up] using hG
  have hp_3 := hp
  rw [hp] at hE
  unfold F_X2_readTerm_c3 at hE
  try dsimp only at hE
  have k3 := keep_hp hp_3 kro hok hs
  refine lv_iconst (v := 0) hx hb dX2_readTerm_6 (by decide) ?_
  refine lv_istore_n (lv' := [(3, .int 0), (0, .ref (gA g 35)), (1, .ref (gA g (3 + 4 * t2))), (2, .int p2)]) hx hb dX2_readTerm_7 rfl hl (by decide) rfl (fun ls hl => ?_)
  replace hl := lv_sub hl [1, 2, 3, 0] (l' := [(0, .ref (gA g 35)), (1, .ref (gA g (3 + 4 * t2))), (2, .int p2), (3, .int 0)]) rfl
  have L8 : ∀ (n8 : Nat) (x3_8 : Int32) (sb_8 : Ob) (T2_8 : Ob) (H : Heap) (locs : List Loc), gS g A s H locs (gW g bb (va_up tx t2 T2_8) rw sb_8 dy tn mo jk) → ∀ ls : Array Slot, lv_has ls 4 [(0, .ref (gA g 35)), (1, .ref (gA g (3 + 4 * t2))), (2, .int p2), (3, .int x3_8)] → 0 ≤ x3_8.toInt → x3_8.toInt ≤ 160 → 160 < x3_8.toInt + n8 → sOK sb_8 → 0 ≤ (T2_8.1 3).toInt → F_X2_readTerm_l8 n8  ro sb_8 T2_8 p2 x3_8 = EE → W p l e (rmL (lev + 1)) s m [.ref (gA g 35), .ref (gA g (3 + 4 * t2)), .int p2].toArray below meth c H locs 0 0 Q (F0 m 8 ls []) := by
    intro n8
    induction n8 with
    | zero =>
      intro x3_8 sb_8 T2_8 H locs hG ls hl h0_8 h1_8 hm_8 hok8 hs8 hE
      clear hE; omega
    | succ n8 ih8 =>
      intro x3_8 sb_8 T2_8 H locs hG ls hl h0_8 h1_8 hm_8 hok8 hs8 hE
      unfold F_X2_readTerm_l8 at hE
      refine lv_iload_n hx hb dX2_readTerm_8 rfl (lv_at hl 3 rfl) ?_
      refine lv_sipush (v := 160) hx hb dX2_readTerm_9 (by decide) ?_
      refine lv_icmp_ge (tgt := 46) hx hb dX2_readTerm_12 (by decide) (fun c_12 => ?_) (fun c_12 => ?_)
      · replace hE := (if_pos c_12).symm.trans hE
        have i_12 : 160 ≤ x3_8.toInt := i_le.mp c_12
        subst hQ
        exact g_vret hx hb hr hlocks hG ((sb_8, T2_8) : Ob × Ob) rfl hE.symm dX2_readTerm_46
      replace hE := (if_neg c_12).symm.trans hE
      have i_12 : x3_8.toInt < 160 := i_nle c_12
      refine lv_aload_n hx hb dX2_readTerm_15 rfl (lv_at hl 0 rfl) ?_
      refine g_get hx hb hts hiX2 hown hG gw_Scribe rfl 4 (by decide) (index := 44) tw_fl_RX2_44 (v := .int (sb_8.1 4)) rfl dX2_readTerm_16 ?_
      refine lv_bipush (v := 42) hx hb dX2_readTerm_19 (by decide) ?_
      refine lv_icmp_ne (tgt := 46) hx hb dX2_readTerm_21 (by decide) (fun c_21 => ?_) (fun c_21 => ?_)
      · replace hE := (if_neg c_21).symm.trans hE
        have i_21 : (sb_8.1 4).toInt ≠ 42 := fun h => c_21 (Int32.toInt_inj.mp h)
        subst hQ
        exact g_vret hx hb hr hlocks hG ((sb_8, T2_8) : Ob × Ob) rfl hE.symm dX2_readTerm_46
      replace hE := (if_pos c_21).symm.trans hE
      have i_21 : (sb_8.1 4).toInt = 42 := congrArg Int32.toInt c_21
      refine lv_aload_n hx hb dX2_readTerm_24 rfl (lv_at hl 0 rfl) ?_
      refine g_cv (g_runV (n := 0) (rest := []) hx hb hml hown hts hG (c_X2_step hok8) tw_ml_RX2_30 tw_im_X2_step tw_se_X2_step tw_in_RX2 tw_cd_X2_step (by decide +kernel) ⟨rfl, rfl, by show 7 + 1 ≤ lev + 1; clear hE; omega, by show 8 + (2 + 11) + 40 * (7) ≤ 40 * (lev + 1); clear hE; omega⟩ gw_Scribe rfl rfl hl.1 rfl (Nat.le_of_ble_eq_true rfl) dX2_readTerm_25 ⟨Nat.le_refl _, Nat.le_refl _⟩) hG hA (fun u H locs hp hG => ?_)
      obtain ⟨sb_25, rfl⟩ : ∃ z, z = u := ⟨u, rfl⟩
      replace hG : gS g A s H locs (gW g bb (va_up tx t2 T2_8) rw sb_25 dy tn mo jk) := by simpa only [up_up] using hG
      have hp_25 := hp
      rw [hp] at hE
      unfold F_X2_readTerm_c25 at hE
      try dsimp only at hE
      have hok25 : sOK sb_25 := step_ok hp_25 hok8
      refine lv_aload_n hx hb dX2_readTerm_28 rfl (lv_at hl 0 rfl) ?_
      refine lv_aload_n hx hb dX2_readTerm_29 rfl (lv_at hl 1 rfl) ?_
      refine lv_iload_n hx hb dX2_readTerm_30 rfl (lv_at hl 2 rfl) ?_
      refine g_cv (g_runV (n := 2) (rest := []) hx hb hml hown hts hG (hro ht2 (up_same _ _ _) p2 rfl hok25 hs8) tw_ml_RX2_72 tw_im_X2_readOne tw_se_X2_readOne tw_in_RX2 tw_cd_X2_readOne (by decide +kernel) ⟨rfl, rfl, by show lev + 1 ≤ lev + 1; clear hE; omega, by show 8 + (3 + 11) + 40 * (lev) ≤ 40 * (lev + 1); clear hE; omega⟩ gw_Scribe rfl rfl hl.1 rfl (Nat.le_of_ble_eq_true rfl) dX2_readTerm_31 ⟨Nat.le_refl _, Nat.le_refl _⟩) hG hA (fun u H locs hp hG => ?_)
      obtain ⟨sb_31, T2_31⟩ := u
      replace hG : gS g A s H locs (gW g bb (va_up tx t2 T2_31) rw sb_31 dy tn mo jk) := by simpa only [up_up] using hG
      have hp_31 := hp
      rw [hp] at hE
      unfold F_X2_readTerm_c31 at hE
      try dsimp only at hE
      have k31 := keep_hp hp_31 kro hok25 hs8
      refine lv_aload_n hx hb dX2_readTerm_34 rfl (lv_at hl 1 rfl) ?_
      refine lv_bipush (v := (-14)) hx hb dX2_readTerm_35 (by decide) ?_
      refine g_cv (g_runV (n := 1) (rest := []) hx hb hml hown hts hG (c_X3_add ht2 (up_same _ _ _) (-14) k31.2) tw_ml_RX2_56 tw_im_X3_add tw_se_X3_add tw_in_RX3 tw_cd_X3_add (by decide +kernel) ⟨rfl, rfl, by show 1 + 1 ≤ lev + 1; clear hE; omega, by show 8 + (2 + 11) + 40 * (1) ≤ 40 * (lev + 1); clear hE; omega⟩ (gw_Text ht2 (up_same _ _ _)) rfl rfl hl.1 rfl (Nat.le_of_ble_eq_true rfl) dX2_readTerm_37 ⟨Nat.le_refl _, Nat.le_refl _⟩) hG hA (fun u H locs hp hG => ?_)
      obtain ⟨T2_37, rfl⟩ : ∃ z, z = u := ⟨u, rfl⟩
      replace hG : gS g A s H locs (gW g bb (va_up tx t2 T2_37) rw sb_31 dy tn mo jk) := by simpa only [up_up] using hG
      have hp_37 := hp
      rw [hp] at hE
      unfold F_X2_readTerm_c37 at hE
      try dsimp only at hE
      have hs37 : 0 ≤ (T2_37.1 3).toInt := tadd_nn hp_37 k31.2
      refine lv_iinc (v := (x3_8 + 1)) (lv' := [(3, .int (x3_8 + 1)), (0, .ref (gA g 35)), (1, .ref (gA g (3 + 4 * t2))), (2, .int p2)]) hx hb dX2_readTerm_40 hl (k := 3) rfl rfl (by decide) rfl (fun ls hl => ?_)
      replace hl := lv_sub hl [1, 2, 3, 0] (l' := [(0, .ref (gA g 35)), (1, .ref (gA g (3 + 4 * t2))), (2, .int p2), (3, .int (x3_8 + 1))]) rfl
      refine lv_goto (tgt := 8) hx hb dX2_readTerm_43 (by decide) ?_
      have e1 : (x3_8 + 1).toInt = x3_8.toInt + 1 := addL (k := 1) (by decide +kernel) (by clear hE; omega) (by clear hE; omega)
      exact ih8 (x3_8 + 1) sb_31 T2_37 _ _ hG _ (lv_sub hl [0, 1, 2, 3] rfl) (by clear hE; omega) (by clear hE; omega) (by clear hE; omega) k31.1 hs37 hE
  exact L8 161 0 sb_3 T2_3 _ _ hG _ (lv_sub hl [0, 1, 2, 3] rfl) (by decide) (by decide) (by decide) k3.1 k3.2 hE
def F_X2_readSum_c64 (K8 : (Ob → Ob → Int32 → Ob × Ob) → Ob → Ob → Int32 → Int32 → Ob × Ob) (u : Ob) (rt : Ob → Ob → Int32 → Ob × Ob) (sb : Ob) (x2 : Int32) (x3 : Int32) : Ob × Ob :=
  (K8 rt sb u x2 (x3 + 1))
def F_X2_readSum_c58 (K8 : (Ob → Ob → Int32 → Ob × Ob) → Ob → Ob → Int32 → Int32 → Ob × Ob) (u : Ob × Ob) (rt : Ob → Ob → Int32 → Ob × Ob) (x2 : Int32) (x3 : Int32) (x4 : Int32) : Ob × Ob :=
  (F_X2_readSum_c64 K8 (F_X3_add u.2 x4) rt u.1 x2 x3)
def F_X2_readSum_c52 (K8 : (Ob → Ob → Int32 → Ob × Ob) → Ob → Ob → Int32 → Int32 → Ob × Ob) (u : Ob) (rt : Ob → Ob → Int32 → Ob × Ob) (T2 : Ob) (x2 : Int32) (x3 : Int32) (x4 : Int32) : Ob × Ob :=
  (F_X2_readSum_c58 K8 (rt u T2 x2) rt x2 x3 x4)
def F_X2_readSum_b49 (K8 : (Ob → Ob → Int32 → Ob × Ob) → Ob → Ob → Int32 → Int32 → Ob × Ob) (rt : Ob → Ob → Int32 → Ob × Ob) (sb : Ob) (T2 : Ob) (x2 : Int32) (x3 : Int32) (z0 : Int32) : Ob × Ob :=
  (F_X2_readSum_c52 K8 (F_X2_step sb) rt T2 x2 x3 z0)
def F_X2_readSum_b33 (K8 : (Ob → Ob → Int32 → Ob × Ob) → Ob → Ob → Int32 → Int32 → Ob × Ob) (rt : Ob → Ob → Int32 → Ob × Ob) (sb : Ob) (T2 : Ob) (x2 : Int32) (x3 : Int32) : Ob × Ob :=
  (if (sb.1 4) = 43 then (F_X2_readSum_b49 K8 rt sb T2 x2 x3 (-12)) else (F_X2_readSum_b49 K8 rt sb T2 x2 x3 (-13)))
def F_X2_readSum_l8 : Nat → (Ob → Ob → Int32 → Ob × Ob) → Ob → Ob → Int32 → Int32 → Ob × Ob
  | 0, _, sb, T2, _, _ => (sb, T2)
  | n + 1, rt, sb, T2, x2, x3 =>
    (if 160 ≤ x3 then (sb, T2) else (if (sb.1 4) = 43 then (F_X2_readSum_b33 (F_X2_readSum_l8 n ) rt sb T2 x2 x3) else (if (sb.1 4) = 45 then (F_X2_readSum_b33 (F_X2_readSum_l8 n ) rt sb T2 x2 x3) else (sb, T2))))
def F_X2_readSum_c3 (u : Ob × Ob) (rt : Ob → Ob → Int32 → Ob × Ob) (x2 : Int32) : Ob × Ob :=
  (F_X2_readSum_l8 161  rt u.1 u.2 x2 0)
def F_X2_readSum (rt : Ob → Ob → Int32 → Ob × Ob) (sb : Ob) (T2 : Ob) (p2 : Int32) : Ob × Ob :=
  (F_X2_readSum_c3 (rt sb T2 p2) rt p2)
set_option maxHeartbeats 4000000 in
set_option maxRecDepth 100000 in
theorem c_X2_readSum {l : Launch} {g : GG} {sz : Nat} {bb : Ob} {tx rw : Nat → Ob} {sb dy : Ob} {tn : Nat → Ob} {mo : Ob} {jk : Nat → Nat → Int32} {t2 : Nat} (ht2 : t2 < 6) {T2 : Ob} (hT2 : tx t2 = T2) {rt : Ob → Ob → Int32 → Ob × Ob} {lev : Nat} (hlev : 8 ≤ lev) (p2 : Int32) (hrt : cRd l yX2_readTerm cX2_readTerm 4 lev rt (p2)) (krt : keepR rt (p2)) (hok : sOK sb) (hs : 0 ≤ (T2.1 3).toInt) : Met l yX2_readSum (Cond.code yX2_readSum cX2_readSum 5 none :: TT) (rmL (lev + 1)) (va_Pc [.ref (gA g 35), .ref (gA g (3 + 4 * t2)), .int p2] (gB g sz (gW g bb tx rw sb dy tn mo jk))) (va_Qv (fun (u : Ob × Ob) => (F_X2_readSum rt sb T2 p2) = (u.1, u.2)) (fun u t => gC g (va_A (gW g bb tx rw sb dy tn mo jk) sz) (gW g bb (va_up tx t2 u.2) rw u.1 dy tn mo jk) t) (va_A (gW g bb tx rw sb dy tn mo jk) sz)) 0 0 (va_A (gW g bb tx rw sb dy tn mo jk) sz) := by
  generalize hE : F_X2_readSum rt sb T2 p2 = EE
  refine g_of (Qf := fun A => (va_Qv (fun (u : Ob × Ob) => EE = (u.1, u.2)) (fun u t => gC g A (gW g bb (va_up tx t2 u.2) rw u.1 dy tn mo jk) t) A)) (cc := cX2_readSum) (maxL := 5) (ret := none) (by decide) (Nat.le_of_ble_eq_true rfl) ?_
  intro p e s m below meth c A ls hx hb hml hr hlocks hts hown hA hG hl
  replace hown : s.vm.findClass RX2 = some m.cls := hown
  replace hl : lv_has ls 5 [(0, .ref (gA g 35)), (1, .ref (gA g (3 + 4 * t2))), (2, .int p2)] := hl
  show W p l e (rmL (lev + 1)) s m [.ref (gA g 35), .ref (gA g (3 + 4 * t2)), .int p2].toArray below meth c s.heap [] 0 0 (MQ below (va_Qv (fun (u : Ob × Ob) => EE = (u.1, u.2)) (fun u t => gC g A (gW g bb (va_up tx t2 u.2) rw u.1 dy tn mo jk) t) A) [.ref (gA g 35), .ref (gA g (3 + 4 * t2)), .int p2].toArray s 0 0 A) (F0 m 0 ls [])
  generalize hQ : MQ below (va_Qv (fun (u : Ob × Ob) => EE = (u.1, u.2)) (fun u t => gC g A (gW g bb (va_up tx t2 u.2) rw u.1 dy tn mo jk) t) A) [.ref (gA g 35), .ref (gA g (3 + 4 * t2)), .int p2].toArray s 0 0 A = Q
  replace hG : gS g A s s.heap [] (gW g bb (va_up tx t2 T2) rw sb dy tn mo jk) := by simpa only [← hT2, up_self] using hG
  unfold F_X2_readSum at hE
  refine lv_aload_n hx hb dX2_readSum_0 rfl (lv_at hl 0 rfl) ?_
  refine lv_aload_n hx hb dX2_readSum_1 rfl (lv_at hl 1 rfl) ?_
  refine lv_iload_n hx hb dX2_readSum_2 rfl (lv_at hl 2 rfl) ?_
  refine g_cv (g_runV (n := 2) (rest := []) hx hb hml hown hts hG (hrt ht2 (up_same _ _ _) p2 rfl hok hs) tw_ml_RX2_69 tw_im_X2_readTerm tw_se_X2_readTerm tw_in_RX2 tw_cd_X2_readTerm (by decide +kernel) ⟨rfl, rfl, by show lev + 1 ≤ lev + 1; clear hE; omega, by show 8 + (4 + 11) + 40 * (lev) ≤ 40 * (lev + 1); clear hE; omega⟩ gw_Scribe rfl rfl hl.1 rfl (Nat.le_of_ble_eq_true rfl) dX2_readSum_3 ⟨Nat.le_refl _, Nat.le_refl _⟩) hG hA (fun u H locs hp hG => ?_)
  obtain ⟨sb_3, T2_3⟩ := u
  replace hG : gS g A s H locs (gW g bb (va_up tx t2 T2_3) rw sb_3 dy tn mo jk) := by simpa only [up_up] using hG
  have hp_3 := hp
  rw [hp] at hE
  unfold F_X2_readSum_c3 at hE
  try dsimp only at hE
  have k3 := keep_hp hp_3 krt hok hs
  refine lv_iconst (v := 0) hx hb dX2_readSum_6 (by decide) ?_
  refine lv_istore_n (lv' := [(3, .int 0), (0, .ref (gA g 35)), (1, .ref (gA g (3 + 4 * t2))), (2, .int p2)]) hx hb dX2_readSum_7 rfl hl (by decide) rfl (fun ls hl => ?_)
  replace hl := lv_sub hl [1, 2, 3, 0] (l' := [(0, .ref (gA g 35)), (1, .ref (gA g (3 + 4 * t2))), (2, .int p2), (3, .int 0)]) rfl
  have L8 : ∀ (n8 : Nat) (x3_8 : Int32) (sb_8 : Ob) (T2_8 : Ob) (H : Heap) (locs : List Loc), gS g A s H locs (gW g bb (va_up tx t2 T2_8) rw sb_8 dy tn mo jk) → ∀ ls : Array Slot, lv_has ls 5 [(0, .ref (gA g 35)), (1, .ref (gA g (3 + 4 * t2))), (2, .int p2), (3, .int x3_8)] → 0 ≤ x3_8.toInt → x3_8.toInt ≤ 160 → 160 < x3_8.toInt + n8 → sOK sb_8 → 0 ≤ (T2_8.1 3).toInt → F_X2_readSum_l8 n8  rt sb_8 T2_8 p2 x3_8 = EE → W p l e (rmL (lev + 1)) s m [.ref (gA g 35), .ref (gA g (3 + 4 * t2)), .int p2].toArray below meth c H locs 0 0 Q (F0 m 8 ls []) := by
    intro n8
    induction n8 with
    | zero =>
      intro x3_8 sb_8 T2_8 H locs hG ls hl h0_8 h1_8 hm_8 hok8 hs8 hE
      clear hE; omega
    | succ n8 ih8 =>
      intro x3_8 sb_8 T2_8 H locs hG ls hl h0_8 h1_8 hm_8 hok8 hs8 hE
      unfold F_X2_readSum_l8 at hE
      refine lv_iload_n hx hb dX2_readSum_8 rfl (lv_at hl 3 rfl) ?_
      refine lv_sipush (v := 160) hx hb dX2_readSum_9 (by decide) ?_
      refine lv_icmp_ge (tgt := 73) hx hb dX2_readSum_12 (by decide) (fun c_12 => ?_) (fun c_12 => ?_)
      · replace hE := (if_pos c_12).symm.trans hE
        have i_12 : 160 ≤ x3_8.toInt := i_le.mp c_12
        subst hQ
        exact g_vret hx hb hr hlocks hG ((sb_8, T2_8) : Ob × Ob) rfl hE.symm dX2_readSum_73
      replace hE := (if_neg c_12).symm.trans hE
      have i_12 : x3_8.toInt < 160 := i_nle c_12
      refine lv_aload_n hx hb dX2_readSum_15 rfl (lv_at hl 0 rfl) ?_
      refine g_get hx hb hts hiX2 hown hG gw_Scribe rfl 4 (by decide) (index := 44) tw_fl_RX2_44 (v := .int (sb_8.1 4)) rfl dX2_readSum_16 ?_
      refine lv_bipush (v := 43) hx hb dX2_readSum_19 (by decide) ?_
      have J33 : ∀  (H : Heap) (locs : List Loc), gS g A s H locs (gW g bb (va_up tx t2 T2_8) rw sb_8 dy tn mo jk) → ∀ ls : Array Slot, lv_has ls 5 [(0, .ref (gA g 35)), (1, .ref (gA g (3 + 4 * t2))), (2, .int p2), (3, .int x3_8)] → F_X2_readSum_b33  (F_X2_readSum_l8 n8 ) rt sb_8 T2_8 p2 x3_8 = EE → W p l e (rmL (lev + 1)) s m [.ref (gA g 35), .ref (gA g (3 + 4 * t2)), .int p2].toArray below meth c H locs 0 0 Q (F0 m 33 ls []) := by
        intro  H locs hG ls hl  hE
        unfold F_X2_readSum_b33 at hE
        refine lv_aload_n hx hb dX2_readSum_33 rfl (lv_at hl 0 rfl) ?_
        refine g_get hx hb hts hiX2 hown hG gw_Scribe rfl 4 (by decide) (index := 44) tw_fl_RX2_44 (v := .int (sb_8.1 4)) rfl dX2_readSum_34 ?_
        refine lv_bipush (v := 43) hx hb dX2_readSum_37 (by decide) ?_
        have J49 : ∀ (z0_49 : Int32) (H : Heap) (locs : List Loc), gS g A s H locs (gW g bb (va_up tx t2 T2_8) rw sb_8 dy tn mo jk) → ∀ ls : Array Slot, lv_has ls 5 [(0, .ref (gA g 35)), (1, .ref (gA g (3 + 4 * t2))), (2, .int p2), (3, .int x3_8)] → F_X2_readSum_b49  (F_X2_readSum_l8 n8 ) rt sb_8 T2_8 p2 x3_8 z0_49 = EE → W p l e (rmL (lev + 1)) s m [.ref (gA g 35), .ref (gA g (3 + 4 * t2)), .int p2].toArray below meth c H locs 0 0 Q (F0 m 49 ls [.int z0_49]) := by
          intro z0_49 H locs hG ls hl  hE
          unfold F_X2_readSum_b49 at hE
          refine lv_istore (lv' := [(4, .int z0_49), (0, .ref (gA g 35)), (1, .ref (gA g (3 + 4 * t2))), (2, .int p2), (3, .int x3_8)]) hx hb dX2_readSum_49 hl (by decide) rfl (fun ls hl => ?_)
          replace hl := lv_sub hl [1, 2, 3, 4, 0] (l' := [(0, .ref (gA g 35)), (1, .ref (gA g (3 + 4 * t2))), (2, .int p2), (3, .int x3_8), (4, .int z0_49)]) rfl
          refine lv_aload_n hx hb dX2_readSum_51 rfl (lv_at hl 0 rfl) ?_
          refine g_cv (g_runV (n := 0) (rest := []) hx hb hml hown hts hG (c_X2_step hok8) tw_ml_RX2_30 tw_im_X2_step tw_se_X2_step tw_in_RX2 tw_cd_X2_step (by decide +kernel) ⟨rfl, rfl, by show 7 + 1 ≤ lev + 1; clear hE; omega, by show 8 + (2 + 11) + 40 * (7) ≤ 40 * (lev + 1); clear hE; omega⟩ gw_Scribe rfl rfl hl.1 rfl (Nat.le_of_ble_eq_true rfl) dX2_readSum_52 ⟨Nat.le_refl _, Nat.le_refl _⟩) hG hA (fun u H locs hp hG => ?_)
          obtain ⟨sb_52, rfl⟩ : ∃ z, z = u := ⟨u, rfl⟩
          replace hG : gS g A s H locs (gW g bb (va_up tx t2 T2_8) rw sb_52 dy tn mo jk) := by simpa only [up_up] using hG
          have hp_52 := hp
          rw [hp] at hE
          unfold F_X2_readSum_c52 at hE
          try dsimp only at hE
          have hok52 : sOK sb_52 := step_ok hp_52 hok8
          refine lv_aload_n hx hb dX2_readSum_55 rfl (lv_at hl 0 rfl) ?_
          refine lv_aload_n hx hb dX2_readSum_56 rfl (lv_at hl 1 rfl) ?_
          refine lv_iload_n hx hb dX2_readSum_57 rfl (lv_at hl 2 rfl) ?_
          refine g_cv (g_runV (n := 2) (rest := []) hx hb hml hown hts hG (hrt ht2 (up_same _ _ _) p2 rfl hok52 hs8) tw_ml_RX2_69 tw_im_X2_readTerm tw_se_X2_readTerm tw_in_RX2 tw_cd_X2_readTerm (by decide +kernel) ⟨rfl, rfl, by show lev + 1 ≤ lev + 1; clear hE; omega, by show 8 + (4 + 11) + 40 * (lev) ≤ 40 * (lev + 1); clear hE; omega⟩ gw_Scribe rfl rfl hl.1 rfl (Nat.le_of_ble_eq_true rfl) dX2_readSum_58 ⟨Nat.le_refl _, Nat.le_refl _⟩) hG hA (fun u H locs hp hG => ?_)
          obtain ⟨sb_58, T2_58⟩ := u
          replace hG : gS g A s H locs (gW g bb (va_up tx t2 T2_58) rw sb_58 dy tn mo jk) := by simpa only [up_up] using hG
          have hp_58 := hp
          rw [hp] at hE
          unfold F_X2_readSum_c58 at hE
          try dsimp only at hE
          have k58 := keep_hp hp_58 krt hok52 hs8
          refine lv_aload_n hx hb dX2_readSum_61 rfl (lv_at hl 1 rfl) ?_
          refine lv_iload hx hb dX2_readSum_62 (lv_at hl 4 rfl) ?_
          refine g_cv (g_runV (n := 1) (rest := []) hx hb hml hown hts hG (c_X3_add ht2 (up_same _ _ _) z0_49 k58.2) tw_ml_RX2_56 tw_im_X3_add tw_se_X3_add tw_in_RX3 tw_cd_X3_add (by decide +kernel) ⟨rfl, rfl, by show 1 + 1 ≤ lev + 1; clear hE; omega, by show 8 + (2 + 11) + 40 * (1) ≤ 40 * (lev + 1); clear hE; omega⟩ (gw_Text ht2 (up_same _ _ _)) rfl rfl hl.1 rfl (Nat.le_of_ble_eq_true rfl) dX2_readSum_64 ⟨Nat.le_refl _, Nat.le_refl _⟩) hG hA (fun u H locs hp hG => ?_)
          obtain ⟨T2_64, rfl⟩ : ∃ z, z = u := ⟨u, rfl⟩
          replace hG : gS g A s H locs (gW g bb (va_up tx t2 T2_64) rw sb_58 dy tn mo jk) := by simpa only [up_up] using hG
          have hp_64 := hp
          rw [hp] at hE
          unfold F_X2_readSum_c64 at hE
          try dsimp only at hE
          have hs64 : 0 ≤ (T2_64.1 3).toInt := tadd_nn hp_64 k58.2
          refine lv_iinc (v := (x3_8 + 1)) (lv' := [(3, .int (x3_8 + 1)), (0, .ref (gA g 35)), (1, .ref (gA g (3 + 4 * t2))), (2, .int p2), (4, .int z0_49)]) hx hb dX2_readSum_67 hl (k := 3) rfl rfl (by decide) rfl (fun ls hl => ?_)
          replace hl := lv_sub hl [1, 2, 3, 0, 4] (l' := [(0, .ref (gA g 35)), (1, .ref (gA g (3 + 4 * t2))), (2, .int p2), (3, .int (x3_8 + 1)), (4, .int z0_49)]) rfl
          refine lv_goto (tgt := 8) hx hb dX2_readSum_70 (by decide) ?_
          have e1 : (x3_8 + 1).toInt = x3_8.toInt + 1 := addL (k := 1) (by decide +kernel) (by clear hE; omega) (by clear hE; omega)
          exact ih8 (x3_8 + 1) sb_58 T2_64 _ _ hG _ (lv_sub hl [0, 1, 2, 3] rfl) (by clear hE; omega) (by clear hE; omega) (by clear hE; omega) k58.1 hs64 hE
        refine lv_icmp_ne (tgt := 47) hx hb dX2_readSum_39 (by decide) (fun c_39 => ?_) (fun c_39 => ?_)
        · replace hE := (if_neg c_39).symm.trans hE
          have i_39 : (sb_8.1 4).toInt ≠ 43 := fun h => c_39 (Int32.toInt_inj.mp h)
          refine lv_bipush (v := (-13)) hx hb dX2_readSum_47 (by decide) ?_
          exact J49 (-13) _ _ hG _ (lv_sub hl [0, 1, 2, 3] rfl) hE
        replace hE := (if_pos c_39).symm.trans hE
        have i_39 : (sb_8.1 4).toInt = 43 := congrArg Int32.toInt c_39
        refine lv_bipush (v := (-12)) hx hb dX2_readSum_42 (by decide) ?_
        refine lv_goto (tgt := 49) hx hb dX2_readSum_44 (by decide) ?_
        exact J49 (-12) _ _ hG _ (lv_sub hl [0, 1, 2, 3] rfl) hE
      refine lv_icmp_eq (tgt := 33) hx hb dX2_readSum_21 (by decide) (fun c_21 => ?_) (fun c_21 => ?_)
      · replace hE := (if_pos c_21).symm.trans hE
        have i_21 : (sb_8.1 4).toInt = 43 := congrArg Int32.toInt c_21
        exact J33 _ _ hG _ (lv_sub hl [0, 1, 2, 3] rfl) hE
      replace hE := (if_neg c_21).symm.trans hE
      have i_21 : (sb_8.1 4).toInt ≠ 43 := fun h => c_21 (Int32.toInt_inj.mp h)
      refine lv_aload_n hx hb dX2_readSum_24 rfl (lv_at hl 0 rfl) ?_
      refine g_get hx hb hts hiX2 hown hG gw_Scribe rfl 4 (by decide) (index := 44) tw_fl_RX2_44 (v := .int (sb_8.1 4)) rfl dX2_readSum_25 ?_
      refine lv_bipush (v := 45) hx hb dX2_readSum_28 (by decide) ?_
      refine lv_icmp_ne (tgt := 73) hx hb dX2_readSum_30 (by decide) (fun c_30 => ?_) (fun c_30 => ?_)
      · replace hE := (if_neg c_30).symm.trans hE
        have i_30 : (sb_8.1 4).toInt ≠ 45 := fun h => c_30 (Int32.toInt_inj.mp h)
        subst hQ
        exact g_vret hx hb hr hlocks hG ((sb_8, T2_8) : Ob × Ob) rfl hE.symm dX2_readSum_73
      replace hE := (if_pos c_30).symm.trans hE
      have i_30 : (sb_8.1 4).toInt = 45 := congrArg Int32.toInt c_30
      exact J33 _ _ hG _ (lv_sub hl [0, 1, 2, 3] rfl) hE
  exact L8 161 0 sb_3 T2_3 _ _ hG _ (lv_sub hl [0, 1, 2, 3] rfl) (by decide) (by decide) (by decide) k3.1 k3.2 hE
def F_X2_readBoth_c38 (K8 : (Ob → Ob → Int32 → Ob × Ob) → Ob → Ob → Int32 → Int32 → Ob × Ob) (u : Ob) (rn : Ob → Ob → Int32 → Ob × Ob) (sb : Ob) (x2 : Int32) (x3 : Int32) : Ob × Ob :=
  (K8 rn sb u x2 (x3 + 1))
def F_X2_readBoth_c32 (K8 : (Ob → Ob → Int32 → Ob × Ob) → Ob → Ob → Int32 → Int32 → Ob × Ob) (u : Ob × Ob) (rn : Ob → Ob → Int32 → Ob × Ob) (x2 : Int32) (x3 : Int32) : Ob × Ob :=
  (F_X2_readBoth_c38 K8 (F_X3_add u.2 (-8)) rn u.1 x2 x3)
def F_X2_readBoth_c26 (K8 : (Ob → Ob → Int32 → Ob × Ob) → Ob → Ob → Int32 → Int32 → Ob × Ob) (u : Ob) (rn : Ob → Ob → Int32 → Ob × Ob) (T2 : Ob) (x2 : Int32) (x3 : Int32) : Ob × Ob :=
  (F_X2_readBoth_c32 K8 (rn u T2 x2) rn x2 x3)
def F_X2_readBoth_l8 : Nat → (Ob → Ob → Int32 → Ob × Ob) → Ob → Ob → Int32 → Int32 → Ob × Ob
  | 0, _, sb, T2, _, _ => (sb, T2)
  | n + 1, rn, sb, T2, x2, x3 =>
    (if 160 ≤ x3 then (sb, T2) else (if (sb.1 4) = 260 then (F_X2_readBoth_c26 (F_X2_readBoth_l8 n ) (F_X2_step sb) rn T2 x2 x3) else (sb, T2)))
def F_X2_readBoth_c3 (u : Ob × Ob) (rn : Ob → Ob → Int32 → Ob × Ob) (x2 : Int32) : Ob × Ob :=
  (F_X2_readBoth_l8 161  rn u.1 u.2 x2 0)
def F_X2_readBoth (rn : Ob → Ob → Int32 → Ob × Ob) (sb : Ob) (T2 : Ob) (p2 : Int32) : Ob × Ob :=
  (F_X2_readBoth_c3 (rn sb T2 p2) rn p2)
set_option maxHeartbeats 4000000 in
set_option maxRecDepth 100000 in
theorem c_X2_readBoth {l : Launch} {g : GG} {sz : Nat} {bb : Ob} {tx rw : Nat → Ob} {sb dy : Ob} {tn : Nat → Ob} {mo : Ob} {jk : Nat → Nat → Int32} {t2 : Nat} (ht2 : t2 < 6) {T2 : Ob} (hT2 : tx t2 = T2) {rn : Ob → Ob → Int32 → Ob × Ob} {lev : Nat} (hlev : 8 ≤ lev) (p2 : Int32) (hrn : cRd l yX2_readNot cX2_readNot 4 lev rn (p2)) (krn : keepR rn (p2)) (hok : sOK sb) (hs : 0 ≤ (T2.1 3).toInt) : Met l yX2_readBoth (Cond.code yX2_readBoth cX2_readBoth 4 none :: TT) (rmL (lev + 1)) (va_Pc [.ref (gA g 35), .ref (gA g (3 + 4 * t2)), .int p2] (gB g sz (gW g bb tx rw sb dy tn mo jk))) (va_Qv (fun (u : Ob × Ob) => (F_X2_readBoth rn sb T2 p2) = (u.1, u.2)) (fun u t => gC g (va_A (gW g bb tx rw sb dy tn mo jk) sz) (gW g bb (va_up tx t2 u.2) rw u.1 dy tn mo jk) t) (va_A (gW g bb tx rw sb dy tn mo jk) sz)) 0 0 (va_A (gW g bb tx rw sb dy tn mo jk) sz) := by
  generalize hE : F_X2_readBoth rn sb T2 p2 = EE
  refine g_of (Qf := fun A => (va_Qv (fun (u : Ob × Ob) => EE = (u.1, u.2)) (fun u t => gC g A (gW g bb (va_up tx t2 u.2) rw u.1 dy tn mo jk) t) A)) (cc := cX2_readBoth) (maxL := 4) (ret := none) (by decide) (Nat.le_of_ble_eq_true rfl) ?_
  intro p e s m below meth c A ls hx hb hml hr hlocks hts hown hA hG hl
  replace hown : s.vm.findClass RX2 = some m.cls := hown
  replace hl : lv_has ls 4 [(0, .ref (gA g 35)), (1, .ref (gA g (3 + 4 * t2))), (2, .int p2)] := hl
  show W p l e (rmL (lev + 1)) s m [.ref (gA g 35), .ref (gA g (3 + 4 * t2)), .int p2].toArray below meth c s.heap [] 0 0 (MQ below (va_Qv (fun (u : Ob × Ob) => EE = (u.1, u.2)) (fun u t => gC g A (gW g bb (va_up tx t2 u.2) rw u.1 dy tn mo jk) t) A) [.ref (gA g 35), .ref (gA g (3 + 4 * t2)), .int p2].toArray s 0 0 A) (F0 m 0 ls [])
  generalize hQ : MQ below (va_Qv (fun (u : Ob × Ob) => EE = (u.1, u.2)) (fun u t => gC g A (gW g bb (va_up tx t2 u.2) rw u.1 dy tn mo jk) t) A) [.ref (gA g 35), .ref (gA g (3 + 4 * t2)), .int p2].toArray s 0 0 A = Q
  replace hG : gS g A s s.heap [] (gW g bb (va_up tx t2 T2) rw sb dy tn mo jk) := by simpa only [← hT2, up_self] using hG
  unfold F_X2_readBoth at hE
  refine lv_aload_n hx hb dX2_readBoth_0 rfl (lv_at hl 0 rfl) ?_
  refine lv_aload_n hx hb dX2_readBoth_1 rfl (lv_at hl 1 rfl) ?_
  refine lv_iload_n hx hb dX2_readBoth_2 rfl (lv_at hl 2 rfl) ?_
  refine g_cv (g_runV (n := 2) (rest := []) hx hb hml hown hts hG (hrn ht2 (up_same _ _ _) p2 rfl hok hs) tw_ml_RX2_59 tw_im_X2_readNot tw_se_X2_readNot tw_in_RX2 tw_cd_X2_readNot (by decide +kernel) ⟨rfl, rfl, by show lev + 1 ≤ lev + 1; clear hE; omega, by show 8 + (4 + 11) + 40 * (lev) ≤ 40 * (lev + 1); clear hE; omega⟩ gw_Scribe rfl rfl hl.1 rfl (Nat.le_of_ble_eq_true rfl) dX2_readBoth_3 ⟨Nat.le_refl _, Nat.le_refl _⟩) hG hA (fun u H locs hp hG => ?_)
  obtain ⟨sb_3, T2_3⟩ := u
  replace hG : gS g A s H locs (gW g bb (va_up tx t2 T2_3) rw sb_3 dy tn mo jk) := by simpa only [up_up] using hG
  have hp_3 := hp
  rw [hp] at hE
  unfold F_X2_readBoth_c3 at hE
  try dsimp only at hE
  have k3 := keep_hp hp_3 krn hok hs
  refine lv_iconst (v := 0) hx hb dX2_readBoth_6 (by decide) ?_
  refine lv_istore_n (lv' := [(3, .int 0), (0, .ref (gA g 35)), (1, .ref (gA g (3 + 4 * t2))), (2, .int p2)]) hx hb dX2_readBoth_7 rfl hl (by decide) rfl (fun ls hl => ?_)
  replace hl := lv_sub hl [1, 2, 3, 0] (l' := [(0, .ref (gA g 35)), (1, .ref (gA g (3 + 4 * t2))), (2, .int p2), (3, .int 0)]) rfl
  have L8 : ∀ (n8 : Nat) (x3_8 : Int32) (sb_8 : Ob) (T2_8 : Ob) (H : Heap) (locs : List Loc), gS g A s H locs (gW g bb (va_up tx t2 T2_8) rw sb_8 dy tn mo jk) → ∀ ls : Array Slot, lv_has ls 4 [(0, .ref (gA g 35)), (1, .ref (gA g (3 + 4 * t2))), (2, .int p2), (3, .int x3_8)] → 0 ≤ x3_8.toInt → x3_8.toInt ≤ 160 → 160 < x3_8.toInt + n8 → sOK sb_8 → 0 ≤ (T2_8.1 3).toInt → F_X2_readBoth_l8 n8  rn sb_8 T2_8 p2 x3_8 = EE → W p l e (rmL (lev + 1)) s m [.ref (gA g 35), .ref (gA g (3 + 4 * t2)), .int p2].toArray below meth c H locs 0 0 Q (F0 m 8 ls []) := by
    intro n8
    induction n8 with
    | zero =>
      intro x3_8 sb_8 T2_8 H locs hG ls hl h0_8 h1_8 hm_8 hok8 hs8 hE
      clear hE; omega
    | succ n8 ih8 =>
      intro x3_8 sb_8 T2_8 H locs hG ls hl h0_8 h1_8 hm_8 hok8 hs8 hE
      unfold F_X2_readBoth_l8 at hE
      refine lv_iload_n hx hb dX2_readBoth_8 rfl (lv_at hl 3 rfl) ?_
      refine lv_sipush (v := 160) hx hb dX2_readBoth_9 (by decide) ?_
      refine lv_icmp_ge (tgt := 47) hx hb dX2_readBoth_12 (by decide) (fun c_12 => ?_) (fun c_12 => ?_)
      · replace hE := (if_pos c_12).symm.trans hE
        have i_12 : 160 ≤ x3_8.toInt := i_le.mp c_12
        subst hQ
        exact g_vret hx hb hr hlocks hG ((sb_8, T2_8) : Ob × Ob) rfl hE.symm dX2_readBoth_47
      replace hE := (if_neg c_12).symm.trans hE
      have i_12 : x3_8.toInt < 160 := i_nle c_12
      refine lv_aload_n hx hb dX2_readBoth_15 rfl (lv_at hl 0 rfl) ?_
      refine g_get hx hb hts hiX2 hown hG gw_Scribe rfl 4 (by decide) (index := 44) tw_fl_RX2_44 (v := .int (sb_8.1 4)) rfl dX2_readBoth_16 ?_
      refine lv_sipush (v := 260) hx hb dX2_readBoth_19 (by decide) ?_
      refine lv_icmp_ne (tgt := 47) hx hb dX2_readBoth_22 (by decide) (fun c_22 => ?_) (fun c_22 => ?_)
      · replace hE := (if_neg c_22).symm.trans hE
        have i_22 : (sb_8.1 4).toInt ≠ 260 := fun h => c_22 (Int32.toInt_inj.mp h)
        subst hQ
        exact g_vret hx hb hr hlocks hG ((sb_8, T2_8) : Ob × Ob) rfl hE.symm dX2_readBoth_47
      replace hE := (if_pos c_22).symm.trans hE
      have i_22 : (sb_8.1 4).toInt = 260 := congrArg Int32.toInt c_22
      refine lv_aload_n hx hb dX2_readBoth_25 rfl (lv_at hl 0 rfl) ?_
      refine g_cv (g_runV (n := 0) (rest := []) hx hb hml hown hts hG (c_X2_step hok8) tw_ml_RX2_30 tw_im_X2_step tw_se_X2_step tw_in_RX2 tw_cd_X2_step (by decide +kernel) ⟨rfl, rfl, by show 7 + 1 ≤ lev + 1; clear hE; omega, by show 8 + (2 + 11) + 40 * (7) ≤ 40 * (lev + 1); clear hE; omega⟩ gw_Scribe rfl rfl hl.1 rfl (Nat.le_of_ble_eq_true rfl) dX2_readBoth_26 ⟨Nat.le_refl _, Nat.le_refl _⟩) hG hA (fun u H locs hp hG => ?_)
      obtain ⟨sb_26, rfl⟩ : ∃ z, z = u := ⟨u, rfl⟩
      replace hG : gS g A s H locs (gW g bb (va_up tx t2 T2_8) rw sb_26 dy tn mo jk) := by simpa only [up_up] using hG
      have hp_26 := hp
      rw [hp] at hE
      unfold F_X2_readBoth_c26 at hE
      try dsimp only at hE
      have hok26 : sOK sb_26 := step_ok hp_26 hok8
      refine lv_aload_n hx hb dX2_readBoth_29 rfl (lv_at hl 0 rfl) ?_
      refine lv_aload_n hx hb dX2_readBoth_30 rfl (lv_at hl 1 rfl) ?_
      refine lv_iload_n hx hb dX2_readBoth_31 rfl (lv_at hl 2 rfl) ?_
      refine g_cv (g_runV (n := 2) (rest := []) hx hb hml hown hts hG (hrn ht2 (up_same _ _ _) p2 rfl hok26 hs8) tw_ml_RX2_59 tw_im_X2_readNot tw_se_X2_readNot tw_in_RX2 tw_cd_X2_readNot (by decide +kernel) ⟨rfl, rfl, by show lev + 1 ≤ lev + 1; clear hE; omega, by show 8 + (4 + 11) + 40 * (lev) ≤ 40 * (lev + 1); clear hE; omega⟩ gw_Scribe rfl rfl hl.1 rfl (Nat.le_of_ble_eq_true rfl) dX2_readBoth_32 ⟨Nat.le_refl _, Nat.le_refl _⟩) hG hA (fun u H locs hp hG => ?_)
      obtain ⟨sb_32, T2_32⟩ := u
      replace hG : gS g A s H locs (gW g bb (va_up tx t2 T2_32) rw sb_32 dy tn mo jk) := by simpa only [up_up] using hG
      have hp_32 := hp
      rw [hp] at hE
      unfold F_X2_readBoth_c32 at hE
      try dsimp only at hE
      have k32 := keep_hp hp_32 krn hok26 hs8
      refine lv_aload_n hx hb dX2_readBoth_35 rfl (lv_at hl 1 rfl) ?_
      refine lv_bipush (v := (-8)) hx hb dX2_readBoth_36 (by decide) ?_
      refine g_cv (g_runV (n := 1) (rest := []) hx hb hml hown hts hG (c_X3_add ht2 (up_same _ _ _) (-8) k32.2) tw_ml_RX2_56 tw_im_X3_add tw_se_X3_add tw_in_RX3 tw_cd_X3_add (by decide +kernel) ⟨rfl, rfl, by show 1 + 1 ≤ lev + 1; clear hE; omega, by show 8 + (2 + 11) + 40 * (1) ≤ 40 * (lev + 1); clear hE; omega⟩ (gw_Text ht2 (up_same _ _ _)) rfl rfl hl.1 rfl (Nat.le_of_ble_eq_true rfl) dX2_readBoth_38 ⟨Nat.le_refl _, Nat.le_refl _⟩) hG hA (fun u H locs hp hG => ?_)
      obtain ⟨T2_38, rfl⟩ : ∃ z, z = u := ⟨u, rfl⟩
      replace hG : gS g A s H locs (gW g bb (va_up tx t2 T2_38) rw sb_32 dy tn mo jk) := by simpa only [up_up] using hG
      have hp_38 := hp
      rw [hp] at hE
      unfold F_X2_readBoth_c38 at hE
      try dsimp only at hE
      have hs38 : 0 ≤ (T2_38.1 3).toInt := tadd_nn hp_38 k32.2
      refine lv_iinc (v := (x3_8 + 1)) (lv' := [(3, .int (x3_8 + 1)), (0, .ref (gA g 35)), (1, .ref (gA g (3 + 4 * t2))), (2, .int p2)]) hx hb dX2_readBoth_41 hl (k := 3) rfl rfl (by decide) rfl (fun ls hl => ?_)
      replace hl := lv_sub hl [1, 2, 3, 0] (l' := [(0, .ref (gA g 35)), (1, .ref (gA g (3 + 4 * t2))), (2, .int p2), (3, .int (x3_8 + 1))]) rfl
      refine lv_goto (tgt := 8) hx hb dX2_readBoth_44 (by decide) ?_
      have e1 : (x3_8 + 1).toInt = x3_8.toInt + 1 := addL (k := 1) (by decide +kernel) (by clear hE; omega) (by clear hE; omega)
      exact ih8 (x3_8 + 1) sb_32 T2_38 _ _ hG _ (lv_sub hl [0, 1, 2, 3] rfl) (by clear hE; omega) (by clear hE; omega) (by clear hE; omega) k32.1 hs38 hE
  exact L8 161 0 sb_3 T2_3 _ _ hG _ (lv_sub hl [0, 1, 2, 3] rfl) (by decide) (by decide) (by decide) k3.1 k3.2 hE
def F_X2_readEither_c38 (K8 : (Ob → Ob → Int32 → Ob × Ob) → Ob → Ob → Int32 → Int32 → Ob × Ob) (u : Ob) (rb : Ob → Ob → Int32 → Ob × Ob) (sb : Ob) (x2 : Int32) (x3 : Int32) : Ob × Ob :=
  (K8 rb sb u x2 (x3 + 1))
def F_X2_readEither_c32 (K8 : (Ob → Ob → Int32 → Ob × Ob) → Ob → Ob → Int32 → Int32 → Ob × Ob) (u : Ob × Ob) (rb : Ob → Ob → Int32 → Ob × Ob) (x2 : Int32) (x3 : Int32) : Ob × Ob :=
  (F_X2_readEither_c38 K8 (F_X3_add u.2 (-7)) rb u.1 x2 x3)
def F_X2_readEither_c26 (K8 : (Ob → Ob → Int32 → Ob × Ob) → Ob → Ob → Int32 → Int32 → Ob × Ob) (u : Ob) (rb : Ob → Ob → Int32 → Ob × Ob) (T2 : Ob) (x2 : Int32) (x3 : Int32) : Ob × Ob :=
  (F_X2_readEither_c32 K8 (rb u T2 x2) rb x2 x3)
def F_X2_readEither_l8 : Nat → (Ob → Ob → Int32 → Ob × Ob) → Ob → Ob → Int32 → Int32 → Ob × Ob
  | 0, _, sb, T2, _, _ => (sb, T2)
  | n + 1, rb, sb, T2, x2, x3 =>
    (if 160 ≤ x3 then (sb, T2) else (if (sb.1 4) = 259 then (F_X2_readEither_c26 (F_X2_readEither_l8 n ) (F_X2_step sb) rb T2 x2 x3) else (sb, T2)))
def F_X2_readEither_c3 (u : Ob × Ob) (rb : Ob → Ob → Int32 → Ob × Ob) (x2 : Int32) : Ob × Ob :=
  (F_X2_readEither_l8 161  rb u.1 u.2 x2 0)
def F_X2_readEither (rb : Ob → Ob → Int32 → Ob × Ob) (sb : Ob) (T2 : Ob) (p2 : Int32) : Ob × Ob :=
  (F_X2_readEither_c3 (rb sb T2 p2) rb p2)
set_option maxHeartbeats 4000000 in
set_option maxRecDepth 100000 in
theorem c_X2_readEither {l : Launch} {g : GG} {sz : Nat} {bb : Ob} {tx rw : Nat → Ob} {sb dy : Ob} {tn : Nat → Ob} {mo : Ob} {jk : Nat → Nat → Int32} {t2 : Nat} (ht2 : t2 < 6) {T2 : Ob} (hT2 : tx t2 = T2) {rb : Ob → Ob → Int32 → Ob × Ob} {lev : Nat} (hlev : 8 ≤ lev) (p2 : Int32) (hrb : cRd l yX2_readBoth cX2_readBoth 4 lev rb (p2)) (krb : keepR rb (p2)) (hok : sOK sb) (hs : 0 ≤ (T2.1 3).toInt) : Met l yX2_readEither (Cond.code yX2_readEither cX2_readEither 4 none :: TT) (rmL (lev + 1)) (va_Pc [.ref (gA g 35), .ref (gA g (3 + 4 * t2)), .int p2] (gB g sz (gW g bb tx rw sb dy tn mo jk))) (va_Qv (fun (u : Ob × Ob) => (F_X2_readEither rb sb T2 p2) = (u.1, u.2)) (fun u t => gC g (va_A (gW g bb tx rw sb dy tn mo jk) sz) (gW g bb (va_up tx t2 u.2) rw u.1 dy tn mo jk) t) (va_A (gW g bb tx rw sb dy tn mo jk) sz)) 0 0 (va_A (gW g bb tx rw sb dy tn mo jk) sz) := by
  generalize hE : F_X2_readEither rb sb T2 p2 = EE
  refine g_of (Qf := fun A => (va_Qv (fun (u : Ob × Ob) => EE = (u.1, u.2)) (fun u t => gC g A (gW g bb (va_up tx t2 u.2) rw u.1 dy tn mo jk) t) A)) (cc := cX2_readEither) (maxL := 4) (ret := none) (by decide) (Nat.le_of_ble_eq_true rfl) ?_
  intro p e s m below meth c A ls hx hb hml hr hlocks hts hown hA hG hl
  replace hown : s.vm.findClass RX2 = some m.cls := hown
  replace hl : lv_has ls 4 [(0, .ref (gA g 35)), (1, .ref (gA g (3 + 4 * t2))), (2, .int p2)] := hl
  show W p l e (rmL (lev + 1)) s m [.ref (gA g 35), .ref (gA g (3 + 4 * t2)), .int p2].toArray below meth c s.heap [] 0 0 (MQ below (va_Qv (fun (u : Ob × Ob) => EE = (u.1, u.2)) (fun u t => gC g A (gW g bb (va_up tx t2 u.2) rw u.1 dy tn mo jk) t) A) [.ref (gA g 35), .ref (gA g (3 + 4 * t2)), .int p2].toArray s 0 0 A) (F0 m 0 ls [])
  generalize hQ : MQ below (va_Qv (fun (u : Ob × Ob) => EE = (u.1, u.2)) (fun u t => gC g A (gW g bb (va_up tx t2 u.2) rw u.1 dy tn mo jk) t) A) [.ref (gA g 35), .ref (gA g (3 + 4 * t2)), .int p2].toArray s 0 0 A = Q
  replace hG : gS g A s s.heap [] (gW g bb (va_up tx t2 T2) rw sb dy tn mo jk) := by simpa only [← hT2, up_self] using hG
  unfold F_X2_readEither at hE
  refine lv_aload_n hx hb dX2_readEither_0 rfl (lv_at hl 0 rfl) ?_
  refine lv_aload_n hx hb dX2_readEither_1 rfl (lv_at hl 1 rfl) ?_
  refine lv_iload_n hx hb dX2_readEither_2 rfl (lv_at hl 2 rfl) ?_
  refine g_cv (g_runV (n := 2) (rest := []) hx hb hml hown hts hG (hrb ht2 (up_same _ _ _) p2 rfl hok hs) tw_ml_RX2_53 tw_im_X2_readBoth tw_se_X2_readBoth tw_in_RX2 tw_cd_X2_readBoth (by decide +kernel) ⟨rfl, rfl, by show lev + 1 ≤ lev + 1; clear hE; omega, by show 8 + (4 + 11) + 40 * (lev) ≤ 40 * (lev + 1); clear hE; omega⟩ gw_Scribe rfl rfl hl.1 rfl (Nat.le_of_ble_eq_true rfl) dX2_readEither_3 ⟨Nat.le_refl _, Nat.le_refl _⟩) hG hA (fun u H locs hp hG => ?_)
  obtain ⟨sb_3, T2_3⟩ := u
  replace hG : gS g A s H locs (gW g bb (va_up tx t2 T2_3) rw sb_3 dy tn mo jk) := by simpa only [up_up] using hG
  have hp_3 := hp
  rw [hp] at hE
  unfold F_X2_readEither_c3 at hE
  try dsimp only at hE
  have k3 := keep_hp hp_3 krb hok hs
  refine lv_iconst (v := 0) hx hb dX2_readEither_6 (by decide) ?_
  refine lv_istore_n (lv' := [(3, .int 0), (0, .ref (gA g 35)), (1, .ref (gA g (3 + 4 * t2))), (2, .int p2)]) hx hb dX2_readEither_7 rfl hl (by decide) rfl (fun ls hl => ?_)
  replace hl := lv_sub hl [1, 2, 3, 0] (l' := [(0, .ref (gA g 35)), (1, .ref (gA g (3 + 4 * t2))), (2, .int p2), (3, .int 0)]) rfl
  have L8 : ∀ (n8 : Nat) (x3_8 : Int32) (sb_8 : Ob) (T2_8 : Ob) (H : Heap) (locs : List Loc), gS g A s H locs (gW g bb (va_up tx t2 T2_8) rw sb_8 dy tn mo jk) → ∀ ls : Array Slot, lv_has ls 4 [(0, .ref (gA g 35)), (1, .ref (gA g (3 + 4 * t2))), (2, .int p2), (3, .int x3_8)] → 0 ≤ x3_8.toInt → x3_8.toInt ≤ 160 → 160 < x3_8.toInt + n8 → sOK sb_8 → 0 ≤ (T2_8.1 3).toInt → F_X2_readEither_l8 n8  rb sb_8 T2_8 p2 x3_8 = EE → W p l e (rmL (lev + 1)) s m [.ref (gA g 35), .ref (gA g (3 + 4 * t2)), .int p2].toArray below meth c H locs 0 0 Q (F0 m 8 ls []) := by
    intro n8
    induction n8 with
    | zero =>
      intro x3_8 sb_8 T2_8 H locs hG ls hl h0_8 h1_8 hm_8 hok8 hs8 hE
      clear hE; omega
    | succ n8 ih8 =>
      intro x3_8 sb_8 T2_8 H locs hG ls hl h0_8 h1_8 hm_8 hok8 hs8 hE
      unfold F_X2_readEither_l8 at hE
      refine lv_iload_n hx hb dX2_readEither_8 rfl (lv_at hl 3 rfl) ?_
      refine lv_sipush (v := 160) hx hb dX2_readEither_9 (by decide) ?_
      refine lv_icmp_ge (tgt := 47) hx hb dX2_readEither_12 (by decide) (fun c_12 => ?_) (fun c_12 => ?_)
      · replace hE := (if_pos c_12).symm.trans hE
        have i_12 : 160 ≤ x3_8.toInt := i_le.mp c_12
        subst hQ
        exact g_vret hx hb hr hlocks hG ((sb_8, T2_8) : Ob × Ob) rfl hE.symm dX2_readEither_47
      replace hE := (if_neg c_12).symm.trans hE
      have i_12 : x3_8.toInt < 160 := i_nle c_12
      refine lv_aload_n hx hb dX2_readEither_15 rfl (lv_at hl 0 rfl) ?_
      refine g_get hx hb hts hiX2 hown hG gw_Scribe rfl 4 (by decide) (index := 44) tw_fl_RX2_44 (v := .int (sb_8.1 4)) rfl dX2_readEither_16 ?_
      refine lv_sipush (v := 259) hx hb dX2_readEither_19 (by decide) ?_
      refine lv_icmp_ne (tgt := 47) hx hb dX2_readEither_22 (by decide) (fun c_22 => ?_) (fun c_22 => ?_)
      · replace hE := (if_neg c_22).symm.trans hE
        have i_22 : (sb_8.1 4).toInt ≠ 259 := fun h => c_22 (Int32.toInt_inj.mp h)
        subst hQ
        exact g_vret hx hb hr hlocks hG ((sb_8, T2_8) : Ob × Ob) rfl hE.symm dX2_readEither_47
      replace hE := (if_pos c_22).symm.trans hE
      have i_22 : (sb_8.1 4).toInt = 259 := congrArg Int32.toInt c_22
      refine lv_aload_n hx hb dX2_readEither_25 rfl (lv_at hl 0 rfl) ?_
      refine g_cv (g_runV (n := 0) (rest := []) hx hb hml hown hts hG (c_X2_step hok8) tw_ml_RX2_30 tw_im_X2_step tw_se_X2_step tw_in_RX2 tw_cd_X2_step (by decide +kernel) ⟨rfl, rfl, by show 7 + 1 ≤ lev + 1; clear hE; omega, by show 8 + (2 + 11) + 40 * (7) ≤ 40 * (lev + 1); clear hE; omega⟩ gw_Scribe rfl rfl hl.1 rfl (Nat.le_of_ble_eq_true rfl) dX2_readEither_26 ⟨Nat.le_refl _, Nat.le_refl _⟩) hG hA (fun u H locs hp hG => ?_)
      obtain ⟨sb_26, rfl⟩ : ∃ z, z = u := ⟨u, rfl⟩
      replace hG : gS g A s H locs (gW g bb (va_up tx t2 T2_8) rw sb_26 dy tn mo jk) := by simpa only [up_up] using hG
      have hp_26 := hp
      rw [hp] at hE
      unfold F_X2_readEither_c26 at hE
      try dsimp only at hE
      have hok26 : sOK sb_26 := step_ok hp_26 hok8
      refine lv_aload_n hx hb dX2_readEither_29 rfl (lv_at hl 0 rfl) ?_
      refine lv_aload_n hx hb dX2_readEither_30 rfl (lv_at hl 1 rfl) ?_
      refine lv_iload_n hx hb dX2_readEither_31 rfl (lv_at hl 2 rfl) ?_
      refine g_cv (g_runV (n := 2) (rest := []) hx hb hml hown hts hG (hrb ht2 (up_same _ _ _) p2 rfl hok26 hs8) tw_ml_RX2_53 tw_im_X2_readBoth tw_se_X2_readBoth tw_in_RX2 tw_cd_X2_readBoth (by decide +kernel) ⟨rfl, rfl, by show lev + 1 ≤ lev + 1; clear hE; omega, by show 8 + (4 + 11) + 40 * (lev) ≤ 40 * (lev + 1); clear hE; omega⟩ gw_Scribe rfl rfl hl.1 rfl (Nat.le_of_ble_eq_true rfl) dX2_readEither_32 ⟨Nat.le_refl _, Nat.le_refl _⟩) hG hA (fun u H locs hp hG => ?_)
      obtain ⟨sb_32, T2_32⟩ := u
      replace hG : gS g A s H locs (gW g bb (va_up tx t2 T2_32) rw sb_32 dy tn mo jk) := by simpa only [up_up] using hG
      have hp_32 := hp
      rw [hp] at hE
      unfold F_X2_readEither_c32 at hE
      try dsimp only at hE
      have k32 := keep_hp hp_32 krb hok26 hs8
      refine lv_aload_n hx hb dX2_readEither_35 rfl (lv_at hl 1 rfl) ?_
      refine lv_bipush (v := (-7)) hx hb dX2_readEither_36 (by decide) ?_
      refine g_cv (g_runV (n := 1) (rest := []) hx hb hml hown hts hG (c_X3_add ht2 (up_same _ _ _) (-7) k32.2) tw_ml_RX2_56 tw_im_X3_add tw_se_X3_add tw_in_RX3 tw_cd_X3_add (by decide +kernel) ⟨rfl, rfl, by show 1 + 1 ≤ lev + 1; clear hE; omega, by show 8 + (2 + 11) + 40 * (1) ≤ 40 * (lev + 1); clear hE; omega⟩ (gw_Text ht2 (up_same _ _ _)) rfl rfl hl.1 rfl (Nat.le_of_ble_eq_true rfl) dX2_readEither_38 ⟨Nat.le_refl _, Nat.le_refl _⟩) hG hA (fun u H locs hp hG => ?_)
      obtain ⟨T2_38, rfl⟩ : ∃ z, z = u := ⟨u, rfl⟩
      replace hG : gS g A s H locs (gW g bb (va_up tx t2 T2_38) rw sb_32 dy tn mo jk) := by simpa only [up_up] using hG
      have hp_38 := hp
      rw [hp] at hE
      unfold F_X2_readEither_c38 at hE
      try dsimp only at hE
      have hs38 : 0 ≤ (T2_38.1 3).toInt := tadd_nn hp_38 k32.2
      refine lv_iinc (v := (x3_8 + 1)) (lv' := [(3, .int (x3_8 + 1)), (0, .ref (gA g 35)), (1, .ref (gA g (3 + 4 * t2))), (2, .int p2)]) hx hb dX2_readEither_41 hl (k := 3) rfl rfl (by decide) rfl (fun ls hl => ?_)
      replace hl := lv_sub hl [1, 2, 3, 0] (l' := [(0, .ref (gA g 35)), (1, .ref (gA g (3 + 4 * t2))), (2, .int p2), (3, .int (x3_8 + 1))]) rfl
      refine lv_goto (tgt := 8) hx hb dX2_readEither_44 (by decide) ?_
      have e1 : (x3_8 + 1).toInt = x3_8.toInt + 1 := addL (k := 1) (by decide +kernel) (by clear hE; omega) (by clear hE; omega)
      exact ih8 (x3_8 + 1) sb_32 T2_38 _ _ hG _ (lv_sub hl [0, 1, 2, 3] rfl) (by clear hE; omega) (by clear hE; omega) (by clear hE; omega) k32.1 hs38 hE
  exact L8 161 0 sb_3 T2_3 _ _ hG _ (lv_sub hl [0, 1, 2, 3] rfl) (by decide) (by decide) (by decide) k3.1 k3.2 hE
def F_X2_readNot_c90 (u : Ob) (rn : Ob → Ob → Int32 → Ob × Ob) (rs : Ob → Ob → Int32 → Ob × Ob) (sb : Ob) : Ob × Ob :=
  (sb, u)
def F_X2_readNot_c85 (u : Ob × Ob) (rn : Ob → Ob → Int32 → Ob × Ob) (rs : Ob → Ob → Int32 → Ob × Ob) (x3 : Int32) : Ob × Ob :=
  (F_X2_readNot_c90 (F_X3_add u.2 x3) rn rs u.1)
def F_X2_readNot_c79 (u : Ob) (rn : Ob → Ob → Int32 → Ob × Ob) (rs : Ob → Ob → Int32 → Ob × Ob) (T2 : Ob) (x2 : Int32) (x3 : Int32) : Ob × Ob :=
  (F_X2_readNot_c85 (rs u T2 x2) rn rs x3)
def F_X2_readNot_b77 (rn : Ob → Ob → Int32 → Ob × Ob) (rs : Ob → Ob → Int32 → Ob × Ob) (sb : Ob) (T2 : Ob) (x2 : Int32) (z0 : Int32) : Ob × Ob :=
  (F_X2_readNot_c79 (F_X2_step sb) rn rs T2 x2 z0)
def F_X2_readNot_b61 (rn : Ob → Ob → Int32 → Ob × Ob) (rs : Ob → Ob → Int32 → Ob × Ob) (sb : Ob) (T2 : Ob) (x2 : Int32) : Ob × Ob :=
  (if (sb.1 4) = 60 then (F_X2_readNot_b77  rn rs sb T2 x2 (-10)) else (F_X2_readNot_b77  rn rs sb T2 x2 (-11)))
def F_X2_readNot_c40 (u : Ob × Ob) (rn : Ob → Ob → Int32 → Ob × Ob) (rs : Ob → Ob → Int32 → Ob × Ob) (x2 : Int32) : Ob × Ob :=
  (if (u.1.1 4) = 60 then (F_X2_readNot_b61  rn rs u.1 u.2 x2) else (if (u.1.1 4) = 61 then (F_X2_readNot_b61  rn rs u.1 u.2 x2) else (u.1, u.2)))
def F_X2_readNot_c33 (u : Ob) (rn : Ob → Ob → Int32 → Ob × Ob) (rs : Ob → Ob → Int32 → Ob × Ob) (sb : Ob) : Ob × Ob :=
  (sb, u)
def F_X2_readNot_c27 (u : Ob × Ob) (rn : Ob → Ob → Int32 → Ob × Ob) (rs : Ob → Ob → Int32 → Ob × Ob) : Ob × Ob :=
  (F_X2_readNot_c33 (F_X3_add u.2 (-9)) rn rs u.1)
def F_X2_readNot_c19 (u : Ob) (rn : Ob → Ob → Int32 → Ob × Ob) (rs : Ob → Ob → Int32 → Ob × Ob) (T2 : Ob) (x2 : Int32) : Ob × Ob :=
  (F_X2_readNot_c27 (rn u T2 (x2 + 1)) rn rs)
def F_X2_readNot_c12 (u : Int32 × Ob) (rn : Ob → Ob → Int32 → Ob × Ob) (rs : Ob → Ob → Int32 → Ob × Ob) (T2 : Ob) (x2 : Int32) : Ob × Ob :=
  (if u.1 = 0 then (u.2, T2) else (F_X2_readNot_c19 (F_X2_step u.2) rn rs T2 x2))
def F_X2_readNot (rn : Ob → Ob → Int32 → Ob × Ob) (rs : Ob → Ob → Int32 → Ob × Ob) (sb : Ob) (T2 : Ob) (p2 : Int32) : Ob × Ob :=
  (if (sb.1 4) = 261 then (F_X2_readNot_c12 (F_X2_mayOpen sb p2) rn rs T2 p2) else (F_X2_readNot_c40 (rs sb T2 p2) rn rs p2))
set_option maxHeartbeats 4000000 in
set_option maxRecDepth 100000 in
theorem c_X2_readNot {l : Launch} {g : GG} {sz : Nat} {bb : Ob} {tx rw : Nat → Ob} {sb dy : Ob} {tn : Nat → Ob} {mo : Ob} {jk : Nat → Nat → Int32} {t2 : Nat} (ht2 : t2 < 6) {T2 : Ob} (hT2 : tx t2 = T2) {rn : Ob → Ob → Int32 → Ob × Ob} {rs : Ob → Ob → Int32 → Ob × Ob} {lev : Nat} (hlev : 8 ≤ lev) (p2 : Int32) {l1 : Nat} (hl1 : l1 ≤ lev) (hrn : p2 < 5 → cRd l yX2_readNot cX2_readNot 4 l1 rn (p2 + 1)) (krn : p2 < 5 → keepR rn (p2 + 1)) (hrs : cRd l yX2_readSum cX2_readSum 5 lev rs (p2)) (krs : keepR rs (p2)) (hok : sOK sb) (hs : 0 ≤ (T2.1 3).toInt) : Met l yX2_readNot (Cond.code yX2_readNot cX2_readNot 4 none :: TT) (rmL (lev + 1)) (va_Pc [.ref (gA g 35), .ref (gA g (3 + 4 * t2)), .int p2] (gB g sz (gW g bb tx rw sb dy tn mo jk))) (va_Qv (fun (u : Ob × Ob) => (F_X2_readNot rn rs sb T2 p2) = (u.1, u.2)) (fun u t => gC g (va_A (gW g bb tx rw sb dy tn mo jk) sz) (gW g bb (va_up tx t2 u.2) rw u.1 dy tn mo jk) t) (va_A (gW g bb tx rw sb dy tn mo jk) sz)) 0 0 (va_A (gW g bb tx rw sb dy tn mo jk) sz) := by
  generalize hE : F_X2_readNot rn rs sb T2 p2 = EE
  refine g_of (Qf := fun A => (va_Qv (fun (u : Ob × Ob) => EE = (u.1, u.2)) (fun u t => gC g A (gW g bb (va_up tx t2 u.2) rw u.1 dy tn mo jk) t) A)) (cc := cX2_readNot) (maxL := 4) (ret := none) (by decide) (Nat.le_of_ble_eq_true rfl) ?_
  intro p e s m below meth c A ls hx hb hml hr hlocks hts hown hA hG hl
  replace hown : s.vm.findClass RX2 = some m.cls := hown
  replace hl : lv_has ls 4 [(0, .ref (gA g 35)), (1, .ref (gA g (3 + 4 * t2))), (2, .int p2)] := hl
  show W p l e (rmL (lev + 1)) s m [.ref (gA g 35), .ref (gA g (3 + 4 * t2)), .int p2].toArray below meth c s.heap [] 0 0 (MQ below (va_Qv (fun (u : Ob × Ob) => EE = (u.1, u.2)) (fun u t => gC g A (gW g bb (va_up tx t2 u.2) rw u.1 dy tn mo jk) t) A) [.ref (gA g 35), .ref (gA g (3 + 4 * t2)), .int p2].toArray s 0 0 A) (F0 m 0 ls [])
  generalize hQ : MQ below (va_Qv (fun (u : Ob × Ob) => EE = (u.1, u.2)) (fun u t => gC g A (gW g bb (va_up tx t2 u.2) rw u.1 dy tn mo jk) t) A) [.ref (gA g 35), .ref (gA g (3 + 4 * t2)), .int p2].toArray s 0 0 A = Q
  replace hG : gS g A s s.heap [] (gW g bb (va_up tx t2 T2) rw sb dy tn mo jk) := by simpa only [← hT2, up_self] using hG
  unfold F_X2_readNot at hE
  refine lv_aload_n hx hb dX2_readNot_0 rfl (lv_at hl 0 rfl) ?_
  refine g_get hx hb hts hiX2 hown hG gw_Scribe rfl 4 (by decide) (index := 44) tw_fl_RX2_44 (v := .int (sb.1 4)) rfl dX2_readNot_1 ?_
  refine lv_sipush (v := 261) hx hb dX2_readNot_4 (by decide) ?_
  refine lv_icmp_ne (tgt := 37) hx hb dX2_readNot_7 (by decide) (fun c_7 => ?_) (fun c_7 => ?_)
  · replace hE := (if_neg c_7).symm.trans hE
    have i_7 : (sb.1 4).toInt ≠ 261 := fun h => c_7 (Int32.toInt_inj.mp h)
    refine lv_aload_n hx hb dX2_readNot_37 rfl (lv_at hl 0 rfl) ?_
    refine lv_aload_n hx hb dX2_readNot_38 rfl (lv_at hl 1 rfl) ?_
    refine lv_iload_n hx hb dX2_readNot_39 rfl (lv_at hl 2 rfl) ?_
    refine g_cv (g_runV (n := 2) (rest := []) hx hb hml hown hts hG (hrs ht2 (up_same _ _ _) p2 rfl hok hs) tw_ml_RX2_66 tw_im_X2_readSum tw_se_X2_readSum tw_in_RX2 tw_cd_X2_readSum (by decide +kernel) ⟨rfl, rfl, by show lev + 1 ≤ lev + 1; clear hE; omega, by show 8 + (5 + 11) + 40 * (lev) ≤ 40 * (lev + 1); clear hE; omega⟩ gw_Scribe rfl rfl hl.1 rfl (Nat.le_of_ble_eq_true rfl) dX2_readNot_40 ⟨Nat.le_refl _, Nat.le_refl _⟩) hG hA (fun u H locs hp hG => ?_)
    obtain ⟨sb_40, T2_40⟩ := u
    replace hG : gS g A s H locs (gW g bb (va_up tx t2 T2_40) rw sb_40 dy tn mo jk) := by simpa only [up_up] using hG
    have hp_40 := hp
    rw [hp] at hE
    unfold F_X2_readNot_c40 at hE
    try dsimp only at hE
    have k40 := keep_hp hp_40 krs hok hs
    refine lv_aload_n hx hb dX2_readNot_43 rfl (lv_at hl 0 rfl) ?_
    refine g_get hx hb hts hiX2 hown hG gw_Scribe rfl 4 (by decide) (index := 44) tw_fl_RX2_44 (v := .int (sb_40.1 4)) rfl dX2_readNot_44 ?_
    refine lv_bipush (v := 60) hx hb dX2_readNot_47 (by decide) ?_
    have J61 : ∀  (H : Heap) (locs : List Loc), gS g A s H locs (gW g bb (va_up tx t2 T2_40) rw sb_40 dy tn mo jk) → ∀ ls : Array Slot, lv_has ls 4 [(0, .ref (gA g 35)), (1, .ref (gA g (3 + 4 * t2))), (2, .int p2)] → F_X2_readNot_b61   rn rs sb_40 T2_40 p2 = EE → W p l e (rmL (lev + 1)) s m [.ref (gA g 35), .ref (gA g (3 + 4 * t2)), .int p2].toArray below meth c H locs 0 0 Q (F0 m 61 ls []) := by
      intro  H locs hG ls hl  hE
      unfold F_X2_readNot_b61 at hE
      refine lv_aload_n hx hb dX2_readNot_61 rfl (lv_at hl 0 rfl) ?_
      refine g_get hx hb hts hiX2 hown hG gw_Scribe rfl 4 (by decide) (index := 44) tw_fl_RX2_44 (v := .int (sb_40.1 4)) rfl dX2_readNot_62 ?_
      refine lv_bipush (v := 60) hx hb dX2_readNot_65 (by decide) ?_
      have J77 : ∀ (z0_77 : Int32) (H : Heap) (locs : List Loc), gS g A s H locs (gW g bb (va_up tx t2 T2_40) rw sb_40 dy tn mo jk) → ∀ ls : Array Slot, lv_has ls 4 [(0, .ref (gA g 35)), (1, .ref (gA g (3 + 4 * t2))), (2, .int p2)] → F_X2_readNot_b77   rn rs sb_40 T2_40 p2 z0_77 = EE → W p l e (rmL (lev + 1)) s m [.ref (gA g 35), .ref (gA g (3 + 4 * t2)), .int p2].toArray below meth c H locs 0 0 Q (F0 m 77 ls [.int z0_77]) := by
        intro z0_77 H locs hG ls hl  hE
        unfold F_X2_readNot_b77 at hE
        refine lv_istore_n (lv' := [(3, .int z0_77), (0, .ref (gA g 35)), (1, .ref (gA g (3 + 4 * t2))), (2, .int p2)]) hx hb dX2_readNot_77 rfl hl (by decide) rfl (fun ls hl => ?_)
        replace hl := lv_sub hl [1, 2, 3, 0] (l' := [(0, .ref (gA g 35)), (1, .ref (gA g (3 + 4 * t2))), (2, .int p2), (3, .int z0_77)]) rfl
        refine lv_aload_n hx hb dX2_readNot_78 rfl (lv_at hl 0 rfl) ?_
        refine g_cv (g_runV (n := 0) (rest := []) hx hb hml hown hts hG (c_X2_step k40.1) tw_ml_RX2_30 tw_im_X2_step tw_se_X2_step tw_in_RX2 tw_cd_X2_step (by decide +kernel) ⟨rfl, rfl, by show 7 + 1 ≤ lev + 1; clear hE; omega, by show 8 + (2 + 11) + 40 * (7) ≤ 40 * (lev + 1); clear hE; omega⟩ gw_Scribe rfl rfl hl.1 rfl (Nat.le_of_ble_eq_true rfl) dX2_readNot_79 ⟨Nat.le_refl _, Nat.le_refl _⟩) hG hA (fun u H locs hp hG => ?_)
        obtain ⟨sb_79, rfl⟩ : ∃ z, z = u := ⟨u, rfl⟩
        replace hG : gS g A s H locs (gW g bb (va_up tx t2 T2_40) rw sb_79 dy tn mo jk) := by simpa only [up_up] using hG
        have hp_79 := hp
        rw [hp] at hE
        unfold F_X2_readNot_c79 at hE
        try dsimp only at hE
        have hok79 : sOK sb_79 := step_ok hp_79 k40.1
        refine lv_aload_n hx hb dX2_readNot_82 rfl (lv_at hl 0 rfl) ?_
        refine lv_aload_n hx hb dX2_readNot_83 rfl (lv_at hl 1 rfl) ?_
        refine lv_iload_n hx hb dX2_readNot_84 rfl (lv_at hl 2 rfl) ?_
        refine g_cv (g_runV (n := 2) (rest := []) hx hb hml hown hts hG (hrs ht2 (up_same _ _ _) p2 rfl hok79 k40.2) tw_ml_RX2_66 tw_im_X2_readSum tw_se_X2_readSum tw_in_RX2 tw_cd_X2_readSum (by decide +kernel) ⟨rfl, rfl, by show lev + 1 ≤ lev + 1; clear hE; omega, by show 8 + (5 + 11) + 40 * (lev) ≤ 40 * (lev + 1); clear hE; omega⟩ gw_Scribe rfl rfl hl.1 rfl (Nat.le_of_ble_eq_true rfl) dX2_readNot_85 ⟨Nat.le_refl _, Nat.le_refl _⟩) hG hA (fun u H locs hp hG => ?_)
        obtain ⟨sb_85, T2_85⟩ := u
        replace hG : gS g A s H locs (gW g bb (va_up tx t2 T2_85) rw sb_85 dy tn mo jk) := by simpa only [up_up] using hG
        have hp_85 := hp
        rw [hp] at hE
        unfold F_X2_readNot_c85 at hE
        try dsimp only at hE
        have k85 := keep_hp hp_85 krs hok79 k40.2
        refine lv_aload_n hx hb dX2_readNot_88 rfl (lv_at hl 1 rfl) ?_
        refine lv_iload_n hx hb dX2_readNot_89 rfl (lv_at hl 3 rfl) ?_
        refine g_cv (g_runV (n := 1) (rest := []) hx hb hml hown hts hG (c_X3_add ht2 (up_same _ _ _) z0_77 k85.2) tw_ml_RX2_56 tw_im_X3_add tw_se_X3_add tw_in_RX3 tw_cd_X3_add (by decide +kernel) ⟨rfl, rfl, by show 1 + 1 ≤ lev + 1; clear hE; omega, by show 8 + (2 + 11) + 40 * (1) ≤ 40 * (lev + 1); clear hE; omega⟩ (gw_Text ht2 (up_same _ _ _)) rfl rfl hl.1 rfl (Nat.le_of_ble_eq_true rfl) dX2_readNot_90 ⟨Nat.le_refl _, Nat.le_refl _⟩) hG hA (fun u H locs hp hG => ?_)
        obtain ⟨T2_90, rfl⟩ : ∃ z, z = u := ⟨u, rfl⟩
        replace hG : gS g A s H locs (gW g bb (va_up tx t2 T2_90) rw sb_85 dy tn mo jk) := by simpa only [up_up] using hG
        have hp_90 := hp
        rw [hp] at hE
        unfold F_X2_readNot_c90 at hE
        try dsimp only at hE
        subst hQ
        exact g_vret hx hb hr hlocks hG ((sb_85, T2_90) : Ob × Ob) rfl hE.symm dX2_readNot_93
      refine lv_icmp_ne (tgt := 75) hx hb dX2_readNot_67 (by decide) (fun c_67 => ?_) (fun c_67 => ?_)
      · replace hE := (if_neg c_67).symm.trans hE
        have i_67 : (sb_40.1 4).toInt ≠ 60 := fun h => c_67 (Int32.toInt_inj.mp h)
        refine lv_bipush (v := (-11)) hx hb dX2_readNot_75 (by decide) ?_
        exact J77 (-11) _ _ hG _ (lv_sub hl [0, 1, 2] rfl) hE
      replace hE := (if_pos c_67).symm.trans hE
      have i_67 : (sb_40.1 4).toInt = 60 := congrArg Int32.toInt c_67
      refine lv_bipush (v := (-10)) hx hb dX2_readNot_70 (by decide) ?_
      refine lv_goto (tgt := 77) hx hb dX2_readNot_72 (by decide) ?_
      exact J77 (-10) _ _ hG _ (lv_sub hl [0, 1, 2] rfl) hE
    refine lv_icmp_eq (tgt := 61) hx hb dX2_readNot_49 (by decide) (fun c_49 => ?_) (fun c_49 => ?_)
    · replace hE := (if_pos c_49).symm.trans hE
      have i_49 : (sb_40.1 4).toInt = 60 := congrArg Int32.toInt c_49
      exact J61 _ _ hG _ (lv_sub hl [0, 1, 2] rfl) hE
    replace hE := (if_neg c_49).symm.trans hE
    have i_49 : (sb_40.1 4).toInt ≠ 60 := fun h => c_49 (Int32.toInt_inj.mp h)
    refine lv_aload_n hx hb dX2_readNot_52 rfl (lv_at hl 0 rfl) ?_
    refine g_get hx hb hts hiX2 hown hG gw_Scribe rfl 4 (by decide) (index := 44) tw_fl_RX2_44 (v := .int (sb_40.1 4)) rfl dX2_readNot_53 ?_
    refine lv_bipush (v := 61) hx hb dX2_readNot_56 (by decide) ?_
    refine lv_icmp_ne (tgt := 93) hx hb dX2_readNot_58 (by decide) (fun c_58 => ?_) (fun c_58 => ?_)
    · replace hE := (if_neg c_58).symm.trans hE
      have i_58 : (sb_40.1 4).toInt ≠ 61 := fun h => c_58 (Int32.toInt_inj.mp h)
      subst hQ
      exact g_vret hx hb hr hlocks hG ((sb_40, T2_40) : Ob × Ob) rfl hE.symm dX2_readNot_93
    replace hE := (if_pos c_58).symm.trans hE
    have i_58 : (sb_40.1 4).toInt = 61 := congrArg Int32.toInt c_58
    exact J61 _ _ hG _ (lv_sub hl [0, 1, 2] rfl) hE
  replace hE := (if_pos c_7).symm.trans hE
  have i_7 : (sb.1 4).toInt = 261 := congrArg Int32.toInt c_7
  refine lv_aload_n hx hb dX2_readNot_10 rfl (lv_at hl 0 rfl) ?_
  refine lv_iload_n hx hb dX2_readNot_11 rfl (lv_at hl 2 rfl) ?_
  refine g_ci (g_runV (n := 1) (rest := []) hx hb hml hown hts hG (c_X2_mayOpen p2) tw_ml_RX2_62 tw_im_X2_mayOpen tw_se_X2_mayOpen tw_in_RX2 tw_cd_X2_mayOpen (by decide +kernel) ⟨rfl, rfl, by show 2 + 1 ≤ lev + 1; clear hE; omega, by show 8 + (2 + 11) + 40 * (2) ≤ 40 * (lev + 1); clear hE; omega⟩ gw_Scribe rfl rfl hl.1 rfl (Nat.le_of_ble_eq_true rfl) dX2_readNot_12 ⟨Nat.le_refl _, Nat.le_refl _⟩) hG hA (fun r_12 u H locs hp hG => ?_)
  obtain ⟨sb_12, rfl⟩ : ∃ z, z = u := ⟨u, rfl⟩
  replace hG : gS g A s H locs (gW g bb (va_up tx t2 T2) rw sb_12 dy tn mo jk) := by simpa only [up_up] using hG
  have hp_12 := hp
  rw [hp] at hE
  unfold F_X2_readNot_c12 at hE
  try dsimp only at hE
  have hok12 : sOK sb_12 := mayOpen_ok hp_12 hok
  refine lv_if_eq (tgt := 36) hx hb dX2_readNot_15 (by decide) (fun c_15 => ?_) (fun c_15 => ?_)
  · replace hE := (if_pos c_15).symm.trans hE
    have i_15 : r_12.toInt = 0 := congrArg Int32.toInt c_15
    subst hQ
    exact g_vret hx hb hr hlocks hG ((sb_12, T2) : Ob × Ob) rfl hE.symm dX2_readNot_36
  replace hE := (if_neg c_15).symm.trans hE
  have i_15 : r_12.toInt ≠ 0 := fun h => c_15 (Int32.toInt_inj.mp h)
  refine lv_aload_n hx hb dX2_readNot_18 rfl (lv_at hl 0 rfl) ?_
  refine g_cv (g_runV (n := 0) (rest := []) hx hb hml hown hts hG (c_X2_step hok12) tw_ml_RX2_30 tw_im_X2_step tw_se_X2_step tw_in_RX2 tw_cd_X2_step (by decide +kernel) ⟨rfl, rfl, by show 7 + 1 ≤ lev + 1; clear hE; omega, by show 8 + (2 + 11) + 40 * (7) ≤ 40 * (lev + 1); clear hE; omega⟩ gw_Scribe rfl rfl hl.1 rfl (Nat.le_of_ble_eq_true rfl) dX2_readNot_19 ⟨Nat.le_refl _, Nat.le_refl _⟩) hG hA (fun u H locs hp hG => ?_)
  obtain ⟨sb_19, rfl⟩ : ∃ z, z = u := ⟨u, rfl⟩
  replace hG : gS g A s H locs (gW g bb (va_up tx t2 T2) rw sb_19 dy tn mo jk) := by simpa only [up_up] using hG
  have hp_19 := hp
  rw [hp] at hE
  unfold F_X2_readNot_c19 at hE
  try dsimp only at hE
  have hok19 : sOK sb_19 := step_ok hp_19 hok12
  refine lv_aload_n hx hb dX2_readNot_22 rfl (lv_at hl 0 rfl) ?_
  refine lv_aload_n hx hb dX2_readNot_23 rfl (lv_at hl 1 rfl) ?_
  refine lv_iload_n hx hb dX2_readNot_24 rfl (lv_at hl 2 rfl) ?_
  refine lv_iconst (v := 1) hx hb dX2_readNot_25 (by decide) ?_
  refine lv_iadd hx hb dX2_readNot_26 ?_
  refine g_cv (g_runV (n := 2) (rest := []) hx hb hml hown hts hG ((hrn (mayOpen_lt hp_12 c_15)) ht2 (up_same _ _ _) (p2 + 1) rfl hok19 hs) tw_ml_RX2_59 tw_im_X2_readNot tw_se_X2_readNot tw_in_RX2 tw_cd_X2_readNot (by decide +kernel) ⟨rfl, rfl, by show l1 + 1 ≤ lev + 1; clear hE; omega, by show 8 + (4 + 11) + 40 * (l1) ≤ 40 * (lev + 1); clear hE; omega⟩ gw_Scribe rfl rfl hl.1 rfl (Nat.le_of_ble_eq_true rfl) dX2_readNot_27 ⟨Nat.le_refl _, Nat.le_refl _⟩) hG hA (fun u H locs hp hG => ?_)
  obtain ⟨sb_27, T2_27⟩ := u
  replace hG : gS g A s H locs (gW g bb (va_up tx t2 T2_27) rw sb_27 dy tn mo jk) := by simpa only [up_up] using hG
  have hp_27 := hp
  rw [hp] at hE
  unfold F_X2_readNot_c27 at hE
  try dsimp only at hE
  have k27 := keep_hp hp_27 (krn (mayOpen_lt hp_12 c_15)) hok19 hs
  refine lv_aload_n hx hb dX2_readNot_30 rfl (lv_at hl 1 rfl) ?_
  refine lv_bipush (v := (-9)) hx hb dX2_readNot_31 (by decide) ?_
  refine g_cv (g_runV (n := 1) (rest := []) hx hb hml hown hts hG (c_X3_add ht2 (up_same _ _ _) (-9) k27.2) tw_ml_RX2_56 tw_im_X3_add tw_se_X3_add tw_in_RX3 tw_cd_X3_add (by decide +kernel) ⟨rfl, rfl, by show 1 + 1 ≤ lev + 1; clear hE; omega, by show 8 + (2 + 11) + 40 * (1) ≤ 40 * (lev + 1); clear hE; omega⟩ (gw_Text ht2 (up_same _ _ _)) rfl rfl hl.1 rfl (Nat.le_of_ble_eq_true rfl) dX2_readNot_33 ⟨Nat.le_refl _, Nat.le_refl _⟩) hG hA (fun u H locs hp hG => ?_)
  obtain ⟨T2_33, rfl⟩ : ∃ z, z = u := ⟨u, rfl⟩
  replace hG : gS g A s H locs (gW g bb (va_up tx t2 T2_33) rw sb_27 dy tn mo jk) := by simpa only [up_up] using hG
  have hp_33 := hp
  rw [hp] at hE
  unfold F_X2_readNot_c33 at hE
  try dsimp only at hE
  subst hQ
  exact g_vret hx hb hr hlocks hG ((sb_27, T2_33) : Ob × Ob) rfl hE.symm dX2_readNot_36
def F_X2_readOne_c122 (u : Ob) (ro : Ob → Ob → Int32 → Ob × Ob) (re : Ob → Ob → Int32 → Ob × Ob) (T2 : Ob) : Ob × Ob :=
  (u, T2)
def F_X2_readOne_c115 (u : Ob) (ro : Ob → Ob → Int32 → Ob × Ob) (re : Ob → Ob → Int32 → Ob × Ob) (T2 : Ob) : Ob × Ob :=
  (u, T2)
def F_X2_readOne_c109 (u : Ob × Ob) (ro : Ob → Ob → Int32 → Ob × Ob) (re : Ob → Ob → Int32 → Ob × Ob) : Ob × Ob :=
  (F_X2_readOne_c115 (F_X2_expect u.1 41) ro re u.2)
def F_X2_readOne_c101 (u : Ob) (ro : Ob → Ob → Int32 → Ob × Ob) (re : Ob → Ob → Int32 → Ob × Ob) (T2 : Ob) (x2 : Int32) : Ob × Ob :=
  (F_X2_readOne_c109 (re u T2 (x2 + 1)) ro re)
def F_X2_readOne_c94 (u : Int32 × Ob) (ro : Ob → Ob → Int32 → Ob × Ob) (re : Ob → Ob → Int32 → Ob × Ob) (T2 : Ob) (x2 : Int32) : Ob × Ob :=
  (if u.1 = 0 then (u.2, T2) else (F_X2_readOne_c101 (F_X2_step u.2) ro re T2 x2))
def F_X2_readOne_c77 (u : Ob) (ro : Ob → Ob → Int32 → Ob × Ob) (re : Ob → Ob → Int32 → Ob × Ob) (sb : Ob) : Ob × Ob :=
  (sb, u)
def F_X2_readOne_c71 (u : Ob × Ob) (ro : Ob → Ob → Int32 → Ob × Ob) (re : Ob → Ob → Int32 → Ob × Ob) : Ob × Ob :=
  (F_X2_readOne_c77 (F_X3_add u.2 (-15)) ro re u.1)
def F_X2_readOne_c63 (u : Ob) (ro : Ob → Ob → Int32 → Ob × Ob) (re : Ob → Ob → Int32 → Ob × Ob) (T2 : Ob) (x2 : Int32) : Ob × Ob :=
  (F_X2_readOne_c71 (ro u T2 (x2 + 1)) ro re)
def F_X2_readOne_c56 (u : Int32 × Ob) (ro : Ob → Ob → Int32 → Ob × Ob) (re : Ob → Ob → Int32 → Ob × Ob) (T2 : Ob) (x2 : Int32) : Ob × Ob :=
  (if u.1 = 0 then (u.2, T2) else (F_X2_readOne_c63 (F_X2_step u.2) ro re T2 x2))
def F_X2_readOne_c39 (u : Ob) (ro : Ob → Ob → Int32 → Ob × Ob) (re : Ob → Ob → Int32 → Ob × Ob) (T2 : Ob) : Ob × Ob :=
  (u, T2)
def F_X2_readOne_c35 (u : Ob) (ro : Ob → Ob → Int32 → Ob × Ob) (re : Ob → Ob → Int32 → Ob × Ob) (sb : Ob) : Ob × Ob :=
  (F_X2_readOne_c39 (F_X2_step sb) ro re u)
def F_X2_readOne_c17 (u : Ob) (ro : Ob → Ob → Int32 → Ob × Ob) (re : Ob → Ob → Int32 → Ob × Ob) (T2 : Ob) : Ob × Ob :=
  (u, T2)
def F_X2_readOne_c13 (u : Ob) (ro : Ob → Ob → Int32 → Ob × Ob) (re : Ob → Ob → Int32 → Ob × Ob) (sb : Ob) : Ob × Ob :=
  (F_X2_readOne_c17 (F_X2_step sb) ro re u)
def F_X2_readOne (ro : Ob → Ob → Int32 → Ob × Ob) (re : Ob → Ob → Int32 → Ob × Ob) (sb : Ob) (T2 : Ob) (p2 : Int32) : Ob × Ob :=
  (if (sb.1 4) = 2 then (F_X2_readOne_c13 (F_X3_add T2 (sb.1 5)) ro re sb) else (if 0 ≤ (sb.1 4) then (if (sb.1 4) = 45 then (F_X2_readOne_c56 (F_X2_mayOpen sb p2) ro re T2 p2) else (if (sb.1 4) = 40 then (F_X2_readOne_c94 (F_X2_mayOpen sb p2) ro re T2 p2) else (F_X2_readOne_c122 (F_X2_fail sb) ro re T2))) else (F_X2_readOne_c35 (F_X3_add T2 (sb.1 4)) ro re sb)))
set_option maxHeartbeats 4000000 in
set_option maxRecDepth 100000 in
theorem c_X2_readOne {l : Launch} {g : GG} {sz : Nat} {bb : Ob} {tx rw : Nat → Ob} {sb dy : Ob} {tn : Nat → Ob} {mo : Ob} {jk : Nat → Nat → Int32} {t2 : Nat} (ht2 : t2 < 6) {T2 : Ob} (hT2 : tx t2 = T2) {ro : Ob → Ob → Int32 → Ob × Ob} {re : Ob → Ob → Int32 → Ob × Ob} {lev : Nat} (hlev : 8 ≤ lev) (p2 : Int32) {l1 : Nat} (hl1 : l1 ≤ lev) (hro : p2 < 5 → cRd l yX2_readOne cX2_readOne 3 l1 ro (p2 + 1)) (kro : p2 < 5 → keepR ro (p2 + 1)) (hre : p2 < 5 → cRd l yX2_readEither cX2_readEither 4 lev re (p2 + 1)) (kre : p2 < 5 → keepR re (p2 + 1)) (hok : sOK sb) (hs : 0 ≤ (T2.1 3).toInt) : Met l yX2_readOne (Cond.code yX2_readOne cX2_readOne 3 none :: TT) (rmL (lev + 1)) (va_Pc [.ref (gA g 35), .ref (gA g (3 + 4 * t2)), .int p2] (gB g sz (gW g bb tx rw sb dy tn mo jk))) (va_Qv (fun (u : Ob × Ob) => (F_X2_readOne ro re sb T2 p2) = (u.1, u.2)) (fun u t => gC g (va_A (gW g bb tx rw sb dy tn mo jk) sz) (gW g bb (va_up tx t2 u.2) rw u.1 dy tn mo jk) t) (va_A (gW g bb tx rw sb dy tn mo jk) sz)) 0 0 (va_A (gW g bb tx rw sb dy tn mo jk) sz) := by
  generalize hE : F_X2_readOne ro re sb T2 p2 = EE
  refine g_of (Qf := fun A => (va_Qv (fun (u : Ob × Ob) => EE = (u.1, u.2)) (fun u t => gC g A (gW g bb (va_up tx t2 u.2) rw u.1 dy tn mo jk) t) A)) (cc := cX2_readOne) (maxL := 3) (ret := none) (by decide) (Nat.le_of_ble_eq_true rfl) ?_
  intro p e s m below meth c A ls hx hb hml hr hlocks hts hown hA hG hl
  replace hown : s.vm.findClass RX2 = some m.cls := hown
  replace hl : lv_has ls 3 [(0, .ref (gA g 35)), (1, .ref (gA g (3 + 4 * t2))), (2, .int p2)] := hl
  show W p l e (rmL (lev + 1)) s m [.ref (gA g 35), .ref (gA g (3 + 4 * t2)), .int p2].toArray below meth c s.heap [] 0 0 (MQ below (va_Qv (fun (u : Ob × Ob) => EE = (u.1, u.2)) (fun u t => gC g A (gW g bb (va_up tx t2 u.2) rw u.1 dy tn mo jk) t) A) [.ref (gA g 35), .ref (gA g (3 + 4 * t2)), .int p2].toArray s 0 0 A) (F0 m 0 ls [])
  generalize hQ : MQ below (va_Qv (fun (u : Ob × Ob) => EE = (u.1, u.2)) (fun u t => gC g A (gW g bb (va_up tx t2 u.2) rw u.1 dy tn mo jk) t) A) [.ref (gA g 35), .ref (gA g (3 + 4 * t2)), .int p2].toArray s 0 0 A = Q
  replace hG : gS g A s s.heap [] (gW g bb (va_up tx t2 T2) rw sb dy tn mo jk) := by simpa only [← hT2, up_self] using hG
  unfold F_X2_readOne at hE
  refine lv_aload_n hx hb dX2_readOne_0 rfl (lv_at hl 0 rfl) ?_
  refine g_get hx hb hts hiX2 hown hG gw_Scribe rfl 4 (by decide) (index := 44) tw_fl_RX2_44 (v := .int (sb.1 4)) rfl dX2_readOne_1 ?_
  refine lv_iconst (v := 2) hx hb dX2_readOne_4 (by decide) ?_
  refine lv_icmp_ne (tgt := 23) hx hb dX2_readOne_5 (by decide) (fun c_5 => ?_) (fun c_5 => ?_)
  · replace hE := (if_neg c_5).symm.trans hE
    have i_5 : (sb.1 4).toInt ≠ 2 := fun h => c_5 (Int32.toInt_inj.mp h)
    refine lv_aload_n hx hb dX2_readOne_23 rfl (lv_at hl 0 rfl) ?_
    refine g_get hx hb hts hiX2 hown hG gw_Scribe rfl 4 (by decide) (index := 44) tw_fl_RX2_44 (v := .int (sb.1 4)) rfl dX2_readOne_24 ?_
    refine lv_if_ge (tgt := 45) hx hb dX2_readOne_27 (by decide) (fun c_27 => ?_) (fun c_27 => ?_)
    · replace hE := (if_pos c_27).symm.trans hE
      have i_27 : 0 ≤ (sb.1 4).toInt := i_le.mp c_27
      refine lv_aload_n hx hb dX2_readOne_45 rfl (lv_at hl 0 rfl) ?_
      refine g_get hx hb hts hiX2 hown hG gw_Scribe rfl 4 (by decide) (index := 44) tw_fl_RX2_44 (v := .int (sb.1 4)) rfl dX2_readOne_46 ?_
      refine lv_bipush (v := 45) hx hb dX2_readOne_49 (by decide) ?_
      refine lv_icmp_ne (tgt := 83) hx hb dX2_readOne_51 (by decide) (fun c_51 => ?_) (fun c_51 => ?_)
      · replace hE := (if_neg c_51).symm.trans hE
        have i_51 : (sb.1 4).toInt ≠ 45 := fun h => c_51 (Int32.toInt_inj.mp h)
        refine lv_aload_n hx hb dX2_readOne_83 rfl (lv_at hl 0 rfl) ?_
        refine g_get hx hb hts hiX2 hown hG gw_Scribe rfl 4 (by decide) (index := 44) tw_fl_RX2_44 (v := .int (sb.1 4)) rfl dX2_readOne_84 ?_
        refine lv_bipush (v := 40) hx hb dX2_readOne_87 (by decide) ?_
        refine lv_icmp_ne (tgt := 121) hx hb dX2_readOne_89 (by decide) (fun c_89 => ?_) (fun c_89 => ?_)
        · replace hE := (if_neg c_89).symm.trans hE
          have i_89 : (sb.1 4).toInt ≠ 40 := fun h => c_89 (Int32.toInt_inj.mp h)
          refine lv_aload_n hx hb dX2_readOne_121 rfl (lv_at hl 0 rfl) ?_
          refine g_cv (g_runV (n := 0) (rest := []) hx hb hml hown hts hG (c_X2_fail) tw_ml_RX2_47 tw_im_X2_fail tw_se_X2_fail tw_in_RX2 tw_cd_X2_fail (by decide +kernel) ⟨rfl, rfl, by show 1 + 1 ≤ lev + 1; clear hE; omega, by show 8 + (1 + 11) + 40 * (1) ≤ 40 * (lev + 1); clear hE; omega⟩ gw_Scribe rfl rfl hl.1 rfl (Nat.le_of_ble_eq_true rfl) dX2_readOne_122 ⟨Nat.le_refl _, Nat.le_refl _⟩) hG hA (fun u H locs hp hG => ?_)
          obtain ⟨sb_122, rfl⟩ : ∃ z, z = u := ⟨u, rfl⟩
          replace hG : gS g A s H locs (gW g bb (va_up tx t2 T2) rw sb_122 dy tn mo jk) := by simpa only [up_up] using hG
          have hp_122 := hp
          rw [hp] at hE
          unfold F_X2_readOne_c122 at hE
          try dsimp only at hE
          subst hQ
          exact g_vret hx hb hr hlocks hG ((sb_122, T2) : Ob × Ob) rfl hE.symm dX2_readOne_125
        replace hE := (if_pos c_89).symm.trans hE
        have i_89 : (sb.1 4).toInt = 40 := congrArg Int32.toInt c_89
        refine lv_aload_n hx hb dX2_readOne_92 rfl (lv_at hl 0 rfl) ?_
        refine lv_iload_n hx hb dX2_readOne_93 rfl (lv_at hl 2 rfl) ?_
        refine g_ci (g_runV (n := 1) (rest := []) hx hb hml hown hts hG (c_X2_mayOpen p2) tw_ml_RX2_62 tw_im_X2_mayOpen tw_se_X2_mayOpen tw_in_RX2 tw_cd_X2_mayOpen (by decide +kernel) ⟨rfl, rfl, by show 2 + 1 ≤ lev + 1; clear hE; omega, by show 8 + (2 + 11) + 40 * (2) ≤ 40 * (lev + 1); clear hE; omega⟩ gw_Scribe rfl rfl hl.1 rfl (Nat.le_of_ble_eq_true rfl) dX2_readOne_94 ⟨Nat.le_refl _, Nat.le_refl _⟩) hG hA (fun r_94 u H locs hp hG => ?_)
        obtain ⟨sb_94, rfl⟩ : ∃ z, z = u := ⟨u, rfl⟩
        replace hG : gS g A s H locs (gW g bb (va_up tx t2 T2) rw sb_94 dy tn mo jk) := by simpa only [up_up] using hG
        have hp_94 := hp
        rw [hp] at hE
        unfold F_X2_readOne_c94 at hE
        try dsimp only at hE
        have hok94 : sOK sb_94 := mayOpen_ok hp_94 hok
        refine lv_if_eq (tgt := 125) hx hb dX2_readOne_97 (by decide) (fun c_97 => ?_) (fun c_97 => ?_)
        · replace hE := (if_pos c_97).symm.trans hE
          have i_97 : r_94.toInt = 0 := congrArg Int32.toInt c_97
          subst hQ
          exact g_vret hx hb hr hlocks hG ((sb_94, T2) : Ob × Ob) rfl hE.symm dX2_readOne_125
        replace hE := (if_neg c_97).symm.trans hE
        have i_97 : r_94.toInt ≠ 0 := fun h => c_97 (Int32.toInt_inj.mp h)
        refine lv_aload_n hx hb dX2_readOne_100 rfl (lv_at hl 0 rfl) ?_
        refine g_cv (g_runV (n := 0) (rest := []) hx hb hml hown hts hG (c_X2_step hok94) tw_ml_RX2_30 tw_im_X2_step tw_se_X2_step tw_in_RX2 tw_cd_X2_step (by decide +kernel) ⟨rfl, rfl, by show 7 + 1 ≤ lev + 1; clear hE; omega, by show 8 + (2 + 11) + 40 * (7) ≤ 40 * (lev + 1); clear hE; omega⟩ gw_Scribe rfl rfl hl.1 rfl (Nat.le_of_ble_eq_true rfl) dX2_readOne_101 ⟨Nat.le_refl _, Nat.le_refl _⟩) hG hA (fun u H locs hp hG => ?_)
        obtain ⟨sb_101, rfl⟩ : ∃ z, z = u := ⟨u, rfl⟩
        replace hG : gS g A s H locs (gW g bb (va_up tx t2 T2) rw sb_101 dy tn mo jk) := by simpa only [up_up] using hG
        have hp_101 := hp
        rw [hp] at hE
        unfold F_X2_readOne_c101 at hE
        try dsimp only at hE
        have hok101 : sOK sb_101 := step_ok hp_101 hok94
        refine lv_aload_n hx hb dX2_readOne_104 rfl (lv_at hl 0 rfl) ?_
        refine lv_aload_n hx hb dX2_readOne_105 rfl (lv_at hl 1 rfl) ?_
        refine lv_iload_n hx hb dX2_readOne_106 rfl (lv_at hl 2 rfl) ?_
        refine lv_iconst (v := 1) hx hb dX2_readOne_107 (by decide) ?_
        refine lv_iadd hx hb dX2_readOne_108 ?_
        refine g_cv (g_runV (n := 2) (rest := []) hx hb hml hown hts hG ((hre (mayOpen_lt hp_94 c_97)) ht2 (up_same _ _ _) (p2 + 1) rfl hok101 hs) tw_ml_RX2_37 tw_im_X2_readEither tw_se_X2_readEither tw_in_RX2 tw_cd_X2_readEither (by decide +kernel) ⟨rfl, rfl, by show lev + 1 ≤ lev + 1; clear hE; omega, by show 8 + (4 + 11) + 40 * (lev) ≤ 40 * (lev + 1); clear hE; omega⟩ gw_Scribe rfl rfl hl.1 rfl (Nat.le_of_ble_eq_true rfl) dX2_readOne_109 ⟨Nat.le_refl _, Nat.le_refl _⟩) hG hA (fun u H locs hp hG => ?_)
        obtain ⟨sb_109, T2_109⟩ := u
        replace hG : gS g A s H locs (gW g bb (va_up tx t2 T2_109) rw sb_109 dy tn mo jk) := by simpa only [up_up] using hG
        have hp_109 := hp
        rw [hp] at hE
        unfold F_X2_readOne_c109 at hE
        try dsimp only at hE
        have k109 := keep_hp hp_109 (kre (mayOpen_lt hp_94 c_97)) hok101 hs
        refine lv_aload_n hx hb dX2_readOne_112 rfl (lv_at hl 0 rfl) ?_
        refine lv_bipush (v := 41) hx hb dX2_readOne_113 (by decide) ?_
        refine g_cv (g_runV (n := 1) (rest := []) hx hb hml hown hts hG (c_X2_expect 41 k109.1) tw_ml_RX2_33 tw_im_X2_expect tw_se_X2_expect tw_in_RX2 tw_cd_X2_expect (by decide +kernel) ⟨rfl, rfl, by show 8 + 1 ≤ lev + 1; clear hE; omega, by show 8 + (2 + 11) + 40 * (8) ≤ 40 * (lev + 1); clear hE; omega⟩ gw_Scribe rfl rfl hl.1 rfl (Nat.le_of_ble_eq_true rfl) dX2_readOne_115 ⟨Nat.le_refl _, Nat.le_refl _⟩) hG hA (fun u H locs hp hG => ?_)
        obtain ⟨sb_115, rfl⟩ : ∃ z, z = u := ⟨u, rfl⟩
        replace hG : gS g A s H locs (gW g bb (va_up tx t2 T2_109) rw sb_115 dy tn mo jk) := by simpa only [up_up] using hG
        have hp_115 := hp
        rw [hp] at hE
        unfold F_X2_readOne_c115 at hE
        try dsimp only at hE
        refine lv_goto (tgt := 125) hx hb dX2_readOne_118 (by decide) ?_
        subst hQ
        exact g_vret hx hb hr hlocks hG ((sb_115, T2_109) : Ob × Ob) rfl hE.symm dX2_readOne_125
      replace hE := (if_pos c_51).symm.trans hE
      have i_51 : (sb.1 4).toInt = 45 := congrArg Int32.toInt c_51
      refine lv_aload_n hx hb dX2_readOne_54 rfl (lv_at hl 0 rfl) ?_
      refine lv_iload_n hx hb dX2_readOne_55 rfl (lv_at hl 2 rfl) ?_
      refine g_ci (g_runV (n := 1) (rest := []) hx hb hml hown hts hG (c_X2_mayOpen p2) tw_ml_RX2_62 tw_im_X2_mayOpen tw_se_X2_mayOpen tw_in_RX2 tw_cd_X2_mayOpen (by decide +kernel) ⟨rfl, rfl, by show 2 + 1 ≤ lev + 1; clear hE; omega, by show 8 + (2 + 11) + 40 * (2) ≤ 40 * (lev + 1); clear hE; omega⟩ gw_Scribe rfl rfl hl.1 rfl (Nat.le_of_ble_eq_true rfl) dX2_readOne_56 ⟨Nat.le_refl _, Nat.le_refl _⟩) hG hA (fun r_56 u H locs hp hG => ?_)
      obtain ⟨sb_56, rfl⟩ : ∃ z, z = u := ⟨u, rfl⟩
      replace hG : gS g A s H locs (gW g bb (va_up tx t2 T2) rw sb_56 dy tn mo jk) := by simpa only [up_up] using hG
      have hp_56 := hp
      rw [hp] at hE
      unfold F_X2_readOne_c56 at hE
      try dsimp only at hE
      have hok56 : sOK sb_56 := mayOpen_ok hp_56 hok
      refine lv_if_eq (tgt := 125) hx hb dX2_readOne_59 (by decide) (fun c_59 => ?_) (fun c_59 => ?_)
      · replace hE := (if_pos c_59).symm.trans hE
        have i_59 : r_56.toInt = 0 := congrArg Int32.toInt c_59
        subst hQ
        exact g_vret hx hb hr hlocks hG ((sb_56, T2) : Ob × Ob) rfl hE.symm dX2_readOne_125
      replace hE := (if_neg c_59).symm.trans hE
      have i_59 : r_56.toInt ≠ 0 := fun h => c_59 (Int32.toInt_inj.mp h)
      refine lv_aload_n hx hb dX2_readOne_62 rfl (lv_at hl 0 rfl) ?_
      refine g_cv (g_runV (n := 0) (rest := []) hx hb hml hown hts hG (c_X2_step hok56) tw_ml_RX2_30 tw_im_X2_step tw_se_X2_step tw_in_RX2 tw_cd_X2_step (by decide +kernel) ⟨rfl, rfl, by show 7 + 1 ≤ lev + 1; clear hE; omega, by show 8 + (2 + 11) + 40 * (7) ≤ 40 * (lev + 1); clear hE; omega⟩ gw_Scribe rfl rfl hl.1 rfl (Nat.le_of_ble_eq_true rfl) dX2_readOne_63 ⟨Nat.le_refl _, Nat.le_refl _⟩) hG hA (fun u H locs hp hG => ?_)
      obtain ⟨sb_63, rfl⟩ : ∃ z, z = u := ⟨u, rfl⟩
      replace hG : gS g A s H locs (gW g bb (va_up tx t2 T2) rw sb_63 dy tn mo jk) := by simpa only [up_up] using hG
      have hp_63 := hp
      rw [hp] at hE
      unfold F_X2_readOne_c63 at hE
      try dsimp only at hE
      have hok63 : sOK sb_63 := step_ok hp_63 hok56
      refine lv_aload_n hx hb dX2_readOne_66 rfl (lv_at hl 0 rfl) ?_
      refine lv_aload_n hx hb dX2_readOne_67 rfl (lv_at hl 1 rfl) ?_
      refine lv_iload_n hx hb dX2_readOne_68 rfl (lv_at hl 2 rfl) ?_
      refine lv_iconst (v := 1) hx hb dX2_readOne_69 (by decide) ?_
      refine lv_iadd hx hb dX2_readOne_70 ?_
      refine g_cv (g_runV (n := 2) (rest := []) hx hb hml hown hts hG ((hro (mayOpen_lt hp_56 c_59)) ht2 (up_same _ _ _) (p2 + 1) rfl hok63 hs) tw_ml_RX2_72 tw_im_X2_readOne tw_se_X2_readOne tw_in_RX2 tw_cd_X2_readOne (by decide +kernel) ⟨rfl, rfl, by show l1 + 1 ≤ lev + 1; clear hE; omega, by show 8 + (3 + 11) + 40 * (l1) ≤ 40 * (lev + 1); clear hE; omega⟩ gw_Scribe rfl rfl hl.1 rfl (Nat.le_of_ble_eq_true rfl) dX2_readOne_71 ⟨Nat.le_refl _, Nat.le_refl _⟩) hG hA (fun u H locs hp hG => ?_)
      obtain ⟨sb_71, T2_71⟩ := u
      replace hG : gS g A s H locs (gW g bb (va_up tx t2 T2_71) rw sb_71 dy tn mo jk) := by simpa only [up_up] using hG
      have hp_71 := hp
      rw [hp] at hE
      unfold F_X2_readOne_c71 at hE
      try dsimp only at hE
      have k71 := keep_hp hp_71 (kro (mayOpen_lt hp_56 c_59)) hok63 hs
      refine lv_aload_n hx hb dX2_readOne_74 rfl (lv_at hl 1 rfl) ?_
      refine lv_bipush (v := (-15)) hx hb dX2_readOne_75 (by decide) ?_
      refine g_cv (g_runV (n := 1) (rest := []) hx hb hml hown hts hG (c_X3_add ht2 (up_same _ _ _) (-15) k71.2) tw_ml_RX2_56 tw_im_X3_add tw_se_X3_add tw_in_RX3 tw_cd_X3_add (by decide +kernel) ⟨rfl, rfl, by show 1 + 1 ≤ lev + 1; clear hE; omega, by show 8 + (2 + 11) + 40 * (1) ≤ 40 * (lev + 1); clear hE; omega⟩ (gw_Text ht2 (up_same _ _ _)) rfl rfl hl.1 rfl (Nat.le_of_ble_eq_true rfl) dX2_readOne_77 ⟨Nat.le_refl _, Nat.le_refl _⟩) hG hA (fun u H locs hp hG => ?_)
      obtain ⟨T2_77, rfl⟩ : ∃ z, z = u := ⟨u, rfl⟩
      replace hG : gS g A s H locs (gW g bb (va_up tx t2 T2_77) rw sb_71 dy tn mo jk) := by simpa only [up_up] using hG
      have hp_77 := hp
      rw [hp] at hE
      unfold F_X2_readOne_c77 at hE
      try dsimp only at hE
      refine lv_goto (tgt := 125) hx hb dX2_readOne_80 (by decide) ?_
      subst hQ
      exact g_vret hx hb hr hlocks hG ((sb_71, T2_77) : Ob × Ob) rfl hE.symm dX2_readOne_125
    replace hE := (if_neg c_27).symm.trans hE
    have i_27 : (sb.1 4).toInt < 0 := i_nle c_27
    refine lv_aload_n hx hb dX2_readOne_30 rfl (lv_at hl 1 rfl) ?_
    refine lv_aload_n hx hb dX2_readOne_31 rfl (lv_at hl 0 rfl) ?_
    refine g_get hx hb hts hiX2 hown hG gw_Scribe rfl 4 (by decide) (index := 44) tw_fl_RX2_44 (v := .int (sb.1 4)) rfl dX2_readOne_32 ?_
    refine g_cv (g_runV (n := 1) (rest := []) hx hb hml hown hts hG (c_X3_add ht2 (up_same _ _ _) (sb.1 4) hs) tw_ml_RX2_56 tw_im_X3_add tw_se_X3_add tw_in_RX3 tw_cd_X3_add (by decide +kernel) ⟨rfl, rfl, by show 1 + 1 ≤ lev + 1; clear hE; omega, by show 8 + (2 + 11) + 40 * (1) ≤ 40 * (lev + 1); clear hE; omega⟩ (gw_Text ht2 (up_same _ _ _)) rfl rfl hl.1 rfl (Nat.le_of_ble_eq_true rfl) dX2_readOne_35 ⟨Nat.le_refl _, Nat.le_refl _⟩) hG hA (fun u H locs hp hG => ?_)
    obtain ⟨T2_35, rfl⟩ : ∃ z, z = u := ⟨u, rfl⟩
    replace hG : gS g A s H locs (gW g bb (va_up tx t2 T2_35) rw sb dy tn mo jk) := by simpa only [up_up] using hG
    have hp_35 := hp
    rw [hp] at hE
    unfold F_X2_readOne_c35 at hE
    try dsimp only at hE
    refine lv_aload_n hx hb dX2_readOne_38 rfl (lv_at hl 0 rfl) ?_
    refine g_cv (g_runV (n := 0) (rest := []) hx hb hml hown hts hG (c_X2_step hok) tw_ml_RX2_30 tw_im_X2_step tw_se_X2_step tw_in_RX2 tw_cd_X2_step (by decide +kernel) ⟨rfl, rfl, by show 7 + 1 ≤ lev + 1; clear hE; omega, by show 8 + (2 + 11) + 40 * (7) ≤ 40 * (lev + 1); clear hE; omega⟩ gw_Scribe rfl rfl hl.1 rfl (Nat.le_of_ble_eq_true rfl) dX2_readOne_39 ⟨Nat.le_refl _, Nat.le_refl _⟩) hG hA (fun u H locs hp hG => ?_)
    obtain ⟨sb_39, rfl⟩ : ∃ z, z = u := ⟨u, rfl⟩
    replace hG : gS g A s H locs (gW g bb (va_up tx t2 T2_35) rw sb_39 dy tn mo jk) := by simpa only [up_up] using hG
    have hp_39 := hp
    rw [hp] at hE
    unfold F_X2_readOne_c39 at hE
    try dsimp only at hE
    refine lv_goto (tgt := 125) hx hb dX2_readOne_42 (by decide) ?_
    subst hQ
    exact g_vret hx hb hr hlocks hG ((sb_39, T2_35) : Ob × Ob) rfl hE.symm dX2_readOne_125
  replace hE := (if_pos c_5).symm.trans hE
  have i_5 : (sb.1 4).toInt = 2 := congrArg Int32.toInt c_5
  refine lv_aload_n hx hb dX2_readOne_8 rfl (lv_at hl 1 rfl) ?_
  refine lv_aload_n hx hb dX2_readOne_9 rfl (lv_at hl 0 rfl) ?_
  refine g_get hx hb hts hiX2 hown hG gw_Scribe rfl 5 (by decide) (index := 75) tw_fl_RX2_75 (v := .int (sb.1 5)) rfl dX2_readOne_10 ?_
  refine g_cv (g_runV (n := 1) (rest := []) hx hb hml hown hts hG (c_X3_add ht2 (up_same _ _ _) (sb.1 5) hs) tw_ml_RX2_56 tw_im_X3_add tw_se_X3_add tw_in_RX3 tw_cd_X3_add (by decide +kernel) ⟨rfl, rfl, by show 1 + 1 ≤ lev + 1; clear hE; omega, by show 8 + (2 + 11) + 40 * (1) ≤ 40 * (lev + 1); clear hE; omega⟩ (gw_Text ht2 (up_same _ _ _)) rfl rfl hl.1 rfl (Nat.le_of_ble_eq_true rfl) dX2_readOne_13 ⟨Nat.le_refl _, Nat.le_refl _⟩) hG hA (fun u H locs hp hG => ?_)
  obtain ⟨T2_13, rfl⟩ : ∃ z, z = u := ⟨u, rfl⟩
  replace hG : gS g A s H locs (gW g bb (va_up tx t2 T2_13) rw sb dy tn mo jk) := by simpa only [up_up] using hG
  have hp_13 := hp
  rw [hp] at hE
  unfold F_X2_readOne_c13 at hE
  try dsimp only at hE
  refine lv_aload_n hx hb dX2_readOne_16 rfl (lv_at hl 0 rfl) ?_
  refine g_cv (g_runV (n := 0) (rest := []) hx hb hml hown hts hG (c_X2_step hok) tw_ml_RX2_30 tw_im_X2_step tw_se_X2_step tw_in_RX2 tw_cd_X2_step (by decide +kernel) ⟨rfl, rfl, by show 7 + 1 ≤ lev + 1; clear hE; omega, by show 8 + (2 + 11) + 40 * (7) ≤ 40 * (lev + 1); clear hE; omega⟩ gw_Scribe rfl rfl hl.1 rfl (Nat.le_of_ble_eq_true rfl) dX2_readOne_17 ⟨Nat.le_refl _, Nat.le_refl _⟩) hG hA (fun u H locs hp hG => ?_)
  obtain ⟨sb_17, rfl⟩ : ∃ z, z = u := ⟨u, rfl⟩
  replace hG : gS g A s H locs (gW g bb (va_up tx t2 T2_13) rw sb_17 dy tn mo jk) := by simpa only [up_up] using hG
  have hp_17 := hp
  rw [hp] at hE
  unfold F_X2_readOne_c17 at hE
  try dsimp only at hE
  refine lv_goto (tgt := 125) hx hb dX2_readOne_20 (by decide) ?_
  subst hQ
  exact g_vret hx hb hr hlocks hG ((sb_17, T2_13) : Ob × Ob) rfl hE.symm dX2_readOne_125
