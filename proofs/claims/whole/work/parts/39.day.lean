def F_X6_run_c165 (u : Ob) (x4 : Int32) : Int32 × Ob :=
  (x4, u)
def F_X6_run_b164 (mo : Ob) (x4 : Int32) : Int32 × Ob :=
  (F_X6_run_c165 (F_X6_lays mo) x4)
def F_X6_run_b162 (mo : Ob) (z0 : Int32) : Int32 × Ob :=
  (F_X6_run_b164  mo z0)
def F_X6_run_c70 (u : Int32 × Ob) (x2 : Int32) : Int32 × Ob :=
  (if x2 = 0 then (F_X6_run_b164  u.2 u.1) else (if x2 = 1 then (F_X6_run_b164  u.2 (F_X6_strikesBy u.2 (F_X6_liars u.2))) else (if x2 = 2 then (F_X6_run_b164  u.2 (F_X6_liars u.2)) else (if 20 ≤ x2 then (F_X6_run_b162  u.2 ((u.2.2 3) (Int32.toNatClampNeg ((4 * (x2 - 20)) + 1)))) else (F_X6_run_b162  u.2 ((u.2.2 3) (Int32.toNatClampNeg (4 * (x2 - 10)))))))))
def F_X6_run_c65 (u : Ob) (x1 : Int32) (x2 : Int32) : Int32 × Ob :=
  (F_X6_run_c70 (F_X6_goes u x1) x2)
def F_X6_run_b46 (mo : Ob) (x1 : Int32) (x2 : Int32) (z0 : Int32) : Int32 × Ob :=
  (if (F_X6_in x1 0 48) = 0 then ((-2), mo) else (if z0 = 0 then ((-2), mo) else (F_X6_run_c65 (F_X6_keeps mo) x1 x2)))
def F_X6_run_b41 (mo : Ob) (x1 : Int32) (x2 : Int32) : Int32 × Ob :=
  (F_X6_run_b46  mo x1 x2 1)
def F_X6_run (mo : Ob) (p1 : Int32) (p2 : Int32) : Int32 × Ob :=
  (if (F_X6_in p2 0 2) = 0 then (if (F_X6_in p2 10 (9 + (mo.1 0))) = 0 then (if (F_X6_in p2 20 (19 + (mo.1 0))) = 0 then (F_X6_run_b46  mo p1 p2 0) else (F_X6_run_b41  mo p1 p2)) else (F_X6_run_b41  mo p1 p2)) else (F_X6_run_b41  mo p1 p2))
set_option maxHeartbeats 4000000 in
set_option maxRecDepth 100000 in
theorem c_X6_run {l : Launch} {g : GG} {sz : Nat} {bb : Ob} {tx rw : Nat → Ob} {sb dy : Ob} {tn : Nat → Ob} {mo : Ob} {jk : Nat → Nat → Int32}  (p1 : Int32) (p2 : Int32) (hv : mEv mo) : Met l yX6_run (Cond.code yX6_run cX6_run 5 (some .int) :: TT) (rmL (8)) (va_Pc [.ref (gA g 58), .int p1, .int p2] (gB g sz (gW g bb tx rw sb dy tn mo jk))) (va_Qi (fun r (u : Ob × (Nat → Nat → Int32)) => (F_X6_run mo p1 p2) = (r, u.1)) (fun u t => gC g (va_A (gW g bb tx rw sb dy tn mo jk) sz) (gW g bb tx rw sb dy tn u.1 u.2) t) (va_A (gW g bb tx rw sb dy tn mo jk) sz)) 0 0 (va_A (gW g bb tx rw sb dy tn mo jk) sz) := by
  generalize hE : F_X6_run mo p1 p2 = EE
  refine g_of (Qf := fun A => (va_Qi (fun r (u : Ob × (Nat → Nat → Int32)) => EE = (r, u.1)) (fun u t => gC g A (gW g bb tx rw sb dy tn u.1 u.2) t) A)) (cc := cX6_run) (maxL := 5) (ret := (some .int)) (by decide) (Nat.le_of_ble_eq_true rfl) ?_
  intro p e s m below meth c A ls hx hb hml hr hlocks hts hown hA hG hl
  replace hown : s.vm.findClass RX6 = some m.cls := hown
  replace hl : lv_has ls 5 [(0, .ref (gA g 58)), (1, .int p1), (2, .int p2)] := hl
  show W p l e (rmL (8)) s m [.ref (gA g 58), .int p1, .int p2].toArray below meth c s.heap [] 0 0 (MQ below (va_Qi (fun r (u : Ob × (Nat → Nat → Int32)) => EE = (r, u.1)) (fun u t => gC g A (gW g bb tx rw sb dy tn u.1 u.2) t) A) [.ref (gA g 58), .int p1, .int p2].toArray s 0 0 A) (F0 m 0 ls [])
  generalize hQ : MQ below (va_Qi (fun r (u : Ob × (Nat → Nat → Int32)) => EE = (r, u.1)) (fun u t => gC g A (gW g bb tx rw sb dy tn u.1 u.2) t) A) [.ref (gA g 58), .int p1, .int p2].toArray s 0 0 A = Q
  have hpo := hv.1
  have e_9 : (9 + (mo.1 0)).toInt = 9 + (mo.1 0).toInt := addLl (k := 9) (by decide +kernel) (by omega) (by omega)
  have e_19 : (19 + (mo.1 0)).toInt = 19 + (mo.1 0).toInt := addLl (k := 19) (by decide +kernel) (by omega) (by omega)
  unfold F_X6_run at hE
  refine lv_iload_n hx hb dX6_run_0 rfl (lv_at hl 2 rfl) ?_
  refine lv_iconst (v := 0) hx hb dX6_run_1 (by decide) ?_
  refine lv_iconst (v := 2) hx hb dX6_run_2 (by decide) ?_
  refine g_si (g_runS (n := 3) (rest := []) hx hb hml hown hts hG (c_X6_in p2 0 2) tw_ml_RX6_81 tw_st_X6_in tw_in_RX6 tw_cd_X6_in (by decide +kernel) ⟨rfl, rfl, Nat.le_of_ble_eq_true rfl, Nat.le_of_ble_eq_true rfl⟩ rfl hl.1 rfl (Nat.le_of_ble_eq_true rfl) dX6_run_3 ⟨Nat.le_refl _, Nat.le_refl _⟩) hG hA (fun H locs hG => ?_)
  have J46 : ∀ (z0_46 : Int32) (jk : (Nat → Nat → Int32)) (H : Heap) (locs : List Loc), gS g A s H locs (gW g bb tx rw sb dy tn mo jk) → ∀ ls : Array Slot, lv_has ls 5 [(0, .ref (gA g 58)), (1, .int p1), (2, .int p2)] → z0_46.toInt = 0 ∨ (0 ≤ p2.toInt ∧ p2.toInt ≤ 2) ∨ (10 ≤ p2.toInt ∧ p2.toInt ≤ 9 + (mo.1 0).toInt) ∨ (20 ≤ p2.toInt ∧ p2.toInt ≤ 19 + (mo.1 0).toInt) → F_X6_run_b46   mo p1 p2 z0_46 = EE → W p l e (rmL (8)) s m [.ref (gA g 58), .int p1, .int p2].toArray below meth c H locs 0 0 Q (F0 m 46 ls [.int z0_46]) := by
    intro z0_46 jk H locs hG ls hl hg46 hE
    unfold F_X6_run_b46 at hE
    refine lv_istore_n (lv' := [(3, .int z0_46), (0, .ref (gA g 58)), (1, .int p1), (2, .int p2)]) hx hb dX6_run_46 rfl hl (by decide) rfl (fun ls hl => ?_)
    replace hl := lv_sub hl [1, 2, 3, 0] (l' := [(0, .ref (gA g 58)), (1, .int p1), (2, .int p2), (3, .int z0_46)]) rfl
    refine lv_iload_n hx hb dX6_run_47 rfl (lv_at hl 1 rfl) ?_
    refine lv_iconst (v := 0) hx hb dX6_run_48 (by decide) ?_
    refine lv_bipush (v := 48) hx hb dX6_run_49 (by decide) ?_
    refine g_si (g_runS (n := 3) (rest := []) hx hb hml hown hts hG (c_X6_in p1 0 48) tw_ml_RX6_81 tw_st_X6_in tw_in_RX6 tw_cd_X6_in (by decide +kernel) ⟨rfl, rfl, Nat.le_of_ble_eq_true rfl, Nat.le_of_ble_eq_true rfl⟩ rfl hl.1 rfl (Nat.le_of_ble_eq_true rfl) dX6_run_51 ⟨Nat.le_refl _, Nat.le_refl _⟩) hG hA (fun H locs hG => ?_)
    refine lv_if_eq (tgt := 61) hx hb dX6_run_54 (by decide) (fun c_54 => ?_) (fun c_54 => ?_)
    · replace hE := (if_pos c_54).symm.trans hE
      refine lv_bipush (v := (-2)) hx hb dX6_run_61 (by decide) ?_
      subst hQ
      exact g_iret hx hb hr hlocks hG ((mo, jk) : Ob × (Nat → Nat → Int32)) rfl hE.symm dX6_run_63
    replace hE := (if_neg c_54).symm.trans hE
    have i_54 : 0 ≤ p1.toInt ∧ p1.toInt ≤ 48 := in_f c_54
    refine lv_iload_n hx hb dX6_run_57 rfl (lv_at hl 3 rfl) ?_
    refine lv_if_ne (tgt := 64) hx hb dX6_run_58 (by decide) (fun c_58 => ?_) (fun c_58 => ?_)
    · replace hE := (if_neg c_58).symm.trans hE
      have i_58 : z0_46.toInt ≠ 0 := fun h => c_58 (Int32.toInt_inj.mp h)
      refine lv_aload_n hx hb dX6_run_64 rfl (lv_at hl 0 rfl) ?_
      refine g_cv (g_runV (n := 0) (rest := []) hx hb hml hown hts hG (c_X6_keeps) tw_ml_RX6_199 tw_im_X6_keeps tw_se_X6_keeps tw_in_RX6 tw_cd_X6_keeps (by decide +kernel) ⟨rfl, rfl, Nat.le_of_ble_eq_true rfl, Nat.le_of_ble_eq_true rfl⟩ gw_Model rfl rfl hl.1 rfl (Nat.le_of_ble_eq_true rfl) dX6_run_65 ⟨Nat.le_refl _, Nat.le_refl _⟩) hG hA (fun u H locs hp hG => ?_)
      obtain ⟨mo_65, rfl⟩ : ∃ z, z = u := ⟨u, rfl⟩
      replace hG : gS g A s H locs (gW g bb tx rw sb dy tn mo_65 jk) := by simpa only [up_up] using hG
      have hp_65 := hp
      rw [hp] at hE
      unfold F_X6_run_c65 at hE
      try dsimp only at hE
      have hv65 : mEv mo_65 := (keeps_hR hp_65).mEv hv
      refine lv_aload_n hx hb dX6_run_68 rfl (lv_at hl 0 rfl) ?_
      refine lv_iload_n hx hb dX6_run_69 rfl (lv_at hl 1 rfl) ?_
      refine g_ci (g_runV (n := 1) (rest := []) hx hb hml hown hts hG (c_X6_goes p1 hv65 (by clear hE; omega)) tw_ml_RX6_202 tw_im_X6_goes tw_se_X6_goes tw_in_RX6 tw_cd_X6_goes (by decide +kernel) ⟨rfl, rfl, Nat.le_of_ble_eq_true rfl, Nat.le_of_ble_eq_true rfl⟩ gw_Model rfl rfl hl.1 rfl (Nat.le_of_ble_eq_true rfl) dX6_run_70 ⟨Nat.le_refl _, Nat.le_refl _⟩) hG hA (fun r_70 u H locs hp hG => ?_)
      obtain ⟨mo_70, jk⟩ := u
      replace hG : gS g A s H locs (gW g bb tx rw sb dy tn mo_70 jk) := by simpa only [up_up] using hG
      have hp_70 := hp
      rw [hp] at hE
      unfold F_X6_run_c70 at hE
      try dsimp only at hE
      have hv70 : mEv mo_70 := (goes_hR hp_70).mEv hv65
      refine lv_istore (lv' := [(4, .int r_70), (0, .ref (gA g 58)), (1, .int p1), (2, .int p2), (3, .int z0_46)]) hx hb dX6_run_73 hl (by decide) rfl (fun ls hl => ?_)
      replace hl := lv_sub hl [1, 2, 3, 4, 0] (l' := [(0, .ref (gA g 58)), (1, .int p1), (2, .int p2), (3, .int z0_46), (4, .int r_70)]) rfl
      refine lv_iload_n hx hb dX6_run_75 rfl (lv_at hl 2 rfl) ?_
      have J164 : ∀ (x4_164 : Int32) (jk : (Nat → Nat → Int32)) (H : Heap) (locs : List Loc), gS g A s H locs (gW g bb tx rw sb dy tn mo_70 jk) → ∀ ls : Array Slot, lv_has ls 5 [(0, .ref (gA g 58)), (4, .int x4_164)] → F_X6_run_b164   mo_70 x4_164 = EE → W p l e (rmL (8)) s m [.ref (gA g 58), .int p1, .int p2].toArray below meth c H locs 0 0 Q (F0 m 164 ls []) := by
        intro x4_164 jk H locs hG ls hl  hE
        unfold F_X6_run_b164 at hE
        refine lv_aload_n hx hb dX6_run_164 rfl (lv_at hl 0 rfl) ?_
        refine g_cv (g_runV (n := 0) (rest := []) hx hb hml hown hts hG (c_X6_lays) tw_ml_RX6_205 tw_im_X6_lays tw_se_X6_lays tw_in_RX6 tw_cd_X6_lays (by decide +kernel) ⟨rfl, rfl, Nat.le_of_ble_eq_true rfl, Nat.le_of_ble_eq_true rfl⟩ gw_Model rfl rfl hl.1 rfl (Nat.le_of_ble_eq_true rfl) dX6_run_165 ⟨Nat.le_refl _, Nat.le_refl _⟩) hG hA (fun u H locs hp hG => ?_)
        obtain ⟨mo_165, rfl⟩ : ∃ z, z = u := ⟨u, rfl⟩
        replace hG : gS g A s H locs (gW g bb tx rw sb dy tn mo_165 jk) := by simpa only [up_up] using hG
        have hp_165 := hp
        rw [hp] at hE
        unfold F_X6_run_c165 at hE
        try dsimp only at hE
        refine lv_iload hx hb dX6_run_168 (lv_at hl 1 rfl) ?_
        subst hQ
        exact g_iret hx hb hr hlocks hG ((mo_165, jk) : Ob × (Nat → Nat → Int32)) rfl hE.symm dX6_run_170
      by_cases c_76_0 : p2 = 0
      · replace hE := (if_pos c_76_0).symm.trans hE
        refine lv_tableIn (off := 28) (tgt := 104) hx hb dX6_run_76 (by rw [c_76_0]; decide) (by rw [c_76_0]; decide) (by rw [c_76_0]; decide) (by decide) ?_
        have i_76_0 : p2.toInt = 0 := congrArg Int32.toInt c_76_0
        refine lv_goto (tgt := 164) hx hb dX6_run_104 (by decide) ?_
        exact J164 r_70 _ _ _ hG _ (lv_sub hl [0, 4] rfl) hE
      replace hE := (if_neg c_76_0).symm.trans hE
      by_cases c_76_1 : p2 = 1
      · replace hE := (if_pos c_76_1).symm.trans hE
        refine lv_tableIn (off := 31) (tgt := 107) hx hb dX6_run_76 (by rw [c_76_1]; decide) (by rw [c_76_1]; decide) (by rw [c_76_1]; decide) (by decide) ?_
        have i_76_1 : p2.toInt = 1 := congrArg Int32.toInt c_76_1
        refine lv_aload_n hx hb dX6_run_107 rfl (lv_at hl 0 rfl) ?_
        refine lv_aload_n hx hb dX6_run_108 rfl (lv_at hl 0 rfl) ?_
        refine g_ci (g_runV (n := 0) (rest := [.ref (gA g 58)]) hx hb hml hown hts hG (c_X6_liars hv70) tw_ml_RX6_183 tw_im_X6_liars tw_se_X6_liars tw_in_RX6 tw_cd_X6_liars (by decide +kernel) ⟨rfl, rfl, Nat.le_of_ble_eq_true rfl, Nat.le_of_ble_eq_true rfl⟩ gw_Model rfl rfl hl.1 rfl (Nat.le_of_ble_eq_true rfl) dX6_run_109 ⟨Nat.le_refl _, Nat.le_refl _⟩) hG hA (fun r jk H locs hp hG => ?_)
        subst hp
        replace hG : gS g A s H locs (gW g bb tx rw sb dy tn mo_70 jk) := hG
        refine g_ci (g_runV (n := 1) (rest := []) hx hb hml hown hts hG (c_X6_strikesBy (F_X6_liars mo_70) hv70) tw_ml_RX6_186 tw_im_X6_strikesBy tw_se_X6_strikesBy tw_in_RX6 tw_cd_X6_strikesBy (by decide +kernel) ⟨rfl, rfl, Nat.le_of_ble_eq_true rfl, Nat.le_of_ble_eq_true rfl⟩ gw_Model rfl rfl hl.1 rfl (Nat.le_of_ble_eq_true rfl) dX6_run_112 ⟨Nat.le_refl _, Nat.le_refl _⟩) hG hA (fun r jk H locs hp hG => ?_)
        subst hp
        replace hG : gS g A s H locs (gW g bb tx rw sb dy tn mo_70 jk) := hG
        refine lv_istore (lv' := [(4, .int (F_X6_strikesBy mo_70 (F_X6_liars mo_70))), (0, .ref (gA g 58)), (1, .int p1), (2, .int p2), (3, .int z0_46)]) hx hb dX6_run_115 hl (by decide) rfl (fun ls hl => ?_)
        replace hl := lv_sub hl [1, 2, 3, 4, 0] (l' := [(0, .ref (gA g 58)), (1, .int p1), (2, .int p2), (3, .int z0_46), (4, .int (F_X6_strikesBy mo_70 (F_X6_liars mo_70)))]) rfl
        refine lv_goto (tgt := 164) hx hb dX6_run_117 (by decide) ?_
        exact J164 (F_X6_strikesBy mo_70 (F_X6_liars mo_70)) _ _ _ hG _ (lv_sub hl [0, 4] rfl) hE
      replace hE := (if_neg c_76_1).symm.trans hE
      by_cases c_76_2 : p2 = 2
      · replace hE := (if_pos c_76_2).symm.trans hE
        refine lv_tableIn (off := 44) (tgt := 120) hx hb dX6_run_76 (by rw [c_76_2]; decide) (by rw [c_76_2]; decide) (by rw [c_76_2]; decide) (by decide) ?_
        have i_76_2 : p2.toInt = 2 := congrArg Int32.toInt c_76_2
        refine lv_aload_n hx hb dX6_run_120 rfl (lv_at hl 0 rfl) ?_
        refine g_ci (g_runV (n := 0) (rest := []) hx hb hml hown hts hG (c_X6_liars hv70) tw_ml_RX6_183 tw_im_X6_liars tw_se_X6_liars tw_in_RX6 tw_cd_X6_liars (by decide +kernel) ⟨rfl, rfl, Nat.le_of_ble_eq_true rfl, Nat.le_of_ble_eq_true rfl⟩ gw_Model rfl rfl hl.1 rfl (Nat.le_of_ble_eq_true rfl) dX6_run_121 ⟨Nat.le_refl _, Nat.le_refl _⟩) hG hA (fun r jk H locs hp hG => ?_)
        subst hp
        replace hG : gS g A s H locs (gW g bb tx rw sb dy tn mo_70 jk) := hG
        refine lv_istore (lv' := [(4, .int (F_X6_liars mo_70)), (0, .ref (gA g 58)), (1, .int p1), (2, .int p2), (3, .int z0_46)]) hx hb dX6_run_124 hl (by decide) rfl (fun ls hl => ?_)
        replace hl := lv_sub hl [1, 2, 3, 4, 0] (l' := [(0, .ref (gA g 58)), (1, .int p1), (2, .int p2), (3, .int z0_46), (4, .int (F_X6_liars mo_70))]) rfl
        refine lv_goto (tgt := 164) hx hb dX6_run_126 (by decide) ?_
        exact J164 (F_X6_liars mo_70) _ _ _ hG _ (lv_sub hl [0, 4] rfl) hE
      replace hE := (if_neg c_76_2).symm.trans hE
      refine lv_tableOut (tgt := 129) hx hb dX6_run_76 (by have k0 := lv_neT c_76_0 (a := 0) (by decide); have k1 := lv_neT c_76_1 (a := 1) (by decide); have k2 := lv_neT c_76_2 (a := 2) (by decide); omega) (by decide) ?_
      have kn0 : p2.toInt ≠ 0 := fun q => c_76_0 (Int32.toInt_inj.mp q)
      have kn1 : p2.toInt ≠ 1 := fun q => c_76_1 (Int32.toInt_inj.mp q)
      have kn2 : p2.toInt ≠ 2 := fun q => c_76_2 (Int32.toInt_inj.mp q)
      refine lv_iload_n hx hb dX6_run_129 rfl (lv_at hl 2 rfl) ?_
      refine lv_bipush (v := 20) hx hb dX6_run_130 (by decide) ?_
      have J162 : ∀ (z0_162 : Int32) (jk : (Nat → Nat → Int32)) (H : Heap) (locs : List Loc), gS g A s H locs (gW g bb tx rw sb dy tn mo_70 jk) → ∀ ls : Array Slot, lv_has ls 5 [(0, .ref (gA g 58))] → F_X6_run_b162   mo_70 z0_162 = EE → W p l e (rmL (8)) s m [.ref (gA g 58), .int p1, .int p2].toArray below meth c H locs 0 0 Q (F0 m 162 ls [.int z0_162]) := by
        intro z0_162 jk H locs hG ls hl  hE
        unfold F_X6_run_b162 at hE
        refine lv_istore (lv' := [(4, .int z0_162), (0, .ref (gA g 58))]) hx hb dX6_run_162 hl (by decide) rfl (fun ls hl => ?_)
        replace hl := lv_sub hl [1, 0] (l' := [(0, .ref (gA g 58)), (4, .int z0_162)]) rfl
        exact J164 z0_162 _ _ _ hG _ (lv_sub hl [0, 1] rfl) hE
      refine lv_icmp_ge (tgt := 149) hx hb dX6_run_132 (by decide) (fun c_132 => ?_) (fun c_132 => ?_)
      · replace hE := (if_pos c_132).symm.trans hE
        have i_132 : 20 ≤ p2.toInt := i_le.mp c_132
        refine lv_aload_n hx hb dX6_run_149 rfl (lv_at hl 0 rfl) ?_
        refine g_get hx hb hts hiX6 hown hG gw_Model rfl 3 (by decide) (index := 16) tw_fl_RX6_16 (v := .ref (gA g 61)) rfl dX6_run_150 ?_
        refine lv_iconst (v := 4) hx hb dX6_run_153 (by decide) ?_
        refine lv_iload_n hx hb dX6_run_154 rfl (lv_at hl 2 rfl) ?_
        refine lv_bipush (v := 20) hx hb dX6_run_155 (by decide) ?_
        refine lv_isub hx hb dX6_run_157 ?_
        refine lv_imul hx hb dX6_run_158 ?_
        refine lv_iconst (v := 1) hx hb dX6_run_159 (by decide) ?_
        refine lv_iadd hx hb dX6_run_160 ?_
        have e1 : (p2 - 20).toInt = p2.toInt - 20 := subL (k := 20) (by decide +kernel) (by clear hE; omega) (by clear hE; omega)
        have e2 : (4 * (p2 - 20)).toInt = 4 * (p2 - 20).toInt := mulL (k := 4) (by decide +kernel) (by clear hE; omega) (by clear hE; omega)
        have e3 : ((4 * (p2 - 20)) + 1).toInt = (4 * (p2 - 20)).toInt + 1 := addL (k := 1) (by decide +kernel) (by clear hE; omega) (by clear hE; omega)
        refine g_ild (f := (mo_70.2 3)) hx hb hG gw_Model_a3 (show vp_in ((4 * (p2 - 20)) + 1) 24 from (vp_i (by clear hE; omega) (by clear hE; omega))) dX6_run_161 ?_
        exact J162 ((mo_70.2 3) (Int32.toNatClampNeg ((4 * (p2 - 20)) + 1))) _ _ _ hG _ (lv_sub hl [0] rfl) hE
      replace hE := (if_neg c_132).symm.trans hE
      have i_132 : p2.toInt < 20 := i_nle c_132
      refine lv_aload_n hx hb dX6_run_135 rfl (lv_at hl 0 rfl) ?_
      refine g_get hx hb hts hiX6 hown hG gw_Model rfl 3 (by decide) (index := 16) tw_fl_RX6_16 (v := .ref (gA g 61)) rfl dX6_run_136 ?_
      refine lv_iconst (v := 4) hx hb dX6_run_139 (by decide) ?_
      refine lv_iload_n hx hb dX6_run_140 rfl (lv_at hl 2 rfl) ?_
      refine lv_bipush (v := 10) hx hb dX6_run_141 (by decide) ?_
      refine lv_isub hx hb dX6_run_143 ?_
      refine lv_imul hx hb dX6_run_144 ?_
      have e4 : (p2 - 10).toInt = p2.toInt - 10 := subL (k := 10) (by decide +kernel) (by clear hE; omega) (by clear hE; omega)
      have e5 : (4 * (p2 - 10)).toInt = 4 * (p2 - 10).toInt := mulL (k := 4) (by decide +kernel) (by clear hE; omega) (by clear hE; omega)
      refine g_ild (f := (mo_70.2 3)) hx hb hG gw_Model_a3 (show vp_in (4 * (p2 - 10)) 24 from (vp_i (by clear hE; omega) (by clear hE; omega))) dX6_run_145 ?_
      refine lv_goto (tgt := 162) hx hb dX6_run_146 (by decide) ?_
      exact J162 ((mo_70.2 3) (Int32.toNatClampNeg (4 * (p2 - 10)))) _ _ _ hG _ (lv_sub hl [0] rfl) hE
    replace hE := (if_pos c_58).symm.trans hE
    have i_58 : z0_46.toInt = 0 := congrArg Int32.toInt c_58
    refine lv_bipush (v := (-2)) hx hb dX6_run_61 (by decide) ?_
    subst hQ
    exact g_iret hx hb hr hlocks hG ((mo, jk) : Ob × (Nat → Nat → Int32)) rfl hE.symm dX6_run_63
  have J41 : ∀  (jk : (Nat → Nat → Int32)) (H : Heap) (locs : List Loc), gS g A s H locs (gW g bb tx rw sb dy tn mo jk) → ∀ ls : Array Slot, lv_has ls 5 [(0, .ref (gA g 58)), (1, .int p1), (2, .int p2)] → (0 ≤ p2.toInt ∧ p2.toInt ≤ 2) ∨ (10 ≤ p2.toInt ∧ p2.toInt ≤ 9 + (mo.1 0).toInt) ∨ (20 ≤ p2.toInt ∧ p2.toInt ≤ 19 + (mo.1 0).toInt) → F_X6_run_b41   mo p1 p2 = EE → W p l e (rmL (8)) s m [.ref (gA g 58), .int p1, .int p2].toArray below meth c H locs 0 0 Q (F0 m 41 ls []) := by
    intro  jk H locs hG ls hl hg41 hE
    unfold F_X6_run_b41 at hE
    refine lv_iconst (v := 1) hx hb dX6_run_41 (by decide) ?_
    refine lv_goto (tgt := 46) hx hb dX6_run_42 (by decide) ?_
    exact J46 1 _ _ _ hG _ (lv_sub hl [0, 1, 2] rfl) (Or.inr hg41) hE
  refine lv_if_ne (tgt := 41) hx hb dX6_run_6 (by decide) (fun c_6 => ?_) (fun c_6 => ?_)
  · replace hE := (if_neg c_6).symm.trans hE
    have i_6 : 0 ≤ p2.toInt ∧ p2.toInt ≤ 2 := in_f c_6
    exact J41 _ _ _ hG _ (lv_sub hl [0, 1, 2] rfl) (by clear hE; omega) hE
  replace hE := (if_pos c_6).symm.trans hE
  refine lv_iload_n hx hb dX6_run_9 rfl (lv_at hl 2 rfl) ?_
  refine lv_bipush (v := 10) hx hb dX6_run_10 (by decide) ?_
  refine lv_bipush (v := 9) hx hb dX6_run_12 (by decide) ?_
  refine lv_aload_n hx hb dX6_run_14 rfl (lv_at hl 0 rfl) ?_
  refine g_get hx hb hts hiX6 hown hG gw_Model rfl 0 (by decide) (index := 78) tw_fl_RX6_78 (v := .int (mo.1 0)) rfl dX6_run_15 ?_
  refine lv_iadd hx hb dX6_run_18 ?_
  refine g_si (g_runS (n := 3) (rest := []) hx hb hml hown hts hG (c_X6_in p2 10 (9 + (mo.1 0))) tw_ml_RX6_81 tw_st_X6_in tw_in_RX6 tw_cd_X6_in (by decide +kernel) ⟨rfl, rfl, Nat.le_of_ble_eq_true rfl, Nat.le_of_ble_eq_true rfl⟩ rfl hl.1 rfl (Nat.le_of_ble_eq_true rfl) dX6_run_19 ⟨Nat.le_refl _, Nat.le_refl _⟩) hG hA (fun H locs hG => ?_)
  refine lv_if_ne (tgt := 41) hx hb dX6_run_22 (by decide) (fun c_22 => ?_) (fun c_22 => ?_)
  · replace hE := (if_neg c_22).symm.trans hE
    have i_22 : 10 ≤ p2.toInt ∧ p2.toInt ≤ (9 + (mo.1 0)).toInt := in_f c_22
    exact J41 _ _ _ hG _ (lv_sub hl [0, 1, 2] rfl) (by clear hE; omega) hE
  replace hE := (if_pos c_22).symm.trans hE
  refine lv_iload_n hx hb dX6_run_25 rfl (lv_at hl 2 rfl) ?_
  refine lv_bipush (v := 20) hx hb dX6_run_26 (by decide) ?_
  refine lv_bipush (v := 19) hx hb dX6_run_28 (by decide) ?_
  refine lv_aload_n hx hb dX6_run_30 rfl (lv_at hl 0 rfl) ?_
  refine g_get hx hb hts hiX6 hown hG gw_Model rfl 0 (by decide) (index := 78) tw_fl_RX6_78 (v := .int (mo.1 0)) rfl dX6_run_31 ?_
  refine lv_iadd hx hb dX6_run_34 ?_
  refine g_si (g_runS (n := 3) (rest := []) hx hb hml hown hts hG (c_X6_in p2 20 (19 + (mo.1 0))) tw_ml_RX6_81 tw_st_X6_in tw_in_RX6 tw_cd_X6_in (by decide +kernel) ⟨rfl, rfl, Nat.le_of_ble_eq_true rfl, Nat.le_of_ble_eq_true rfl⟩ rfl hl.1 rfl (Nat.le_of_ble_eq_true rfl) dX6_run_35 ⟨Nat.le_refl _, Nat.le_refl _⟩) hG hA (fun H locs hG => ?_)
  refine lv_if_eq (tgt := 45) hx hb dX6_run_38 (by decide) (fun c_38 => ?_) (fun c_38 => ?_)
  · replace hE := (if_pos c_38).symm.trans hE
    refine lv_iconst (v := 0) hx hb dX6_run_45 (by decide) ?_
    exact J46 0 _ _ _ hG _ (lv_sub hl [0, 1, 2] rfl) (Or.inl rfl) hE
  replace hE := (if_neg c_38).symm.trans hE
  have i_38 : 20 ≤ p2.toInt ∧ p2.toInt ≤ (19 + (mo.1 0)).toInt := in_f c_38
  exact J41 _ _ _ hG _ (lv_sub hl [0, 1, 2] rfl) (by clear hE; omega) hE
def F_X6_when_c54 (u : Ob) (x2 : Int32) : Int32 × Ob :=
  (x2, u)
def F_X6_when_b53 (mo : Ob) (x2 : Int32) : Int32 × Ob :=
  (F_X6_when_c54 (F_X6_lays mo) x2)
def F_X6_when_b46 (K22 : Ob → Int32 → Int32 → Int32 → Int32 × Ob) (mo : Ob) (x1 : Int32) (x3 : Int32) (z0 : Int32) : Int32 × Ob :=
  (K22 mo x1 z0 (x3 + 1))
def F_X6_when_c34 (K22 : Ob → Int32 → Int32 → Int32 → Int32 × Ob) (u : Int32 × Ob) (x1 : Int32) (x3 : Int32) : Int32 × Ob :=
  (if u.1 = x1 then (F_X6_when_b46 K22 u.2 x1 x3 x3) else (F_X6_when_b46 K22 u.2 x1 x3 (-1)))
def F_X6_when_l22 : Nat → Ob → Int32 → Int32 → Int32 → Int32 × Ob
  | 0, mo, _, _, _ => (0, mo)
  | n + 1, mo, x1, x2, x3 =>
    (if 60 < x3 then (F_X6_when_b53  mo x2) else (if x2 = (-1) then (F_X6_when_c34 (F_X6_when_l22 n ) (F_X6_hourOf mo) x1 x3) else (F_X6_when_b53  mo x2)))
def F_X6_when_c17 (u : Ob) (x1 : Int32) (x2 : Int32) : Int32 × Ob :=
  (F_X6_when_l22 62  u x1 x2 0)
def F_X6_when (mo : Ob) (p1 : Int32) : Int32 × Ob :=
  (if (F_X6_in p1 0 999) = 0 then ((-2), mo) else (F_X6_when_c17 (F_X6_keeps mo) p1 (-1)))
set_option maxHeartbeats 4000000 in
set_option maxRecDepth 100000 in
theorem c_X6_when {l : Launch} {g : GG} {sz : Nat} {bb : Ob} {tx rw : Nat → Ob} {sb dy : Ob} {tn : Nat → Ob} {mo : Ob} {jk : Nat → Nat → Int32}  (p1 : Int32) (hv : mEv mo) : Met l yX6_when (Cond.code yX6_when cX6_when 4 (some .int) :: TT) (rmL (7)) (va_Pc [.ref (gA g 58), .int p1] (gB g sz (gW g bb tx rw sb dy tn mo jk))) (va_Qi (fun r (u : Ob × (Nat → Nat → Int32)) => (F_X6_when mo p1) = (r, u.1)) (fun u t => gC g (va_A (gW g bb tx rw sb dy tn mo jk) sz) (gW g bb tx rw sb dy tn u.1 u.2) t) (va_A (gW g bb tx rw sb dy tn mo jk) sz)) 0 0 (va_A (gW g bb tx rw sb dy tn mo jk) sz) := by
  generalize hE : F_X6_when mo p1 = EE
  refine g_of (Qf := fun A => (va_Qi (fun r (u : Ob × (Nat → Nat → Int32)) => EE = (r, u.1)) (fun u t => gC g A (gW g bb tx rw sb dy tn u.1 u.2) t) A)) (cc := cX6_when) (maxL := 4) (ret := (some .int)) (by decide) (Nat.le_of_ble_eq_true rfl) ?_
  intro p e s m below meth c A ls hx hb hml hr hlocks hts hown hA hG hl
  replace hown : s.vm.findClass RX6 = some m.cls := hown
  replace hl : lv_has ls 4 [(0, .ref (gA g 58)), (1, .int p1)] := hl
  show W p l e (rmL (7)) s m [.ref (gA g 58), .int p1].toArray below meth c s.heap [] 0 0 (MQ below (va_Qi (fun r (u : Ob × (Nat → Nat → Int32)) => EE = (r, u.1)) (fun u t => gC g A (gW g bb tx rw sb dy tn u.1 u.2) t) A) [.ref (gA g 58), .int p1].toArray s 0 0 A) (F0 m 0 ls [])
  generalize hQ : MQ below (va_Qi (fun r (u : Ob × (Nat → Nat → Int32)) => EE = (r, u.1)) (fun u t => gC g A (gW g bb tx rw sb dy tn u.1 u.2) t) A) [.ref (gA g 58), .int p1].toArray s 0 0 A = Q
  unfold F_X6_when at hE
  refine lv_iload_n hx hb dX6_when_0 rfl (lv_at hl 1 rfl) ?_
  refine lv_iconst (v := 0) hx hb dX6_when_1 (by decide) ?_
  refine lv_sipush (v := 999) hx hb dX6_when_2 (by decide) ?_
  refine g_si (g_runS (n := 3) (rest := []) hx hb hml hown hts hG (c_X6_in p1 0 999) tw_ml_RX6_81 tw_st_X6_in tw_in_RX6 tw_cd_X6_in (by decide +kernel) ⟨rfl, rfl, Nat.le_of_ble_eq_true rfl, Nat.le_of_ble_eq_true rfl⟩ rfl hl.1 rfl (Nat.le_of_ble_eq_true rfl) dX6_when_5 ⟨Nat.le_refl _, Nat.le_refl _⟩) hG hA (fun H locs hG => ?_)
  refine lv_if_ne (tgt := 14) hx hb dX6_when_8 (by decide) (fun c_8 => ?_) (fun c_8 => ?_)
  · replace hE := (if_neg c_8).symm.trans hE
    have i_8 : 0 ≤ p1.toInt ∧ p1.toInt ≤ 999 := in_f c_8
    refine lv_iconst (v := (-1)) hx hb dX6_when_14 (by decide) ?_
    refine lv_istore_n (lv' := [(2, .int (-1)), (0, .ref (gA g 58)), (1, .int p1)]) hx hb dX6_when_15 rfl hl (by decide) rfl (fun ls hl => ?_)
    replace hl := lv_sub hl [1, 2, 0] (l' := [(0, .ref (gA g 58)), (1, .int p1), (2, .int (-1))]) rfl
    refine lv_aload_n hx hb dX6_when_16 rfl (lv_at hl 0 rfl) ?_
    refine g_cv (g_runV (n := 0) (rest := []) hx hb hml hown hts hG (c_X6_keeps) tw_ml_RX6_199 tw_im_X6_keeps tw_se_X6_keeps tw_in_RX6 tw_cd_X6_keeps (by decide +kernel) ⟨rfl, rfl, Nat.le_of_ble_eq_true rfl, Nat.le_of_ble_eq_true rfl⟩ gw_Model rfl rfl hl.1 rfl (Nat.le_of_ble_eq_true rfl) dX6_when_17 ⟨Nat.le_refl _, Nat.le_refl _⟩) hG hA (fun u H locs hp hG => ?_)
    obtain ⟨mo_17, rfl⟩ : ∃ z, z = u := ⟨u, rfl⟩
    replace hG : gS g A s H locs (gW g bb tx rw sb dy tn mo_17 jk) := by simpa only [up_up] using hG
    have hp_17 := hp
    rw [hp] at hE
    unfold F_X6_when_c17 at hE
    try dsimp only at hE
    have hv17 : mEv mo_17 := (keeps_hR hp_17).mEv hv
    refine lv_iconst (v := 0) hx hb dX6_when_20 (by decide) ?_
    refine lv_istore_n (lv' := [(3, .int 0), (0, .ref (gA g 58)), (1, .int p1), (2, .int (-1))]) hx hb dX6_when_21 rfl hl (by decide) rfl (fun ls hl => ?_)
    replace hl := lv_sub hl [1, 2, 3, 0] (l' := [(0, .ref (gA g 58)), (1, .int p1), (2, .int (-1)), (3, .int 0)]) rfl
    have L22 : ∀ (n22 : Nat) (x2_22 : Int32) (x3_22 : Int32) (mo_22 : Ob) (jk : (Nat → Nat → Int32)) (H : Heap) (locs : List Loc), gS g A s H locs (gW g bb tx rw sb dy tn mo_22 jk) → ∀ ls : Array Slot, lv_has ls 4 [(0, .ref (gA g 58)), (1, .int p1), (2, .int x2_22), (3, .int x3_22)] → 0 ≤ x3_22.toInt → x3_22.toInt ≤ 61 → 61 < x3_22.toInt + n22 → mEv mo_22 → F_X6_when_l22 n22  mo_22 p1 x2_22 x3_22 = EE → W p l e (rmL (7)) s m [.ref (gA g 58), .int p1].toArray below meth c H locs 0 0 Q (F0 m 22 ls []) := by
      intro n22
      induction n22 with
      | zero =>
        intro x2_22 x3_22 mo_22 jk H locs hG ls hl h0_22 h1_22 hm_22 hv22 hE
        clear hE; omega
      | succ n22 ih22 =>
        intro x2_22 x3_22 mo_22 jk H locs hG ls hl h0_22 h1_22 hm_22 hv22 hE
        unfold F_X6_when_l22 at hE
        refine lv_iload_n hx hb dX6_when_22 rfl (lv_at hl 3 rfl) ?_
        refine lv_bipush (v := 60) hx hb dX6_when_23 (by decide) ?_
        have J53 : ∀  (jk : (Nat → Nat → Int32)) (H : Heap) (locs : List Loc), gS g A s H locs (gW g bb tx rw sb dy tn mo_22 jk) → ∀ ls : Array Slot, lv_has ls 4 [(0, .ref (gA g 58)), (2, .int x2_22)] → F_X6_when_b53   mo_22 x2_22 = EE → W p l e (rmL (7)) s m [.ref (gA g 58), .int p1].toArray below meth c H locs 0 0 Q (F0 m 53 ls []) := by
          intro  jk H locs hG ls hl  hE
          unfold F_X6_when_b53 at hE
          refine lv_aload_n hx hb dX6_when_53 rfl (lv_at hl 0 rfl) ?_
          refine g_cv (g_runV (n := 0) (rest := []) hx hb hml hown hts hG (c_X6_lays) tw_ml_RX6_205 tw_im_X6_lays tw_se_X6_lays tw_in_RX6 tw_cd_X6_lays (by decide +kernel) ⟨rfl, rfl, Nat.le_of_ble_eq_true rfl, Nat.le_of_ble_eq_true rfl⟩ gw_Model rfl rfl hl.1 rfl (Nat.le_of_ble_eq_true rfl) dX6_when_54 ⟨Nat.le_refl _, Nat.le_refl _⟩) hG hA (fun u H locs hp hG => ?_)
          obtain ⟨mo_54, rfl⟩ : ∃ z, z = u := ⟨u, rfl⟩
          replace hG : gS g A s H locs (gW g bb tx rw sb dy tn mo_54 jk) := by simpa only [up_up] using hG
          have hp_54 := hp
          rw [hp] at hE
          unfold F_X6_when_c54 at hE
          try dsimp only at hE
          refine lv_iload_n hx hb dX6_when_57 rfl (lv_at hl 1 rfl) ?_
          subst hQ
          exact g_iret hx hb hr hlocks hG ((mo_54, jk) : Ob × (Nat → Nat → Int32)) rfl hE.symm dX6_when_58
        refine lv_icmp_gt (tgt := 53) hx hb dX6_when_25 (by decide) (fun c_25 => ?_) (fun c_25 => ?_)
        · replace hE := (if_pos c_25).symm.trans hE
          have i_25 : 60 < x3_22.toInt := i_lt.mp c_25
          exact J53 _ _ _ hG _ (lv_sub hl [0, 2] rfl) hE
        replace hE := (if_neg c_25).symm.trans hE
        have i_25 : x3_22.toInt ≤ 60 := i_nlt c_25
        refine lv_iload_n hx hb dX6_when_28 rfl (lv_at hl 2 rfl) ?_
        refine lv_iconst (v := (-1)) hx hb dX6_when_29 (by decide) ?_
        refine lv_icmp_ne (tgt := 53) hx hb dX6_when_30 (by decide) (fun c_30 => ?_) (fun c_30 => ?_)
        · replace hE := (if_neg c_30).symm.trans hE
          have i_30 : x2_22.toInt ≠ (-1) := fun h => c_30 (Int32.toInt_inj.mp h)
          exact J53 _ _ _ hG _ (lv_sub hl [0, 2] rfl) hE
        replace hE := (if_pos c_30).symm.trans hE
        have i_30 : x2_22.toInt = (-1) := congrArg Int32.toInt c_30
        refine lv_aload_n hx hb dX6_when_33 rfl (lv_at hl 0 rfl) ?_
        refine g_ci (g_runV (n := 0) (rest := []) hx hb hml hown hts hG (c_X6_hourOf hv22) tw_ml_RX6_196 tw_im_X6_hourOf tw_se_X6_hourOf tw_in_RX6 tw_cd_X6_hourOf (by decide +kernel) ⟨rfl, rfl, Nat.le_of_ble_eq_true rfl, Nat.le_of_ble_eq_true rfl⟩ gw_Model rfl rfl hl.1 rfl (Nat.le_of_ble_eq_true rfl) dX6_when_34 ⟨Nat.le_refl _, Nat.le_refl _⟩) hG hA (fun r_34 u H locs hp hG => ?_)
        obtain ⟨mo_34, jk⟩ := u
        replace hG : gS g A s H locs (gW g bb tx rw sb dy tn mo_34 jk) := by simpa only [up_up] using hG
        have hp_34 := hp
        rw [hp] at hE
        unfold F_X6_when_c34 at hE
        try dsimp only at hE
        have hv34 : mEv mo_34 := hR.mEv (hourOf_hR hp_34) hv22
        refine lv_iload_n hx hb dX6_when_37 rfl (lv_at hl 1 rfl) ?_
        have J46 : ∀ (z0_46 : Int32) (jk : (Nat → Nat → Int32)) (H : Heap) (locs : List Loc), gS g A s H locs (gW g bb tx rw sb dy tn mo_34 jk) → ∀ ls : Array Slot, lv_has ls 4 [(0, .ref (gA g 58)), (1, .int p1), (3, .int x3_22)] → F_X6_when_b46  (F_X6_when_l22 n22 ) mo_34 p1 x3_22 z0_46 = EE → W p l e (rmL (7)) s m [.ref (gA g 58), .int p1].toArray below meth c H locs 0 0 Q (F0 m 46 ls [.int z0_46]) := by
          intro z0_46 jk H locs hG ls hl  hE
          unfold F_X6_when_b46 at hE
          refine lv_istore_n (lv' := [(2, .int z0_46), (0, .ref (gA g 58)), (1, .int p1), (3, .int x3_22)]) hx hb dX6_when_46 rfl hl (by decide) rfl (fun ls hl => ?_)
          replace hl := lv_sub hl [1, 2, 0, 3] (l' := [(0, .ref (gA g 58)), (1, .int p1), (2, .int z0_46), (3, .int x3_22)]) rfl
          refine lv_iinc (v := (x3_22 + 1)) (lv' := [(3, .int (x3_22 + 1)), (0, .ref (gA g 58)), (1, .int p1), (2, .int z0_46)]) hx hb dX6_when_47 hl (k := 3) rfl rfl (by decide) rfl (fun ls hl => ?_)
          replace hl := lv_sub hl [1, 2, 3, 0] (l' := [(0, .ref (gA g 58)), (1, .int p1), (2, .int z0_46), (3, .int (x3_22 + 1))]) rfl
          refine lv_goto (tgt := 22) hx hb dX6_when_50 (by decide) ?_
          have e1 : (x3_22 + 1).toInt = x3_22.toInt + 1 := addL (k := 1) (by decide +kernel) (by clear hE; omega) (by clear hE; omega)
          exact ih22 z0_46 (x3_22 + 1) mo_34 _ _ _ hG _ (lv_sub hl [0, 1, 2, 3] rfl) (by clear hE; omega) (by clear hE; omega) (by clear hE; omega) hv34 hE
        refine lv_icmp_ne (tgt := 45) hx hb dX6_when_38 (by decide) (fun c_38 => ?_) (fun c_38 => ?_)
        · replace hE := (if_neg c_38).symm.trans hE
          have i_38 : r_34.toInt ≠ p1.toInt := fun h => c_38 (Int32.toInt_inj.mp h)
          refine lv_iconst (v := (-1)) hx hb dX6_when_45 (by decide) ?_
          exact J46 (-1) _ _ _ hG _ (lv_sub hl [0, 1, 3] rfl) hE
        replace hE := (if_pos c_38).symm.trans hE
        have i_38 : r_34.toInt = p1.toInt := congrArg Int32.toInt c_38
        refine lv_iload_n hx hb dX6_when_41 rfl (lv_at hl 3 rfl) ?_
        refine lv_goto (tgt := 46) hx hb dX6_when_42 (by decide) ?_
        exact J46 x3_22 _ _ _ hG _ (lv_sub hl [0, 1, 3] rfl) hE
    exact L22 62 (-1) 0 mo_17 _ _ _ hG _ (lv_sub hl [0, 1, 2, 3] rfl) (by decide) (by decide) (by decide) hv17 hE
  replace hE := (if_pos c_8).symm.trans hE
  refine lv_bipush (v := (-2)) hx hb dX6_when_11 (by decide) ?_
  subst hQ
  exact g_iret hx hb hr hlocks hG ((mo, jk) : Ob × (Nat → Nat → Int32)) rfl hE.symm dX6_when_13
def F_X6_tellsDay_c39 (K6 : Ob → Int32 → Ob) (u : Ob) : Ob :=
  u
def F_X6_tellsDay_c18 (K6 : Ob → Int32 → Ob) (u : Int32 × Ob) (x1 : Int32) (z1 : Int32) : Ob :=
  (K6 (stA (stA u.2 31 z1 u.1) 32 x1 (u.2.1 29)) (x1 + 1))
def F_X6_tellsDay_l6 : Nat → Ob → Int32 → Ob
  | 0, mo, _ => mo
  | n + 1, mo, x1 =>
    (if 24 ≤ x1 then (F_X6_tellsDay_c39 (F_X6_tellsDay_l6 n ) (F_X6_lays mo)) else (F_X6_tellsDay_c18 (F_X6_tellsDay_l6 n ) (F_X6_hourOf mo) x1 x1))
def F_X6_tellsDay_c1 (u : Ob) : Ob :=
  (F_X6_tellsDay_l6 25  u 0)
def F_X6_tellsDay (mo : Ob) : Ob :=
  (F_X6_tellsDay_c1 (F_X6_keeps mo))
set_option maxHeartbeats 4000000 in
set_option maxRecDepth 100000 in
theorem c_X6_tellsDay {l : Launch} {g : GG} {sz : Nat} {bb : Ob} {tx rw : Nat → Ob} {sb dy : Ob} {tn : Nat → Ob} {mo : Ob} {jk : Nat → Nat → Int32}   (hv : mEv mo) : Met l yX6_tellsDay (Cond.code yX6_tellsDay cX6_tellsDay 2 none :: TT) (rmL (7)) (va_Pc [.ref (gA g 58)] (gB g sz (gW g bb tx rw sb dy tn mo jk))) (va_Qv (fun (u : Ob × (Nat → Nat → Int32)) => (F_X6_tellsDay mo) = (u.1)) (fun u t => gC g (va_A (gW g bb tx rw sb dy tn mo jk) sz) (gW g bb tx rw sb dy tn u.1 u.2) t) (va_A (gW g bb tx rw sb dy tn mo jk) sz)) 0 0 (va_A (gW g bb tx rw sb dy tn mo jk) sz) := by
  generalize hE : F_X6_tellsDay mo = EE
  refine g_of (Qf := fun A => (va_Qv (fun (u : Ob × (Nat → Nat → Int32)) => EE = (u.1)) (fun u t => gC g A (gW g bb tx rw sb dy tn u.1 u.2) t) A)) (cc := cX6_tellsDay) (maxL := 2) (ret := none) (by decide) (Nat.le_of_ble_eq_true rfl) ?_
  intro p e s m below meth c A ls hx hb hml hr hlocks hts hown hA hG hl
  replace hown : s.vm.findClass RX6 = some m.cls := hown
  replace hl : lv_has ls 2 [(0, .ref (gA g 58))] := hl
  show W p l e (rmL (7)) s m [.ref (gA g 58)].toArray below meth c s.heap [] 0 0 (MQ below (va_Qv (fun (u : Ob × (Nat → Nat → Int32)) => EE = (u.1)) (fun u t => gC g A (gW g bb tx rw sb dy tn u.1 u.2) t) A) [.ref (gA g 58)].toArray s 0 0 A) (F0 m 0 ls [])
  generalize hQ : MQ below (va_Qv (fun (u : Ob × (Nat → Nat → Int32)) => EE = (u.1)) (fun u t => gC g A (gW g bb tx rw sb dy tn u.1 u.2) t) A) [.ref (gA g 58)].toArray s 0 0 A = Q
  unfold F_X6_tellsDay at hE
  refine lv_aload_n hx hb dX6_tellsDay_0 rfl (lv_at hl 0 rfl) ?_
  refine g_cv (g_runV (n := 0) (rest := []) hx hb hml hown hts hG (c_X6_keeps) tw_ml_RX6_199 tw_im_X6_keeps tw_se_X6_keeps tw_in_RX6 tw_cd_X6_keeps (by decide +kernel) ⟨rfl, rfl, Nat.le_of_ble_eq_true rfl, Nat.le_of_ble_eq_true rfl⟩ gw_Model rfl rfl hl.1 rfl (Nat.le_of_ble_eq_true rfl) dX6_tellsDay_1 ⟨Nat.le_refl _, Nat.le_refl _⟩) hG hA (fun u H locs hp hG => ?_)
  obtain ⟨mo_1, rfl⟩ : ∃ z, z = u := ⟨u, rfl⟩
  replace hG : gS g A s H locs (gW g bb tx rw sb dy tn mo_1 jk) := by simpa only [up_up] using hG
  have hp_1 := hp
  rw [hp] at hE
  unfold F_X6_tellsDay_c1 at hE
  try dsimp only at hE
  have hv1 : mEv mo_1 := (keeps_hR hp_1).mEv hv
  refine lv_iconst (v := 0) hx hb dX6_tellsDay_4 (by decide) ?_
  refine lv_istore_n (lv' := [(1, .int 0), (0, .ref (gA g 58))]) hx hb dX6_tellsDay_5 rfl hl (by decide) rfl (fun ls hl => ?_)
  replace hl := lv_sub hl [1, 0] (l' := [(0, .ref (gA g 58)), (1, .int 0)]) rfl
  have L6 : ∀ (n6 : Nat) (x1_6 : Int32) (mo_6 : Ob) (jk : (Nat → Nat → Int32)) (H : Heap) (locs : List Loc), gS g A s H locs (gW g bb tx rw sb dy tn mo_6 jk) → ∀ ls : Array Slot, lv_has ls 2 [(0, .ref (gA g 58)), (1, .int x1_6)] → 0 ≤ x1_6.toInt → x1_6.toInt ≤ 24 → 24 < x1_6.toInt + n6 → mEv mo_6 → F_X6_tellsDay_l6 n6  mo_6 x1_6 = EE → W p l e (rmL (7)) s m [.ref (gA g 58)].toArray below meth c H locs 0 0 Q (F0 m 6 ls []) := by
    intro n6
    induction n6 with
    | zero =>
      intro x1_6 mo_6 jk H locs hG ls hl h0_6 h1_6 hm_6 hv6 hE
      clear hE; omega
    | succ n6 ih6 =>
      intro x1_6 mo_6 jk H locs hG ls hl h0_6 h1_6 hm_6 hv6 hE
      unfold F_X6_tellsDay_l6 at hE
      refine lv_iload_n hx hb dX6_tellsDay_6 rfl (lv_at hl 1 rfl) ?_
      refine lv_bipush (v := 24) hx hb dX6_tellsDay_7 (by decide) ?_
      refine lv_icmp_ge (tgt := 38) hx hb dX6_tellsDay_9 (by decide) (fun c_9 => ?_) (fun c_9 => ?_)
      · replace hE := (if_pos c_9).symm.trans hE
        have i_9 : 24 ≤ x1_6.toInt := i_le.mp c_9
        refine lv_aload_n hx hb dX6_tellsDay_38 rfl (lv_at hl 0 rfl) ?_
        refine g_cv (g_runV (n := 0) (rest := []) hx hb hml hown hts hG (c_X6_lays) tw_ml_RX6_205 tw_im_X6_lays tw_se_X6_lays tw_in_RX6 tw_cd_X6_lays (by decide +kernel) ⟨rfl, rfl, Nat.le_of_ble_eq_true rfl, Nat.le_of_ble_eq_true rfl⟩ gw_Model rfl rfl hl.1 rfl (Nat.le_of_ble_eq_true rfl) dX6_tellsDay_39 ⟨Nat.le_refl _, Nat.le_refl _⟩) hG hA (fun u H locs hp hG => ?_)
        obtain ⟨mo_39, rfl⟩ : ∃ z, z = u := ⟨u, rfl⟩
        replace hG : gS g A s H locs (gW g bb tx rw sb dy tn mo_39 jk) := by simpa only [up_up] using hG
        have hp_39 := hp
        rw [hp] at hE
        unfold F_X6_tellsDay_c39 at hE
        try dsimp only at hE
        subst hQ
        exact g_vret hx hb hr hlocks hG ((mo_39, jk) : Ob × (Nat → Nat → Int32)) rfl hE.symm dX6_tellsDay_42
      replace hE := (if_neg c_9).symm.trans hE
      have i_9 : x1_6.toInt < 24 := i_nle c_9
      refine lv_aload_n hx hb dX6_tellsDay_12 rfl (lv_at hl 0 rfl) ?_
      refine g_get hx hb hts hiX6 hown hG gw_Model rfl 31 (by decide) (index := 64) tw_fl_RX6_64 (v := .ref (gA g 77)) rfl dX6_tellsDay_13 ?_
      refine lv_iload_n hx hb dX6_tellsDay_16 rfl (lv_at hl 1 rfl) ?_
      refine lv_aload_n hx hb dX6_tellsDay_17 rfl (lv_at hl 0 rfl) ?_
      refine g_ci (g_runV (n := 0) (rest := [.int x1_6, .ref (gA g 77)]) hx hb hml hown hts hG (c_X6_hourOf hv6) tw_ml_RX6_196 tw_im_X6_hourOf tw_se_X6_hourOf tw_in_RX6 tw_cd_X6_hourOf (by decide +kernel) ⟨rfl, rfl, Nat.le_of_ble_eq_true rfl, Nat.le_of_ble_eq_true rfl⟩ gw_Model rfl rfl hl.1 rfl (Nat.le_of_ble_eq_true rfl) dX6_tellsDay_18 ⟨Nat.le_refl _, Nat.le_refl _⟩) hG hA (fun r_18 u H locs hp hG => ?_)
      obtain ⟨mo_18, jk⟩ := u
      replace hG : gS g A s H locs (gW g bb tx rw sb dy tn mo_18 jk) := by simpa only [up_up] using hG
      have hp_18 := hp
      rw [hp] at hE
      unfold F_X6_tellsDay_c18 at hE
      try dsimp only at hE
      have hv18 : mEv mo_18 := hR.mEv (hourOf_hR hp_18) hv6
      refine g_ist hx hb hG gw_Model_a31 (show vp_in x1_6 24 from (vp_i (by clear hE; omega) (by clear hE; omega))) gs_Model_a31 dX6_tellsDay_21 (fun H locs hG => ?_)
      refine lv_aload_n hx hb dX6_tellsDay_22 rfl (lv_at hl 0 rfl) ?_
      refine g_get hx hb hts hiX6 hown hG gw_Model rfl 32 (by decide) (index := 67) tw_fl_RX6_67 (v := .ref (gA g 78)) rfl dX6_tellsDay_23 ?_
      refine lv_iload_n hx hb dX6_tellsDay_26 rfl (lv_at hl 1 rfl) ?_
      refine lv_aload_n hx hb dX6_tellsDay_27 rfl (lv_at hl 0 rfl) ?_
      refine g_get hx hb hts hiX6 hown hG gw_Model rfl 29 (by decide) (index := 193) tw_fl_RX6_193 (v := .int (mo_18.1 29)) rfl dX6_tellsDay_28 ?_
      refine g_ist hx hb hG gw_Model_a32 (show vp_in x1_6 24 from (vp_i (by clear hE; omega) (by clear hE; omega))) gs_Model_a32 dX6_tellsDay_31 (fun H locs hG => ?_)
      refine lv_iinc (v := (x1_6 + 1)) (lv' := [(1, .int (x1_6 + 1)), (0, .ref (gA g 58))]) hx hb dX6_tellsDay_32 hl (k := 1) rfl rfl (by decide) rfl (fun ls hl => ?_)
      replace hl := lv_sub hl [1, 0] (l' := [(0, .ref (gA g 58)), (1, .int (x1_6 + 1))]) rfl
      refine lv_goto (tgt := 6) hx hb dX6_tellsDay_35 (by decide) ?_
      have e1 : (x1_6 + 1).toInt = x1_6.toInt + 1 := addL (k := 1) (by decide +kernel) (by clear hE; omega) (by clear hE; omega)
      exact ih6 (x1_6 + 1) (stA (stA mo_18 31 x1_6 r_18) 32 x1_6 (mo_18.1 29)) _ _ _ hG _ (lv_sub hl [0, 1] rfl) (by clear hE; omega) (by clear hE; omega) (by clear hE; omega) (mEv_of hv18 rfl rfl rfl rfl) hE
  exact L6 25 0 mo_1 _ _ _ hG _ (lv_sub hl [0, 1] rfl) (by decide) (by decide) (by decide) hv1 hE
theorem tellsDay_mEv {m r : Ob} (hp : F_X6_tellsDay m = r) (h : mEv m) : mEv r := by
  have k : ∀ (n : Nat) (r : Ob) (x : Int32), mEv r → mEv (F_X6_tellsDay_l6 n r x) := by
    intro n
    induction n with
    | zero => intro r x h; exact h
    | succ n ih =>
      intro r x h
      unfold F_X6_tellsDay_l6
      split
      · exact (lays_hR rfl).mEv h
      · exact ih _ _ (mEv_of ((hourOf_hR (v := (F_X6_hourOf r).1) rfl).mEv h) rfl rfl rfl rfl)
  subst hp
  unfold F_X6_tellsDay F_X6_tellsDay_c1
  exact k 25 _ _ ((keeps_hR rfl).mEv h)

def F_X6_alikeWith_b31 (K4 : Ob → Int32 → Int32 → Int32 → Int32) (mo : Ob) (x1 : Int32) (x3 : Int32) (z0 : Int32) (z1 : Int32) : Int32 :=
  (K4 mo x1 (z0 + z1) (x3 + 1))
def F_X6_alikeWith_l4 : Nat → Ob → Int32 → Int32 → Int32 → Int32
  | 0, _, _, _, _ => 0
  | n + 1, mo, x1, x2, x3 =>
    (if 24 ≤ x3 then x2 else (if ((mo.2 31) (Int32.toNatClampNeg x3)) = ((mo.2 31) (Int32.toNatClampNeg x1)) then (F_X6_alikeWith_b31 (F_X6_alikeWith_l4 n ) mo x1 x3 x2 1) else (F_X6_alikeWith_b31 (F_X6_alikeWith_l4 n ) mo x1 x3 x2 0)))
def F_X6_alikeWith (mo : Ob) (p1 : Int32) : Int32 :=
  (F_X6_alikeWith_l4 25  mo p1 0 0)
set_option maxHeartbeats 4000000 in
set_option maxRecDepth 100000 in
theorem c_X6_alikeWith {l : Launch} {g : GG} {sz : Nat} {bb : Ob} {tx rw : Nat → Ob} {sb dy : Ob} {tn : Nat → Ob} {mo : Ob} {jk : Nat → Nat → Int32}  (p1 : Int32) (hp : 0 ≤ p1.toInt ∧ p1.toInt < 24) : Met l yX6_alikeWith (Cond.code yX6_alikeWith cX6_alikeWith 4 (some .int) :: TT) (rmL (1)) (va_Pc [.ref (gA g 58), .int p1] (gB g sz (gW g bb tx rw sb dy tn mo jk))) (va_Qi (fun r (_ : Unit) => r = (F_X6_alikeWith mo p1)) (fun u t => gC g (va_A (gW g bb tx rw sb dy tn mo jk) sz) (gW g bb tx rw sb dy tn mo jk) t) (va_A (gW g bb tx rw sb dy tn mo jk) sz)) 0 0 (va_A (gW g bb tx rw sb dy tn mo jk) sz) := by
  generalize hE : F_X6_alikeWith mo p1 = EE
  refine g_of (Qf := fun A => (va_Qi (fun r (_ : Unit) => r = EE) (fun u t => gC g A (gW g bb tx rw sb dy tn mo jk) t) A)) (cc := cX6_alikeWith) (maxL := 4) (ret := (some .int)) (by decide) (Nat.le_of_ble_eq_true rfl) ?_
  intro p e s m below meth c A ls hx hb hml hr hlocks hts hown hA hG hl
  replace hown : s.vm.findClass RX6 = some m.cls := hown
  replace hl : lv_has ls 4 [(0, .ref (gA g 58)), (1, .int p1)] := hl
  show W p l e (rmL (1)) s m [.ref (gA g 58), .int p1].toArray below meth c s.heap [] 0 0 (MQ below (va_Qi (fun r (_ : Unit) => r = EE) (fun u t => gC g A (gW g bb tx rw sb dy tn mo jk) t) A) [.ref (gA g 58), .int p1].toArray s 0 0 A) (F0 m 0 ls [])
  generalize hQ : MQ below (va_Qi (fun r (_ : Unit) => r = EE) (fun u t => gC g A (gW g bb tx rw sb dy tn mo jk) t) A) [.ref (gA g 58), .int p1].toArray s 0 0 A = Q
  unfold F_X6_alikeWith at hE
  refine lv_iconst (v := 0) hx hb dX6_alikeWith_0 (by decide) ?_
  refine lv_istore_n (lv' := [(2, .int 0), (0, .ref (gA g 58)), (1, .int p1)]) hx hb dX6_alikeWith_1 rfl hl (by decide) rfl (fun ls hl => ?_)
  replace hl := lv_sub hl [1, 2, 0] (l' := [(0, .ref (gA g 58)), (1, .int p1), (2, .int 0)]) rfl
  refine lv_iconst (v := 0) hx hb dX6_alikeWith_2 (by decide) ?_
  refine lv_istore_n (lv' := [(3, .int 0), (0, .ref (gA g 58)), (1, .int p1), (2, .int 0)]) hx hb dX6_alikeWith_3 rfl hl (by decide) rfl (fun ls hl => ?_)
  replace hl := lv_sub hl [1, 2, 3, 0] (l' := [(0, .ref (gA g 58)), (1, .int p1), (2, .int 0), (3, .int 0)]) rfl
  have L4 : ∀ (n4 : Nat) (x2_4 : Int32) (x3_4 : Int32) (H : Heap) (locs : List Loc), gS g A s H locs (gW g bb tx rw sb dy tn mo jk) → ∀ ls : Array Slot, lv_has ls 4 [(0, .ref (gA g 58)), (1, .int p1), (2, .int x2_4), (3, .int x3_4)] → 0 ≤ x3_4.toInt → x3_4.toInt ≤ 24 → 24 < x3_4.toInt + n4 → F_X6_alikeWith_l4 n4  mo p1 x2_4 x3_4 = EE → W p l e (rmL (1)) s m [.ref (gA g 58), .int p1].toArray below meth c H locs 0 0 Q (F0 m 4 ls []) := by
    intro n4
    induction n4 with
    | zero =>
      intro x2_4 x3_4 H locs hG ls hl h0_4 h1_4 hm_4 hE
      clear hE; omega
    | succ n4 ih4 =>
      intro x2_4 x3_4 H locs hG ls hl h0_4 h1_4 hm_4 hE
      unfold F_X6_alikeWith_l4 at hE
      refine lv_iload_n hx hb dX6_alikeWith_4 rfl (lv_at hl 3 rfl) ?_
      refine lv_bipush (v := 24) hx hb dX6_alikeWith_5 (by decide) ?_
      refine lv_icmp_ge (tgt := 39) hx hb dX6_alikeWith_7 (by decide) (fun c_7 => ?_) (fun c_7 => ?_)
      · replace hE := (if_pos c_7).symm.trans hE
        have i_7 : 24 ≤ x3_4.toInt := i_le.mp c_7
        refine lv_iload_n hx hb dX6_alikeWith_39 rfl (lv_at hl 2 rfl) ?_
        subst hQ
        exact g_iret hx hb hr hlocks hG () rfl hE dX6_alikeWith_40
      replace hE := (if_neg c_7).symm.trans hE
      have i_7 : x3_4.toInt < 24 := i_nle c_7
      refine lv_iload_n hx hb dX6_alikeWith_10 rfl (lv_at hl 2 rfl) ?_
      refine lv_aload_n hx hb dX6_alikeWith_11 rfl (lv_at hl 0 rfl) ?_
      refine g_get hx hb hts hiX6 hown hG gw_Model rfl 31 (by decide) (index := 64) tw_fl_RX6_64 (v := .ref (gA g 77)) rfl dX6_alikeWith_12 ?_
      refine lv_iload_n hx hb dX6_alikeWith_15 rfl (lv_at hl 3 rfl) ?_
      refine g_ild (f := (mo.2 31)) hx hb hG gw_Model_a31 (show vp_in x3_4 24 from (vp_i (by clear hE; omega) (by clear hE; omega))) dX6_alikeWith_16 ?_
      refine lv_aload_n hx hb dX6_alikeWith_17 rfl (lv_at hl 0 rfl) ?_
      refine g_get hx hb hts hiX6 hown hG gw_Model rfl 31 (by decide) (index := 64) tw_fl_RX6_64 (v := .ref (gA g 77)) rfl dX6_alikeWith_18 ?_
      refine lv_iload_n hx hb dX6_alikeWith_21 rfl (lv_at hl 1 rfl) ?_
      refine g_ild (f := (mo.2 31)) hx hb hG gw_Model_a31 (show vp_in p1 24 from (vp_i (by clear hE; omega) (by clear hE; omega))) dX6_alikeWith_22 ?_
      have J31 : ∀ (z1_31 : Int32) (H : Heap) (locs : List Loc), gS g A s H locs (gW g bb tx rw sb dy tn mo jk) → ∀ ls : Array Slot, lv_has ls 4 [(0, .ref (gA g 58)), (1, .int p1), (3, .int x3_4)] → F_X6_alikeWith_b31  (F_X6_alikeWith_l4 n4 ) mo p1 x3_4 x2_4 z1_31 = EE → W p l e (rmL (1)) s m [.ref (gA g 58), .int p1].toArray below meth c H locs 0 0 Q (F0 m 31 ls [.int z1_31, .int x2_4]) := by
        intro z1_31 H locs hG ls hl  hE
        unfold F_X6_alikeWith_b31 at hE
        refine lv_iadd hx hb dX6_alikeWith_31 ?_
        refine lv_istore_n (lv' := [(2, .int (x2_4 + z1_31)), (0, .ref (gA g 58)), (1, .int p1), (3, .int x3_4)]) hx hb dX6_alikeWith_32 rfl hl (by decide) rfl (fun ls hl => ?_)
        replace hl := lv_sub hl [1, 2, 0, 3] (l' := [(0, .ref (gA g 58)), (1, .int p1), (2, .int (x2_4 + z1_31)), (3, .int x3_4)]) rfl
        refine lv_iinc (v := (x3_4 + 1)) (lv' := [(3, .int (x3_4 + 1)), (0, .ref (gA g 58)), (1, .int p1), (2, .int (x2_4 + z1_31))]) hx hb dX6_alikeWith_33 hl (k := 3) rfl rfl (by decide) rfl (fun ls hl => ?_)
        replace hl := lv_sub hl [1, 2, 3, 0] (l' := [(0, .ref (gA g 58)), (1, .int p1), (2, .int (x2_4 + z1_31)), (3, .int (x3_4 + 1))]) rfl
        refine lv_goto (tgt := 4) hx hb dX6_alikeWith_36 (by decide) ?_
        have e1 : (x3_4 + 1).toInt = x3_4.toInt + 1 := addL (k := 1) (by decide +kernel) (by clear hE; omega) (by clear hE; omega)
        exact ih4 (x2_4 + z1_31) (x3_4 + 1) _ _ hG _ (lv_sub hl [0, 1, 2, 3] rfl) (by clear hE; omega) (by clear hE; omega) (by clear hE; omega) hE
      refine lv_icmp_ne (tgt := 30) hx hb dX6_alikeWith_23 (by decide) (fun c_23 => ?_) (fun c_23 => ?_)
      · replace hE := (if_neg c_23).symm.trans hE
        have i_23 : ((mo.2 31) (Int32.toNatClampNeg x3_4)).toInt ≠ ((mo.2 31) (Int32.toNatClampNeg p1)).toInt := fun h => c_23 (Int32.toInt_inj.mp h)
        refine lv_iconst (v := 0) hx hb dX6_alikeWith_30 (by decide) ?_
        exact J31 0 _ _ hG _ (lv_sub hl [0, 1, 3] rfl) hE
      replace hE := (if_pos c_23).symm.trans hE
      have i_23 : ((mo.2 31) (Int32.toNatClampNeg x3_4)).toInt = ((mo.2 31) (Int32.toNatClampNeg p1)).toInt := congrArg Int32.toInt c_23
      refine lv_iconst (v := 1) hx hb dX6_alikeWith_26 (by decide) ?_
      refine lv_goto (tgt := 31) hx hb dX6_alikeWith_27 (by decide) ?_
      exact J31 1 _ _ hG _ (lv_sub hl [0, 1, 3] rfl) hE
  exact L4 25 0 0 _ _ hG _ (lv_sub hl [0, 1, 2, 3] rfl) (by decide) (by decide) (by decide) hE
def F_X6_alone_b25 (K4 : Ob → Int32 → Int32 → Int32) (mo : Ob) (x2 : Int32) (z0 : Int32) (z1 : Int32) : Int32 :=
  (K4 mo (z0 + z1) (x2 + 1))
def F_X6_alone_l4 : Nat → Ob → Int32 → Int32 → Int32
  | 0, _, _, _ => 0
  | n + 1, mo, x1, x2 =>
    (if 24 ≤ x2 then x1 else (if (F_X6_alikeWith mo x2) = 1 then (F_X6_alone_b25 (F_X6_alone_l4 n ) mo x2 x1 1) else (F_X6_alone_b25 (F_X6_alone_l4 n ) mo x2 x1 0)))
def F_X6_alone (mo : Ob) : Int32 :=
  (F_X6_alone_l4 25  mo 0 0)
set_option maxHeartbeats 4000000 in
set_option maxRecDepth 100000 in
theorem c_X6_alone {l : Launch} {g : GG} {sz : Nat} {bb : Ob} {tx rw : Nat → Ob} {sb dy : Ob} {tn : Nat → Ob} {mo : Ob} {jk : Nat → Nat → Int32}    : Met l yX6_alone (Cond.code yX6_alone cX6_alone 3 (some .int) :: TT) (rmL (2)) (va_Pc [.ref (gA g 58)] (gB g sz (gW g bb tx rw sb dy tn mo jk))) (va_Qi (fun r (_ : Unit) => r = (F_X6_alone mo)) (fun u t => gC g (va_A (gW g bb tx rw sb dy tn mo jk) sz) (gW g bb tx rw sb dy tn mo jk) t) (va_A (gW g bb tx rw sb dy tn mo jk) sz)) 0 0 (va_A (gW g bb tx rw sb dy tn mo jk) sz) := by
  generalize hE : F_X6_alone mo = EE
  refine g_of (Qf := fun A => (va_Qi (fun r (_ : Unit) => r = EE) (fun u t => gC g A (gW g bb tx rw sb dy tn mo jk) t) A)) (cc := cX6_alone) (maxL := 3) (ret := (some .int)) (by decide) (Nat.le_of_ble_eq_true rfl) ?_
  intro p e s m below meth c A ls hx hb hml hr hlocks hts hown hA hG hl
  replace hown : s.vm.findClass RX6 = some m.cls := hown
  replace hl : lv_has ls 3 [(0, .ref (gA g 58))] := hl
  show W p l e (rmL (2)) s m [.ref (gA g 58)].toArray below meth c s.heap [] 0 0 (MQ below (va_Qi (fun r (_ : Unit) => r = EE) (fun u t => gC g A (gW g bb tx rw sb dy tn mo jk) t) A) [.ref (gA g 58)].toArray s 0 0 A) (F0 m 0 ls [])
  generalize hQ : MQ below (va_Qi (fun r (_ : Unit) => r = EE) (fun u t => gC g A (gW g bb tx rw sb dy tn mo jk) t) A) [.ref (gA g 58)].toArray s 0 0 A = Q
  unfold F_X6_alone at hE
  refine lv_iconst (v := 0) hx hb dX6_alone_0 (by decide) ?_
  refine lv_istore_n (lv' := [(1, .int 0), (0, .ref (gA g 58))]) hx hb dX6_alone_1 rfl hl (by decide) rfl (fun ls hl => ?_)
  replace hl := lv_sub hl [1, 0] (l' := [(0, .ref (gA g 58)), (1, .int 0)]) rfl
  refine lv_iconst (v := 0) hx hb dX6_alone_2 (by decide) ?_
  refine lv_istore_n (lv' := [(2, .int 0), (0, .ref (gA g 58)), (1, .int 0)]) hx hb dX6_alone_3 rfl hl (by decide) rfl (fun ls hl => ?_)
  replace hl := lv_sub hl [1, 2, 0] (l' := [(0, .ref (gA g 58)), (1, .int 0), (2, .int 0)]) rfl
  have L4 : ∀ (n4 : Nat) (x1_4 : Int32) (x2_4 : Int32) (H : Heap) (locs : List Loc), gS g A s H locs (gW g bb tx rw sb dy tn mo jk) → ∀ ls : Array Slot, lv_has ls 3 [(0, .ref (gA g 58)), (1, .int x1_4), (2, .int x2_4)] → 0 ≤ x2_4.toInt → x2_4.toInt ≤ 24 → 24 < x2_4.toInt + n4 → F_X6_alone_l4 n4  mo x1_4 x2_4 = EE → W p l e (rmL (2)) s m [.ref (gA g 58)].toArray below meth c H locs 0 0 Q (F0 m 4 ls []) := by
    intro n4
    induction n4 with
    | zero =>
      intro x1_4 x2_4 H locs hG ls hl h0_4 h1_4 hm_4 hE
      clear hE; omega
    | succ n4 ih4 =>
      intro x1_4 x2_4 H locs hG ls hl h0_4 h1_4 hm_4 hE
      unfold F_X6_alone_l4 at hE
      refine lv_iload_n hx hb dX6_alone_4 rfl (lv_at hl 2 rfl) ?_
      refine lv_bipush (v := 24) hx hb dX6_alone_5 (by decide) ?_
      refine lv_icmp_ge (tgt := 33) hx hb dX6_alone_7 (by decide) (fun c_7 => ?_) (fun c_7 => ?_)
      · replace hE := (if_pos c_7).symm.trans hE
        have i_7 : 24 ≤ x2_4.toInt := i_le.mp c_7
        refine lv_iload_n hx hb dX6_alone_33 rfl (lv_at hl 1 rfl) ?_
        subst hQ
        exact g_iret hx hb hr hlocks hG () rfl hE dX6_alone_34
      replace hE := (if_neg c_7).symm.trans hE
      have i_7 : x2_4.toInt < 24 := i_nle c_7
      refine lv_iload_n hx hb dX6_alone_10 rfl (lv_at hl 1 rfl) ?_
      refine lv_aload_n hx hb dX6_alone_11 rfl (lv_at hl 0 rfl) ?_
      refine lv_iload_n hx hb dX6_alone_12 rfl (lv_at hl 2 rfl) ?_
      refine g_ci (g_runV (n := 1) (rest := [.int x1_4]) hx hb hml hown hts hG (c_X6_alikeWith x2_4 (show 0 ≤ x2_4.toInt ∧ x2_4.toInt < 24 from by clear hE; omega)) tw_ml_RX6_208 tw_im_X6_alikeWith tw_se_X6_alikeWith tw_in_RX6 tw_cd_X6_alikeWith (by decide +kernel) ⟨rfl, rfl, Nat.le_of_ble_eq_true rfl, Nat.le_of_ble_eq_true rfl⟩ gw_Model rfl rfl hl.1 rfl (Nat.le_of_ble_eq_true rfl) dX6_alone_13 ⟨Nat.le_refl _, Nat.le_refl _⟩) hG hA (fun r _ H locs hp hG => ?_)
      subst hp
      replace hG : gS g A s H locs (gW g bb tx rw sb dy tn mo jk) := hG
      refine lv_iconst (v := 1) hx hb dX6_alone_16 (by decide) ?_
      have J25 : ∀ (z1_25 : Int32) (H : Heap) (locs : List Loc), gS g A s H locs (gW g bb tx rw sb dy tn mo jk) → ∀ ls : Array Slot, lv_has ls 3 [(0, .ref (gA g 58)), (2, .int x2_4)] → F_X6_alone_b25  (F_X6_alone_l4 n4 ) mo x2_4 x1_4 z1_25 = EE → W p l e (rmL (2)) s m [.ref (gA g 58)].toArray below meth c H locs 0 0 Q (F0 m 25 ls [.int z1_25, .int x1_4]) := by
        intro z1_25 H locs hG ls hl  hE
        unfold F_X6_alone_b25 at hE
        refine lv_iadd hx hb dX6_alone_25 ?_
        refine lv_istore_n (lv' := [(1, .int (x1_4 + z1_25)), (0, .ref (gA g 58)), (2, .int x2_4)]) hx hb dX6_alone_26 rfl hl (by decide) rfl (fun ls hl => ?_)
        replace hl := lv_sub hl [1, 0, 2] (l' := [(0, .ref (gA g 58)), (1, .int (x1_4 + z1_25)), (2, .int x2_4)]) rfl
        refine lv_iinc (v := (x2_4 + 1)) (lv' := [(2, .int (x2_4 + 1)), (0, .ref (gA g 58)), (1, .int (x1_4 + z1_25))]) hx hb dX6_alone_27 hl (k := 2) rfl rfl (by decide) rfl (fun ls hl => ?_)
        replace hl := lv_sub hl [1, 2, 0] (l' := [(0, .ref (gA g 58)), (1, .int (x1_4 + z1_25)), (2, .int (x2_4 + 1))]) rfl
        refine lv_goto (tgt := 4) hx hb dX6_alone_30 (by decide) ?_
        have e1 : (x2_4 + 1).toInt = x2_4.toInt + 1 := addL (k := 1) (by decide +kernel) (by clear hE; omega) (by clear hE; omega)
        exact ih4 (x1_4 + z1_25) (x2_4 + 1) _ _ hG _ (lv_sub hl [0, 1, 2] rfl) (by clear hE; omega) (by clear hE; omega) (by clear hE; omega) hE
      refine lv_icmp_ne (tgt := 24) hx hb dX6_alone_17 (by decide) (fun c_17 => ?_) (fun c_17 => ?_)
      · replace hE := (if_neg c_17).symm.trans hE
        refine lv_iconst (v := 0) hx hb dX6_alone_24 (by decide) ?_
        exact J25 0 _ _ hG _ (lv_sub hl [0, 2] rfl) hE
      replace hE := (if_pos c_17).symm.trans hE
      refine lv_iconst (v := 1) hx hb dX6_alone_20 (by decide) ?_
      refine lv_goto (tgt := 25) hx hb dX6_alone_21 (by decide) ?_
      exact J25 1 _ _ hG _ (lv_sub hl [0, 2] rfl) hE
  exact L4 25 0 0 _ _ hG _ (lv_sub hl [0, 1, 2] rfl) (by decide) (by decide) (by decide) hE
def F_X6_longestRow_b75 (K6 : Ob → Int32 → Int32 → Int32 → Int32) (mo : Ob) (x2 : Int32) (x3 : Int32) (z0 : Int32) : Int32 :=
  (K6 mo z0 x2 (x3 + 1))
def F_X6_longestRow_b64 (K6 : Ob → Int32 → Int32 → Int32 → Int32) (mo : Ob) (x1 : Int32) (x3 : Int32) (z0 : Int32) : Int32 :=
  (if z0 ≤ x1 then (F_X6_longestRow_b75 K6 mo z0 x3 x1) else (F_X6_longestRow_b75 K6 mo z0 x3 z0))
def F_X6_longestRow_b52 (K6 : Ob → Int32 → Int32 → Int32 → Int32) (mo : Ob) (x1 : Int32) (x2 : Int32) (x3 : Int32) (x4 : Int32) : Int32 :=
  (if x4 = 0 then (F_X6_longestRow_b64 K6 mo x1 x3 1) else (F_X6_longestRow_b64 K6 mo x1 x3 (x2 + 1)))
def F_X6_longestRow_b50 (K6 : Ob → Int32 → Int32 → Int32 → Int32) (mo : Ob) (x1 : Int32) (x2 : Int32) (x3 : Int32) (z0 : Int32) : Int32 :=
  (F_X6_longestRow_b52 K6 mo x1 x2 x3 z0)
def F_X6_longestRow_b21 (K6 : Ob → Int32 → Int32 → Int32 → Int32) (mo : Ob) (x1 : Int32) (x2 : Int32) (x3 : Int32) (z0 : Int32) : Int32 :=
  (if z0 = 0 then (F_X6_longestRow_b52 K6 mo x1 x2 x3 z0) else (if ((mo.2 31) (Int32.toNatClampNeg x3)) = ((mo.2 31) (Int32.toNatClampNeg (x3 - 1))) then (F_X6_longestRow_b50 K6 mo x1 x2 x3 1) else (F_X6_longestRow_b50 K6 mo x1 x2 x3 0)))
def F_X6_longestRow_l6 : Nat → Ob → Int32 → Int32 → Int32 → Int32
  | 0, _, _, _, _ => 0
  | n + 1, mo, x1, x2, x3 =>
    (if 24 ≤ x3 then x1 else (if x3 ≤ 0 then (F_X6_longestRow_b21 (F_X6_longestRow_l6 n ) mo x1 x2 x3 0) else (F_X6_longestRow_b21 (F_X6_longestRow_l6 n ) mo x1 x2 x3 1)))
def F_X6_longestRow (mo : Ob) : Int32 :=
  (F_X6_longestRow_l6 25  mo 0 0 0)
set_option maxHeartbeats 4000000 in
set_option maxRecDepth 100000 in
theorem c_X6_longestRow {l : Launch} {g : GG} {sz : Nat} {bb : Ob} {tx rw : Nat → Ob} {sb dy : Ob} {tn : Nat → Ob} {mo : Ob} {jk : Nat → Nat → Int32}    : Met l yX6_longestRow (Cond.code yX6_longestRow cX6_longestRow 5 (some .int) :: TT) (rmL (1)) (va_Pc [.ref (gA g 58)] (gB g sz (gW g bb tx rw sb dy tn mo jk))) (va_Qi (fun r (_ : Unit) => r = (F_X6_longestRow mo)) (fun u t => gC g (va_A (gW g bb tx rw sb dy tn mo jk) sz) (gW g bb tx rw sb dy tn mo jk) t) (va_A (gW g bb tx rw sb dy tn mo jk) sz)) 0 0 (va_A (gW g bb tx rw sb dy tn mo jk) sz) := by
  generalize hE : F_X6_longestRow mo = EE
  refine g_of (Qf := fun A => (va_Qi (fun r (_ : Unit) => r = EE) (fun u t => gC g A (gW g bb tx rw sb dy tn mo jk) t) A)) (cc := cX6_longestRow) (maxL := 5) (ret := (some .int)) (by decide) (Nat.le_of_ble_eq_true rfl) ?_
  intro p e s m below meth c A ls hx hb hml hr hlocks hts hown hA hG hl
  replace hown : s.vm.findClass RX6 = some m.cls := hown
  replace hl : lv_has ls 5 [(0, .ref (gA g 58))] := hl
  show W p l e (rmL (1)) s m [.ref (gA g 58)].toArray below meth c s.heap [] 0 0 (MQ below (va_Qi (fun r (_ : Unit) => r = EE) (fun u t => gC g A (gW g bb tx rw sb dy tn mo jk) t) A) [.ref (gA g 58)].toArray s 0 0 A) (F0 m 0 ls [])
  generalize hQ : MQ below (va_Qi (fun r (_ : Unit) => r = EE) (fun u t => gC g A (gW g bb tx rw sb dy tn mo jk) t) A) [.ref (gA g 58)].toArray s 0 0 A = Q
  unfold F_X6_longestRow at hE
  refine lv_iconst (v := 0) hx hb dX6_longestRow_0 (by decide) ?_
  refine lv_istore_n (lv' := [(1, .int 0), (0, .ref (gA g 58))]) hx hb dX6_longestRow_1 rfl hl (by decide) rfl (fun ls hl => ?_)
  replace hl := lv_sub hl [1, 0] (l' := [(0, .ref (gA g 58)), (1, .int 0)]) rfl
  refine lv_iconst (v := 0) hx hb dX6_longestRow_2 (by decide) ?_
  refine lv_istore_n (lv' := [(2, .int 0), (0, .ref (gA g 58)), (1, .int 0)]) hx hb dX6_longestRow_3 rfl hl (by decide) rfl (fun ls hl => ?_)
  replace hl := lv_sub hl [1, 2, 0] (l' := [(0, .ref (gA g 58)), (1, .int 0), (2, .int 0)]) rfl
  refine lv_iconst (v := 0) hx hb dX6_longestRow_4 (by decide) ?_
  refine lv_istore_n (lv' := [(3, .int 0), (0, .ref (gA g 58)), (1, .int 0), (2, .int 0)]) hx hb dX6_longestRow_5 rfl hl (by decide) rfl (fun ls hl => ?_)
  replace hl := lv_sub hl [1, 2, 3, 0] (l' := [(0, .ref (gA g 58)), (1, .int 0), (2, .int 0), (3, .int 0)]) rfl
  have L6 : ∀ (n6 : Nat) (x1_6 : Int32) (x2_6 : Int32) (x3_6 : Int32) (H : Heap) (locs : List Loc), gS g A s H locs (gW g bb tx rw sb dy tn mo jk) → ∀ ls : Array Slot, lv_has ls 5 [(0, .ref (gA g 58)), (1, .int x1_6), (2, .int x2_6), (3, .int x3_6)] → 0 ≤ x3_6.toInt → x3_6.toInt ≤ 24 → 24 < x3_6.toInt + n6 → F_X6_longestRow_l6 n6  mo x1_6 x2_6 x3_6 = EE → W p l e (rmL (1)) s m [.ref (gA g 58)].toArray below meth c H locs 0 0 Q (F0 m 6 ls []) := by
    intro n6
    induction n6 with
    | zero =>
      intro x1_6 x2_6 x3_6 H locs hG ls hl h0_6 h1_6 hm_6 hE
      clear hE; omega
    | succ n6 ih6 =>
      intro x1_6 x2_6 x3_6 H locs hG ls hl h0_6 h1_6 hm_6 hE
      unfold F_X6_longestRow_l6 at hE
      refine lv_iload_n hx hb dX6_longestRow_6 rfl (lv_at hl 3 rfl) ?_
      refine lv_bipush (v := 24) hx hb dX6_longestRow_7 (by decide) ?_
      refine lv_icmp_ge (tgt := 82) hx hb dX6_longestRow_9 (by decide) (fun c_9 => ?_) (fun c_9 => ?_)
      · replace hE := (if_pos c_9).symm.trans hE
        have i_9 : 24 ≤ x3_6.toInt := i_le.mp c_9
        refine lv_iload_n hx hb dX6_longestRow_82 rfl (lv_at hl 1 rfl) ?_
        subst hQ
        exact g_iret hx hb hr hlocks hG () rfl hE dX6_longestRow_83
      replace hE := (if_neg c_9).symm.trans hE
      have i_9 : x3_6.toInt < 24 := i_nle c_9
      refine lv_iload_n hx hb dX6_longestRow_12 rfl (lv_at hl 3 rfl) ?_
      have J21 : ∀ (z0_21 : Int32) (H : Heap) (locs : List Loc), gS g A s H locs (gW g bb tx rw sb dy tn mo jk) → ∀ ls : Array Slot, lv_has ls 5 [(0, .ref (gA g 58)), (1, .int x1_6), (2, .int x2_6), (3, .int x3_6)] → z0_21.toInt = 0 ∨ 0 < x3_6.toInt → F_X6_longestRow_b21  (F_X6_longestRow_l6 n6 ) mo x1_6 x2_6 x3_6 z0_21 = EE → W p l e (rmL (1)) s m [.ref (gA g 58)].toArray below meth c H locs 0 0 Q (F0 m 21 ls [.int z0_21]) := by
        intro z0_21 H locs hG ls hl hj21 hE
        unfold F_X6_longestRow_b21 at hE
        refine lv_istore (lv' := [(4, .int z0_21), (0, .ref (gA g 58)), (1, .int x1_6), (2, .int x2_6), (3, .int x3_6)]) hx hb dX6_longestRow_21 hl (by decide) rfl (fun ls hl => ?_)
        replace hl := lv_sub hl [1, 2, 3, 4, 0] (l' := [(0, .ref (gA g 58)), (1, .int x1_6), (2, .int x2_6), (3, .int x3_6), (4, .int z0_21)]) rfl
        refine lv_iload hx hb dX6_longestRow_23 (lv_at hl 4 rfl) ?_
        have J52 : ∀ (x4_52 : Int32) (H : Heap) (locs : List Loc), gS g A s H locs (gW g bb tx rw sb dy tn mo jk) → ∀ ls : Array Slot, lv_has ls 5 [(0, .ref (gA g 58)), (1, .int x1_6), (2, .int x2_6), (3, .int x3_6), (4, .int x4_52)] → F_X6_longestRow_b52  (F_X6_longestRow_l6 n6 ) mo x1_6 x2_6 x3_6 x4_52 = EE → W p l e (rmL (1)) s m [.ref (gA g 58)].toArray below meth c H locs 0 0 Q (F0 m 52 ls []) := by
          intro x4_52 H locs hG ls hl  hE
          unfold F_X6_longestRow_b52 at hE
          refine lv_iload hx hb dX6_longestRow_52 (lv_at hl 4 rfl) ?_
          have J64 : ∀ (z0_64 : Int32) (H : Heap) (locs : List Loc), gS g A s H locs (gW g bb tx rw sb dy tn mo jk) → ∀ ls : Array Slot, lv_has ls 5 [(0, .ref (gA g 58)), (1, .int x1_6), (3, .int x3_6)] → F_X6_longestRow_b64  (F_X6_longestRow_l6 n6 ) mo x1_6 x3_6 z0_64 = EE → W p l e (rmL (1)) s m [.ref (gA g 58)].toArray below meth c H locs 0 0 Q (F0 m 64 ls [.int z0_64]) := by
            intro z0_64 H locs hG ls hl  hE
            unfold F_X6_longestRow_b64 at hE
            refine lv_istore_n (lv' := [(2, .int z0_64), (0, .ref (gA g 58)), (1, .int x1_6), (3, .int x3_6)]) hx hb dX6_longestRow_64 rfl hl (by decide) rfl (fun ls hl => ?_)
            replace hl := lv_sub hl [1, 2, 0, 3] (l' := [(0, .ref (gA g 58)), (1, .int x1_6), (2, .int z0_64), (3, .int x3_6)]) rfl
            refine lv_iload_n hx hb dX6_longestRow_65 rfl (lv_at hl 2 rfl) ?_
            refine lv_iload_n hx hb dX6_longestRow_66 rfl (lv_at hl 1 rfl) ?_
            have J75 : ∀ (z0_75 : Int32) (H : Heap) (locs : List Loc), gS g A s H locs (gW g bb tx rw sb dy tn mo jk) → ∀ ls : Array Slot, lv_has ls 5 [(0, .ref (gA g 58)), (2, .int z0_64), (3, .int x3_6)] → F_X6_longestRow_b75  (F_X6_longestRow_l6 n6 ) mo z0_64 x3_6 z0_75 = EE → W p l e (rmL (1)) s m [.ref (gA g 58)].toArray below meth c H locs 0 0 Q (F0 m 75 ls [.int z0_75]) := by
              intro z0_75 H locs hG ls hl  hE
              unfold F_X6_longestRow_b75 at hE
              refine lv_istore_n (lv' := [(1, .int z0_75), (0, .ref (gA g 58)), (2, .int z0_64), (3, .int x3_6)]) hx hb dX6_longestRow_75 rfl hl (by decide) rfl (fun ls hl => ?_)
              replace hl := lv_sub hl [1, 0, 2, 3] (l' := [(0, .ref (gA g 58)), (1, .int z0_75), (2, .int z0_64), (3, .int x3_6)]) rfl
              refine lv_iinc (v := (x3_6 + 1)) (lv' := [(3, .int (x3_6 + 1)), (0, .ref (gA g 58)), (1, .int z0_75), (2, .int z0_64)]) hx hb dX6_longestRow_76 hl (k := 3) rfl rfl (by decide) rfl (fun ls hl => ?_)
              replace hl := lv_sub hl [1, 2, 3, 0] (l' := [(0, .ref (gA g 58)), (1, .int z0_75), (2, .int z0_64), (3, .int (x3_6 + 1))]) rfl
              refine lv_goto (tgt := 6) hx hb dX6_longestRow_79 (by decide) ?_
              have e1 : (x3_6 + 1).toInt = x3_6.toInt + 1 := addL (k := 1) (by decide +kernel) (by clear hE; omega) (by clear hE; omega)
              exact ih6 z0_75 z0_64 (x3_6 + 1) _ _ hG _ (lv_sub hl [0, 1, 2, 3] rfl) (by clear hE; omega) (by clear hE; omega) (by clear hE; omega) hE
            refine lv_icmp_le (tgt := 74) hx hb dX6_longestRow_67 (by decide) (fun c_67 => ?_) (fun c_67 => ?_)
            · replace hE := (if_pos c_67).symm.trans hE
              have i_67 : z0_64.toInt ≤ x1_6.toInt := i_le.mp c_67
              refine lv_iload_n hx hb dX6_longestRow_74 rfl (lv_at hl 1 rfl) ?_
              exact J75 x1_6 _ _ hG _ (lv_sub hl [0, 2, 3] rfl) hE
            replace hE := (if_neg c_67).symm.trans hE
            have i_67 : x1_6.toInt < z0_64.toInt := i_nle c_67
            refine lv_iload_n hx hb dX6_longestRow_70 rfl (lv_at hl 2 rfl) ?_
            refine lv_goto (tgt := 75) hx hb dX6_longestRow_71 (by decide) ?_
            exact J75 z0_64 _ _ hG _ (lv_sub hl [0, 2, 3] rfl) hE
          refine lv_if_eq (tgt := 63) hx hb dX6_longestRow_54 (by decide) (fun c_54 => ?_) (fun c_54 => ?_)
          · replace hE := (if_pos c_54).symm.trans hE
            have i_54 : x4_52.toInt = 0 := congrArg Int32.toInt c_54
            refine lv_iconst (v := 1) hx hb dX6_longestRow_63 (by decide) ?_
            exact J64 1 _ _ hG _ (lv_sub hl [0, 1, 3] rfl) hE
          replace hE := (if_neg c_54).symm.trans hE
          have i_54 : x4_52.toInt ≠ 0 := fun h => c_54 (Int32.toInt_inj.mp h)
          refine lv_iload_n hx hb dX6_longestRow_57 rfl (lv_at hl 2 rfl) ?_
          refine lv_iconst (v := 1) hx hb dX6_longestRow_58 (by decide) ?_
          refine lv_iadd hx hb dX6_longestRow_59 ?_
          refine lv_goto (tgt := 64) hx hb dX6_longestRow_60 (by decide) ?_
          exact J64 (x2_6 + 1) _ _ hG _ (lv_sub hl [0, 1, 3] rfl) hE
        refine lv_if_eq (tgt := 52) hx hb dX6_longestRow_25 (by decide) (fun c_25 => ?_) (fun c_25 => ?_)
        · replace hE := (if_pos c_25).symm.trans hE
          have i_25 : z0_21.toInt = 0 := congrArg Int32.toInt c_25
          exact J52 z0_21 _ _ hG _ (lv_sub hl [0, 1, 2, 3, 4] rfl) hE
        replace hE := (if_neg c_25).symm.trans hE
        have i_25 : z0_21.toInt ≠ 0 := fun h => c_25 (Int32.toInt_inj.mp h)
        refine lv_aload_n hx hb dX6_longestRow_28 rfl (lv_at hl 0 rfl) ?_
        refine g_get hx hb hts hiX6 hown hG gw_Model rfl 31 (by decide) (index := 64) tw_fl_RX6_64 (v := .ref (gA g 77)) rfl dX6_longestRow_29 ?_
        refine lv_iload_n hx hb dX6_longestRow_32 rfl (lv_at hl 3 rfl) ?_
        refine g_ild (f := (mo.2 31)) hx hb hG gw_Model_a31 (show vp_in x3_6 24 from (vp_i (by clear hE; omega) (by clear hE; omega))) dX6_longestRow_33 ?_
        refine lv_aload_n hx hb dX6_longestRow_34 rfl (lv_at hl 0 rfl) ?_
        refine g_get hx hb hts hiX6 hown hG gw_Model rfl 31 (by decide) (index := 64) tw_fl_RX6_64 (v := .ref (gA g 77)) rfl dX6_longestRow_35 ?_
        refine lv_iload_n hx hb dX6_longestRow_38 rfl (lv_at hl 3 rfl) ?_
        refine lv_iconst (v := 1) hx hb dX6_longestRow_39 (by decide) ?_
        refine lv_isub hx hb dX6_longestRow_40 ?_
        have e2 : (x3_6 - 1).toInt = x3_6.toInt - 1 := subL (k := 1) (by decide +kernel) (by clear hE; omega) (by clear hE; omega)
        refine g_ild (f := (mo.2 31)) hx hb hG gw_Model_a31 (show vp_in (x3_6 - 1) 24 from (vp_i (by clear hE; omega) (by clear hE; omega))) dX6_longestRow_41 ?_
        have J50 : ∀ (z0_50 : Int32) (H : Heap) (locs : List Loc), gS g A s H locs (gW g bb tx rw sb dy tn mo jk) → ∀ ls : Array Slot, lv_has ls 5 [(0, .ref (gA g 58)), (1, .int x1_6), (2, .int x2_6), (3, .int x3_6)] → F_X6_longestRow_b50  (F_X6_longestRow_l6 n6 ) mo x1_6 x2_6 x3_6 z0_50 = EE → W p l e (rmL (1)) s m [.ref (gA g 58)].toArray below meth c H locs 0 0 Q (F0 m 50 ls [.int z0_50]) := by
          intro z0_50 H locs hG ls hl  hE
          unfold F_X6_longestRow_b50 at hE
          refine lv_istore (lv' := [(4, .int z0_50), (0, .ref (gA g 58)), (1, .int x1_6), (2, .int x2_6), (3, .int x3_6)]) hx hb dX6_longestRow_50 hl (by decide) rfl (fun ls hl => ?_)
          replace hl := lv_sub hl [1, 2, 3, 4, 0] (l' := [(0, .ref (gA g 58)), (1, .int x1_6), (2, .int x2_6), (3, .int x3_6), (4, .int z0_50)]) rfl
          exact J52 z0_50 _ _ hG _ (lv_sub hl [0, 1, 2, 3, 4] rfl) hE
        refine lv_icmp_ne (tgt := 49) hx hb dX6_longestRow_42 (by decide) (fun c_42 => ?_) (fun c_42 => ?_)
        · replace hE := (if_neg c_42).symm.trans hE
          have i_42 : ((mo.2 31) (Int32.toNatClampNeg x3_6)).toInt ≠ ((mo.2 31) (Int32.toNatClampNeg (x3_6 - 1))).toInt := fun h => c_42 (Int32.toInt_inj.mp h)
          refine lv_iconst (v := 0) hx hb dX6_longestRow_49 (by decide) ?_
          exact J50 0 _ _ hG _ (lv_sub hl [0, 1, 2, 3] rfl) hE
        replace hE := (if_pos c_42).symm.trans hE
        have i_42 : ((mo.2 31) (Int32.toNatClampNeg x3_6)).toInt = ((mo.2 31) (Int32.toNatClampNeg (x3_6 - 1))).toInt := congrArg Int32.toInt c_42
        refine lv_iconst (v := 1) hx hb dX6_longestRow_45 (by decide) ?_
        refine lv_goto (tgt := 50) hx hb dX6_longestRow_46 (by decide) ?_
        exact J50 1 _ _ hG _ (lv_sub hl [0, 1, 2, 3] rfl) hE
      refine lv_if_le (tgt := 20) hx hb dX6_longestRow_13 (by decide) (fun c_13 => ?_) (fun c_13 => ?_)
      · replace hE := (if_pos c_13).symm.trans hE
        have i_13 : x3_6.toInt ≤ 0 := i_le.mp c_13
        refine lv_iconst (v := 0) hx hb dX6_longestRow_20 (by decide) ?_
        exact J21 0 _ _ hG _ (lv_sub hl [0, 1, 2, 3] rfl) (by first | exact Or.inl rfl | exact Or.inr (by clear hE; omega)) hE
      replace hE := (if_neg c_13).symm.trans hE
      have i_13 : 0 < x3_6.toInt := i_nle c_13
      refine lv_iconst (v := 1) hx hb dX6_longestRow_16 (by decide) ?_
      refine lv_goto (tgt := 21) hx hb dX6_longestRow_17 (by decide) ?_
      exact J21 1 _ _ hG _ (lv_sub hl [0, 1, 2, 3] rfl) (by first | exact Or.inl rfl | exact Or.inr (by clear hE; omega)) hE
  exact L6 25 0 0 0 _ _ hG _ (lv_sub hl [0, 1, 2, 3] rfl) (by decide) (by decide) (by decide) hE
def F_X6_mostHour_b30 (K4 : Ob → Int32 → Int32 → Int32) (mo : Ob) (x2 : Int32) (z0 : Int32) : Int32 :=
  (K4 mo z0 (x2 + 1))
def F_X6_mostHour_l4 : Nat → Ob → Int32 → Int32 → Int32
  | 0, _, _, _ => 0
  | n + 1, mo, x1, x2 =>
    (if 24 ≤ x2 then x1 else (if ((mo.2 31) (Int32.toNatClampNeg x2)) ≤ ((mo.2 31) (Int32.toNatClampNeg x1)) then (F_X6_mostHour_b30 (F_X6_mostHour_l4 n ) mo x2 x1) else (F_X6_mostHour_b30 (F_X6_mostHour_l4 n ) mo x2 x2)))
def F_X6_mostHour (mo : Ob) : Int32 :=
  (F_X6_mostHour_l4 24  mo 0 1)
set_option maxHeartbeats 4000000 in
set_option maxRecDepth 100000 in
theorem c_X6_mostHour {l : Launch} {g : GG} {sz : Nat} {bb : Ob} {tx rw : Nat → Ob} {sb dy : Ob} {tn : Nat → Ob} {mo : Ob} {jk : Nat → Nat → Int32}    : Met l yX6_mostHour (Cond.code yX6_mostHour cX6_mostHour 3 (some .int) :: TT) (rmL (1)) (va_Pc [.ref (gA g 58)] (gB g sz (gW g bb tx rw sb dy tn mo jk))) (va_Qi (fun r (_ : Unit) => r = (F_X6_mostHour mo)) (fun u t => gC g (va_A (gW g bb tx rw sb dy tn mo jk) sz) (gW g bb tx rw sb dy tn mo jk) t) (va_A (gW g bb tx rw sb dy tn mo jk) sz)) 0 0 (va_A (gW g bb tx rw sb dy tn mo jk) sz) := by
  generalize hE : F_X6_mostHour mo = EE
  refine g_of (Qf := fun A => (va_Qi (fun r (_ : Unit) => r = EE) (fun u t => gC g A (gW g bb tx rw sb dy tn mo jk) t) A)) (cc := cX6_mostHour) (maxL := 3) (ret := (some .int)) (by decide) (Nat.le_of_ble_eq_true rfl) ?_
  intro p e s m below meth c A ls hx hb hml hr hlocks hts hown hA hG hl
  replace hown : s.vm.findClass RX6 = some m.cls := hown
  replace hl : lv_has ls 3 [(0, .ref (gA g 58))] := hl
  show W p l e (rmL (1)) s m [.ref (gA g 58)].toArray below meth c s.heap [] 0 0 (MQ below (va_Qi (fun r (_ : Unit) => r = EE) (fun u t => gC g A (gW g bb tx rw sb dy tn mo jk) t) A) [.ref (gA g 58)].toArray s 0 0 A) (F0 m 0 ls [])
  generalize hQ : MQ below (va_Qi (fun r (_ : Unit) => r = EE) (fun u t => gC g A (gW g bb tx rw sb dy tn mo jk) t) A) [.ref (gA g 58)].toArray s 0 0 A = Q
  unfold F_X6_mostHour at hE
  refine lv_iconst (v := 0) hx hb dX6_mostHour_0 (by decide) ?_
  refine lv_istore_n (lv' := [(1, .int 0), (0, .ref (gA g 58))]) hx hb dX6_mostHour_1 rfl hl (by decide) rfl (fun ls hl => ?_)
  replace hl := lv_sub hl [1, 0] (l' := [(0, .ref (gA g 58)), (1, .int 0)]) rfl
  refine lv_iconst (v := 1) hx hb dX6_mostHour_2 (by decide) ?_
  refine lv_istore_n (lv' := [(2, .int 1), (0, .ref (gA g 58)), (1, .int 0)]) hx hb dX6_mostHour_3 rfl hl (by decide) rfl (fun ls hl => ?_)
  replace hl := lv_sub hl [1, 2, 0] (l' := [(0, .ref (gA g 58)), (1, .int 0), (2, .int 1)]) rfl
  have L4 : ∀ (n4 : Nat) (x1_4 : Int32) (x2_4 : Int32) (H : Heap) (locs : List Loc), gS g A s H locs (gW g bb tx rw sb dy tn mo jk) → ∀ ls : Array Slot, lv_has ls 3 [(0, .ref (gA g 58)), (1, .int x1_4), (2, .int x2_4)] → 1 ≤ x2_4.toInt → x2_4.toInt ≤ 24 → 24 < x2_4.toInt + n4 → 0 ≤ x1_4.toInt ∧ x1_4.toInt < 24 → F_X6_mostHour_l4 n4  mo x1_4 x2_4 = EE → W p l e (rmL (1)) s m [.ref (gA g 58)].toArray below meth c H locs 0 0 Q (F0 m 4 ls []) := by
    intro n4
    induction n4 with
    | zero =>
      intro x1_4 x2_4 H locs hG ls hl h0_4 h1_4 hm_4 hb4 hE
      clear hE; omega
    | succ n4 ih4 =>
      intro x1_4 x2_4 H locs hG ls hl h0_4 h1_4 hm_4 hb4 hE
      unfold F_X6_mostHour_l4 at hE
      refine lv_iload_n hx hb dX6_mostHour_4 rfl (lv_at hl 2 rfl) ?_
      refine lv_bipush (v := 24) hx hb dX6_mostHour_5 (by decide) ?_
      refine lv_icmp_ge (tgt := 37) hx hb dX6_mostHour_7 (by decide) (fun c_7 => ?_) (fun c_7 => ?_)
      · replace hE := (if_pos c_7).symm.trans hE
        have i_7 : 24 ≤ x2_4.toInt := i_le.mp c_7
        refine lv_iload_n hx hb dX6_mostHour_37 rfl (lv_at hl 1 rfl) ?_
        subst hQ
        exact g_iret hx hb hr hlocks hG () rfl hE dX6_mostHour_38
      replace hE := (if_neg c_7).symm.trans hE
      have i_7 : x2_4.toInt < 24 := i_nle c_7
      refine lv_aload_n hx hb dX6_mostHour_10 rfl (lv_at hl 0 rfl) ?_
      refine g_get hx hb hts hiX6 hown hG gw_Model rfl 31 (by decide) (index := 64) tw_fl_RX6_64 (v := .ref (gA g 77)) rfl dX6_mostHour_11 ?_
      refine lv_iload_n hx hb dX6_mostHour_14 rfl (lv_at hl 2 rfl) ?_
      refine g_ild (f := (mo.2 31)) hx hb hG gw_Model_a31 (show vp_in x2_4 24 from (vp_i (by clear hE; omega) (by clear hE; omega))) dX6_mostHour_15 ?_
      refine lv_aload_n hx hb dX6_mostHour_16 rfl (lv_at hl 0 rfl) ?_
      refine g_get hx hb hts hiX6 hown hG gw_Model rfl 31 (by decide) (index := 64) tw_fl_RX6_64 (v := .ref (gA g 77)) rfl dX6_mostHour_17 ?_
      refine lv_iload_n hx hb dX6_mostHour_20 rfl (lv_at hl 1 rfl) ?_
      refine g_ild (f := (mo.2 31)) hx hb hG gw_Model_a31 (show vp_in x1_4 24 from (vp_i (by clear hE; omega) (by clear hE; omega))) dX6_mostHour_21 ?_
      have J30 : ∀ (z0_30 : Int32) (H : Heap) (locs : List Loc), gS g A s H locs (gW g bb tx rw sb dy tn mo jk) → ∀ ls : Array Slot, lv_has ls 3 [(0, .ref (gA g 58)), (2, .int x2_4)] → 0 ≤ z0_30.toInt ∧ z0_30.toInt < 24 → F_X6_mostHour_b30  (F_X6_mostHour_l4 n4 ) mo x2_4 z0_30 = EE → W p l e (rmL (1)) s m [.ref (gA g 58)].toArray below meth c H locs 0 0 Q (F0 m 30 ls [.int z0_30]) := by
        intro z0_30 H locs hG ls hl hj30 hE
        unfold F_X6_mostHour_b30 at hE
        refine lv_istore_n (lv' := [(1, .int z0_30), (0, .ref (gA g 58)), (2, .int x2_4)]) hx hb dX6_mostHour_30 rfl hl (by decide) rfl (fun ls hl => ?_)
        replace hl := lv_sub hl [1, 0, 2] (l' := [(0, .ref (gA g 58)), (1, .int z0_30), (2, .int x2_4)]) rfl
        refine lv_iinc (v := (x2_4 + 1)) (lv' := [(2, .int (x2_4 + 1)), (0, .ref (gA g 58)), (1, .int z0_30)]) hx hb dX6_mostHour_31 hl (k := 2) rfl rfl (by decide) rfl (fun ls hl => ?_)
        replace hl := lv_sub hl [1, 2, 0] (l' := [(0, .ref (gA g 58)), (1, .int z0_30), (2, .int (x2_4 + 1))]) rfl
        refine lv_goto (tgt := 4) hx hb dX6_mostHour_34 (by decide) ?_
        have e1 : (x2_4 + 1).toInt = x2_4.toInt + 1 := addL (k := 1) (by decide +kernel) (by clear hE; omega) (by clear hE; omega)
        exact ih4 z0_30 (x2_4 + 1) _ _ hG _ (lv_sub hl [0, 1, 2] rfl) (by clear hE; omega) (by clear hE; omega) (by clear hE; omega) hj30 hE
      refine lv_icmp_le (tgt := 29) hx hb dX6_mostHour_22 (by decide) (fun c_22 => ?_) (fun c_22 => ?_)
      · replace hE := (if_pos c_22).symm.trans hE
        have i_22 : ((mo.2 31) (Int32.toNatClampNeg x2_4)).toInt ≤ ((mo.2 31) (Int32.toNatClampNeg x1_4)).toInt := i_le.mp c_22
        refine lv_iload_n hx hb dX6_mostHour_29 rfl (lv_at hl 1 rfl) ?_
        exact J30 x1_4 _ _ hG _ (lv_sub hl [0, 2] rfl) (by clear hE; omega) hE
      replace hE := (if_neg c_22).symm.trans hE
      have i_22 : ((mo.2 31) (Int32.toNatClampNeg x1_4)).toInt < ((mo.2 31) (Int32.toNatClampNeg x2_4)).toInt := i_nle c_22
      refine lv_iload_n hx hb dX6_mostHour_25 rfl (lv_at hl 2 rfl) ?_
      refine lv_goto (tgt := 30) hx hb dX6_mostHour_26 (by decide) ?_
      exact J30 x2_4 _ _ hG _ (lv_sub hl [0, 2] rfl) (by clear hE; omega) hE
  exact L4 24 0 1 _ _ hG _ (lv_sub hl [0, 1, 2] rfl) (by decide) (by decide) (by decide) (by decide) hE
theorem mostHour_in (m : Ob) : 0 ≤ (F_X6_mostHour m).toInt ∧ (F_X6_mostHour m).toInt < 24 := by
  have k : ∀ (n : Nat) (b x : Int32), 0 ≤ b.toInt ∧ b.toInt < 24 → 1 ≤ x.toInt → x.toInt ≤ 24 → 24 < x.toInt + n → 0 ≤ (F_X6_mostHour_l4 n m b x).toInt ∧ (F_X6_mostHour_l4 n m b x).toInt < 24 := by
    intro n
    induction n with
    | zero => intro b x _ _ _ _; omega
    | succ n ih =>
      intro b x hb h0 h1 h2
      unfold F_X6_mostHour_l4
      split
      · exact hb
      · rename_i c
        obtain ⟨u1, u2⟩ := up1 c (B := 24) (by decide) (by omega) (by decide)
        split
        · exact ih _ _ hb (by omega) (by omega) (by omega)
        · exact ih _ _ ⟨by omega, by omega⟩ (by omega) (by omega) (by omega)
  exact k 24 0 1 (by decide) (by decide) (by decide) (by decide)
theorem shl0_le {m : Ob} (h : 0 ≤ (m.1 0).toInt ∧ (m.1 0).toInt ≤ 6) : (1 <<< ((m.1 0) &&& 31) : Int32).toInt ≤ 64 := shl_le (T := (fun _ => m.1 0, m.2)) h
theorem lcmp_eq {y : Int64} (h : lg_cmp y 0 = 0) : y = 0 := by
  unfold lg_cmp at h
  split at h
  · exact absurd h (by decide)
  · split at h
    · assumption
    · exact absurd h (by decide)
theorem i2l_toInt (x : Int32) : (Int32.toInt64 x).toInt = x.toInt := Int32.toInt_toInt64 x
theorem i2l_abs (x : Int32) : (Int32.toInt64 x).toInt.natAbs ≤ 2147483648 := by
  rw [i2l_toInt]
  have := fb_rng x
  omega
theorem lrem_eq {x y : Int64} (hx : x.toInt.natAbs ≤ 2147483648) (hy : y.toInt.natAbs ≤ 2147483648) (hn : y ≠ 0) : (x - x / y * y).toInt = x.toInt.tmod y.toInt := by
  have hd : (x.toInt.tdiv y.toInt).natAbs ≤ 2147483648 := by
    rw [Int.natAbs_tdiv]
    exact Nat.le_trans (Nat.div_le_self _ _) hx
  have hm := Int.mul_tdiv_add_tmod x.toInt y.toInt
  have hlt : (x.toInt.tmod y.toInt).natAbs ≤ 2147483648 := by
    rw [Int.natAbs_tmod]
    exact Nat.le_trans (Nat.mod_le _ _) hx
  have bm : ∀ z : Int, z.natAbs ≤ 4294967296 → z.bmod (2 ^ 64) = z := fun z hz => by
    rw [Int.bmod_eq_of_le (by omega) (by omega)]
  have e1 : (x / y).toInt = x.toInt.tdiv y.toInt := by
    rw [Int64.toInt_div]
    exact bm _ (by omega)
  have hp : x.toInt.tdiv y.toInt * y.toInt = x.toInt - x.toInt.tmod y.toInt := by
    rw [Int.mul_comm]
    omega
  have e2 : (x / y * y).toInt = x.toInt - x.toInt.tmod y.toInt := by
    rw [Int64.toInt_mul, e1, hp]
    exact bm _ (by omega)
  rw [Int64.toInt_sub, e2, bm _ (by omega)]
  omega
theorem lrem_lt {x y : Int64} (hx : x.toInt.natAbs ≤ 2147483648) (hy : y.toInt.natAbs ≤ 2147483648) (hn : y ≠ 0) : (x - x / y * y).toInt.natAbs < y.toInt.natAbs := by
  rw [lrem_eq hx hy hn, Int.natAbs_tmod]
  refine Nat.mod_lt _ ?_
  have : y.toInt ≠ 0 := fun q => hn (Int64.toInt_inj.mp q)
  omega

def F_X6_silent_b25 (K4 : Ob → Int32 → Int32 → Int32) (mo : Ob) (x2 : Int32) (z0 : Int32) (z1 : Int32) : Int32 :=
  (K4 mo (z0 + z1) (x2 + 1))
def F_X6_silent_l4 : Nat → Ob → Int32 → Int32 → Int32
  | 0, _, _, _ => 0
  | n + 1, mo, x1, x2 =>
    (if 24 ≤ x2 then x1 else (if ((mo.2 31) (Int32.toNatClampNeg x2)) = 0 then (F_X6_silent_b25 (F_X6_silent_l4 n ) mo x2 x1 1) else (F_X6_silent_b25 (F_X6_silent_l4 n ) mo x2 x1 0)))
def F_X6_silent (mo : Ob) : Int32 :=
  (F_X6_silent_l4 25  mo 0 0)
set_option maxHeartbeats 4000000 in
set_option maxRecDepth 100000 in
theorem c_X6_silent {l : Launch} {g : GG} {sz : Nat} {bb : Ob} {tx rw : Nat → Ob} {sb dy : Ob} {tn : Nat → Ob} {mo : Ob} {jk : Nat → Nat → Int32}    : Met l yX6_silent (Cond.code yX6_silent cX6_silent 3 (some .int) :: TT) (rmL (1)) (va_Pc [.ref (gA g 58)] (gB g sz (gW g bb tx rw sb dy tn mo jk))) (va_Qi (fun r (_ : Unit) => r = (F_X6_silent mo)) (fun u t => gC g (va_A (gW g bb tx rw sb dy tn mo jk) sz) (gW g bb tx rw sb dy tn mo jk) t) (va_A (gW g bb tx rw sb dy tn mo jk) sz)) 0 0 (va_A (gW g bb tx rw sb dy tn mo jk) sz) := by
  generalize hE : F_X6_silent mo = EE
  refine g_of (Qf := fun A => (va_Qi (fun r (_ : Unit) => r = EE) (fun u t => gC g A (gW g bb tx rw sb dy tn mo jk) t) A)) (cc := cX6_silent) (maxL := 3) (ret := (some .int)) (by decide) (Nat.le_of_ble_eq_true rfl) ?_
  intro p e s m below meth c A ls hx hb hml hr hlocks hts hown hA hG hl
  replace hown : s.vm.findClass RX6 = some m.cls := hown
  replace hl : lv_has ls 3 [(0, .ref (gA g 58))] := hl
  show W p l e (rmL (1)) s m [.ref (gA g 58)].toArray below meth c s.heap [] 0 0 (MQ below (va_Qi (fun r (_ : Unit) => r = EE) (fun u t => gC g A (gW g bb tx rw sb dy tn mo jk) t) A) [.ref (gA g 58)].toArray s 0 0 A) (F0 m 0 ls [])
  generalize hQ : MQ below (va_Qi (fun r (_ : Unit) => r = EE) (fun u t => gC g A (gW g bb tx rw sb dy tn mo jk) t) A) [.ref (gA g 58)].toArray s 0 0 A = Q
  unfold F_X6_silent at hE
  refine lv_iconst (v := 0) hx hb dX6_silent_0 (by decide) ?_
  refine lv_istore_n (lv' := [(1, .int 0), (0, .ref (gA g 58))]) hx hb dX6_silent_1 rfl hl (by decide) rfl (fun ls hl => ?_)
  replace hl := lv_sub hl [1, 0] (l' := [(0, .ref (gA g 58)), (1, .int 0)]) rfl
  refine lv_iconst (v := 0) hx hb dX6_silent_2 (by decide) ?_
  refine lv_istore_n (lv' := [(2, .int 0), (0, .ref (gA g 58)), (1, .int 0)]) hx hb dX6_silent_3 rfl hl (by decide) rfl (fun ls hl => ?_)
  replace hl := lv_sub hl [1, 2, 0] (l' := [(0, .ref (gA g 58)), (1, .int 0), (2, .int 0)]) rfl
  have L4 : ∀ (n4 : Nat) (x1_4 : Int32) (x2_4 : Int32) (H : Heap) (locs : List Loc), gS g A s H locs (gW g bb tx rw sb dy tn mo jk) → ∀ ls : Array Slot, lv_has ls 3 [(0, .ref (gA g 58)), (1, .int x1_4), (2, .int x2_4)] → 0 ≤ x2_4.toInt → x2_4.toInt ≤ 24 → 24 < x2_4.toInt + n4 → F_X6_silent_l4 n4  mo x1_4 x2_4 = EE → W p l e (rmL (1)) s m [.ref (gA g 58)].toArray below meth c H locs 0 0 Q (F0 m 4 ls []) := by
    intro n4
    induction n4 with
    | zero =>
      intro x1_4 x2_4 H locs hG ls hl h0_4 h1_4 hm_4 hE
      clear hE; omega
    | succ n4 ih4 =>
      intro x1_4 x2_4 H locs hG ls hl h0_4 h1_4 hm_4 hE
      unfold F_X6_silent_l4 at hE
      refine lv_iload_n hx hb dX6_silent_4 rfl (lv_at hl 2 rfl) ?_
      refine lv_bipush (v := 24) hx hb dX6_silent_5 (by decide) ?_
      refine lv_icmp_ge (tgt := 33) hx hb dX6_silent_7 (by decide) (fun c_7 => ?_) (fun c_7 => ?_)
      · replace hE := (if_pos c_7).symm.trans hE
        have i_7 : 24 ≤ x2_4.toInt := i_le.mp c_7
        refine lv_iload_n hx hb dX6_silent_33 rfl (lv_at hl 1 rfl) ?_
        subst hQ
        exact g_iret hx hb hr hlocks hG () rfl hE dX6_silent_34
      replace hE := (if_neg c_7).symm.trans hE
      have i_7 : x2_4.toInt < 24 := i_nle c_7
      refine lv_iload_n hx hb dX6_silent_10 rfl (lv_at hl 1 rfl) ?_
      refine lv_aload_n hx hb dX6_silent_11 rfl (lv_at hl 0 rfl) ?_
      refine g_get hx hb hts hiX6 hown hG gw_Model rfl 31 (by decide) (index := 64) tw_fl_RX6_64 (v := .ref (gA g 77)) rfl dX6_silent_12 ?_
      refine lv_iload_n hx hb dX6_silent_15 rfl (lv_at hl 2 rfl) ?_
      refine g_ild (f := (mo.2 31)) hx hb hG gw_Model_a31 (show vp_in x2_4 24 from (vp_i (by clear hE; omega) (by clear hE; omega))) dX6_silent_16 ?_
      have J25 : ∀ (z1_25 : Int32) (H : Heap) (locs : List Loc), gS g A s H locs (gW g bb tx rw sb dy tn mo jk) → ∀ ls : Array Slot, lv_has ls 3 [(0, .ref (gA g 58)), (2, .int x2_4)] → F_X6_silent_b25  (F_X6_silent_l4 n4 ) mo x2_4 x1_4 z1_25 = EE → W p l e (rmL (1)) s m [.ref (gA g 58)].toArray below meth c H locs 0 0 Q (F0 m 25 ls [.int z1_25, .int x1_4]) := by
        intro z1_25 H locs hG ls hl  hE
        unfold F_X6_silent_b25 at hE
        refine lv_iadd hx hb dX6_silent_25 ?_
        refine lv_istore_n (lv' := [(1, .int (x1_4 + z1_25)), (0, .ref (gA g 58)), (2, .int x2_4)]) hx hb dX6_silent_26 rfl hl (by decide) rfl (fun ls hl => ?_)
        replace hl := lv_sub hl [1, 0, 2] (l' := [(0, .ref (gA g 58)), (1, .int (x1_4 + z1_25)), (2, .int x2_4)]) rfl
        refine lv_iinc (v := (x2_4 + 1)) (lv' := [(2, .int (x2_4 + 1)), (0, .ref (gA g 58)), (1, .int (x1_4 + z1_25))]) hx hb dX6_silent_27 hl (k := 2) rfl rfl (by decide) rfl (fun ls hl => ?_)
        replace hl := lv_sub hl [1, 2, 0] (l' := [(0, .ref (gA g 58)), (1, .int (x1_4 + z1_25)), (2, .int (x2_4 + 1))]) rfl
        refine lv_goto (tgt := 4) hx hb dX6_silent_30 (by decide) ?_
        have e1 : (x2_4 + 1).toInt = x2_4.toInt + 1 := addL (k := 1) (by decide +kernel) (by clear hE; omega) (by clear hE; omega)
        exact ih4 (x1_4 + z1_25) (x2_4 + 1) _ _ hG _ (lv_sub hl [0, 1, 2] rfl) (by clear hE; omega) (by clear hE; omega) (by clear hE; omega) hE
      refine lv_if_ne (tgt := 24) hx hb dX6_silent_17 (by decide) (fun c_17 => ?_) (fun c_17 => ?_)
      · replace hE := (if_neg c_17).symm.trans hE
        have i_17 : ((mo.2 31) (Int32.toNatClampNeg x2_4)).toInt ≠ 0 := fun h => c_17 (Int32.toInt_inj.mp h)
        refine lv_iconst (v := 0) hx hb dX6_silent_24 (by decide) ?_
        exact J25 0 _ _ hG _ (lv_sub hl [0, 2] rfl) hE
      replace hE := (if_pos c_17).symm.trans hE
      have i_17 : ((mo.2 31) (Int32.toNatClampNeg x2_4)).toInt = 0 := congrArg Int32.toInt c_17
      refine lv_iconst (v := 1) hx hb dX6_silent_20 (by decide) ?_
      refine lv_goto (tgt := 25) hx hb dX6_silent_21 (by decide) ?_
      exact J25 1 _ _ hG _ (lv_sub hl [0, 2] rfl) hE
  exact L4 25 0 0 _ _ hG _ (lv_sub hl [0, 1, 2] rfl) (by decide) (by decide) (by decide) hE
def F_X6_dial_c13 (u : Ob) (x1 : Int32) : Int32 × Ob :=
  (if x1 = 0 then ((F_X6_alone u), u) else (if x1 = 1 then ((F_X6_longestRow u), u) else (if x1 = 2 then ((F_X6_silent u), u) else (if x1 = 3 then (((u.2 31) (Int32.toNatClampNeg (F_X6_mostHour u))), u) else ((F_X6_mostHour u), u)))))
def F_X6_dial (mo : Ob) (p1 : Int32) : Int32 × Ob :=
  (if (F_X6_in p1 0 4) = 0 then ((-2), mo) else (F_X6_dial_c13 (F_X6_tellsDay mo) p1))
set_option maxHeartbeats 4000000 in
set_option maxRecDepth 100000 in
theorem c_X6_dial {l : Launch} {g : GG} {sz : Nat} {bb : Ob} {tx rw : Nat → Ob} {sb dy : Ob} {tn : Nat → Ob} {mo : Ob} {jk : Nat → Nat → Int32}  (p1 : Int32) (hv : mEv mo) : Met l yX6_dial (Cond.code yX6_dial cX6_dial 2 (some .int) :: TT) (rmL (8)) (va_Pc [.ref (gA g 58), .int p1] (gB g sz (gW g bb tx rw sb dy tn mo jk))) (va_Qi (fun r (u : Ob × (Nat → Nat → Int32)) => (F_X6_dial mo p1) = (r, u.1)) (fun u t => gC g (va_A (gW g bb tx rw sb dy tn mo jk) sz) (gW g bb tx rw sb dy tn u.1 u.2) t) (va_A (gW g bb tx rw sb dy tn mo jk) sz)) 0 0 (va_A (gW g bb tx rw sb dy tn mo jk) sz) := by
  generalize hE : F_X6_dial mo p1 = EE
  refine g_of (Qf := fun A => (va_Qi (fun r (u : Ob × (Nat → Nat → Int32)) => EE = (r, u.1)) (fun u t => gC g A (gW g bb tx rw sb dy tn u.1 u.2) t) A)) (cc := cX6_dial) (maxL := 2) (ret := (some .int)) (by decide) (Nat.le_of_ble_eq_true rfl) ?_
  intro p e s m below meth c A ls hx hb hml hr hlocks hts hown hA hG hl
  replace hown : s.vm.findClass RX6 = some m.cls := hown
  replace hl : lv_has ls 2 [(0, .ref (gA g 58)), (1, .int p1)] := hl
  show W p l e (rmL (8)) s m [.ref (gA g 58), .int p1].toArray below meth c s.heap [] 0 0 (MQ below (va_Qi (fun r (u : Ob × (Nat → Nat → Int32)) => EE = (r, u.1)) (fun u t => gC g A (gW g bb tx rw sb dy tn u.1 u.2) t) A) [.ref (gA g 58), .int p1].toArray s 0 0 A) (F0 m 0 ls [])
  generalize hQ : MQ below (va_Qi (fun r (u : Ob × (Nat → Nat → Int32)) => EE = (r, u.1)) (fun u t => gC g A (gW g bb tx rw sb dy tn u.1 u.2) t) A) [.ref (gA g 58), .int p1].toArray s 0 0 A = Q
  unfold F_X6_dial at hE
  refine lv_iload_n hx hb dX6_dial_0 rfl (lv_at hl 1 rfl) ?_
  refine lv_iconst (v := 0) hx hb dX6_dial_1 (by decide) ?_
  refine lv_iconst (v := 4) hx hb dX6_dial_2 (by decide) ?_
  refine g_si (g_runS (n := 3) (rest := []) hx hb hml hown hts hG (c_X6_in p1 0 4) tw_ml_RX6_81 tw_st_X6_in tw_in_RX6 tw_cd_X6_in (by decide +kernel) ⟨rfl, rfl, Nat.le_of_ble_eq_true rfl, Nat.le_of_ble_eq_true rfl⟩ rfl hl.1 rfl (Nat.le_of_ble_eq_true rfl) dX6_dial_3 ⟨Nat.le_refl _, Nat.le_refl _⟩) hG hA (fun H locs hG => ?_)
  refine lv_if_ne (tgt := 12) hx hb dX6_dial_6 (by decide) (fun c_6 => ?_) (fun c_6 => ?_)
  · replace hE := (if_neg c_6).symm.trans hE
    have i_6 : 0 ≤ p1.toInt ∧ p1.toInt ≤ 4 := in_f c_6
    refine lv_aload_n hx hb dX6_dial_12 rfl (lv_at hl 0 rfl) ?_
    refine g_cv (g_runV (n := 0) (rest := []) hx hb hml hown hts hG (c_X6_tellsDay hv) tw_ml_RX6_211 tw_im_X6_tellsDay tw_se_X6_tellsDay tw_in_RX6 tw_cd_X6_tellsDay (by decide +kernel) ⟨rfl, rfl, Nat.le_of_ble_eq_true rfl, Nat.le_of_ble_eq_true rfl⟩ gw_Model rfl rfl hl.1 rfl (Nat.le_of_ble_eq_true rfl) dX6_dial_13 ⟨Nat.le_refl _, Nat.le_refl _⟩) hG hA (fun u H locs hp hG => ?_)
    obtain ⟨mo_13, jk⟩ := u
    replace hG : gS g A s H locs (gW g bb tx rw sb dy tn mo_13 jk) := by simpa only [up_up] using hG
    have hp_13 := hp
    rw [hp] at hE
    unfold F_X6_dial_c13 at hE
    try dsimp only at hE
    refine lv_iload_n hx hb dX6_dial_16 rfl (lv_at hl 1 rfl) ?_
    by_cases c_17_0 : p1 = 0
    · replace hE := (if_pos c_17_0).symm.trans hE
      refine lv_tableIn (off := 31) (tgt := 48) hx hb dX6_dial_17 (by rw [c_17_0]; decide) (by rw [c_17_0]; decide) (by rw [c_17_0]; decide) (by decide) ?_
      have i_17_0 : p1.toInt = 0 := congrArg Int32.toInt c_17_0
      refine lv_aload_n hx hb dX6_dial_48 rfl (lv_at hl 0 rfl) ?_
      refine g_ci (g_runV (n := 0) (rest := []) hx hb hml hown hts hG (c_X6_alone) tw_ml_RX6_214 tw_im_X6_alone tw_se_X6_alone tw_in_RX6 tw_cd_X6_alone (by decide +kernel) ⟨rfl, rfl, Nat.le_of_ble_eq_true rfl, Nat.le_of_ble_eq_true rfl⟩ gw_Model rfl rfl hl.1 rfl (Nat.le_of_ble_eq_true rfl) dX6_dial_49 ⟨Nat.le_refl _, Nat.le_refl _⟩) hG hA (fun r _ H locs hp hG => ?_)
      subst hp
      replace hG : gS g A s H locs (gW g bb tx rw sb dy tn mo_13 jk) := hG
      subst hQ
      exact g_iret hx hb hr hlocks hG ((mo_13, jk) : Ob × (Nat → Nat → Int32)) rfl hE.symm dX6_dial_52
    replace hE := (if_neg c_17_0).symm.trans hE
    by_cases c_17_1 : p1 = 1
    · replace hE := (if_pos c_17_1).symm.trans hE
      refine lv_tableIn (off := 36) (tgt := 53) hx hb dX6_dial_17 (by rw [c_17_1]; decide) (by rw [c_17_1]; decide) (by rw [c_17_1]; decide) (by decide) ?_
      have i_17_1 : p1.toInt = 1 := congrArg Int32.toInt c_17_1
      refine lv_aload_n hx hb dX6_dial_53 rfl (lv_at hl 0 rfl) ?_
      refine g_ci (g_runV (n := 0) (rest := []) hx hb hml hown hts hG (c_X6_longestRow) tw_ml_RX6_217 tw_im_X6_longestRow tw_se_X6_longestRow tw_in_RX6 tw_cd_X6_longestRow (by decide +kernel) ⟨rfl, rfl, Nat.le_of_ble_eq_true rfl, Nat.le_of_ble_eq_true rfl⟩ gw_Model rfl rfl hl.1 rfl (Nat.le_of_ble_eq_true rfl) dX6_dial_54 ⟨Nat.le_refl _, Nat.le_refl _⟩) hG hA (fun r _ H locs hp hG => ?_)
      subst hp
      replace hG : gS g A s H locs (gW g bb tx rw sb dy tn mo_13 jk) := hG
      subst hQ
      exact g_iret hx hb hr hlocks hG ((mo_13, jk) : Ob × (Nat → Nat → Int32)) rfl hE.symm dX6_dial_57
    replace hE := (if_neg c_17_1).symm.trans hE
    by_cases c_17_2 : p1 = 2
    · replace hE := (if_pos c_17_2).symm.trans hE
      refine lv_tableIn (off := 41) (tgt := 58) hx hb dX6_dial_17 (by rw [c_17_2]; decide) (by rw [c_17_2]; decide) (by rw [c_17_2]; decide) (by decide) ?_
      have i_17_2 : p1.toInt = 2 := congrArg Int32.toInt c_17_2
      refine lv_aload_n hx hb dX6_dial_58 rfl (lv_at hl 0 rfl) ?_
      refine g_ci (g_runV (n := 0) (rest := []) hx hb hml hown hts hG (c_X6_silent) tw_ml_RX6_220 tw_im_X6_silent tw_se_X6_silent tw_in_RX6 tw_cd_X6_silent (by decide +kernel) ⟨rfl, rfl, Nat.le_of_ble_eq_true rfl, Nat.le_of_ble_eq_true rfl⟩ gw_Model rfl rfl hl.1 rfl (Nat.le_of_ble_eq_true rfl) dX6_dial_59 ⟨Nat.le_refl _, Nat.le_refl _⟩) hG hA (fun r _ H locs hp hG => ?_)
      subst hp
      replace hG : gS g A s H locs (gW g bb tx rw sb dy tn mo_13 jk) := hG
      subst hQ
      exact g_iret hx hb hr hlocks hG ((mo_13, jk) : Ob × (Nat → Nat → Int32)) rfl hE.symm dX6_dial_62
    replace hE := (if_neg c_17_2).symm.trans hE
    by_cases c_17_3 : p1 = 3
    · replace hE := (if_pos c_17_3).symm.trans hE
      refine lv_tableIn (off := 46) (tgt := 63) hx hb dX6_dial_17 (by rw [c_17_3]; decide) (by rw [c_17_3]; decide) (by rw [c_17_3]; decide) (by decide) ?_
      have i_17_3 : p1.toInt = 3 := congrArg Int32.toInt c_17_3
      refine lv_aload_n hx hb dX6_dial_63 rfl (lv_at hl 0 rfl) ?_
      refine g_get hx hb hts hiX6 hown hG gw_Model rfl 31 (by decide) (index := 64) tw_fl_RX6_64 (v := .ref (gA g 77)) rfl dX6_dial_64 ?_
      refine lv_aload_n hx hb dX6_dial_67 rfl (lv_at hl 0 rfl) ?_
      refine g_ci (g_runV (n := 0) (rest := [.ref (gA g 77)]) hx hb hml hown hts hG (c_X6_mostHour) tw_ml_RX6_223 tw_im_X6_mostHour tw_se_X6_mostHour tw_in_RX6 tw_cd_X6_mostHour (by decide +kernel) ⟨rfl, rfl, Nat.le_of_ble_eq_true rfl, Nat.le_of_ble_eq_true rfl⟩ gw_Model rfl rfl hl.1 rfl (Nat.le_of_ble_eq_true rfl) dX6_dial_68 ⟨Nat.le_refl _, Nat.le_refl _⟩) hG hA (fun r _ H locs hp hG => ?_)
      subst hp
      replace hG : gS g A s H locs (gW g bb tx rw sb dy tn mo_13 jk) := hG
      have hb71 := mostHour_in mo_13
      refine g_ild (f := (mo_13.2 31)) hx hb hG gw_Model_a31 (show vp_in (F_X6_mostHour mo_13) 24 from (vp_i (by clear hE; omega) (by clear hE; omega))) dX6_dial_71 ?_
      subst hQ
      exact g_iret hx hb hr hlocks hG ((mo_13, jk) : Ob × (Nat → Nat → Int32)) rfl hE.symm dX6_dial_72
    replace hE := (if_neg c_17_3).symm.trans hE
    refine lv_tableOut (tgt := 73) hx hb dX6_dial_17 (by have k0 := lv_neT c_17_0 (a := 0) (by decide); have k1 := lv_neT c_17_1 (a := 1) (by decide); have k2 := lv_neT c_17_2 (a := 2) (by decide); have k3 := lv_neT c_17_3 (a := 3) (by decide); omega) (by decide) ?_
    refine lv_aload_n hx hb dX6_dial_73 rfl (lv_at hl 0 rfl) ?_
    refine g_ci (g_runV (n := 0) (rest := []) hx hb hml hown hts hG (c_X6_mostHour) tw_ml_RX6_223 tw_im_X6_mostHour tw_se_X6_mostHour tw_in_RX6 tw_cd_X6_mostHour (by decide +kernel) ⟨rfl, rfl, Nat.le_of_ble_eq_true rfl, Nat.le_of_ble_eq_true rfl⟩ gw_Model rfl rfl hl.1 rfl (Nat.le_of_ble_eq_true rfl) dX6_dial_74 ⟨Nat.le_refl _, Nat.le_refl _⟩) hG hA (fun r _ H locs hp hG => ?_)
    subst hp
    replace hG : gS g A s H locs (gW g bb tx rw sb dy tn mo_13 jk) := hG
    subst hQ
    exact g_iret hx hb hr hlocks hG ((mo_13, jk) : Ob × (Nat → Nat → Int32)) rfl hE.symm dX6_dial_77
  replace hE := (if_pos c_6).symm.trans hE
  refine lv_bipush (v := (-2)) hx hb dX6_dial_9 (by decide) ?_
  subst hQ
  exact g_iret hx hb hr hlocks hG ((mo, jk) : Ob × (Nat → Nat → Int32)) rfl hE.symm dX6_dial_11
def F_X6_hush_b118 (K26 : Ob → Int32 → Int32 → Int32 → Int32 → Int32 × Ob) (mo : Ob) (x1 : Int32) (x2 : Int32) (x4 : Int32) (z0 : Int32) : Int32 × Ob :=
  (K26 mo x1 x2 z0 (x4 + 1))
def F_X6_hush_b105 (K26 : Ob → Int32 → Int32 → Int32 → Int32 → Int32 × Ob) (mo : Ob) (x1 : Int32) (x3 : Int32) (x4 : Int32) (x5 : Int32) (z0 : Int32) : Int32 × Ob :=
  (if x5 ≤ x3 then (F_X6_hush_b118 K26 mo x1 z0 x4 x3) else (F_X6_hush_b118 K26 mo x1 z0 x4 x5))
def F_X6_hush_c60 (K26 : Ob → Int32 → Int32 → Int32 → Int32 → Int32 × Ob) (u : Ob) (x1 : Int32) (x2 : Int32) (x3 : Int32) (x4 : Int32) : Int32 × Ob :=
  (if (F_X6_alone (stA u 3 ((4 * x4) + 3) (1 - ((u.2 3) (Int32.toNatClampNeg ((4 * x4) + 3)))))) ≤ x3 then (F_X6_hush_b105 K26 (stA u 3 ((4 * x4) + 3) (1 - ((u.2 3) (Int32.toNatClampNeg ((4 * x4) + 3))))) x1 x3 x4 (F_X6_alone (stA u 3 ((4 * x4) + 3) (1 - ((u.2 3) (Int32.toNatClampNeg ((4 * x4) + 3)))))) x2) else (F_X6_hush_b105 K26 (stA u 3 ((4 * x4) + 3) (1 - ((u.2 3) (Int32.toNatClampNeg ((4 * x4) + 3))))) x1 x3 x4 (F_X6_alone (stA u 3 ((4 * x4) + 3) (1 - ((u.2 3) (Int32.toNatClampNeg ((4 * x4) + 3)))))) x4))
def F_X6_hush_l26 : Nat → Ob → Int32 → Int32 → Int32 → Int32 → Int32 × Ob
  | 0, mo, _, _, _, _ => (0, mo)
  | n + 1, mo, x1, x2, x3, x4 =>
    (if (mo.1 0) ≤ x4 then (if x1 = 0 then (x2, mo) else (x3, mo)) else (F_X6_hush_c60 (F_X6_hush_l26 n ) (F_X6_tellsDay (stA mo 3 ((4 * x4) + 3) (1 - ((mo.2 3) (Int32.toNatClampNeg ((4 * x4) + 3)))))) x1 x2 x3 x4))
def F_X6_hush_c13 (u : Ob) (x1 : Int32) : Int32 × Ob :=
  (F_X6_hush_l26 7  u x1 (-1) (F_X6_alone u) 0)
def F_X6_hush (mo : Ob) (p1 : Int32) : Int32 × Ob :=
  (if (F_X6_in p1 0 1) = 0 then ((-2), mo) else (F_X6_hush_c13 (F_X6_tellsDay mo) p1))
set_option maxHeartbeats 4000000 in
set_option maxRecDepth 100000 in
theorem c_X6_hush {l : Launch} {g : GG} {sz : Nat} {bb : Ob} {tx rw : Nat → Ob} {sb dy : Ob} {tn : Nat → Ob} {mo : Ob} {jk : Nat → Nat → Int32}  (p1 : Int32) (hv : mEv mo) : Met l yX6_hush (Cond.code yX6_hush cX6_hush 6 (some .int) :: TT) (rmL (8)) (va_Pc [.ref (gA g 58), .int p1] (gB g sz (gW g bb tx rw sb dy tn mo jk))) (va_Qi (fun r (u : Ob × (Nat → Nat → Int32)) => (F_X6_hush mo p1) = (r, u.1)) (fun u t => gC g (va_A (gW g bb tx rw sb dy tn mo jk) sz) (gW g bb tx rw sb dy tn u.1 u.2) t) (va_A (gW g bb tx rw sb dy tn mo jk) sz)) 0 0 (va_A (gW g bb tx rw sb dy tn mo jk) sz) := by
  generalize hE : F_X6_hush mo p1 = EE
  refine g_of (Qf := fun A => (va_Qi (fun r (u : Ob × (Nat → Nat → Int32)) => EE = (r, u.1)) (fun u t => gC g A (gW g bb tx rw sb dy tn u.1 u.2) t) A)) (cc := cX6_hush) (maxL := 6) (ret := (some .int)) (by decide) (Nat.le_of_ble_eq_true rfl) ?_
  intro p e s m below meth c A ls hx hb hml hr hlocks hts hown hA hG hl
  replace hown : s.vm.findClass RX6 = some m.cls := hown
  replace hl : lv_has ls 6 [(0, .ref (gA g 58)), (1, .int p1)] := hl
  show W p l e (rmL (8)) s m [.ref (gA g 58), .int p1].toArray below meth c s.heap [] 0 0 (MQ below (va_Qi (fun r (u : Ob × (Nat → Nat → Int32)) => EE = (r, u.1)) (fun u t => gC g A (gW g bb tx rw sb dy tn u.1 u.2) t) A) [.ref (gA g 58), .int p1].toArray s 0 0 A) (F0 m 0 ls [])
  generalize hQ : MQ below (va_Qi (fun r (u : Ob × (Nat → Nat → Int32)) => EE = (r, u.1)) (fun u t => gC g A (gW g bb tx rw sb dy tn u.1 u.2) t) A) [.ref (gA g 58), .int p1].toArray s 0 0 A = Q
  unfold F_X6_hush at hE
  refine lv_iload_n hx hb dX6_hush_0 rfl (lv_at hl 1 rfl) ?_
  refine lv_iconst (v := 0) hx hb dX6_hush_1 (by decide) ?_
  refine lv_iconst (v := 1) hx hb dX6_hush_2 (by decide) ?_
  refine g_si (g_runS (n := 3) (rest := []) hx hb hml hown hts hG (c_X6_in p1 0 1) tw_ml_RX6_81 tw_st_X6_in tw_in_RX6 tw_cd_X6_in (by decide +kernel) ⟨rfl, rfl, Nat.le_of_ble_eq_true rfl, Nat.le_of_ble_eq_true rfl⟩ rfl hl.1 rfl (Nat.le_of_ble_eq_true rfl) dX6_hush_3 ⟨Nat.le_refl _, Nat.le_refl _⟩) hG hA (fun H locs hG => ?_)
  refine lv_if_ne (tgt := 12) hx hb dX6_hush_6 (by decide) (fun c_6 => ?_) (fun c_6 => ?_)
  · replace hE := (if_neg c_6).symm.trans hE
    have i_6 : 0 ≤ p1.toInt ∧ p1.toInt ≤ 1 := in_f c_6
    refine lv_aload_n hx hb dX6_hush_12 rfl (lv_at hl 0 rfl) ?_
    refine g_cv (g_runV (n := 0) (rest := []) hx hb hml hown hts hG (c_X6_tellsDay hv) tw_ml_RX6_211 tw_im_X6_tellsDay tw_se_X6_tellsDay tw_in_RX6 tw_cd_X6_tellsDay (by decide +kernel) ⟨rfl, rfl, Nat.le_of_ble_eq_true rfl, Nat.le_of_ble_eq_true rfl⟩ gw_Model rfl rfl hl.1 rfl (Nat.le_of_ble_eq_true rfl) dX6_hush_13 ⟨Nat.le_refl _, Nat.le_refl _⟩) hG hA (fun u H locs hp hG => ?_)
    obtain ⟨mo_13, jk⟩ := u
    replace hG : gS g A s H locs (gW g bb tx rw sb dy tn mo_13 jk) := by simpa only [up_up] using hG
    have hp_13 := hp
    rw [hp] at hE
    unfold F_X6_hush_c13 at hE
    try dsimp only at hE
    have hv13 : mEv mo_13 := tellsDay_mEv hp_13 hv
    refine lv_iconst (v := (-1)) hx hb dX6_hush_16 (by decide) ?_
    refine lv_istore_n (lv' := [(2, .int (-1)), (0, .ref (gA g 58)), (1, .int p1)]) hx hb dX6_hush_17 rfl hl (by decide) rfl (fun ls hl => ?_)
    replace hl := lv_sub hl [1, 2, 0] (l' := [(0, .ref (gA g 58)), (1, .int p1), (2, .int (-1))]) rfl
    refine lv_aload_n hx hb dX6_hush_18 rfl (lv_at hl 0 rfl) ?_
    refine g_ci (g_runV (n := 0) (rest := []) hx hb hml hown hts hG (c_X6_alone) tw_ml_RX6_214 tw_im_X6_alone tw_se_X6_alone tw_in_RX6 tw_cd_X6_alone (by decide +kernel) ⟨rfl, rfl, Nat.le_of_ble_eq_true rfl, Nat.le_of_ble_eq_true rfl⟩ gw_Model rfl rfl hl.1 rfl (Nat.le_of_ble_eq_true rfl) dX6_hush_19 ⟨Nat.le_refl _, Nat.le_refl _⟩) hG hA (fun r _ H locs hp hG => ?_)
    subst hp
    replace hG : gS g A s H locs (gW g bb tx rw sb dy tn mo_13 jk) := hG
    refine lv_istore_n (lv' := [(3, .int (F_X6_alone mo_13)), (0, .ref (gA g 58)), (1, .int p1), (2, .int (-1))]) hx hb dX6_hush_22 rfl hl (by decide) rfl (fun ls hl => ?_)
    replace hl := lv_sub hl [1, 2, 3, 0] (l' := [(0, .ref (gA g 58)), (1, .int p1), (2, .int (-1)), (3, .int (F_X6_alone mo_13))]) rfl
    refine lv_iconst (v := 0) hx hb dX6_hush_23 (by decide) ?_
    refine lv_istore (lv' := [(4, .int 0), (0, .ref (gA g 58)), (1, .int p1), (2, .int (-1)), (3, .int (F_X6_alone mo_13))]) hx hb dX6_hush_24 hl (by decide) rfl (fun ls hl => ?_)
    replace hl := lv_sub hl [1, 2, 3, 4, 0] (l' := [(0, .ref (gA g 58)), (1, .int p1), (2, .int (-1)), (3, .int (F_X6_alone mo_13)), (4, .int 0)]) rfl
    have L26 : ∀ (n26 : Nat) (x2_26 : Int32) (x3_26 : Int32) (x4_26 : Int32) (mo_26 : Ob) (jk : (Nat → Nat → Int32)) (H : Heap) (locs : List Loc), gS g A s H locs (gW g bb tx rw sb dy tn mo_26 jk) → ∀ ls : Array Slot, lv_has ls 6 [(0, .ref (gA g 58)), (1, .int p1), (2, .int x2_26), (3, .int x3_26), (4, .int x4_26)] → 0 ≤ x4_26.toInt → x4_26.toInt ≤ 6 → 6 < x4_26.toInt + n26 → mEv mo_26 → F_X6_hush_l26 n26  mo_26 p1 x2_26 x3_26 x4_26 = EE → W p l e (rmL (8)) s m [.ref (gA g 58), .int p1].toArray below meth c H locs 0 0 Q (F0 m 26 ls []) := by
      intro n26
      induction n26 with
      | zero =>
        intro x2_26 x3_26 x4_26 mo_26 jk H locs hG ls hl h0_26 h1_26 hm_26 hv26 hE
        clear hE; omega
      | succ n26 ih26 =>
        intro x2_26 x3_26 x4_26 mo_26 jk H locs hG ls hl h0_26 h1_26 hm_26 hv26 hE
        unfold F_X6_hush_l26 at hE
        have hpo26 := hv26.1
        refine lv_iload hx hb dX6_hush_26 (lv_at hl 4 rfl) ?_
        refine lv_aload_n hx hb dX6_hush_28 rfl (lv_at hl 0 rfl) ?_
        refine g_get hx hb hts hiX6 hown hG gw_Model rfl 0 (by decide) (index := 78) tw_fl_RX6_78 (v := .int (mo_26.1 0)) rfl dX6_hush_29 ?_
        refine lv_icmp_ge (tgt := 125) hx hb dX6_hush_32 (by decide) (fun c_32 => ?_) (fun c_32 => ?_)
        · replace hE := (if_pos c_32).symm.trans hE
          have i_32 : (mo_26.1 0).toInt ≤ x4_26.toInt := i_le.mp c_32
          refine lv_iload_n hx hb dX6_hush_125 rfl (lv_at hl 1 rfl) ?_
          refine lv_if_ne (tgt := 133) hx hb dX6_hush_126 (by decide) (fun c_126 => ?_) (fun c_126 => ?_)
          · replace hE := (if_neg c_126).symm.trans hE
            have i_126 : p1.toInt ≠ 0 := fun h => c_126 (Int32.toInt_inj.mp h)
            refine lv_iload_n hx hb dX6_hush_133 rfl (lv_at hl 3 rfl) ?_
            subst hQ
            exact g_iret hx hb hr hlocks hG ((mo_26, jk) : Ob × (Nat → Nat → Int32)) rfl hE.symm dX6_hush_134
          replace hE := (if_pos c_126).symm.trans hE
          have i_126 : p1.toInt = 0 := congrArg Int32.toInt c_126
          refine lv_iload_n hx hb dX6_hush_129 rfl (lv_at hl 2 rfl) ?_
          refine lv_goto (tgt := 134) hx hb dX6_hush_130 (by decide) ?_
          subst hQ
          exact g_iret hx hb hr hlocks hG ((mo_26, jk) : Ob × (Nat → Nat → Int32)) rfl hE.symm dX6_hush_134
        replace hE := (if_neg c_32).symm.trans hE
        have i_32 : x4_26.toInt < (mo_26.1 0).toInt := i_nle c_32
        refine lv_aload_n hx hb dX6_hush_35 rfl (lv_at hl 0 rfl) ?_
        refine g_get hx hb hts hiX6 hown hG gw_Model rfl 3 (by decide) (index := 16) tw_fl_RX6_16 (v := .ref (gA g 61)) rfl dX6_hush_36 ?_
        refine lv_iconst (v := 4) hx hb dX6_hush_39 (by decide) ?_
        refine lv_iload hx hb dX6_hush_40 (lv_at hl 4 rfl) ?_
        refine lv_imul hx hb dX6_hush_42 ?_
        refine lv_iconst (v := 3) hx hb dX6_hush_43 (by decide) ?_
        refine lv_iadd hx hb dX6_hush_44 ?_
        refine lv_iconst (v := 1) hx hb dX6_hush_45 (by decide) ?_
        refine lv_aload_n hx hb dX6_hush_46 rfl (lv_at hl 0 rfl) ?_
        refine g_get hx hb hts hiX6 hown hG gw_Model rfl 3 (by decide) (index := 16) tw_fl_RX6_16 (v := .ref (gA g 61)) rfl dX6_hush_47 ?_
        refine lv_iconst (v := 4) hx hb dX6_hush_50 (by decide) ?_
        refine lv_iload hx hb dX6_hush_51 (lv_at hl 4 rfl) ?_
        refine lv_imul hx hb dX6_hush_53 ?_
        refine lv_iconst (v := 3) hx hb dX6_hush_54 (by decide) ?_
        refine lv_iadd hx hb dX6_hush_55 ?_
        have e1 : (4 * x4_26).toInt = 4 * x4_26.toInt := mulL (k := 4) (by decide +kernel) (by clear hE; omega) (by clear hE; omega)
        have e2 : ((4 * x4_26) + 3).toInt = (4 * x4_26).toInt + 3 := addL (k := 3) (by decide +kernel) (by clear hE; omega) (by clear hE; omega)
        refine g_ild (f := (mo_26.2 3)) hx hb hG gw_Model_a3 (show vp_in ((4 * x4_26) + 3) 24 from (vp_i (by clear hE; omega) (by clear hE; omega))) dX6_hush_56 ?_
        refine lv_isub hx hb dX6_hush_57 ?_
        have e3 : (4 * x4_26).toInt = 4 * x4_26.toInt := mulL (k := 4) (by decide +kernel) (by clear hE; omega) (by clear hE; omega)
        have e4 : ((4 * x4_26) + 3).toInt = (4 * x4_26).toInt + 3 := addL (k := 3) (by decide +kernel) (by clear hE; omega) (by clear hE; omega)
        refine g_ist hx hb hG gw_Model_a3 (show vp_in ((4 * x4_26) + 3) 24 from (vp_i (by clear hE; omega) (by clear hE; omega))) gs_Model_a3 dX6_hush_58 (fun H locs hG => ?_)
        refine lv_aload_n hx hb dX6_hush_59 rfl (lv_at hl 0 rfl) ?_
        refine g_cv (g_runV (n := 0) (rest := []) hx hb hml hown hts hG (c_X6_tellsDay (mEv_of hv26 rfl rfl rfl rfl)) tw_ml_RX6_211 tw_im_X6_tellsDay tw_se_X6_tellsDay tw_in_RX6 tw_cd_X6_tellsDay (by decide +kernel) ⟨rfl, rfl, Nat.le_of_ble_eq_true rfl, Nat.le_of_ble_eq_true rfl⟩ gw_Model rfl rfl hl.1 rfl (Nat.le_of_ble_eq_true rfl) dX6_hush_60 ⟨Nat.le_refl _, Nat.le_refl _⟩) hG hA (fun u H locs hp hG => ?_)
        obtain ⟨mo_60, jk⟩ := u
        replace hG : gS g A s H locs (gW g bb tx rw sb dy tn mo_60 jk) := by simpa only [up_up] using hG
        have hp_60 := hp
        rw [hp] at hE
        unfold F_X6_hush_c60 at hE
        try dsimp only at hE
        have hv60 : mEv mo_60 := tellsDay_mEv hp_60 (mEv_of hv26 rfl rfl rfl rfl)
        refine lv_aload_n hx hb dX6_hush_63 rfl (lv_at hl 0 rfl) ?_
        refine g_get hx hb hts hiX6 hown hG gw_Model rfl 3 (by decide) (index := 16) tw_fl_RX6_16 (v := .ref (gA g 61)) rfl dX6_hush_64 ?_
        refine lv_iconst (v := 4) hx hb dX6_hush_67 (by decide) ?_
        refine lv_iload hx hb dX6_hush_68 (lv_at hl 4 rfl) ?_
        refine lv_imul hx hb dX6_hush_70 ?_
        refine lv_iconst (v := 3) hx hb dX6_hush_71 (by decide) ?_
        refine lv_iadd hx hb dX6_hush_72 ?_
        refine lv_iconst (v := 1) hx hb dX6_hush_73 (by decide) ?_
        refine lv_aload_n hx hb dX6_hush_74 rfl (lv_at hl 0 rfl) ?_
        refine g_get hx hb hts hiX6 hown hG gw_Model rfl 3 (by decide) (index := 16) tw_fl_RX6_16 (v := .ref (gA g 61)) rfl dX6_hush_75 ?_
        refine lv_iconst (v := 4) hx hb dX6_hush_78 (by decide) ?_
        refine lv_iload hx hb dX6_hush_79 (lv_at hl 4 rfl) ?_
        refine lv_imul hx hb dX6_hush_81 ?_
        refine lv_iconst (v := 3) hx hb dX6_hush_82 (by decide) ?_
        refine lv_iadd hx hb dX6_hush_83 ?_
        have e5 : (4 * x4_26).toInt = 4 * x4_26.toInt := mulL (k := 4) (by decide +kernel) (by clear hE; omega) (by clear hE; omega)
        have e6 : ((4 * x4_26) + 3).toInt = (4 * x4_26).toInt + 3 := addL (k := 3) (by decide +kernel) (by clear hE; omega) (by clear hE; omega)
        refine g_ild (f := (mo_60.2 3)) hx hb hG gw_Model_a3 (show vp_in ((4 * x4_26) + 3) 24 from (vp_i (by clear hE; omega) (by clear hE; omega))) dX6_hush_84 ?_
        refine lv_isub hx hb dX6_hush_85 ?_
        have e7 : (4 * x4_26).toInt = 4 * x4_26.toInt := mulL (k := 4) (by decide +kernel) (by clear hE; omega) (by clear hE; omega)
        have e8 : ((4 * x4_26) + 3).toInt = (4 * x4_26).toInt + 3 := addL (k := 3) (by decide +kernel) (by clear hE; omega) (by clear hE; omega)
        refine g_ist hx hb hG gw_Model_a3 (show vp_in ((4 * x4_26) + 3) 24 from (vp_i (by clear hE; omega) (by clear hE; omega))) gs_Model_a3 dX6_hush_86 (fun H locs hG => ?_)
        refine lv_aload_n hx hb dX6_hush_87 rfl (lv_at hl 0 rfl) ?_
        refine g_ci (g_runV (n := 0) (rest := []) hx hb hml hown hts hG (c_X6_alone) tw_ml_RX6_214 tw_im_X6_alone tw_se_X6_alone tw_in_RX6 tw_cd_X6_alone (by decide +kernel) ⟨rfl, rfl, Nat.le_of_ble_eq_true rfl, Nat.le_of_ble_eq_true rfl⟩ gw_Model rfl rfl hl.1 rfl (Nat.le_of_ble_eq_true rfl) dX6_hush_88 ⟨Nat.le_refl _, Nat.le_refl _⟩) hG hA (fun r _ H locs hp hG => ?_)
        subst hp
        replace hG : gS g A s H locs (gW g bb tx rw sb dy tn (stA mo_60 3 ((4 * x4_26) + 3) (1 - ((mo_60.2 3) (Int32.toNatClampNeg ((4 * x4_26) + 3))))) jk) := hG
        refine lv_istore (lv' := [(5, .int (F_X6_alone (stA mo_60 3 ((4 * x4_26) + 3) (1 - ((mo_60.2 3) (Int32.toNatClampNeg ((4 * x4_26) + 3))))))), (0, .ref (gA g 58)), (1, .int p1), (2, .int x2_26), (3, .int x3_26), (4, .int x4_26)]) hx hb dX6_hush_91 hl (by decide) rfl (fun ls hl => ?_)
        replace hl := lv_sub hl [1, 2, 3, 4, 5, 0] (l' := [(0, .ref (gA g 58)), (1, .int p1), (2, .int x2_26), (3, .int x3_26), (4, .int x4_26), (5, .int (F_X6_alone (stA mo_60 3 ((4 * x4_26) + 3) (1 - ((mo_60.2 3) (Int32.toNatClampNeg ((4 * x4_26) + 3)))))))]) rfl
        refine lv_iload hx hb dX6_hush_93 (lv_at hl 5 rfl) ?_
        refine lv_iload_n hx hb dX6_hush_95 rfl (lv_at hl 3 rfl) ?_
        have J105 : ∀ (z0_105 : Int32) (jk : (Nat → Nat → Int32)) (H : Heap) (locs : List Loc), gS g A s H locs (gW g bb tx rw sb dy tn (stA mo_60 3 ((4 * x4_26) + 3) (1 - ((mo_60.2 3) (Int32.toNatClampNeg ((4 * x4_26) + 3))))) jk) → ∀ ls : Array Slot, lv_has ls 6 [(0, .ref (gA g 58)), (1, .int p1), (3, .int x3_26), (4, .int x4_26), (5, .int (F_X6_alone (stA mo_60 3 ((4 * x4_26) + 3) (1 - ((mo_60.2 3) (Int32.toNatClampNeg ((4 * x4_26) + 3)))))))] → F_X6_hush_b105  (F_X6_hush_l26 n26 ) (stA mo_60 3 ((4 * x4_26) + 3) (1 - ((mo_60.2 3) (Int32.toNatClampNeg ((4 * x4_26) + 3))))) p1 x3_26 x4_26 (F_X6_alone (stA mo_60 3 ((4 * x4_26) + 3) (1 - ((mo_60.2 3) (Int32.toNatClampNeg ((4 * x4_26) + 3)))))) z0_105 = EE → W p l e (rmL (8)) s m [.ref (gA g 58), .int p1].toArray below meth c H locs 0 0 Q (F0 m 105 ls [.int z0_105]) := by
          intro z0_105 jk H locs hG ls hl  hE
          unfold F_X6_hush_b105 at hE
          refine lv_istore_n (lv' := [(2, .int z0_105), (0, .ref (gA g 58)), (1, .int p1), (3, .int x3_26), (4, .int x4_26), (5, .int (F_X6_alone (stA mo_60 3 ((4 * x4_26) + 3) (1 - ((mo_60.2 3) (Int32.toNatClampNeg ((4 * x4_26) + 3)))))))]) hx hb dX6_hush_105 rfl hl (by decide) rfl (fun ls hl => ?_)
          replace hl := lv_sub hl [1, 2, 0, 3, 4, 5] (l' := [(0, .ref (gA g 58)), (1, .int p1), (2, .int z0_105), (3, .int x3_26), (4, .int x4_26), (5, .int (F_X6_alone (stA mo_60 3 ((4 * x4_26) + 3) (1 - ((mo_60.2 3) (Int32.toNatClampNeg ((4 * x4_26) + 3)))))))]) rfl
          refine lv_iload hx hb dX6_hush_106 (lv_at hl 5 rfl) ?_
          refine lv_iload_n hx hb dX6_hush_108 rfl (lv_at hl 3 rfl) ?_
          have J118 : ∀ (z0_118 : Int32) (jk : (Nat → Nat → Int32)) (H : Heap) (locs : List Loc), gS g A s H locs (gW g bb tx rw sb dy tn (stA mo_60 3 ((4 * x4_26) + 3) (1 - ((mo_60.2 3) (Int32.toNatClampNeg ((4 * x4_26) + 3))))) jk) → ∀ ls : Array Slot, lv_has ls 6 [(0, .ref (gA g 58)), (1, .int p1), (2, .int z0_105), (4, .int x4_26)] → F_X6_hush_b118  (F_X6_hush_l26 n26 ) (stA mo_60 3 ((4 * x4_26) + 3) (1 - ((mo_60.2 3) (Int32.toNatClampNeg ((4 * x4_26) + 3))))) p1 z0_105 x4_26 z0_118 = EE → W p l e (rmL (8)) s m [.ref (gA g 58), .int p1].toArray below meth c H locs 0 0 Q (F0 m 118 ls [.int z0_118]) := by
            intro z0_118 jk H locs hG ls hl  hE
            unfold F_X6_hush_b118 at hE
            refine lv_istore_n (lv' := [(3, .int z0_118), (0, .ref (gA g 58)), (1, .int p1), (2, .int z0_105), (4, .int x4_26)]) hx hb dX6_hush_118 rfl hl (by decide) rfl (fun ls hl => ?_)
            replace hl := lv_sub hl [1, 2, 3, 0, 4] (l' := [(0, .ref (gA g 58)), (1, .int p1), (2, .int z0_105), (3, .int z0_118), (4, .int x4_26)]) rfl
            refine lv_iinc (v := (x4_26 + 1)) (lv' := [(4, .int (x4_26 + 1)), (0, .ref (gA g 58)), (1, .int p1), (2, .int z0_105), (3, .int z0_118)]) hx hb dX6_hush_119 hl (k := 4) rfl rfl (by decide) rfl (fun ls hl => ?_)
            replace hl := lv_sub hl [1, 2, 3, 4, 0] (l' := [(0, .ref (gA g 58)), (1, .int p1), (2, .int z0_105), (3, .int z0_118), (4, .int (x4_26 + 1))]) rfl
            refine lv_goto (tgt := 26) hx hb dX6_hush_122 (by decide) ?_
            have e9 : (x4_26 + 1).toInt = x4_26.toInt + 1 := addL (k := 1) (by decide +kernel) (by clear hE; omega) (by clear hE; omega)
            exact ih26 z0_105 z0_118 (x4_26 + 1) (stA mo_60 3 ((4 * x4_26) + 3) (1 - ((mo_60.2 3) (Int32.toNatClampNeg ((4 * x4_26) + 3))))) _ _ _ hG _ (lv_sub hl [0, 1, 2, 3, 4] rfl) (by clear hE; omega) (by clear hE; omega) (by clear hE; omega) (mEv_of hv60 rfl rfl rfl rfl) hE
          refine lv_icmp_le (tgt := 117) hx hb dX6_hush_109 (by decide) (fun c_109 => ?_) (fun c_109 => ?_)
          · replace hE := (if_pos c_109).symm.trans hE
            refine lv_iload_n hx hb dX6_hush_117 rfl (lv_at hl 3 rfl) ?_
            exact J118 x3_26 _ _ _ hG _ (lv_sub hl [0, 1, 2, 4] rfl) hE
          replace hE := (if_neg c_109).symm.trans hE
          refine lv_iload hx hb dX6_hush_112 (lv_at hl 5 rfl) ?_
          refine lv_goto (tgt := 118) hx hb dX6_hush_114 (by decide) ?_
          exact J118 (F_X6_alone (stA mo_60 3 ((4 * x4_26) + 3) (1 - ((mo_60.2 3) (Int32.toNatClampNeg ((4 * x4_26) + 3)))))) _ _ _ hG _ (lv_sub hl [0, 1, 2, 4] rfl) hE
        refine lv_icmp_le (tgt := 104) hx hb dX6_hush_96 (by decide) (fun c_96 => ?_) (fun c_96 => ?_)
        · replace hE := (if_pos c_96).symm.trans hE
          refine lv_iload_n hx hb dX6_hush_104 rfl (lv_at hl 2 rfl) ?_
          exact J105 x2_26 _ _ _ hG _ (lv_sub hl [0, 1, 3, 4, 5] rfl) hE
        replace hE := (if_neg c_96).symm.trans hE
        refine lv_iload hx hb dX6_hush_99 (lv_at hl 4 rfl) ?_
        refine lv_goto (tgt := 105) hx hb dX6_hush_101 (by decide) ?_
        exact J105 x4_26 _ _ _ hG _ (lv_sub hl [0, 1, 3, 4, 5] rfl) hE
    exact L26 7 (-1) (F_X6_alone mo_13) 0 mo_13 _ _ _ hG _ (lv_sub hl [0, 1, 2, 3, 4] rfl) (by decide) (by decide) (by decide) hv13 hE
  replace hE := (if_pos c_6).symm.trans hE
  refine lv_bipush (v := (-2)) hx hb dX6_hush_9 (by decide) ?_
  subst hQ
  exact g_iret hx hb hr hlocks hG ((mo, jk) : Ob × (Nat → Nat → Int32)) rfl hE.symm dX6_hush_11
