def F_X5_run_c96 (u : Int32 × Ob) (tx : Nat → Ob) (tn : Nat → Ob) (x2 : Int32) (x4 : Int32) : Int32 × Ob :=
  (if x2 = 0 then (u.1, u.2) else (if x2 = 1 then ((F_X4_strikesOf tx u.2 (F_X4_liars tx u.2)), u.2) else (if x2 = 2 then ((F_X4_liars tx u.2), u.2) else (if x4 = 0 then ((F_X4_known u.2 (x2 - 10) 0), u.2) else ((F_X4_known u.2 (x2 - 20) 1), u.2)))))
def F_X5_run_c88 (u : Ob) (tx : Nat → Ob) (tn : Nat → Ob) (x1 : Int32) (x2 : Int32) (x4 : Int32) : Int32 × Ob :=
  (F_X5_run_c96 (F_X4_passHours tx u x1) tx tn x2 x4)
def F_X5_run_b87 (tx : Nat → Ob) (tn : Nat → Ob) (t_m : Ob) (x1 : Int32) (x2 : Int32) (x4 : Int32) : Int32 × Ob :=
  (F_X5_run_c88 (F_X5_startThought (va_up tn 1 t_m)) tx tn x1 x2 x4)
def F_X5_run_b64 (tx : Nat → Ob) (tn : Nat → Ob) (t_m : Ob) (x1 : Int32) (x2 : Int32) (x3 : Int32) (z0 : Int32) : Int32 × Ob :=
  (if (F_X5_isWithin x2 0 2) = 0 then (if x3 = 0 then (if z0 = 0 then ((-2), t_m) else (F_X5_run_b87  tx tn t_m x1 x2 z0)) else (F_X5_run_b87  tx tn t_m x1 x2 z0)) else (F_X5_run_b87  tx tn t_m x1 x2 z0))
def F_X5_run_b63 (tx : Nat → Ob) (tn : Nat → Ob) (t_m : Ob) (x1 : Int32) (x2 : Int32) (x3 : Int32) : Int32 × Ob :=
  (F_X5_run_b64  tx tn t_m x1 x2 x3 0)
def F_X5_run_b38 (tx : Nat → Ob) (tn : Nat → Ob) (t_m : Ob) (x1 : Int32) (x2 : Int32) (z0 : Int32) : Int32 × Ob :=
  (if x2 < 20 then (F_X5_run_b63  tx tn t_m x1 x2 z0) else (if (F_X4_has (tn 0) (x2 - 20)) = 0 then (F_X5_run_b63  tx tn t_m x1 x2 z0) else (F_X5_run_b64  tx tn t_m x1 x2 z0 1)))
def F_X5_run_b37 (tx : Nat → Ob) (tn : Nat → Ob) (t_m : Ob) (x1 : Int32) (x2 : Int32) : Int32 × Ob :=
  (F_X5_run_b38  tx tn t_m x1 x2 0)
def F_X5_run (tx : Nat → Ob) (tn : Nat → Ob) (p1 : Int32) (p2 : Int32) : Int32 × Ob :=
  (if (F_X5_isWithin p1 0 48) = 0 then ((-2), (tn 1)) else (if p2 < 10 then (F_X5_run_b37  tx tn (tn 1) p1 p2) else (if (F_X4_has (tn 0) (p2 - 10)) = 0 then (F_X5_run_b37  tx tn (tn 1) p1 p2) else (F_X5_run_b38  tx tn (tn 1) p1 p2 1))))
set_option maxHeartbeats 4000000 in
set_option maxRecDepth 100000 in
theorem c_X5_run {l : Launch} {g : GG} {sz : Nat} {bb : Ob} {tx rw : Nat → Ob} {sb dy : Ob} {tn : Nat → Ob} {mo : Ob} {jk : Nat → Nat → Int32}  (p1 : Int32) (p2 : Int32) (hv : tEv tx (tn 0)) : Met l yX5_run (Cond.code yX5_run cX5_run 7 (some .int) :: TT) (rmL 9) (va_Pc [.ref (gA g 0), .int p1, .int p2] (gB g sz (gW g bb tx rw sb dy tn mo jk))) (va_Qi (fun r (u : Ob × (Nat → Nat → Int32)) => (F_X5_run tx tn p1 p2) = (r, u.1)) (fun u t => gC g (va_A (gW g bb tx rw sb dy tn mo jk) sz) (gW g bb tx rw sb dy (va_up tn 1 u.1) mo u.2) t) (va_A (gW g bb tx rw sb dy tn mo jk) sz)) 0 0 (va_A (gW g bb tx rw sb dy tn mo jk) sz) := by
  generalize hE : F_X5_run tx tn p1 p2 = EE
  refine g_of (Qf := fun A => (va_Qi (fun r (u : Ob × (Nat → Nat → Int32)) => EE = (r, u.1)) (fun u t => gC g A (gW g bb tx rw sb dy (va_up tn 1 u.1) mo u.2) t) A)) (cc := cX5_run) (maxL := 7) (ret := (some .int)) (by decide) (Nat.le_of_ble_eq_true rfl) ?_
  intro p e s m below meth c A ls hx hb hml hr hlocks hts hown hA hG hl
  replace hown : s.vm.findClass RX5 = some m.cls := hown
  replace hl : lv_has ls 7 [(0, .ref (gA g 0)), (1, .int p1), (2, .int p2)] := hl
  show W p l e (rmL 9) s m [.ref (gA g 0), .int p1, .int p2].toArray below meth c s.heap [] 0 0 (MQ below (va_Qi (fun r (u : Ob × (Nat → Nat → Int32)) => EE = (r, u.1)) (fun u t => gC g A (gW g bb tx rw sb dy (va_up tn 1 u.1) mo u.2) t) A) [.ref (gA g 0), .int p1, .int p2].toArray s 0 0 A) (F0 m 0 ls [])
  generalize hQ : MQ below (va_Qi (fun r (u : Ob × (Nat → Nat → Int32)) => EE = (r, u.1)) (fun u t => gC g A (gW g bb tx rw sb dy (va_up tn 1 u.1) mo u.2) t) A) [.ref (gA g 0), .int p1, .int p2].toArray s 0 0 A = Q
  replace hG : gS g A s s.heap [] (gW g bb tx rw sb dy (va_up tn 1 (tn 1)) mo jk) := by simpa only [up_self] using hG
  unfold F_X5_run at hE
  refine lv_iload_n hx hb dX5_run_0 rfl (lv_at hl 1 rfl) ?_
  refine lv_iconst (v := 0) hx hb dX5_run_1 (by decide) ?_
  refine lv_bipush (v := 48) hx hb dX5_run_2 (by decide) ?_
  refine g_si (g_runS (n := 3) (rest := []) hx hb hml hown hts hG (c_X5_isWithin p1 0 48) tw_ml_RX5_81 tw_st_X5_isWithin tw_in_RX5 tw_cd_X5_isWithin (by decide +kernel) ⟨rfl, rfl, Nat.le_of_ble_eq_true rfl, Nat.le_of_ble_eq_true rfl⟩ rfl hl.1 rfl (Nat.le_of_ble_eq_true rfl) dX5_run_4 ⟨Nat.le_refl _, Nat.le_refl _⟩) hG hA (fun H locs hG => ?_)
  refine lv_if_ne (tgt := 13) hx hb dX5_run_7 (by decide) (fun c_7 => ?_) (fun c_7 => ?_)
  · replace hE := (if_neg c_7).symm.trans hE
    have i_7 : 0 ≤ p1.toInt ∧ p1.toInt ≤ 48 := within_f c_7
    refine lv_iload_n hx hb dX5_run_13 rfl (lv_at hl 2 rfl) ?_
    refine lv_bipush (v := 10) hx hb dX5_run_14 (by decide) ?_
    have J38 : ∀ (z0_38 : Int32) (jk : (Nat → Nat → Int32)) (H : Heap) (locs : List Loc), gS g A s H locs (gW g bb tx rw sb dy (va_up tn 1 (tn 1)) mo jk) → ∀ ls : Array Slot, lv_has ls 7 [(0, .ref (gA g 0)), (1, .int p1), (2, .int p2)] → F_X5_run_b38   tx tn (tn 1) p1 p2 z0_38 = EE → W p l e (rmL 9) s m [.ref (gA g 0), .int p1, .int p2].toArray below meth c H locs 0 0 Q (F0 m 38 ls [.int z0_38]) := by
      intro z0_38 jk H locs hG ls hl  hE
      unfold F_X5_run_b38 at hE
      refine lv_istore_n (lv' := [(3, .int z0_38), (0, .ref (gA g 0)), (1, .int p1), (2, .int p2)]) hx hb dX5_run_38 rfl hl (by decide) rfl (fun ls hl => ?_)
      replace hl := lv_sub hl [1, 2, 3, 0] (l' := [(0, .ref (gA g 0)), (1, .int p1), (2, .int p2), (3, .int z0_38)]) rfl
      refine lv_iload_n hx hb dX5_run_39 rfl (lv_at hl 2 rfl) ?_
      refine lv_bipush (v := 20) hx hb dX5_run_40 (by decide) ?_
      have J64 : ∀ (z0_64 : Int32) (jk : (Nat → Nat → Int32)) (H : Heap) (locs : List Loc), gS g A s H locs (gW g bb tx rw sb dy (va_up tn 1 (tn 1)) mo jk) → ∀ ls : Array Slot, lv_has ls 7 [(0, .ref (gA g 0)), (1, .int p1), (2, .int p2), (3, .int z0_38)] → F_X5_run_b64   tx tn (tn 1) p1 p2 z0_38 z0_64 = EE → W p l e (rmL 9) s m [.ref (gA g 0), .int p1, .int p2].toArray below meth c H locs 0 0 Q (F0 m 64 ls [.int z0_64]) := by
        intro z0_64 jk H locs hG ls hl  hE
        unfold F_X5_run_b64 at hE
        refine lv_istore (lv' := [(4, .int z0_64), (0, .ref (gA g 0)), (1, .int p1), (2, .int p2), (3, .int z0_38)]) hx hb dX5_run_64 hl (by decide) rfl (fun ls hl => ?_)
        replace hl := lv_sub hl [1, 2, 3, 4, 0] (l' := [(0, .ref (gA g 0)), (1, .int p1), (2, .int p2), (3, .int z0_38), (4, .int z0_64)]) rfl
        refine lv_iload_n hx hb dX5_run_66 rfl (lv_at hl 2 rfl) ?_
        refine lv_iconst (v := 0) hx hb dX5_run_67 (by decide) ?_
        refine lv_iconst (v := 2) hx hb dX5_run_68 (by decide) ?_
        refine g_si (g_runS (n := 3) (rest := []) hx hb hml hown hts hG (c_X5_isWithin p2 0 2) tw_ml_RX5_81 tw_st_X5_isWithin tw_in_RX5 tw_cd_X5_isWithin (by decide +kernel) ⟨rfl, rfl, Nat.le_of_ble_eq_true rfl, Nat.le_of_ble_eq_true rfl⟩ rfl hl.1 rfl (Nat.le_of_ble_eq_true rfl) dX5_run_69 ⟨Nat.le_refl _, Nat.le_refl _⟩) hG hA (fun H locs hG => ?_)
        have J87 : ∀  (jk : (Nat → Nat → Int32)) (H : Heap) (locs : List Loc), gS g A s H locs (gW g bb tx rw sb dy (va_up tn 1 (tn 1)) mo jk) → ∀ ls : Array Slot, lv_has ls 7 [(0, .ref (gA g 0)), (1, .int p1), (2, .int p2), (4, .int z0_64)] → F_X5_run_b87   tx tn (tn 1) p1 p2 z0_64 = EE → W p l e (rmL 9) s m [.ref (gA g 0), .int p1, .int p2].toArray below meth c H locs 0 0 Q (F0 m 87 ls []) := by
          intro  jk H locs hG ls hl  hE
          unfold F_X5_run_b87 at hE
          refine lv_aload_n hx hb dX5_run_87 rfl (lv_at hl 0 rfl) ?_
          refine g_cr (g_runV (n := 0) (rest := []) hx hb hml hown hts hG (c_X5_startThought hv.2.1) tw_ml_RX5_157 tw_im_X5_startThought tw_se_X5_startThought tw_in_RX5 tw_cd_X5_startThought (by decide +kernel) ⟨rfl, rfl, Nat.le_of_ble_eq_true rfl, Nat.le_of_ble_eq_true rfl⟩ gw_Bell rfl rfl hl.1 rfl (Nat.le_of_ble_eq_true rfl) dX5_run_88 ⟨Nat.le_refl _, Nat.le_refl _⟩) hG hA (fun u H locs hp hG => ?_)
          obtain ⟨t_m_88, rfl⟩ : ∃ z, z = u := ⟨u, rfl⟩
          replace hG : gS g A s H locs (gW g bb tx rw sb dy (va_up tn 1 t_m_88) mo jk) := by simpa only [up_up] using hG
          have hp_88 := hp
          rw [hp] at hE
          unfold F_X5_run_c88 at hE
          try dsimp only at hE
          have hv88 : tEv tx t_m_88 := tEv_st hp_88 hv
          refine lv_astore (lv' := [(5, .ref (gA g (40 + 6 * 1))), (0, .ref (gA g 0)), (1, .int p1), (2, .int p2), (4, .int z0_64)]) hx hb dX5_run_91 hl (by decide) rfl (fun ls hl => ?_)
          replace hl := lv_sub hl [1, 2, 3, 4, 0] (l' := [(0, .ref (gA g 0)), (1, .int p1), (2, .int p2), (4, .int z0_64), (5, .ref (gA g (40 + 6 * 1)))]) rfl
          refine lv_aload hx hb dX5_run_93 (lv_at hl 4 rfl) ?_
          refine lv_iload_n hx hb dX5_run_95 rfl (lv_at hl 1 rfl) ?_
          refine g_ci (g_runV (n := 1) (rest := []) hx hb hml hown hts hG (c_X4_passHours (by decide) (up_same _ _ _) p1 hv88 (by clear hE; omega)) tw_ml_RX5_161 tw_im_X4_passHours tw_se_X4_passHours tw_in_RX4 tw_cd_X4_passHours (by decide +kernel) ⟨rfl, rfl, Nat.le_of_ble_eq_true rfl, Nat.le_of_ble_eq_true rfl⟩ (gw_Town (o := 1) (by decide) (up_same _ _ _)) rfl rfl hl.1 rfl (Nat.le_of_ble_eq_true rfl) dX5_run_96 ⟨Nat.le_refl _, Nat.le_refl _⟩) hG hA (fun r_96 u H locs hp hG => ?_)
          obtain ⟨t_m_96, jk⟩ := u
          replace hG : gS g A s H locs (gW g bb tx rw sb dy (va_up tn 1 t_m_96) mo jk) := by simpa only [up_up] using hG
          have hp_96 := hp
          rw [hp] at hE
          unfold F_X5_run_c96 at hE
          try dsimp only at hE
          have hv96 : tEv tx t_m_96 := tEv_pHs hp_96 hv88
          refine lv_istore (lv' := [(6, .int r_96), (0, .ref (gA g 0)), (1, .int p1), (2, .int p2), (4, .int z0_64), (5, .ref (gA g (40 + 6 * 1)))]) hx hb dX5_run_99 hl (by decide) rfl (fun ls hl => ?_)
          replace hl := lv_sub hl [1, 2, 3, 4, 5, 0] (l' := [(0, .ref (gA g 0)), (1, .int p1), (2, .int p2), (4, .int z0_64), (5, .ref (gA g (40 + 6 * 1))), (6, .int r_96)]) rfl
          refine lv_iload_n hx hb dX5_run_101 rfl (lv_at hl 2 rfl) ?_
          by_cases c_102_0 : p2 = 0
          · replace hE := (if_pos c_102_0).symm.trans hE
            refine lv_tableIn (off := 26) (tgt := 128) hx hb dX5_run_102 (by rw [c_102_0]; decide) (by rw [c_102_0]; decide) (by rw [c_102_0]; decide) (by decide) ?_
            have i_102_0 : p2.toInt = 0 := congrArg Int32.toInt c_102_0
            refine lv_iload hx hb dX5_run_128 (lv_at hl 5 rfl) ?_
            subst hQ
            exact g_iret hx hb hr hlocks hG ((t_m_96, jk) : Ob × (Nat → Nat → Int32)) rfl hE.symm dX5_run_130
          replace hE := (if_neg c_102_0).symm.trans hE
          by_cases c_102_1 : p2 = 1
          · replace hE := (if_pos c_102_1).symm.trans hE
            refine lv_tableIn (off := 29) (tgt := 131) hx hb dX5_run_102 (by rw [c_102_1]; decide) (by rw [c_102_1]; decide) (by rw [c_102_1]; decide) (by decide) ?_
            have i_102_1 : p2.toInt = 1 := congrArg Int32.toInt c_102_1
            refine lv_aload hx hb dX5_run_131 (lv_at hl 4 rfl) ?_
            refine lv_aload hx hb dX5_run_133 (lv_at hl 4 rfl) ?_
            refine g_ci (g_runV (n := 0) (rest := [.ref (gA g (40 + 6 * 1))]) hx hb hml hown hts hG (c_X4_liars (by decide) (up_same _ _ _) hv96) tw_ml_RX5_144 tw_im_X4_liars tw_se_X4_liars tw_in_RX4 tw_cd_X4_liars (by decide +kernel) ⟨rfl, rfl, Nat.le_of_ble_eq_true rfl, Nat.le_of_ble_eq_true rfl⟩ (gw_Town (o := 1) (by decide) (up_same _ _ _)) rfl rfl hl.1 rfl (Nat.le_of_ble_eq_true rfl) dX5_run_135 ⟨Nat.le_refl _, Nat.le_refl _⟩) hG hA (fun r jk H locs hp hG => ?_)
            subst hp
            replace hG : gS g A s H locs (gW g bb tx rw sb dy (va_up tn 1 t_m_96) mo jk) := hG
            refine g_ci (g_runV (n := 1) (rest := []) hx hb hml hown hts hG (c_X4_strikesOf (by decide) (up_same _ _ _) (F_X4_liars tx t_m_96) hv96) tw_ml_RX5_148 tw_im_X4_strikesOf tw_se_X4_strikesOf tw_in_RX4 tw_cd_X4_strikesOf (by decide +kernel) ⟨rfl, rfl, Nat.le_of_ble_eq_true rfl, Nat.le_of_ble_eq_true rfl⟩ (gw_Town (o := 1) (by decide) (up_same _ _ _)) rfl rfl hl.1 rfl (Nat.le_of_ble_eq_true rfl) dX5_run_138 ⟨Nat.le_refl _, Nat.le_refl _⟩) hG hA (fun r jk H locs hp hG => ?_)
            subst hp
            replace hG : gS g A s H locs (gW g bb tx rw sb dy (va_up tn 1 t_m_96) mo jk) := hG
            subst hQ
            exact g_iret hx hb hr hlocks hG ((t_m_96, jk) : Ob × (Nat → Nat → Int32)) rfl hE.symm dX5_run_141
          replace hE := (if_neg c_102_1).symm.trans hE
          by_cases c_102_2 : p2 = 2
          · replace hE := (if_pos c_102_2).symm.trans hE
            refine lv_tableIn (off := 40) (tgt := 142) hx hb dX5_run_102 (by rw [c_102_2]; decide) (by rw [c_102_2]; decide) (by rw [c_102_2]; decide) (by decide) ?_
            have i_102_2 : p2.toInt = 2 := congrArg Int32.toInt c_102_2
            refine lv_aload hx hb dX5_run_142 (lv_at hl 4 rfl) ?_
            refine g_ci (g_runV (n := 0) (rest := []) hx hb hml hown hts hG (c_X4_liars (by decide) (up_same _ _ _) hv96) tw_ml_RX5_144 tw_im_X4_liars tw_se_X4_liars tw_in_RX4 tw_cd_X4_liars (by decide +kernel) ⟨rfl, rfl, Nat.le_of_ble_eq_true rfl, Nat.le_of_ble_eq_true rfl⟩ (gw_Town (o := 1) (by decide) (up_same _ _ _)) rfl rfl hl.1 rfl (Nat.le_of_ble_eq_true rfl) dX5_run_144 ⟨Nat.le_refl _, Nat.le_refl _⟩) hG hA (fun r jk H locs hp hG => ?_)
            subst hp
            replace hG : gS g A s H locs (gW g bb tx rw sb dy (va_up tn 1 t_m_96) mo jk) := hG
            subst hQ
            exact g_iret hx hb hr hlocks hG ((t_m_96, jk) : Ob × (Nat → Nat → Int32)) rfl hE.symm dX5_run_147
          replace hE := (if_neg c_102_2).symm.trans hE
          refine lv_tableOut (tgt := 148) hx hb dX5_run_102 (by have k0 := lv_neT c_102_0 (a := 0) (by decide); have k1 := lv_neT c_102_1 (a := 1) (by decide); have k2 := lv_neT c_102_2 (a := 2) (by decide); omega) (by decide) ?_
          refine lv_iload hx hb dX5_run_148 (lv_at hl 3 rfl) ?_
          refine lv_if_eq (tgt := 166) hx hb dX5_run_150 (by decide) (fun c_150 => ?_) (fun c_150 => ?_)
          · replace hE := (if_pos c_150).symm.trans hE
            have i_150 : z0_64.toInt = 0 := congrArg Int32.toInt c_150
            refine lv_aload hx hb dX5_run_166 (lv_at hl 4 rfl) ?_
            refine lv_iload_n hx hb dX5_run_168 rfl (lv_at hl 2 rfl) ?_
            refine lv_bipush (v := 10) hx hb dX5_run_169 (by decide) ?_
            refine lv_isub hx hb dX5_run_171 ?_
            refine lv_iconst (v := 0) hx hb dX5_run_172 (by decide) ?_
            refine g_ci (g_runV (n := 2) (rest := []) hx hb hml hown hts hG (c_X4_known (by decide) (up_same _ _ _) (p2 - 10) 0) tw_ml_RX5_120 tw_im_X4_known tw_se_X4_known tw_in_RX4 tw_cd_X4_known (by decide +kernel) ⟨rfl, rfl, Nat.le_of_ble_eq_true rfl, Nat.le_of_ble_eq_true rfl⟩ (gw_Town (o := 1) (by decide) (up_same _ _ _)) rfl rfl hl.1 rfl (Nat.le_of_ble_eq_true rfl) dX5_run_173 ⟨Nat.le_refl _, Nat.le_refl _⟩) hG hA (fun r _ H locs hp hG => ?_)
            subst hp
            replace hG : gS g A s H locs (gW g bb tx rw sb dy (va_up tn 1 t_m_96) mo jk) := hG
            subst hQ
            exact g_iret hx hb hr hlocks hG ((t_m_96, jk) : Ob × (Nat → Nat → Int32)) rfl hE.symm dX5_run_176
          replace hE := (if_neg c_150).symm.trans hE
          have i_150 : z0_64.toInt ≠ 0 := fun h => c_150 (Int32.toInt_inj.mp h)
          refine lv_aload hx hb dX5_run_153 (lv_at hl 4 rfl) ?_
          refine lv_iload_n hx hb dX5_run_155 rfl (lv_at hl 2 rfl) ?_
          refine lv_bipush (v := 20) hx hb dX5_run_156 (by decide) ?_
          refine lv_isub hx hb dX5_run_158 ?_
          refine lv_iconst (v := 1) hx hb dX5_run_159 (by decide) ?_
          refine g_ci (g_runV (n := 2) (rest := []) hx hb hml hown hts hG (c_X4_known (by decide) (up_same _ _ _) (p2 - 20) 1) tw_ml_RX5_120 tw_im_X4_known tw_se_X4_known tw_in_RX4 tw_cd_X4_known (by decide +kernel) ⟨rfl, rfl, Nat.le_of_ble_eq_true rfl, Nat.le_of_ble_eq_true rfl⟩ (gw_Town (o := 1) (by decide) (up_same _ _ _)) rfl rfl hl.1 rfl (Nat.le_of_ble_eq_true rfl) dX5_run_160 ⟨Nat.le_refl _, Nat.le_refl _⟩) hG hA (fun r _ H locs hp hG => ?_)
          subst hp
          replace hG : gS g A s H locs (gW g bb tx rw sb dy (va_up tn 1 t_m_96) mo jk) := hG
          refine lv_goto (tgt := 176) hx hb dX5_run_163 (by decide) ?_
          subst hQ
          exact g_iret hx hb hr hlocks hG ((t_m_96, jk) : Ob × (Nat → Nat → Int32)) rfl hE.symm dX5_run_176
        refine lv_if_ne (tgt := 87) hx hb dX5_run_72 (by decide) (fun c_72 => ?_) (fun c_72 => ?_)
        · replace hE := (if_neg c_72).symm.trans hE
          have i_72 : 0 ≤ p2.toInt ∧ p2.toInt ≤ 2 := within_f c_72
          exact J87 _ _ _ hG _ (lv_sub hl [0, 1, 2, 4] rfl) hE
        replace hE := (if_pos c_72).symm.trans hE
        refine lv_iload_n hx hb dX5_run_75 rfl (lv_at hl 3 rfl) ?_
        refine lv_if_ne (tgt := 87) hx hb dX5_run_76 (by decide) (fun c_76 => ?_) (fun c_76 => ?_)
        · replace hE := (if_neg c_76).symm.trans hE
          have i_76 : z0_38.toInt ≠ 0 := fun h => c_76 (Int32.toInt_inj.mp h)
          exact J87 _ _ _ hG _ (lv_sub hl [0, 1, 2, 4] rfl) hE
        replace hE := (if_pos c_76).symm.trans hE
        have i_76 : z0_38.toInt = 0 := congrArg Int32.toInt c_76
        refine lv_iload hx hb dX5_run_79 (lv_at hl 4 rfl) ?_
        refine lv_if_ne (tgt := 87) hx hb dX5_run_81 (by decide) (fun c_81 => ?_) (fun c_81 => ?_)
        · replace hE := (if_neg c_81).symm.trans hE
          have i_81 : z0_64.toInt ≠ 0 := fun h => c_81 (Int32.toInt_inj.mp h)
          exact J87 _ _ _ hG _ (lv_sub hl [0, 1, 2, 4] rfl) hE
        replace hE := (if_pos c_81).symm.trans hE
        have i_81 : z0_64.toInt = 0 := congrArg Int32.toInt c_81
        refine lv_bipush (v := (-2)) hx hb dX5_run_84 (by decide) ?_
        subst hQ
        exact g_iret hx hb hr hlocks hG (((tn 1), jk) : Ob × (Nat → Nat → Int32)) rfl hE.symm dX5_run_86
      have J63 : ∀  (jk : (Nat → Nat → Int32)) (H : Heap) (locs : List Loc), gS g A s H locs (gW g bb tx rw sb dy (va_up tn 1 (tn 1)) mo jk) → ∀ ls : Array Slot, lv_has ls 7 [(0, .ref (gA g 0)), (1, .int p1), (2, .int p2), (3, .int z0_38)] → F_X5_run_b63   tx tn (tn 1) p1 p2 z0_38 = EE → W p l e (rmL 9) s m [.ref (gA g 0), .int p1, .int p2].toArray below meth c H locs 0 0 Q (F0 m 63 ls []) := by
        intro  jk H locs hG ls hl  hE
        unfold F_X5_run_b63 at hE
        refine lv_iconst (v := 0) hx hb dX5_run_63 (by decide) ?_
        exact J64 0 _ _ _ hG _ (lv_sub hl [0, 1, 2, 3] rfl) hE
      refine lv_icmp_lt (tgt := 63) hx hb dX5_run_42 (by decide) (fun c_42 => ?_) (fun c_42 => ?_)
      · replace hE := (if_pos c_42).symm.trans hE
        have i_42 : p2.toInt < 20 := i_lt.mp c_42
        exact J63 _ _ _ hG _ (lv_sub hl [0, 1, 2, 3] rfl) hE
      replace hE := (if_neg c_42).symm.trans hE
      have i_42 : 20 ≤ p2.toInt := i_nlt c_42
      refine lv_aload_n hx hb dX5_run_45 rfl (lv_at hl 0 rfl) ?_
      refine g_get hx hb hts hiX5 hown hG gw_Bell rfl 4 (by decide) (index := 53) tw_fl_RX5_53 (v := .ref (gA g (40 + 6 * 0))) rfl dX5_run_46 ?_
      refine lv_iload_n hx hb dX5_run_49 rfl (lv_at hl 2 rfl) ?_
      refine lv_bipush (v := 20) hx hb dX5_run_50 (by decide) ?_
      refine lv_isub hx hb dX5_run_52 ?_
      refine g_ci (g_runV (n := 1) (rest := []) hx hb hml hown hts hG (c_X4_has (by decide) (show _ = (tn 0) from rfl) (p2 - 20)) tw_ml_RX5_101 tw_im_X4_has tw_se_X4_has tw_in_RX4 tw_cd_X4_has (by decide +kernel) ⟨rfl, rfl, Nat.le_of_ble_eq_true rfl, Nat.le_of_ble_eq_true rfl⟩ (gw_Town (o := 0) (by decide) (show _ = (tn 0) from rfl)) rfl rfl hl.1 rfl (Nat.le_of_ble_eq_true rfl) dX5_run_53 ⟨Nat.le_refl _, Nat.le_refl _⟩) hG hA (fun r _ H locs hp hG => ?_)
      subst hp
      replace hG : gS g A s H locs (gW g bb tx rw sb dy (va_up tn 1 (tn 1)) mo jk) := hG
      refine lv_if_eq (tgt := 63) hx hb dX5_run_56 (by decide) (fun c_56 => ?_) (fun c_56 => ?_)
      · replace hE := (if_pos c_56).symm.trans hE
        exact J63 _ _ _ hG _ (lv_sub hl [0, 1, 2, 3] rfl) hE
      replace hE := (if_neg c_56).symm.trans hE
      have i_56 := has_f c_56
      refine lv_iconst (v := 1) hx hb dX5_run_59 (by decide) ?_
      refine lv_goto (tgt := 64) hx hb dX5_run_60 (by decide) ?_
      exact J64 1 _ _ _ hG _ (lv_sub hl [0, 1, 2, 3] rfl) hE
    have J37 : ∀  (jk : (Nat → Nat → Int32)) (H : Heap) (locs : List Loc), gS g A s H locs (gW g bb tx rw sb dy (va_up tn 1 (tn 1)) mo jk) → ∀ ls : Array Slot, lv_has ls 7 [(0, .ref (gA g 0)), (1, .int p1), (2, .int p2)] → F_X5_run_b37   tx tn (tn 1) p1 p2 = EE → W p l e (rmL 9) s m [.ref (gA g 0), .int p1, .int p2].toArray below meth c H locs 0 0 Q (F0 m 37 ls []) := by
      intro  jk H locs hG ls hl  hE
      unfold F_X5_run_b37 at hE
      refine lv_iconst (v := 0) hx hb dX5_run_37 (by decide) ?_
      exact J38 0 _ _ _ hG _ (lv_sub hl [0, 1, 2] rfl) hE
    refine lv_icmp_lt (tgt := 37) hx hb dX5_run_16 (by decide) (fun c_16 => ?_) (fun c_16 => ?_)
    · replace hE := (if_pos c_16).symm.trans hE
      have i_16 : p2.toInt < 10 := i_lt.mp c_16
      exact J37 _ _ _ hG _ (lv_sub hl [0, 1, 2] rfl) hE
    replace hE := (if_neg c_16).symm.trans hE
    have i_16 : 10 ≤ p2.toInt := i_nlt c_16
    refine lv_aload_n hx hb dX5_run_19 rfl (lv_at hl 0 rfl) ?_
    refine g_get hx hb hts hiX5 hown hG gw_Bell rfl 4 (by decide) (index := 53) tw_fl_RX5_53 (v := .ref (gA g (40 + 6 * 0))) rfl dX5_run_20 ?_
    refine lv_iload_n hx hb dX5_run_23 rfl (lv_at hl 2 rfl) ?_
    refine lv_bipush (v := 10) hx hb dX5_run_24 (by decide) ?_
    refine lv_isub hx hb dX5_run_26 ?_
    refine g_ci (g_runV (n := 1) (rest := []) hx hb hml hown hts hG (c_X4_has (by decide) (show _ = (tn 0) from rfl) (p2 - 10)) tw_ml_RX5_101 tw_im_X4_has tw_se_X4_has tw_in_RX4 tw_cd_X4_has (by decide +kernel) ⟨rfl, rfl, Nat.le_of_ble_eq_true rfl, Nat.le_of_ble_eq_true rfl⟩ (gw_Town (o := 0) (by decide) (show _ = (tn 0) from rfl)) rfl rfl hl.1 rfl (Nat.le_of_ble_eq_true rfl) dX5_run_27 ⟨Nat.le_refl _, Nat.le_refl _⟩) hG hA (fun r _ H locs hp hG => ?_)
    subst hp
    replace hG : gS g A s H locs (gW g bb tx rw sb dy (va_up tn 1 (tn 1)) mo jk) := hG
    refine lv_if_eq (tgt := 37) hx hb dX5_run_30 (by decide) (fun c_30 => ?_) (fun c_30 => ?_)
    · replace hE := (if_pos c_30).symm.trans hE
      exact J37 _ _ _ hG _ (lv_sub hl [0, 1, 2] rfl) hE
    replace hE := (if_neg c_30).symm.trans hE
    have i_30 := has_f c_30
    refine lv_iconst (v := 1) hx hb dX5_run_33 (by decide) ?_
    refine lv_goto (tgt := 38) hx hb dX5_run_34 (by decide) ?_
    exact J38 1 _ _ _ hG _ (lv_sub hl [0, 1, 2] rfl) hE
  replace hE := (if_pos c_7).symm.trans hE
  refine lv_bipush (v := (-2)) hx hb dX5_run_10 (by decide) ?_
  subst hQ
  exact g_iret hx hb hr hlocks hG (((tn 1), jk) : Ob × (Nat → Nat → Int32)) rfl hE.symm dX5_run_12
def F_X5_when_c32 (K21 : (Nat → Ob) → (Nat → Ob) → Ob → Int32 → Int32 → Int32 × Ob) (u : Int32 × Ob) (tx : Nat → Ob) (tn : Nat → Ob) (x1 : Int32) (x3 : Int32) : Int32 × Ob :=
  (if u.1 = x1 then (x3, u.2) else (K21 tx tn u.2 x1 (x3 + 1)))
def F_X5_when_l21 : Nat → (Nat → Ob) → (Nat → Ob) → Ob → Int32 → Int32 → Int32 × Ob
  | 0, _, _, t_m, _, _ => (0, t_m)
  | n + 1, tx, tn, t_m, x1, x3 =>
    (if 60 < x3 then ((-1), t_m) else (F_X5_when_c32 (F_X5_when_l21 n ) (F_X4_passHour tx t_m (F_X4_liars tx t_m)) tx tn x1 x3))
def F_X5_when_c15 (u : Ob) (tx : Nat → Ob) (tn : Nat → Ob) (x1 : Int32) : Int32 × Ob :=
  (F_X5_when_l21 62  tx tn u x1 0)
def F_X5_when (tx : Nat → Ob) (tn : Nat → Ob) (p1 : Int32) : Int32 × Ob :=
  (if (F_X5_isWithin p1 0 999) = 0 then ((-2), (tn 1)) else (F_X5_when_c15 (F_X5_startThought (va_up tn 1 (tn 1))) tx tn p1))
set_option maxHeartbeats 4000000 in
set_option maxRecDepth 100000 in
theorem c_X5_when {l : Launch} {g : GG} {sz : Nat} {bb : Ob} {tx rw : Nat → Ob} {sb dy : Ob} {tn : Nat → Ob} {mo : Ob} {jk : Nat → Nat → Int32}  (p1 : Int32) (hv : tEv tx (tn 0)) : Met l yX5_when (Cond.code yX5_when cX5_when 4 (some .int) :: TT) (rmL 9) (va_Pc [.ref (gA g 0), .int p1] (gB g sz (gW g bb tx rw sb dy tn mo jk))) (va_Qi (fun r (u : Ob × (Nat → Nat → Int32)) => (F_X5_when tx tn p1) = (r, u.1)) (fun u t => gC g (va_A (gW g bb tx rw sb dy tn mo jk) sz) (gW g bb tx rw sb dy (va_up tn 1 u.1) mo u.2) t) (va_A (gW g bb tx rw sb dy tn mo jk) sz)) 0 0 (va_A (gW g bb tx rw sb dy tn mo jk) sz) := by
  generalize hE : F_X5_when tx tn p1 = EE
  refine g_of (Qf := fun A => (va_Qi (fun r (u : Ob × (Nat → Nat → Int32)) => EE = (r, u.1)) (fun u t => gC g A (gW g bb tx rw sb dy (va_up tn 1 u.1) mo u.2) t) A)) (cc := cX5_when) (maxL := 4) (ret := (some .int)) (by decide) (Nat.le_of_ble_eq_true rfl) ?_
  intro p e s m below meth c A ls hx hb hml hr hlocks hts hown hA hG hl
  replace hown : s.vm.findClass RX5 = some m.cls := hown
  replace hl : lv_has ls 4 [(0, .ref (gA g 0)), (1, .int p1)] := hl
  show W p l e (rmL 9) s m [.ref (gA g 0), .int p1].toArray below meth c s.heap [] 0 0 (MQ below (va_Qi (fun r (u : Ob × (Nat → Nat → Int32)) => EE = (r, u.1)) (fun u t => gC g A (gW g bb tx rw sb dy (va_up tn 1 u.1) mo u.2) t) A) [.ref (gA g 0), .int p1].toArray s 0 0 A) (F0 m 0 ls [])
  generalize hQ : MQ below (va_Qi (fun r (u : Ob × (Nat → Nat → Int32)) => EE = (r, u.1)) (fun u t => gC g A (gW g bb tx rw sb dy (va_up tn 1 u.1) mo u.2) t) A) [.ref (gA g 0), .int p1].toArray s 0 0 A = Q
  replace hG : gS g A s s.heap [] (gW g bb tx rw sb dy (va_up tn 1 (tn 1)) mo jk) := by simpa only [up_self] using hG
  unfold F_X5_when at hE
  refine lv_iload_n hx hb dX5_when_0 rfl (lv_at hl 1 rfl) ?_
  refine lv_iconst (v := 0) hx hb dX5_when_1 (by decide) ?_
  refine lv_sipush (v := 999) hx hb dX5_when_2 (by decide) ?_
  refine g_si (g_runS (n := 3) (rest := []) hx hb hml hown hts hG (c_X5_isWithin p1 0 999) tw_ml_RX5_81 tw_st_X5_isWithin tw_in_RX5 tw_cd_X5_isWithin (by decide +kernel) ⟨rfl, rfl, Nat.le_of_ble_eq_true rfl, Nat.le_of_ble_eq_true rfl⟩ rfl hl.1 rfl (Nat.le_of_ble_eq_true rfl) dX5_when_5 ⟨Nat.le_refl _, Nat.le_refl _⟩) hG hA (fun H locs hG => ?_)
  refine lv_if_ne (tgt := 14) hx hb dX5_when_8 (by decide) (fun c_8 => ?_) (fun c_8 => ?_)
  · replace hE := (if_neg c_8).symm.trans hE
    have i_8 : 0 ≤ p1.toInt ∧ p1.toInt ≤ 999 := within_f c_8
    refine lv_aload_n hx hb dX5_when_14 rfl (lv_at hl 0 rfl) ?_
    refine g_cr (g_runV (n := 0) (rest := []) hx hb hml hown hts hG (c_X5_startThought hv.2.1) tw_ml_RX5_157 tw_im_X5_startThought tw_se_X5_startThought tw_in_RX5 tw_cd_X5_startThought (by decide +kernel) ⟨rfl, rfl, Nat.le_of_ble_eq_true rfl, Nat.le_of_ble_eq_true rfl⟩ gw_Bell rfl rfl hl.1 rfl (Nat.le_of_ble_eq_true rfl) dX5_when_15 ⟨Nat.le_refl _, Nat.le_refl _⟩) hG hA (fun u H locs hp hG => ?_)
    obtain ⟨t_m_15, rfl⟩ : ∃ z, z = u := ⟨u, rfl⟩
    replace hG : gS g A s H locs (gW g bb tx rw sb dy (va_up tn 1 t_m_15) mo jk) := by simpa only [up_up] using hG
    have hp_15 := hp
    rw [hp] at hE
    unfold F_X5_when_c15 at hE
    try dsimp only at hE
    have hv15 : tEv tx t_m_15 := tEv_st hp_15 hv
    refine lv_astore_n (lv' := [(2, .ref (gA g (40 + 6 * 1))), (0, .ref (gA g 0)), (1, .int p1)]) hx hb dX5_when_18 rfl hl (by decide) rfl (fun ls hl => ?_)
    replace hl := lv_sub hl [1, 2, 0] (l' := [(0, .ref (gA g 0)), (1, .int p1), (2, .ref (gA g (40 + 6 * 1)))]) rfl
    refine lv_iconst (v := 0) hx hb dX5_when_19 (by decide) ?_
    refine lv_istore_n (lv' := [(3, .int 0), (0, .ref (gA g 0)), (1, .int p1), (2, .ref (gA g (40 + 6 * 1)))]) hx hb dX5_when_20 rfl hl (by decide) rfl (fun ls hl => ?_)
    replace hl := lv_sub hl [1, 2, 3, 0] (l' := [(0, .ref (gA g 0)), (1, .int p1), (2, .ref (gA g (40 + 6 * 1))), (3, .int 0)]) rfl
    have L21 : ∀ (n : Nat) (x3_21 : Int32) (t_m_21 : Ob) (jk : (Nat → Nat → Int32)) (H : Heap) (locs : List Loc), gS g A s H locs (gW g bb tx rw sb dy (va_up tn 1 t_m_21) mo jk) → ∀ ls : Array Slot, lv_has ls 4 [(1, .int p1), (2, .ref (gA g (40 + 6 * 1))), (3, .int x3_21)] → 0 ≤ x3_21.toInt → x3_21.toInt ≤ 61 → 61 < x3_21.toInt + n → tEv tx t_m_21 → F_X5_when_l21 n  tx tn t_m_21 p1 x3_21 = EE → W p l e (rmL 9) s m [.ref (gA g 0), .int p1].toArray below meth c H locs 0 0 Q (F0 m 21 ls []) := by
      intro n
      induction n with
      | zero =>
        intro x3_21 t_m_21 jk H locs hG ls hl h0_21 h1_21 hm_21 hv21 hE
        omega
      | succ n ih21 =>
        intro x3_21 t_m_21 jk H locs hG ls hl h0_21 h1_21 hm_21 hv21 hE
        unfold F_X5_when_l21 at hE
        refine lv_iload_n hx hb dX5_when_21 rfl (lv_at hl 2 rfl) ?_
        refine lv_bipush (v := 60) hx hb dX5_when_22 (by decide) ?_
        refine lv_icmp_gt (tgt := 47) hx hb dX5_when_24 (by decide) (fun c_24 => ?_) (fun c_24 => ?_)
        · replace hE := (if_pos c_24).symm.trans hE
          have i_24 : 60 < x3_21.toInt := i_lt.mp c_24
          refine lv_iconst (v := (-1)) hx hb dX5_when_47 (by decide) ?_
          subst hQ
          exact g_iret hx hb hr hlocks hG ((t_m_21, jk) : Ob × (Nat → Nat → Int32)) rfl hE.symm dX5_when_48
        replace hE := (if_neg c_24).symm.trans hE
        have i_24 : x3_21.toInt ≤ 60 := i_nlt c_24
        refine lv_aload_n hx hb dX5_when_27 rfl (lv_at hl 1 rfl) ?_
        refine lv_aload_n hx hb dX5_when_28 rfl (lv_at hl 1 rfl) ?_
        refine g_ci (g_runV (n := 0) (rest := [.ref (gA g (40 + 6 * 1))]) hx hb hml hown hts hG (c_X4_liars (by decide) (up_same _ _ _) hv21) tw_ml_RX5_144 tw_im_X4_liars tw_se_X4_liars tw_in_RX4 tw_cd_X4_liars (by decide +kernel) ⟨rfl, rfl, Nat.le_of_ble_eq_true rfl, Nat.le_of_ble_eq_true rfl⟩ (gw_Town (o := 1) (by decide) (up_same _ _ _)) rfl rfl hl.1 rfl (Nat.le_of_ble_eq_true rfl) dX5_when_29 ⟨Nat.le_refl _, Nat.le_refl _⟩) hG hA (fun r jk H locs hp hG => ?_)
        subst hp
        replace hG : gS g A s H locs (gW g bb tx rw sb dy (va_up tn 1 t_m_21) mo jk) := hG
        refine g_ci (g_runV (n := 1) (rest := []) hx hb hml hown hts hG (c_X4_passHour (by decide) (up_same _ _ _) (F_X4_liars tx t_m_21) hv21) tw_ml_RX5_154 tw_im_X4_passHour tw_se_X4_passHour tw_in_RX4 tw_cd_X4_passHour (by decide +kernel) ⟨rfl, rfl, Nat.le_of_ble_eq_true rfl, Nat.le_of_ble_eq_true rfl⟩ (gw_Town (o := 1) (by decide) (up_same _ _ _)) rfl rfl hl.1 rfl (Nat.le_of_ble_eq_true rfl) dX5_when_32 ⟨Nat.le_refl _, Nat.le_refl _⟩) hG hA (fun r_32 u H locs hp hG => ?_)
        obtain ⟨t_m_32, jk⟩ := u
        replace hG : gS g A s H locs (gW g bb tx rw sb dy (va_up tn 1 t_m_32) mo jk) := by simpa only [up_up] using hG
        have hp_32 := hp
        rw [hp] at hE
        unfold F_X5_when_c32 at hE
        try dsimp only at hE
        have hv32 : tEv tx t_m_32 := tEv_pH hp_32 hv21
        refine lv_iload_n hx hb dX5_when_35 rfl (lv_at hl 0 rfl) ?_
        refine lv_icmp_ne (tgt := 41) hx hb dX5_when_36 (by decide) (fun c_36 => ?_) (fun c_36 => ?_)
        · replace hE := (if_neg c_36).symm.trans hE
          have i_36 : r_32.toInt ≠ p1.toInt := fun h => c_36 (Int32.toInt_inj.mp h)
          refine lv_iinc (v := (x3_21 + 1)) (lv' := [(3, .int (x3_21 + 1)), (1, .int p1), (2, .ref (gA g (40 + 6 * 1)))]) hx hb dX5_when_41 hl (k := 2) rfl rfl (by decide) rfl (fun ls hl => ?_)
          replace hl := lv_sub hl [1, 2, 0] (l' := [(1, .int p1), (2, .ref (gA g (40 + 6 * 1))), (3, .int (x3_21 + 1))]) rfl
          refine lv_goto (tgt := 21) hx hb dX5_when_44 (by decide) ?_
          have e1 : (x3_21 + 1).toInt = x3_21.toInt + 1 := addL (k := 1) (by decide +kernel) (by clear hE; omega) (by clear hE; omega)
          exact ih21 (x3_21 + 1) t_m_32 _ _ _ hG _ (lv_sub hl [0, 1, 2] rfl) (by clear hE; omega) (by clear hE; omega) (by clear hE; omega) hv32 hE
        replace hE := (if_pos c_36).symm.trans hE
        have i_36 : r_32.toInt = p1.toInt := congrArg Int32.toInt c_36
        refine lv_iload_n hx hb dX5_when_39 rfl (lv_at hl 2 rfl) ?_
        subst hQ
        exact g_iret hx hb hr hlocks hG ((t_m_32, jk) : Ob × (Nat → Nat → Int32)) rfl hE.symm dX5_when_40
    exact L21 62 0 t_m_15 _ _ _ hG _ (lv_sub hl [1, 2, 3] rfl) (by decide) (by decide) (by decide) hv15 hE
  replace hE := (if_pos c_8).symm.trans hE
  refine lv_bipush (v := (-2)) hx hb dX5_when_11 (by decide) ?_
  subst hQ
  exact g_iret hx hb hr hlocks hG (((tn 1), jk) : Ob × (Nat → Nat → Int32)) rfl hE.symm dX5_when_13
def F_X0_live_c30 (K2 : (Nat → Ob) → Ob → Ob → Int32 → Ob × Ob) (u : Int32 × Ob) (tx : Nat → Ob) (dy : Ob) (x2 : Int32) (z1 : Int32) : Ob × Ob :=
  (K2 tx (stA dy 0 z1 u.1) u.2 (x2 + 1))
def F_X0_live_l2 : Nat → (Nat → Ob) → Ob → Ob → Int32 → Ob × Ob
  | 0, _, dy, T2, _ => (dy, T2)
  | n + 1, tx, dy, T2, x2 =>
    (if 24 ≤ x2 then (dy, T2) else (F_X0_live_c30 (F_X0_live_l2 n ) (F_X4_passHour tx T2 (((stA dy 1 x2 (F_X4_liars tx T2)).2 1) (Int32.toNatClampNeg x2))) tx (stA dy 1 x2 (F_X4_liars tx T2)) x2 x2))
def F_X0_live (tx : Nat → Ob) (dy : Ob) (T2 : Ob) : Ob × Ob :=
  (F_X0_live_l2 25  tx dy T2 0)
set_option maxHeartbeats 4000000 in
set_option maxRecDepth 100000 in
theorem c_X0_live {l : Launch} {g : GG} {sz : Nat} {bb : Ob} {tx rw : Nat → Ob} {sb dy : Ob} {tn : Nat → Ob} {mo : Ob} {jk : Nat → Nat → Int32} {o2 : Nat} (ho2 : o2 < 3) {T2 : Ob} (hT2 : tn o2 = T2)  (hv : tEv tx T2) : Met l yX0_live (Cond.code yX0_live cX0_live 3 none :: TT) (rmL 8) (va_Pc [.ref (gA g 37), .ref (gA g (40 + 6 * o2))] (gB g sz (gW g bb tx rw sb dy tn mo jk))) (va_Qv (fun (u : Ob × Ob × (Nat → Nat → Int32)) => (F_X0_live tx dy T2) = (u.1, u.2.1)) (fun u t => gC g (va_A (gW g bb tx rw sb dy tn mo jk) sz) (gW g bb tx rw sb u.1 (va_up tn o2 u.2.1) mo u.2.2) t) (va_A (gW g bb tx rw sb dy tn mo jk) sz)) 0 0 (va_A (gW g bb tx rw sb dy tn mo jk) sz) := by
  generalize hE : F_X0_live tx dy T2 = EE
  refine g_of (Qf := fun A => (va_Qv (fun (u : Ob × Ob × (Nat → Nat → Int32)) => EE = (u.1, u.2.1)) (fun u t => gC g A (gW g bb tx rw sb u.1 (va_up tn o2 u.2.1) mo u.2.2) t) A)) (cc := cX0_live) (maxL := 3) (ret := none) (by decide) (Nat.le_of_ble_eq_true rfl) ?_
  intro p e s m below meth c A ls hx hb hml hr hlocks hts hown hA hG hl
  replace hown : s.vm.findClass RX0 = some m.cls := hown
  replace hl : lv_has ls 3 [(0, .ref (gA g 37)), (1, .ref (gA g (40 + 6 * o2)))] := hl
  show W p l e (rmL 8) s m [.ref (gA g 37), .ref (gA g (40 + 6 * o2))].toArray below meth c s.heap [] 0 0 (MQ below (va_Qv (fun (u : Ob × Ob × (Nat → Nat → Int32)) => EE = (u.1, u.2.1)) (fun u t => gC g A (gW g bb tx rw sb u.1 (va_up tn o2 u.2.1) mo u.2.2) t) A) [.ref (gA g 37), .ref (gA g (40 + 6 * o2))].toArray s 0 0 A) (F0 m 0 ls [])
  generalize hQ : MQ below (va_Qv (fun (u : Ob × Ob × (Nat → Nat → Int32)) => EE = (u.1, u.2.1)) (fun u t => gC g A (gW g bb tx rw sb u.1 (va_up tn o2 u.2.1) mo u.2.2) t) A) [.ref (gA g 37), .ref (gA g (40 + 6 * o2))].toArray s 0 0 A = Q
  replace hG : gS g A s s.heap [] (gW g bb tx rw sb dy (va_up tn o2 T2) mo jk) := by simpa only [← hT2, up_self] using hG
  unfold F_X0_live at hE
  refine lv_iconst (v := 0) hx hb dX0_live_0 (by decide) ?_
  refine lv_istore_n (lv' := [(2, .int 0), (0, .ref (gA g 37)), (1, .ref (gA g (40 + 6 * o2)))]) hx hb dX0_live_1 rfl hl (by decide) rfl (fun ls hl => ?_)
  replace hl := lv_sub hl [1, 2, 0] (l' := [(0, .ref (gA g 37)), (1, .ref (gA g (40 + 6 * o2))), (2, .int 0)]) rfl
  have L2 : ∀ (n : Nat) (x2_2 : Int32) (dy_2 : Ob) (T2_2 : Ob) (jk : (Nat → Nat → Int32)) (H : Heap) (locs : List Loc), gS g A s H locs (gW g bb tx rw sb dy_2 (va_up tn o2 T2_2) mo jk) → ∀ ls : Array Slot, lv_has ls 3 [(0, .ref (gA g 37)), (1, .ref (gA g (40 + 6 * o2))), (2, .int x2_2)] → 0 ≤ x2_2.toInt → x2_2.toInt ≤ 24 → 24 < x2_2.toInt + n → tEv tx T2_2 → F_X0_live_l2 n  tx dy_2 T2_2 x2_2 = EE → W p l e (rmL 8) s m [.ref (gA g 37), .ref (gA g (40 + 6 * o2))].toArray below meth c H locs 0 0 Q (F0 m 2 ls []) := by
    intro n
    induction n with
    | zero =>
      intro x2_2 dy_2 T2_2 jk H locs hG ls hl h0_2 h1_2 hm_2 hv2 hE
      omega
    | succ n ih2 =>
      intro x2_2 dy_2 T2_2 jk H locs hG ls hl h0_2 h1_2 hm_2 hv2 hE
      unfold F_X0_live_l2 at hE
      refine lv_iload_n hx hb dX0_live_2 rfl (lv_at hl 2 rfl) ?_
      refine lv_bipush (v := 24) hx hb dX0_live_3 (by decide) ?_
      refine lv_icmp_ge (tgt := 40) hx hb dX0_live_5 (by decide) (fun c_5 => ?_) (fun c_5 => ?_)
      · replace hE := (if_pos c_5).symm.trans hE
        have i_5 : 24 ≤ x2_2.toInt := i_le.mp c_5
        subst hQ
        exact g_vret hx hb hr hlocks hG ((dy_2, T2_2, jk) : Ob × Ob × (Nat → Nat → Int32)) rfl hE.symm dX0_live_40
      replace hE := (if_neg c_5).symm.trans hE
      have i_5 : x2_2.toInt < 24 := i_nle c_5
      refine lv_aload_n hx hb dX0_live_8 rfl (lv_at hl 0 rfl) ?_
      refine g_get hx hb hts hiX0 hown hG gw_Day rfl 1 (by decide) (index := 15) tw_fl_RX0_15 (v := .ref (gA g 39)) rfl dX0_live_9 ?_
      refine lv_iload_n hx hb dX0_live_12 rfl (lv_at hl 2 rfl) ?_
      refine lv_aload_n hx hb dX0_live_13 rfl (lv_at hl 1 rfl) ?_
      refine g_ci (g_runV (n := 0) (rest := [.int x2_2, .ref (gA g 39)]) hx hb hml hown hts hG (c_X4_liars ho2 (up_same _ _ _) hv2) tw_ml_RX0_18 tw_im_X4_liars tw_se_X4_liars tw_in_RX4 tw_cd_X4_liars (by decide +kernel) ⟨rfl, rfl, Nat.le_of_ble_eq_true rfl, Nat.le_of_ble_eq_true rfl⟩ (gw_Town ho2 (up_same _ _ _)) rfl rfl hl.1 rfl (Nat.le_of_ble_eq_true rfl) dX0_live_14 ⟨Nat.le_refl _, Nat.le_refl _⟩) hG hA (fun r jk H locs hp hG => ?_)
      subst hp
      replace hG : gS g A s H locs (gW g bb tx rw sb dy_2 (va_up tn o2 T2_2) mo jk) := hG
      refine g_ist hx hb hG gw_Day_a1 (vp_i (by clear hE; omega) (by clear hE; omega)) gs_Day_a1 dX0_live_17 (fun H locs hG => ?_)
      refine lv_aload_n hx hb dX0_live_18 rfl (lv_at hl 0 rfl) ?_
      refine g_get hx hb hts hiX0 hown hG gw_Day rfl 0 (by decide) (index := 9) tw_fl_RX0_9 (v := .ref (gA g 38)) rfl dX0_live_19 ?_
      refine lv_iload_n hx hb dX0_live_22 rfl (lv_at hl 2 rfl) ?_
      refine lv_aload_n hx hb dX0_live_23 rfl (lv_at hl 1 rfl) ?_
      refine lv_aload_n hx hb dX0_live_24 rfl (lv_at hl 0 rfl) ?_
      refine g_get hx hb hts hiX0 hown hG gw_Day rfl 1 (by decide) (index := 15) tw_fl_RX0_15 (v := .ref (gA g 39)) rfl dX0_live_25 ?_
      refine lv_iload_n hx hb dX0_live_28 rfl (lv_at hl 2 rfl) ?_
      refine g_ild hx hb hG gw_Day_a1 (vp_i (by clear hE; omega) (by clear hE; omega)) dX0_live_29 ?_
      refine g_ci (g_runV (n := 1) (rest := [.int x2_2, .ref (gA g 38)]) hx hb hml hown hts hG (c_X4_passHour ho2 (up_same _ _ _) (((stA dy_2 1 x2_2 (F_X4_liars tx T2_2)).2 1) (Int32.toNatClampNeg x2_2)) hv2) tw_ml_RX0_23 tw_im_X4_passHour tw_se_X4_passHour tw_in_RX4 tw_cd_X4_passHour (by decide +kernel) ⟨rfl, rfl, Nat.le_of_ble_eq_true rfl, Nat.le_of_ble_eq_true rfl⟩ (gw_Town ho2 (up_same _ _ _)) rfl rfl hl.1 rfl (Nat.le_of_ble_eq_true rfl) dX0_live_30 ⟨Nat.le_refl _, Nat.le_refl _⟩) hG hA (fun r_30 u H locs hp hG => ?_)
      obtain ⟨T2_30, jk⟩ := u
      replace hG : gS g A s H locs (gW g bb tx rw sb (stA dy_2 1 x2_2 (F_X4_liars tx T2_2)) (va_up tn o2 T2_30) mo jk) := by simpa only [up_up] using hG
      have hp_30 := hp
      rw [hp] at hE
      unfold F_X0_live_c30 at hE
      try dsimp only at hE
      have hv30 : tEv tx T2_30 := tEv_pH hp_30 hv2
      refine g_ist hx hb hG gw_Day_a0 (vp_i (by clear hE; omega) (by clear hE; omega)) gs_Day_a0 dX0_live_33 (fun H locs hG => ?_)
      refine lv_iinc (v := (x2_2 + 1)) (lv' := [(2, .int (x2_2 + 1)), (0, .ref (gA g 37)), (1, .ref (gA g (40 + 6 * o2)))]) hx hb dX0_live_34 hl (k := 2) rfl rfl (by decide) rfl (fun ls hl => ?_)
      replace hl := lv_sub hl [1, 2, 0] (l' := [(0, .ref (gA g 37)), (1, .ref (gA g (40 + 6 * o2))), (2, .int (x2_2 + 1))]) rfl
      refine lv_goto (tgt := 2) hx hb dX0_live_37 (by decide) ?_
      have e1 : (x2_2 + 1).toInt = x2_2.toInt + 1 := addL (k := 1) (by decide +kernel) (by clear hE; omega) (by clear hE; omega)
      exact ih2 (x2_2 + 1) (stA (stA dy_2 1 x2_2 (F_X4_liars tx T2_2)) 0 x2_2 r_30) T2_30 _ _ _ hG _ (lv_sub hl [0, 1, 2] rfl) (by clear hE; omega) (by clear hE; omega) (by clear hE; omega) hv30 hE
  exact L2 25 0 dy T2 _ _ _ hG _ (lv_sub hl [0, 1, 2] rfl) (by decide) (by decide) (by decide) hv hE
def F_X5_dial_c20 (u : Ob × Ob) (tx : Nat → Ob) (tn : Nat → Ob) (x1 : Int32) : Int32 × Ob × Ob :=
  (if x1 = 0 then ((F_X0_hoursAlone u.1), u.1, u.2) else (if x1 = 1 then ((F_X0_longestRow u.1), u.1, u.2) else (if x1 = 2 then ((F_X0_hoursOf u.1 0), u.1, u.2) else (if x1 = 3 then ((F_X0_mostStrikes u.1), u.1, u.2) else ((F_X0_firstOf u.1 (F_X0_mostStrikes u.1)), u.1, u.2)))))
def F_X5_dial_c17 (u : Ob) (tx : Nat → Ob) (tn : Nat → Ob) (dy : Ob) (x1 : Int32) : Int32 × Ob × Ob :=
  (F_X5_dial_c20 (F_X0_live tx dy u) tx tn x1)
def F_X5_dial (tx : Nat → Ob) (tn : Nat → Ob) (dy : Ob) (p1 : Int32) : Int32 × Ob × Ob :=
  (if (F_X5_isWithin p1 0 4) = 0 then ((-2), dy, (tn 1)) else (F_X5_dial_c17 (F_X5_startThought (va_up tn 1 (tn 1))) tx tn dy p1))
set_option maxHeartbeats 4000000 in
set_option maxRecDepth 100000 in
theorem c_X5_dial {l : Launch} {g : GG} {sz : Nat} {bb : Ob} {tx rw : Nat → Ob} {sb dy : Ob} {tn : Nat → Ob} {mo : Ob} {jk : Nat → Nat → Int32}  (p1 : Int32) (hv : tEv tx (tn 0)) : Met l yX5_dial (Cond.code yX5_dial cX5_dial 2 (some .int) :: TT) (rmL 9) (va_Pc [.ref (gA g 0), .int p1] (gB g sz (gW g bb tx rw sb dy tn mo jk))) (va_Qi (fun r (u : Ob × Ob × (Nat → Nat → Int32)) => (F_X5_dial tx tn dy p1) = (r, u.1, u.2.1)) (fun u t => gC g (va_A (gW g bb tx rw sb dy tn mo jk) sz) (gW g bb tx rw sb u.1 (va_up tn 1 u.2.1) mo u.2.2) t) (va_A (gW g bb tx rw sb dy tn mo jk) sz)) 0 0 (va_A (gW g bb tx rw sb dy tn mo jk) sz) := by
  generalize hE : F_X5_dial tx tn dy p1 = EE
  refine g_of (Qf := fun A => (va_Qi (fun r (u : Ob × Ob × (Nat → Nat → Int32)) => EE = (r, u.1, u.2.1)) (fun u t => gC g A (gW g bb tx rw sb u.1 (va_up tn 1 u.2.1) mo u.2.2) t) A)) (cc := cX5_dial) (maxL := 2) (ret := (some .int)) (by decide) (Nat.le_of_ble_eq_true rfl) ?_
  intro p e s m below meth c A ls hx hb hml hr hlocks hts hown hA hG hl
  replace hown : s.vm.findClass RX5 = some m.cls := hown
  replace hl : lv_has ls 2 [(0, .ref (gA g 0)), (1, .int p1)] := hl
  show W p l e (rmL 9) s m [.ref (gA g 0), .int p1].toArray below meth c s.heap [] 0 0 (MQ below (va_Qi (fun r (u : Ob × Ob × (Nat → Nat → Int32)) => EE = (r, u.1, u.2.1)) (fun u t => gC g A (gW g bb tx rw sb u.1 (va_up tn 1 u.2.1) mo u.2.2) t) A) [.ref (gA g 0), .int p1].toArray s 0 0 A) (F0 m 0 ls [])
  generalize hQ : MQ below (va_Qi (fun r (u : Ob × Ob × (Nat → Nat → Int32)) => EE = (r, u.1, u.2.1)) (fun u t => gC g A (gW g bb tx rw sb u.1 (va_up tn 1 u.2.1) mo u.2.2) t) A) [.ref (gA g 0), .int p1].toArray s 0 0 A = Q
  replace hG : gS g A s s.heap [] (gW g bb tx rw sb dy (va_up tn 1 (tn 1)) mo jk) := by simpa only [up_self] using hG
  unfold F_X5_dial at hE
  refine lv_iload_n hx hb dX5_dial_0 rfl (lv_at hl 1 rfl) ?_
  refine lv_iconst (v := 0) hx hb dX5_dial_1 (by decide) ?_
  refine lv_iconst (v := 4) hx hb dX5_dial_2 (by decide) ?_
  refine g_si (g_runS (n := 3) (rest := []) hx hb hml hown hts hG (c_X5_isWithin p1 0 4) tw_ml_RX5_81 tw_st_X5_isWithin tw_in_RX5 tw_cd_X5_isWithin (by decide +kernel) ⟨rfl, rfl, Nat.le_of_ble_eq_true rfl, Nat.le_of_ble_eq_true rfl⟩ rfl hl.1 rfl (Nat.le_of_ble_eq_true rfl) dX5_dial_3 ⟨Nat.le_refl _, Nat.le_refl _⟩) hG hA (fun H locs hG => ?_)
  refine lv_if_ne (tgt := 12) hx hb dX5_dial_6 (by decide) (fun c_6 => ?_) (fun c_6 => ?_)
  · replace hE := (if_neg c_6).symm.trans hE
    have i_6 : 0 ≤ p1.toInt ∧ p1.toInt ≤ 4 := within_f c_6
    refine lv_aload_n hx hb dX5_dial_12 rfl (lv_at hl 0 rfl) ?_
    refine g_get hx hb hts hiX5 hown hG gw_Bell rfl 3 (by decide) (index := 31) tw_fl_RX5_31 (v := .ref (gA g 37)) rfl dX5_dial_13 ?_
    refine lv_aload_n hx hb dX5_dial_16 rfl (lv_at hl 0 rfl) ?_
    refine g_cr (g_runV (n := 0) (rest := [.ref (gA g 37)]) hx hb hml hown hts hG (c_X5_startThought hv.2.1) tw_ml_RX5_157 tw_im_X5_startThought tw_se_X5_startThought tw_in_RX5 tw_cd_X5_startThought (by decide +kernel) ⟨rfl, rfl, Nat.le_of_ble_eq_true rfl, Nat.le_of_ble_eq_true rfl⟩ gw_Bell rfl rfl hl.1 rfl (Nat.le_of_ble_eq_true rfl) dX5_dial_17 ⟨Nat.le_refl _, Nat.le_refl _⟩) hG hA (fun u H locs hp hG => ?_)
    obtain ⟨t_m_17, rfl⟩ : ∃ z, z = u := ⟨u, rfl⟩
    replace hG : gS g A s H locs (gW g bb tx rw sb dy (va_up tn 1 t_m_17) mo jk) := by simpa only [up_up] using hG
    have hp_17 := hp
    rw [hp] at hE
    unfold F_X5_dial_c17 at hE
    try dsimp only at hE
    have hv17 : tEv tx t_m_17 := tEv_st hp_17 hv
    refine g_cv (g_runV (n := 1) (rest := []) hx hb hml hown hts hG (c_X0_live (by decide) (up_same _ _ _) hv17) tw_ml_RX5_164 tw_im_X0_live tw_se_X0_live tw_in_RX0 tw_cd_X0_live (by decide +kernel) ⟨rfl, rfl, Nat.le_of_ble_eq_true rfl, Nat.le_of_ble_eq_true rfl⟩ gw_Day rfl rfl hl.1 rfl (Nat.le_of_ble_eq_true rfl) dX5_dial_20 ⟨Nat.le_refl _, Nat.le_refl _⟩) hG hA (fun u H locs hp hG => ?_)
    obtain ⟨dy_20, t_m_20, jk⟩ := u
    replace hG : gS g A s H locs (gW g bb tx rw sb dy_20 (va_up tn 1 t_m_20) mo jk) := by simpa only [up_up] using hG
    have hp_20 := hp
    rw [hp] at hE
    unfold F_X5_dial_c20 at hE
    try dsimp only at hE
    refine lv_iload_n hx hb dX5_dial_23 rfl (lv_at hl 1 rfl) ?_
    by_cases c_24_0 : p1 = 0
    · replace hE := (if_pos c_24_0).symm.trans hE
      refine lv_tableIn (off := 32) (tgt := 56) hx hb dX5_dial_24 (by rw [c_24_0]; decide) (by rw [c_24_0]; decide) (by rw [c_24_0]; decide) (by decide) ?_
      have i_24_0 : p1.toInt = 0 := congrArg Int32.toInt c_24_0
      refine lv_aload_n hx hb dX5_dial_56 rfl (lv_at hl 0 rfl) ?_
      refine g_get hx hb hts hiX5 hown hG gw_Bell rfl 3 (by decide) (index := 31) tw_fl_RX5_31 (v := .ref (gA g 37)) rfl dX5_dial_57 ?_
      refine g_ci (g_runV (n := 0) (rest := []) hx hb hml hown hts hG (c_X0_hoursAlone) tw_ml_RX5_168 tw_im_X0_hoursAlone tw_se_X0_hoursAlone tw_in_RX0 tw_cd_X0_hoursAlone (by decide +kernel) ⟨rfl, rfl, Nat.le_of_ble_eq_true rfl, Nat.le_of_ble_eq_true rfl⟩ gw_Day rfl rfl hl.1 rfl (Nat.le_of_ble_eq_true rfl) dX5_dial_60 ⟨Nat.le_refl _, Nat.le_refl _⟩) hG hA (fun r _ H locs hp hG => ?_)
      subst hp
      replace hG : gS g A s H locs (gW g bb tx rw sb dy_20 (va_up tn 1 t_m_20) mo jk) := hG
      subst hQ
      exact g_iret hx hb hr hlocks hG ((dy_20, t_m_20, jk) : Ob × Ob × (Nat → Nat → Int32)) rfl hE.symm dX5_dial_63
    replace hE := (if_neg c_24_0).symm.trans hE
    by_cases c_24_1 : p1 = 1
    · replace hE := (if_pos c_24_1).symm.trans hE
      refine lv_tableIn (off := 40) (tgt := 64) hx hb dX5_dial_24 (by rw [c_24_1]; decide) (by rw [c_24_1]; decide) (by rw [c_24_1]; decide) (by decide) ?_
      have i_24_1 : p1.toInt = 1 := congrArg Int32.toInt c_24_1
      refine lv_aload_n hx hb dX5_dial_64 rfl (lv_at hl 0 rfl) ?_
      refine g_get hx hb hts hiX5 hown hG gw_Bell rfl 3 (by decide) (index := 31) tw_fl_RX5_31 (v := .ref (gA g 37)) rfl dX5_dial_65 ?_
      refine g_ci (g_runV (n := 0) (rest := []) hx hb hml hown hts hG (c_X0_longestRow) tw_ml_RX5_171 tw_im_X0_longestRow tw_se_X0_longestRow tw_in_RX0 tw_cd_X0_longestRow (by decide +kernel) ⟨rfl, rfl, Nat.le_of_ble_eq_true rfl, Nat.le_of_ble_eq_true rfl⟩ gw_Day rfl rfl hl.1 rfl (Nat.le_of_ble_eq_true rfl) dX5_dial_68 ⟨Nat.le_refl _, Nat.le_refl _⟩) hG hA (fun r _ H locs hp hG => ?_)
      subst hp
      replace hG : gS g A s H locs (gW g bb tx rw sb dy_20 (va_up tn 1 t_m_20) mo jk) := hG
      subst hQ
      exact g_iret hx hb hr hlocks hG ((dy_20, t_m_20, jk) : Ob × Ob × (Nat → Nat → Int32)) rfl hE.symm dX5_dial_71
    replace hE := (if_neg c_24_1).symm.trans hE
    by_cases c_24_2 : p1 = 2
    · replace hE := (if_pos c_24_2).symm.trans hE
      refine lv_tableIn (off := 48) (tgt := 72) hx hb dX5_dial_24 (by rw [c_24_2]; decide) (by rw [c_24_2]; decide) (by rw [c_24_2]; decide) (by decide) ?_
      have i_24_2 : p1.toInt = 2 := congrArg Int32.toInt c_24_2
      refine lv_aload_n hx hb dX5_dial_72 rfl (lv_at hl 0 rfl) ?_
      refine g_get hx hb hts hiX5 hown hG gw_Bell rfl 3 (by decide) (index := 31) tw_fl_RX5_31 (v := .ref (gA g 37)) rfl dX5_dial_73 ?_
      refine lv_iconst (v := 0) hx hb dX5_dial_76 (by decide) ?_
      refine g_ci (g_runV (n := 1) (rest := []) hx hb hml hown hts hG (c_X0_hoursOf 0) tw_ml_RX5_174 tw_im_X0_hoursOf tw_se_X0_hoursOf tw_in_RX0 tw_cd_X0_hoursOf (by decide +kernel) ⟨rfl, rfl, Nat.le_of_ble_eq_true rfl, Nat.le_of_ble_eq_true rfl⟩ gw_Day rfl rfl hl.1 rfl (Nat.le_of_ble_eq_true rfl) dX5_dial_77 ⟨Nat.le_refl _, Nat.le_refl _⟩) hG hA (fun r _ H locs hp hG => ?_)
      subst hp
      replace hG : gS g A s H locs (gW g bb tx rw sb dy_20 (va_up tn 1 t_m_20) mo jk) := hG
      subst hQ
      exact g_iret hx hb hr hlocks hG ((dy_20, t_m_20, jk) : Ob × Ob × (Nat → Nat → Int32)) rfl hE.symm dX5_dial_80
    replace hE := (if_neg c_24_2).symm.trans hE
    by_cases c_24_3 : p1 = 3
    · replace hE := (if_pos c_24_3).symm.trans hE
      refine lv_tableIn (off := 57) (tgt := 81) hx hb dX5_dial_24 (by rw [c_24_3]; decide) (by rw [c_24_3]; decide) (by rw [c_24_3]; decide) (by decide) ?_
      have i_24_3 : p1.toInt = 3 := congrArg Int32.toInt c_24_3
      refine lv_aload_n hx hb dX5_dial_81 rfl (lv_at hl 0 rfl) ?_
      refine g_get hx hb hts hiX5 hown hG gw_Bell rfl 3 (by decide) (index := 31) tw_fl_RX5_31 (v := .ref (gA g 37)) rfl dX5_dial_82 ?_
      refine g_ci (g_runV (n := 0) (rest := []) hx hb hml hown hts hG (c_X0_mostStrikes) tw_ml_RX5_177 tw_im_X0_mostStrikes tw_se_X0_mostStrikes tw_in_RX0 tw_cd_X0_mostStrikes (by decide +kernel) ⟨rfl, rfl, Nat.le_of_ble_eq_true rfl, Nat.le_of_ble_eq_true rfl⟩ gw_Day rfl rfl hl.1 rfl (Nat.le_of_ble_eq_true rfl) dX5_dial_85 ⟨Nat.le_refl _, Nat.le_refl _⟩) hG hA (fun r _ H locs hp hG => ?_)
      subst hp
      replace hG : gS g A s H locs (gW g bb tx rw sb dy_20 (va_up tn 1 t_m_20) mo jk) := hG
      subst hQ
      exact g_iret hx hb hr hlocks hG ((dy_20, t_m_20, jk) : Ob × Ob × (Nat → Nat → Int32)) rfl hE.symm dX5_dial_88
    replace hE := (if_neg c_24_3).symm.trans hE
    refine lv_tableOut (tgt := 89) hx hb dX5_dial_24 (by have k0 := lv_neT c_24_0 (a := 0) (by decide); have k1 := lv_neT c_24_1 (a := 1) (by decide); have k2 := lv_neT c_24_2 (a := 2) (by decide); have k3 := lv_neT c_24_3 (a := 3) (by decide); omega) (by decide) ?_
    refine lv_aload_n hx hb dX5_dial_89 rfl (lv_at hl 0 rfl) ?_
    refine g_get hx hb hts hiX5 hown hG gw_Bell rfl 3 (by decide) (index := 31) tw_fl_RX5_31 (v := .ref (gA g 37)) rfl dX5_dial_90 ?_
    refine lv_aload_n hx hb dX5_dial_93 rfl (lv_at hl 0 rfl) ?_
    refine g_get hx hb hts hiX5 hown hG gw_Bell rfl 3 (by decide) (index := 31) tw_fl_RX5_31 (v := .ref (gA g 37)) rfl dX5_dial_94 ?_
    refine g_ci (g_runV (n := 0) (rest := [.ref (gA g 37)]) hx hb hml hown hts hG (c_X0_mostStrikes) tw_ml_RX5_177 tw_im_X0_mostStrikes tw_se_X0_mostStrikes tw_in_RX0 tw_cd_X0_mostStrikes (by decide +kernel) ⟨rfl, rfl, Nat.le_of_ble_eq_true rfl, Nat.le_of_ble_eq_true rfl⟩ gw_Day rfl rfl hl.1 rfl (Nat.le_of_ble_eq_true rfl) dX5_dial_97 ⟨Nat.le_refl _, Nat.le_refl _⟩) hG hA (fun r _ H locs hp hG => ?_)
    subst hp
    replace hG : gS g A s H locs (gW g bb tx rw sb dy_20 (va_up tn 1 t_m_20) mo jk) := hG
    refine g_ci (g_runV (n := 1) (rest := []) hx hb hml hown hts hG (c_X0_firstOf (F_X0_mostStrikes dy_20)) tw_ml_RX5_180 tw_im_X0_firstOf tw_se_X0_firstOf tw_in_RX0 tw_cd_X0_firstOf (by decide +kernel) ⟨rfl, rfl, Nat.le_of_ble_eq_true rfl, Nat.le_of_ble_eq_true rfl⟩ gw_Day rfl rfl hl.1 rfl (Nat.le_of_ble_eq_true rfl) dX5_dial_100 ⟨Nat.le_refl _, Nat.le_refl _⟩) hG hA (fun r _ H locs hp hG => ?_)
    subst hp
    replace hG : gS g A s H locs (gW g bb tx rw sb dy_20 (va_up tn 1 t_m_20) mo jk) := hG
    subst hQ
    exact g_iret hx hb hr hlocks hG ((dy_20, t_m_20, jk) : Ob × Ob × (Nat → Nat → Int32)) rfl hE.symm dX5_dial_103
  replace hE := (if_pos c_6).symm.trans hE
  refine lv_bipush (v := (-2)) hx hb dX5_dial_9 (by decide) ?_
  subst hQ
  exact g_iret hx hb hr hlocks hG ((dy, (tn 1), jk) : Ob × Ob × (Nat → Nat → Int32)) rfl hE.symm dX5_dial_11
def F_X5_hush_b91 (K36 : (Nat → Ob) → (Nat → Ob) → Ob → Ob → Int32 → Int32 → Int32 → Int32 → Int32 × Ob × Ob) (tx : Nat → Ob) (tn : Nat → Ob) (dy : Ob) (t_m : Ob) (x1 : Int32) (x2 : Int32) (x3 : Int32) (x4 : Int32) : Int32 × Ob × Ob :=
  (K36 tx tn dy t_m x1 x2 x3 (x4 + 1))
def F_X5_hush_c67 (K36 : (Nat → Ob) → (Nat → Ob) → Ob → Ob → Int32 → Int32 → Int32 → Int32 → Int32 × Ob × Ob) (u : Ob × Ob) (tx : Nat → Ob) (tn : Nat → Ob) (x1 : Int32) (x2 : Int32) (x3 : Int32) (x4 : Int32) : Int32 × Ob × Ob :=
  (if (F_X0_hoursAlone u.1) ≤ x3 then (F_X5_hush_b91 K36 tx tn u.1 u.2 x1 x2 x3 x4) else (F_X5_hush_b91 K36 tx tn u.1 u.2 x1 x4 (F_X0_hoursAlone u.1) x4))
def F_X5_hush_c58 (K36 : (Nat → Ob) → (Nat → Ob) → Ob → Ob → Int32 → Int32 → Int32 → Int32 → Int32 × Ob × Ob) (u : Ob) (tx : Nat → Ob) (tn : Nat → Ob) (dy : Ob) (x1 : Int32) (x2 : Int32) (x3 : Int32) (x4 : Int32) : Int32 × Ob × Ob :=
  (F_X5_hush_c67 K36 (F_X0_live tx dy u) tx tn x1 x2 x3 x4)
def F_X5_hush_c49 (K36 : (Nat → Ob) → (Nat → Ob) → Ob → Ob → Int32 → Int32 → Int32 → Int32 → Int32 × Ob × Ob) (u : Ob) (tx : Nat → Ob) (tn : Nat → Ob) (dy : Ob) (x1 : Int32) (x2 : Int32) (x3 : Int32) (x4 : Int32) : Int32 × Ob × Ob :=
  (F_X5_hush_c58 K36 (F_X4_turnVow u x4) tx tn dy x1 x2 x3 x4)
def F_X5_hush_l36 : Nat → (Nat → Ob) → (Nat → Ob) → Ob → Ob → Int32 → Int32 → Int32 → Int32 → Int32 × Ob × Ob
  | 0, _, _, dy, t_m, _, _, _, _ => (0, dy, t_m)
  | n + 1, tx, tn, dy, t_m, x1, x2, x3, x4 =>
    (if ((tn 0).1 6) ≤ x4 then (if x1 = 0 then (x2, dy, t_m) else (x3, dy, t_m)) else (F_X5_hush_c49 (F_X5_hush_l36 n ) (F_X5_startThought (va_up tn 1 t_m)) tx tn dy x1 x2 x3 x4))
def F_X5_hush_c20 (u : Ob × Ob) (tx : Nat → Ob) (tn : Nat → Ob) (x1 : Int32) : Int32 × Ob × Ob :=
  (F_X5_hush_l36 7  tx tn u.1 u.2 x1 (-1) (F_X0_hoursAlone u.1) 0)
def F_X5_hush_c17 (u : Ob) (tx : Nat → Ob) (tn : Nat → Ob) (dy : Ob) (x1 : Int32) : Int32 × Ob × Ob :=
  (F_X5_hush_c20 (F_X0_live tx dy u) tx tn x1)
def F_X5_hush (tx : Nat → Ob) (tn : Nat → Ob) (dy : Ob) (p1 : Int32) : Int32 × Ob × Ob :=
  (if (F_X5_isWithin p1 0 1) = 0 then ((-2), dy, (tn 1)) else (F_X5_hush_c17 (F_X5_startThought (va_up tn 1 (tn 1))) tx tn dy p1))
set_option maxHeartbeats 4000000 in
set_option maxRecDepth 100000 in
theorem c_X5_hush {l : Launch} {g : GG} {sz : Nat} {bb : Ob} {tx rw : Nat → Ob} {sb dy : Ob} {tn : Nat → Ob} {mo : Ob} {jk : Nat → Nat → Int32}  (p1 : Int32) (hv : tEv tx (tn 0)) : Met l yX5_hush (Cond.code yX5_hush cX5_hush 7 (some .int) :: TT) (rmL 9) (va_Pc [.ref (gA g 0), .int p1] (gB g sz (gW g bb tx rw sb dy tn mo jk))) (va_Qi (fun r (u : Ob × Ob × (Nat → Nat → Int32)) => (F_X5_hush tx tn dy p1) = (r, u.1, u.2.1)) (fun u t => gC g (va_A (gW g bb tx rw sb dy tn mo jk) sz) (gW g bb tx rw sb u.1 (va_up tn 1 u.2.1) mo u.2.2) t) (va_A (gW g bb tx rw sb dy tn mo jk) sz)) 0 0 (va_A (gW g bb tx rw sb dy tn mo jk) sz) := by
  generalize hE : F_X5_hush tx tn dy p1 = EE
  refine g_of (Qf := fun A => (va_Qi (fun r (u : Ob × Ob × (Nat → Nat → Int32)) => EE = (r, u.1, u.2.1)) (fun u t => gC g A (gW g bb tx rw sb u.1 (va_up tn 1 u.2.1) mo u.2.2) t) A)) (cc := cX5_hush) (maxL := 7) (ret := (some .int)) (by decide) (Nat.le_of_ble_eq_true rfl) ?_
  intro p e s m below meth c A ls hx hb hml hr hlocks hts hown hA hG hl
  replace hown : s.vm.findClass RX5 = some m.cls := hown
  replace hl : lv_has ls 7 [(0, .ref (gA g 0)), (1, .int p1)] := hl
  show W p l e (rmL 9) s m [.ref (gA g 0), .int p1].toArray below meth c s.heap [] 0 0 (MQ below (va_Qi (fun r (u : Ob × Ob × (Nat → Nat → Int32)) => EE = (r, u.1, u.2.1)) (fun u t => gC g A (gW g bb tx rw sb u.1 (va_up tn 1 u.2.1) mo u.2.2) t) A) [.ref (gA g 0), .int p1].toArray s 0 0 A) (F0 m 0 ls [])
  generalize hQ : MQ below (va_Qi (fun r (u : Ob × Ob × (Nat → Nat → Int32)) => EE = (r, u.1, u.2.1)) (fun u t => gC g A (gW g bb tx rw sb u.1 (va_up tn 1 u.2.1) mo u.2.2) t) A) [.ref (gA g 0), .int p1].toArray s 0 0 A = Q
  replace hG : gS g A s s.heap [] (gW g bb tx rw sb dy (va_up tn 1 (tn 1)) mo jk) := by simpa only [up_self] using hG
  have hpo := hv.1
  unfold F_X5_hush at hE
  refine lv_iload_n hx hb dX5_hush_0 rfl (lv_at hl 1 rfl) ?_
  refine lv_iconst (v := 0) hx hb dX5_hush_1 (by decide) ?_
  refine lv_iconst (v := 1) hx hb dX5_hush_2 (by decide) ?_
  refine g_si (g_runS (n := 3) (rest := []) hx hb hml hown hts hG (c_X5_isWithin p1 0 1) tw_ml_RX5_81 tw_st_X5_isWithin tw_in_RX5 tw_cd_X5_isWithin (by decide +kernel) ⟨rfl, rfl, Nat.le_of_ble_eq_true rfl, Nat.le_of_ble_eq_true rfl⟩ rfl hl.1 rfl (Nat.le_of_ble_eq_true rfl) dX5_hush_3 ⟨Nat.le_refl _, Nat.le_refl _⟩) hG hA (fun H locs hG => ?_)
  refine lv_if_ne (tgt := 12) hx hb dX5_hush_6 (by decide) (fun c_6 => ?_) (fun c_6 => ?_)
  · replace hE := (if_neg c_6).symm.trans hE
    have i_6 : 0 ≤ p1.toInt ∧ p1.toInt ≤ 1 := within_f c_6
    refine lv_aload_n hx hb dX5_hush_12 rfl (lv_at hl 0 rfl) ?_
    refine g_get hx hb hts hiX5 hown hG gw_Bell rfl 3 (by decide) (index := 31) tw_fl_RX5_31 (v := .ref (gA g 37)) rfl dX5_hush_13 ?_
    refine lv_aload_n hx hb dX5_hush_16 rfl (lv_at hl 0 rfl) ?_
    refine g_cr (g_runV (n := 0) (rest := [.ref (gA g 37)]) hx hb hml hown hts hG (c_X5_startThought hv.2.1) tw_ml_RX5_157 tw_im_X5_startThought tw_se_X5_startThought tw_in_RX5 tw_cd_X5_startThought (by decide +kernel) ⟨rfl, rfl, Nat.le_of_ble_eq_true rfl, Nat.le_of_ble_eq_true rfl⟩ gw_Bell rfl rfl hl.1 rfl (Nat.le_of_ble_eq_true rfl) dX5_hush_17 ⟨Nat.le_refl _, Nat.le_refl _⟩) hG hA (fun u H locs hp hG => ?_)
    obtain ⟨t_m_17, rfl⟩ : ∃ z, z = u := ⟨u, rfl⟩
    replace hG : gS g A s H locs (gW g bb tx rw sb dy (va_up tn 1 t_m_17) mo jk) := by simpa only [up_up] using hG
    have hp_17 := hp
    rw [hp] at hE
    unfold F_X5_hush_c17 at hE
    try dsimp only at hE
    have hv17 : tEv tx t_m_17 := tEv_st hp_17 hv
    refine g_cv (g_runV (n := 1) (rest := []) hx hb hml hown hts hG (c_X0_live (by decide) (up_same _ _ _) hv17) tw_ml_RX5_164 tw_im_X0_live tw_se_X0_live tw_in_RX0 tw_cd_X0_live (by decide +kernel) ⟨rfl, rfl, Nat.le_of_ble_eq_true rfl, Nat.le_of_ble_eq_true rfl⟩ gw_Day rfl rfl hl.1 rfl (Nat.le_of_ble_eq_true rfl) dX5_hush_20 ⟨Nat.le_refl _, Nat.le_refl _⟩) hG hA (fun u H locs hp hG => ?_)
    obtain ⟨dy_20, t_m_20, jk⟩ := u
    replace hG : gS g A s H locs (gW g bb tx rw sb dy_20 (va_up tn 1 t_m_20) mo jk) := by simpa only [up_up] using hG
    have hp_20 := hp
    rw [hp] at hE
    unfold F_X5_hush_c20 at hE
    try dsimp only at hE
    refine lv_iconst (v := (-1)) hx hb dX5_hush_23 (by decide) ?_
    refine lv_istore_n (lv' := [(2, .int (-1)), (0, .ref (gA g 0)), (1, .int p1)]) hx hb dX5_hush_24 rfl hl (by decide) rfl (fun ls hl => ?_)
    replace hl := lv_sub hl [1, 2, 0] (l' := [(0, .ref (gA g 0)), (1, .int p1), (2, .int (-1))]) rfl
    refine lv_aload_n hx hb dX5_hush_25 rfl (lv_at hl 0 rfl) ?_
    refine g_get hx hb hts hiX5 hown hG gw_Bell rfl 3 (by decide) (index := 31) tw_fl_RX5_31 (v := .ref (gA g 37)) rfl dX5_hush_26 ?_
    refine g_ci (g_runV (n := 0) (rest := []) hx hb hml hown hts hG (c_X0_hoursAlone) tw_ml_RX5_168 tw_im_X0_hoursAlone tw_se_X0_hoursAlone tw_in_RX0 tw_cd_X0_hoursAlone (by decide +kernel) ⟨rfl, rfl, Nat.le_of_ble_eq_true rfl, Nat.le_of_ble_eq_true rfl⟩ gw_Day rfl rfl hl.1 rfl (Nat.le_of_ble_eq_true rfl) dX5_hush_29 ⟨Nat.le_refl _, Nat.le_refl _⟩) hG hA (fun r _ H locs hp hG => ?_)
    subst hp
    replace hG : gS g A s H locs (gW g bb tx rw sb dy_20 (va_up tn 1 t_m_20) mo jk) := hG
    refine lv_istore_n (lv' := [(3, .int (F_X0_hoursAlone dy_20)), (0, .ref (gA g 0)), (1, .int p1), (2, .int (-1))]) hx hb dX5_hush_32 rfl hl (by decide) rfl (fun ls hl => ?_)
    replace hl := lv_sub hl [1, 2, 3, 0] (l' := [(0, .ref (gA g 0)), (1, .int p1), (2, .int (-1)), (3, .int (F_X0_hoursAlone dy_20))]) rfl
    refine lv_iconst (v := 0) hx hb dX5_hush_33 (by decide) ?_
    refine lv_istore (lv' := [(4, .int 0), (0, .ref (gA g 0)), (1, .int p1), (2, .int (-1)), (3, .int (F_X0_hoursAlone dy_20))]) hx hb dX5_hush_34 hl (by decide) rfl (fun ls hl => ?_)
    replace hl := lv_sub hl [1, 2, 3, 4, 0] (l' := [(0, .ref (gA g 0)), (1, .int p1), (2, .int (-1)), (3, .int (F_X0_hoursAlone dy_20)), (4, .int 0)]) rfl
    have L36 : ∀ (n : Nat) (x2_36 : Int32) (x3_36 : Int32) (x4_36 : Int32) (dy_36 : Ob) (t_m_36 : Ob) (jk : (Nat → Nat → Int32)) (H : Heap) (locs : List Loc), gS g A s H locs (gW g bb tx rw sb dy_36 (va_up tn 1 t_m_36) mo jk) → ∀ ls : Array Slot, lv_has ls 7 [(0, .ref (gA g 0)), (1, .int p1), (2, .int x2_36), (3, .int x3_36), (4, .int x4_36)] → 0 ≤ x4_36.toInt → x4_36.toInt ≤ 6 → 6 < x4_36.toInt + n → F_X5_hush_l36 n  tx tn dy_36 t_m_36 p1 x2_36 x3_36 x4_36 = EE → W p l e (rmL 9) s m [.ref (gA g 0), .int p1].toArray below meth c H locs 0 0 Q (F0 m 36 ls []) := by
      intro n
      induction n with
      | zero =>
        intro x2_36 x3_36 x4_36 dy_36 t_m_36 jk H locs hG ls hl h0_36 h1_36 hm_36 hE
        omega
      | succ n ih36 =>
        intro x2_36 x3_36 x4_36 dy_36 t_m_36 jk H locs hG ls hl h0_36 h1_36 hm_36 hE
        unfold F_X5_hush_l36 at hE
        refine lv_iload hx hb dX5_hush_36 (lv_at hl 4 rfl) ?_
        refine lv_aload_n hx hb dX5_hush_38 rfl (lv_at hl 0 rfl) ?_
        refine g_get hx hb hts hiX5 hown hG gw_Bell rfl 4 (by decide) (index := 53) tw_fl_RX5_53 (v := .ref (gA g (40 + 6 * 0))) rfl dX5_hush_39 ?_
        refine g_get hx hb hts hiX4 hown hG (gw_Town (o := 0) (by decide) (show _ = (tn 0) from rfl)) rfl 6 (by decide) (index := 63) tw_fl_RX5_63 (v := .int ((tn 0).1 6)) rfl dX5_hush_42 ?_
        refine lv_icmp_ge (tgt := 97) hx hb dX5_hush_45 (by decide) (fun c_45 => ?_) (fun c_45 => ?_)
        · replace hE := (if_pos c_45).symm.trans hE
          have i_45 : ((tn 0).1 6).toInt ≤ x4_36.toInt := i_le.mp c_45
          refine lv_iload_n hx hb dX5_hush_97 rfl (lv_at hl 1 rfl) ?_
          refine lv_if_ne (tgt := 105) hx hb dX5_hush_98 (by decide) (fun c_98 => ?_) (fun c_98 => ?_)
          · replace hE := (if_neg c_98).symm.trans hE
            have i_98 : p1.toInt ≠ 0 := fun h => c_98 (Int32.toInt_inj.mp h)
            refine lv_iload_n hx hb dX5_hush_105 rfl (lv_at hl 3 rfl) ?_
            subst hQ
            exact g_iret hx hb hr hlocks hG ((dy_36, t_m_36, jk) : Ob × Ob × (Nat → Nat → Int32)) rfl hE.symm dX5_hush_106
          replace hE := (if_pos c_98).symm.trans hE
          have i_98 : p1.toInt = 0 := congrArg Int32.toInt c_98
          refine lv_iload_n hx hb dX5_hush_101 rfl (lv_at hl 2 rfl) ?_
          refine lv_goto (tgt := 106) hx hb dX5_hush_102 (by decide) ?_
          subst hQ
          exact g_iret hx hb hr hlocks hG ((dy_36, t_m_36, jk) : Ob × Ob × (Nat → Nat → Int32)) rfl hE.symm dX5_hush_106
        replace hE := (if_neg c_45).symm.trans hE
        have i_45 : x4_36.toInt < ((tn 0).1 6).toInt := i_nle c_45
        refine lv_aload_n hx hb dX5_hush_48 rfl (lv_at hl 0 rfl) ?_
        refine g_cr (g_runV (n := 0) (rest := []) hx hb hml hown hts hG (c_X5_startThought hv.2.1) tw_ml_RX5_157 tw_im_X5_startThought tw_se_X5_startThought tw_in_RX5 tw_cd_X5_startThought (by decide +kernel) ⟨rfl, rfl, Nat.le_of_ble_eq_true rfl, Nat.le_of_ble_eq_true rfl⟩ gw_Bell rfl rfl hl.1 rfl (Nat.le_of_ble_eq_true rfl) dX5_hush_49 ⟨Nat.le_refl _, Nat.le_refl _⟩) hG hA (fun u H locs hp hG => ?_)
        obtain ⟨t_m_49, rfl⟩ : ∃ z, z = u := ⟨u, rfl⟩
        replace hG : gS g A s H locs (gW g bb tx rw sb dy_36 (va_up tn 1 t_m_49) mo jk) := by simpa only [up_up] using hG
        have hp_49 := hp
        rw [hp] at hE
        unfold F_X5_hush_c49 at hE
        try dsimp only at hE
        have hv49 : tEv tx t_m_49 := tEv_st hp_49 hv
        refine lv_astore (lv' := [(5, .ref (gA g (40 + 6 * 1))), (0, .ref (gA g 0)), (1, .int p1), (2, .int x2_36), (3, .int x3_36), (4, .int x4_36)]) hx hb dX5_hush_52 hl (by decide) rfl (fun ls hl => ?_)
        replace hl := lv_sub hl [1, 2, 3, 4, 5, 0] (l' := [(0, .ref (gA g 0)), (1, .int p1), (2, .int x2_36), (3, .int x3_36), (4, .int x4_36), (5, .ref (gA g (40 + 6 * 1)))]) rfl
        refine lv_aload hx hb dX5_hush_54 (lv_at hl 5 rfl) ?_
        refine lv_iload hx hb dX5_hush_56 (lv_at hl 4 rfl) ?_
        refine g_cv (g_runV (n := 1) (rest := []) hx hb hml hown hts hG (c_X4_turnVow (by decide) (up_same _ _ _) x4_36) tw_ml_RX5_183 tw_im_X4_turnVow tw_se_X4_turnVow tw_in_RX4 tw_cd_X4_turnVow (by decide +kernel) ⟨rfl, rfl, Nat.le_of_ble_eq_true rfl, Nat.le_of_ble_eq_true rfl⟩ (gw_Town (o := 1) (by decide) (up_same _ _ _)) rfl rfl hl.1 rfl (Nat.le_of_ble_eq_true rfl) dX5_hush_58 ⟨Nat.le_refl _, Nat.le_refl _⟩) hG hA (fun u H locs hp hG => ?_)
        obtain ⟨t_m_58, rfl⟩ : ∃ z, z = u := ⟨u, rfl⟩
        replace hG : gS g A s H locs (gW g bb tx rw sb dy_36 (va_up tn 1 t_m_58) mo jk) := by simpa only [up_up] using hG
        have hp_58 := hp
        rw [hp] at hE
        unfold F_X5_hush_c58 at hE
        try dsimp only at hE
        have hv58 : tEv tx t_m_58 := tEv_tv hp_58 hv49
        refine lv_aload_n hx hb dX5_hush_61 rfl (lv_at hl 0 rfl) ?_
        refine g_get hx hb hts hiX5 hown hG gw_Bell rfl 3 (by decide) (index := 31) tw_fl_RX5_31 (v := .ref (gA g 37)) rfl dX5_hush_62 ?_
        refine lv_aload hx hb dX5_hush_65 (lv_at hl 5 rfl) ?_
        refine g_cv (g_runV (n := 1) (rest := []) hx hb hml hown hts hG (c_X0_live (by decide) (up_same _ _ _) hv58) tw_ml_RX5_164 tw_im_X0_live tw_se_X0_live tw_in_RX0 tw_cd_X0_live (by decide +kernel) ⟨rfl, rfl, Nat.le_of_ble_eq_true rfl, Nat.le_of_ble_eq_true rfl⟩ gw_Day rfl rfl hl.1 rfl (Nat.le_of_ble_eq_true rfl) dX5_hush_67 ⟨Nat.le_refl _, Nat.le_refl _⟩) hG hA (fun u H locs hp hG => ?_)
        obtain ⟨dy_67, t_m_67, jk⟩ := u
        replace hG : gS g A s H locs (gW g bb tx rw sb dy_67 (va_up tn 1 t_m_67) mo jk) := by simpa only [up_up] using hG
        have hp_67 := hp
        rw [hp] at hE
        unfold F_X5_hush_c67 at hE
        try dsimp only at hE
        refine lv_aload_n hx hb dX5_hush_70 rfl (lv_at hl 0 rfl) ?_
        refine g_get hx hb hts hiX5 hown hG gw_Bell rfl 3 (by decide) (index := 31) tw_fl_RX5_31 (v := .ref (gA g 37)) rfl dX5_hush_71 ?_
        refine g_ci (g_runV (n := 0) (rest := []) hx hb hml hown hts hG (c_X0_hoursAlone) tw_ml_RX5_168 tw_im_X0_hoursAlone tw_se_X0_hoursAlone tw_in_RX0 tw_cd_X0_hoursAlone (by decide +kernel) ⟨rfl, rfl, Nat.le_of_ble_eq_true rfl, Nat.le_of_ble_eq_true rfl⟩ gw_Day rfl rfl hl.1 rfl (Nat.le_of_ble_eq_true rfl) dX5_hush_74 ⟨Nat.le_refl _, Nat.le_refl _⟩) hG hA (fun r _ H locs hp hG => ?_)
        subst hp
        replace hG : gS g A s H locs (gW g bb tx rw sb dy_67 (va_up tn 1 t_m_67) mo jk) := hG
        refine lv_istore (lv' := [(6, .int (F_X0_hoursAlone dy_67)), (0, .ref (gA g 0)), (1, .int p1), (2, .int x2_36), (3, .int x3_36), (4, .int x4_36), (5, .ref (gA g (40 + 6 * 1)))]) hx hb dX5_hush_77 hl (by decide) rfl (fun ls hl => ?_)
        replace hl := lv_sub hl [1, 2, 3, 4, 5, 6, 0] (l' := [(0, .ref (gA g 0)), (1, .int p1), (2, .int x2_36), (3, .int x3_36), (4, .int x4_36), (5, .ref (gA g (40 + 6 * 1))), (6, .int (F_X0_hoursAlone dy_67))]) rfl
        refine lv_iload hx hb dX5_hush_79 (lv_at hl 6 rfl) ?_
        refine lv_iload_n hx hb dX5_hush_81 rfl (lv_at hl 3 rfl) ?_
        have J91 : ∀ (x2_91 : Int32) (x3_91 : Int32) (jk : (Nat → Nat → Int32)) (H : Heap) (locs : List Loc), gS g A s H locs (gW g bb tx rw sb dy_67 (va_up tn 1 t_m_67) mo jk) → ∀ ls : Array Slot, lv_has ls 7 [(0, .ref (gA g 0)), (1, .int p1), (2, .int x2_91), (3, .int x3_91), (4, .int x4_36)] → F_X5_hush_b91  (F_X5_hush_l36 n ) tx tn dy_67 t_m_67 p1 x2_91 x3_91 x4_36 = EE → W p l e (rmL 9) s m [.ref (gA g 0), .int p1].toArray below meth c H locs 0 0 Q (F0 m 91 ls []) := by
          intro x2_91 x3_91 jk H locs hG ls hl  hE
          unfold F_X5_hush_b91 at hE
          refine lv_iinc (v := (x4_36 + 1)) (lv' := [(4, .int (x4_36 + 1)), (0, .ref (gA g 0)), (1, .int p1), (2, .int x2_91), (3, .int x3_91)]) hx hb dX5_hush_91 hl (k := 4) rfl rfl (by decide) rfl (fun ls hl => ?_)
          replace hl := lv_sub hl [1, 2, 3, 4, 0] (l' := [(0, .ref (gA g 0)), (1, .int p1), (2, .int x2_91), (3, .int x3_91), (4, .int (x4_36 + 1))]) rfl
          refine lv_goto (tgt := 36) hx hb dX5_hush_94 (by decide) ?_
          have e1 : (x4_36 + 1).toInt = x4_36.toInt + 1 := addL (k := 1) (by decide +kernel) (by clear hE; omega) (by clear hE; omega)
          exact ih36 x2_91 x3_91 (x4_36 + 1) dy_67 t_m_67 _ _ _ hG _ (lv_sub hl [0, 1, 2, 3, 4] rfl) (by clear hE; omega) (by clear hE; omega) (by clear hE; omega) hE
        refine lv_icmp_le (tgt := 91) hx hb dX5_hush_82 (by decide) (fun c_82 => ?_) (fun c_82 => ?_)
        · replace hE := (if_pos c_82).symm.trans hE
          exact J91 x2_36 x3_36 _ _ _ hG _ (lv_sub hl [0, 1, 2, 3, 4] rfl) hE
        replace hE := (if_neg c_82).symm.trans hE
        refine lv_iload hx hb dX5_hush_85 (lv_at hl 6 rfl) ?_
        refine lv_istore_n (lv' := [(3, .int (F_X0_hoursAlone dy_67)), (0, .ref (gA g 0)), (1, .int p1), (2, .int x2_36), (4, .int x4_36), (5, .ref (gA g (40 + 6 * 1))), (6, .int (F_X0_hoursAlone dy_67))]) hx hb dX5_hush_87 rfl hl (by decide) rfl (fun ls hl => ?_)
        replace hl := lv_sub hl [1, 2, 3, 0, 4, 5, 6] (l' := [(0, .ref (gA g 0)), (1, .int p1), (2, .int x2_36), (3, .int (F_X0_hoursAlone dy_67)), (4, .int x4_36), (5, .ref (gA g (40 + 6 * 1))), (6, .int (F_X0_hoursAlone dy_67))]) rfl
        refine lv_iload hx hb dX5_hush_88 (lv_at hl 4 rfl) ?_
        refine lv_istore_n (lv' := [(2, .int x4_36), (0, .ref (gA g 0)), (1, .int p1), (3, .int (F_X0_hoursAlone dy_67)), (4, .int x4_36), (5, .ref (gA g (40 + 6 * 1))), (6, .int (F_X0_hoursAlone dy_67))]) hx hb dX5_hush_90 rfl hl (by decide) rfl (fun ls hl => ?_)
        replace hl := lv_sub hl [1, 2, 0, 3, 4, 5, 6] (l' := [(0, .ref (gA g 0)), (1, .int p1), (2, .int x4_36), (3, .int (F_X0_hoursAlone dy_67)), (4, .int x4_36), (5, .ref (gA g (40 + 6 * 1))), (6, .int (F_X0_hoursAlone dy_67))]) rfl
        exact J91 x4_36 (F_X0_hoursAlone dy_67) _ _ _ hG _ (lv_sub hl [0, 1, 2, 3, 4] rfl) hE
    exact L36 7 (-1) (F_X0_hoursAlone dy_20) 0 dy_20 t_m_20 _ _ _ hG _ (lv_sub hl [0, 1, 2, 3, 4] rfl) (by decide) (by decide) (by decide) hE
  replace hE := (if_pos c_6).symm.trans hE
  refine lv_bipush (v := (-2)) hx hb dX5_hush_9 (by decide) ?_
  subst hQ
  exact g_iret hx hb hr hlocks hG ((dy, (tn 1), jk) : Ob × Ob × (Nat → Nat → Int32)) rfl hE.symm dX5_hush_11
def F_X5_lesson_b78 (K34 : (Nat → Ob) → (Nat → Ob) → Ob → Int32 → Int32 → Int32 → Int32 → Int32 → Int32 × Ob) (tx : Nat → Ob) (tn : Nat → Ob) (t_m : Ob) (x1 : Int32) (x2 : Int32) (x3 : Int32) (x4 : Int32) (x5 : Int32) : Int32 × Ob :=
  (K34 tx tn t_m x1 x2 x3 x4 (x5 + 1))
def F_X5_lesson_c59 (K34 : (Nat → Ob) → (Nat → Ob) → Ob → Int32 → Int32 → Int32 → Int32 → Int32 → Int32 × Ob) (u : Int32 × Ob) (tx : Nat → Ob) (tn : Nat → Ob) (x1 : Int32) (x2 : Int32) (x3 : Int32) (x4 : Int32) (x5 : Int32) : Int32 × Ob :=
  (if u.1 ≤ x4 then (F_X5_lesson_b78 K34 tx tn u.2 x1 x2 x3 x4 x5) else (F_X5_lesson_b78 K34 tx tn u.2 x1 x2 x5 u.1 x5))
def F_X5_lesson_c52 (K34 : (Nat → Ob) → (Nat → Ob) → Ob → Int32 → Int32 → Int32 → Int32 → Int32 → Int32 × Ob) (u : Ob) (tx : Nat → Ob) (tn : Nat → Ob) (x1 : Int32) (x2 : Int32) (x3 : Int32) (x4 : Int32) (x5 : Int32) : Int32 × Ob :=
  (F_X5_lesson_c59 K34 (F_X4_passHours tx u 24) tx tn x1 x2 x3 x4 x5)
def F_X5_lesson_c42 (K34 : (Nat → Ob) → (Nat → Ob) → Ob → Int32 → Int32 → Int32 → Int32 → Int32 → Int32 × Ob) (u : Ob) (tx : Nat → Ob) (tn : Nat → Ob) (x1 : Int32) (x2 : Int32) (x3 : Int32) (x4 : Int32) (x5 : Int32) : Int32 × Ob :=
  (F_X5_lesson_c52 K34 (F_X4_turnHour u x1 x5) tx tn x1 x2 x3 x4 x5)
def F_X5_lesson_l34 : Nat → (Nat → Ob) → (Nat → Ob) → Ob → Int32 → Int32 → Int32 → Int32 → Int32 → Int32 × Ob
  | 0, _, _, t_m, _, _, _, _, _ => (0, t_m)
  | n + 1, tx, tn, t_m, x1, x2, x3, x4, x5 =>
    (if 24 ≤ x5 then (if x2 = 0 then (x3, t_m) else (x4, t_m)) else (F_X5_lesson_c42 (F_X5_lesson_l34 n ) (F_X5_startThought (va_up tn 1 t_m)) tx tn x1 x2 x3 x4 x5))
def F_X5_lesson (tx : Nat → Ob) (tn : Nat → Ob) (p1 : Int32) (p2 : Int32) : Int32 × Ob :=
  (if (F_X4_has (tn 0) p1) = 0 then ((-5), (tn 1)) else (if (F_X5_isWithin p2 0 1) = 0 then ((-7), (tn 1)) else (F_X5_lesson_l34 25  tx tn (tn 1) p1 p2 0 (-1) 0)))
set_option maxHeartbeats 4000000 in
set_option maxRecDepth 100000 in
theorem c_X5_lesson {l : Launch} {g : GG} {sz : Nat} {bb : Ob} {tx rw : Nat → Ob} {sb dy : Ob} {tn : Nat → Ob} {mo : Ob} {jk : Nat → Nat → Int32}  (p1 : Int32) (p2 : Int32) (hv : tEv tx (tn 0)) : Met l yX5_lesson (Cond.code yX5_lesson cX5_lesson 8 (some .int) :: TT) (rmL 9) (va_Pc [.ref (gA g 0), .int p1, .int p2] (gB g sz (gW g bb tx rw sb dy tn mo jk))) (va_Qi (fun r (u : Ob × (Nat → Nat → Int32)) => (F_X5_lesson tx tn p1 p2) = (r, u.1)) (fun u t => gC g (va_A (gW g bb tx rw sb dy tn mo jk) sz) (gW g bb tx rw sb dy (va_up tn 1 u.1) mo u.2) t) (va_A (gW g bb tx rw sb dy tn mo jk) sz)) 0 0 (va_A (gW g bb tx rw sb dy tn mo jk) sz) := by
  generalize hE : F_X5_lesson tx tn p1 p2 = EE
  refine g_of (Qf := fun A => (va_Qi (fun r (u : Ob × (Nat → Nat → Int32)) => EE = (r, u.1)) (fun u t => gC g A (gW g bb tx rw sb dy (va_up tn 1 u.1) mo u.2) t) A)) (cc := cX5_lesson) (maxL := 8) (ret := (some .int)) (by decide) (Nat.le_of_ble_eq_true rfl) ?_
  intro p e s m below meth c A ls hx hb hml hr hlocks hts hown hA hG hl
  replace hown : s.vm.findClass RX5 = some m.cls := hown
  replace hl : lv_has ls 8 [(0, .ref (gA g 0)), (1, .int p1), (2, .int p2)] := hl
  show W p l e (rmL 9) s m [.ref (gA g 0), .int p1, .int p2].toArray below meth c s.heap [] 0 0 (MQ below (va_Qi (fun r (u : Ob × (Nat → Nat → Int32)) => EE = (r, u.1)) (fun u t => gC g A (gW g bb tx rw sb dy (va_up tn 1 u.1) mo u.2) t) A) [.ref (gA g 0), .int p1, .int p2].toArray s 0 0 A) (F0 m 0 ls [])
  generalize hQ : MQ below (va_Qi (fun r (u : Ob × (Nat → Nat → Int32)) => EE = (r, u.1)) (fun u t => gC g A (gW g bb tx rw sb dy (va_up tn 1 u.1) mo u.2) t) A) [.ref (gA g 0), .int p1, .int p2].toArray s 0 0 A = Q
  replace hG : gS g A s s.heap [] (gW g bb tx rw sb dy (va_up tn 1 (tn 1)) mo jk) := by simpa only [up_self] using hG
  unfold F_X5_lesson at hE
  refine lv_aload_n hx hb dX5_lesson_0 rfl (lv_at hl 0 rfl) ?_
  refine g_get hx hb hts hiX5 hown hG gw_Bell rfl 4 (by decide) (index := 53) tw_fl_RX5_53 (v := .ref (gA g (40 + 6 * 0))) rfl dX5_lesson_1 ?_
  refine lv_iload_n hx hb dX5_lesson_4 rfl (lv_at hl 1 rfl) ?_
  refine g_ci (g_runV (n := 1) (rest := []) hx hb hml hown hts hG (c_X4_has (by decide) (show _ = (tn 0) from rfl) p1) tw_ml_RX5_101 tw_im_X4_has tw_se_X4_has tw_in_RX4 tw_cd_X4_has (by decide +kernel) ⟨rfl, rfl, Nat.le_of_ble_eq_true rfl, Nat.le_of_ble_eq_true rfl⟩ (gw_Town (o := 0) (by decide) (show _ = (tn 0) from rfl)) rfl rfl hl.1 rfl (Nat.le_of_ble_eq_true rfl) dX5_lesson_5 ⟨Nat.le_refl _, Nat.le_refl _⟩) hG hA (fun r _ H locs hp hG => ?_)
  subst hp
  replace hG : gS g A s H locs (gW g bb tx rw sb dy (va_up tn 1 (tn 1)) mo jk) := hG
  refine lv_if_ne (tgt := 14) hx hb dX5_lesson_8 (by decide) (fun c_8 => ?_) (fun c_8 => ?_)
  · replace hE := (if_neg c_8).symm.trans hE
    have i_8 := has_f c_8
    refine lv_iload_n hx hb dX5_lesson_14 rfl (lv_at hl 2 rfl) ?_
    refine lv_iconst (v := 0) hx hb dX5_lesson_15 (by decide) ?_
    refine lv_iconst (v := 1) hx hb dX5_lesson_16 (by decide) ?_
    refine g_si (g_runS (n := 3) (rest := []) hx hb hml hown hts hG (c_X5_isWithin p2 0 1) tw_ml_RX5_81 tw_st_X5_isWithin tw_in_RX5 tw_cd_X5_isWithin (by decide +kernel) ⟨rfl, rfl, Nat.le_of_ble_eq_true rfl, Nat.le_of_ble_eq_true rfl⟩ rfl hl.1 rfl (Nat.le_of_ble_eq_true rfl) dX5_lesson_17 ⟨Nat.le_refl _, Nat.le_refl _⟩) hG hA (fun H locs hG => ?_)
    refine lv_if_ne (tgt := 26) hx hb dX5_lesson_20 (by decide) (fun c_20 => ?_) (fun c_20 => ?_)
    · replace hE := (if_neg c_20).symm.trans hE
      have i_20 : 0 ≤ p2.toInt ∧ p2.toInt ≤ 1 := within_f c_20
      refine lv_iconst (v := 0) hx hb dX5_lesson_26 (by decide) ?_
      refine lv_istore_n (lv' := [(3, .int 0), (0, .ref (gA g 0)), (1, .int p1), (2, .int p2)]) hx hb dX5_lesson_27 rfl hl (by decide) rfl (fun ls hl => ?_)
      replace hl := lv_sub hl [1, 2, 3, 0] (l' := [(0, .ref (gA g 0)), (1, .int p1), (2, .int p2), (3, .int 0)]) rfl
      refine lv_iconst (v := (-1)) hx hb dX5_lesson_28 (by decide) ?_
      refine lv_istore (lv' := [(4, .int (-1)), (0, .ref (gA g 0)), (1, .int p1), (2, .int p2), (3, .int 0)]) hx hb dX5_lesson_29 hl (by decide) rfl (fun ls hl => ?_)
      replace hl := lv_sub hl [1, 2, 3, 4, 0] (l' := [(0, .ref (gA g 0)), (1, .int p1), (2, .int p2), (3, .int 0), (4, .int (-1))]) rfl
      refine lv_iconst (v := 0) hx hb dX5_lesson_31 (by decide) ?_
      refine lv_istore (lv' := [(5, .int 0), (0, .ref (gA g 0)), (1, .int p1), (2, .int p2), (3, .int 0), (4, .int (-1))]) hx hb dX5_lesson_32 hl (by decide) rfl (fun ls hl => ?_)
      replace hl := lv_sub hl [1, 2, 3, 4, 5, 0] (l' := [(0, .ref (gA g 0)), (1, .int p1), (2, .int p2), (3, .int 0), (4, .int (-1)), (5, .int 0)]) rfl
      have L34 : ∀ (n : Nat) (x3_34 : Int32) (x4_34 : Int32) (x5_34 : Int32) (t_m_34 : Ob) (jk : (Nat → Nat → Int32)) (H : Heap) (locs : List Loc), gS g A s H locs (gW g bb tx rw sb dy (va_up tn 1 t_m_34) mo jk) → ∀ ls : Array Slot, lv_has ls 8 [(0, .ref (gA g 0)), (1, .int p1), (2, .int p2), (3, .int x3_34), (4, .int x4_34), (5, .int x5_34)] → 0 ≤ x5_34.toInt → x5_34.toInt ≤ 24 → 24 < x5_34.toInt + n → F_X5_lesson_l34 n  tx tn t_m_34 p1 p2 x3_34 x4_34 x5_34 = EE → W p l e (rmL 9) s m [.ref (gA g 0), .int p1, .int p2].toArray below meth c H locs 0 0 Q (F0 m 34 ls []) := by
        intro n
        induction n with
        | zero =>
          intro x3_34 x4_34 x5_34 t_m_34 jk H locs hG ls hl h0_34 h1_34 hm_34 hE
          omega
        | succ n ih34 =>
          intro x3_34 x4_34 x5_34 t_m_34 jk H locs hG ls hl h0_34 h1_34 hm_34 hE
          unfold F_X5_lesson_l34 at hE
          refine lv_iload hx hb dX5_lesson_34 (lv_at hl 5 rfl) ?_
          refine lv_bipush (v := 24) hx hb dX5_lesson_36 (by decide) ?_
          refine lv_icmp_ge (tgt := 84) hx hb dX5_lesson_38 (by decide) (fun c_38 => ?_) (fun c_38 => ?_)
          · replace hE := (if_pos c_38).symm.trans hE
            have i_38 : 24 ≤ x5_34.toInt := i_le.mp c_38
            refine lv_iload_n hx hb dX5_lesson_84 rfl (lv_at hl 2 rfl) ?_
            refine lv_if_ne (tgt := 92) hx hb dX5_lesson_85 (by decide) (fun c_85 => ?_) (fun c_85 => ?_)
            · replace hE := (if_neg c_85).symm.trans hE
              have i_85 : p2.toInt ≠ 0 := fun h => c_85 (Int32.toInt_inj.mp h)
              refine lv_iload hx hb dX5_lesson_92 (lv_at hl 4 rfl) ?_
              subst hQ
              exact g_iret hx hb hr hlocks hG ((t_m_34, jk) : Ob × (Nat → Nat → Int32)) rfl hE.symm dX5_lesson_94
            replace hE := (if_pos c_85).symm.trans hE
            have i_85 : p2.toInt = 0 := congrArg Int32.toInt c_85
            refine lv_iload_n hx hb dX5_lesson_88 rfl (lv_at hl 3 rfl) ?_
            refine lv_goto (tgt := 94) hx hb dX5_lesson_89 (by decide) ?_
            subst hQ
            exact g_iret hx hb hr hlocks hG ((t_m_34, jk) : Ob × (Nat → Nat → Int32)) rfl hE.symm dX5_lesson_94
          replace hE := (if_neg c_38).symm.trans hE
          have i_38 : x5_34.toInt < 24 := i_nle c_38
          refine lv_aload_n hx hb dX5_lesson_41 rfl (lv_at hl 0 rfl) ?_
          refine g_cr (g_runV (n := 0) (rest := []) hx hb hml hown hts hG (c_X5_startThought hv.2.1) tw_ml_RX5_157 tw_im_X5_startThought tw_se_X5_startThought tw_in_RX5 tw_cd_X5_startThought (by decide +kernel) ⟨rfl, rfl, Nat.le_of_ble_eq_true rfl, Nat.le_of_ble_eq_true rfl⟩ gw_Bell rfl rfl hl.1 rfl (Nat.le_of_ble_eq_true rfl) dX5_lesson_42 ⟨Nat.le_refl _, Nat.le_refl _⟩) hG hA (fun u H locs hp hG => ?_)
          obtain ⟨t_m_42, rfl⟩ : ∃ z, z = u := ⟨u, rfl⟩
          replace hG : gS g A s H locs (gW g bb tx rw sb dy (va_up tn 1 t_m_42) mo jk) := by simpa only [up_up] using hG
          have hp_42 := hp
          rw [hp] at hE
          unfold F_X5_lesson_c42 at hE
          try dsimp only at hE
          have hv42 : tEv tx t_m_42 := tEv_st hp_42 hv
          refine lv_astore (lv' := [(6, .ref (gA g (40 + 6 * 1))), (0, .ref (gA g 0)), (1, .int p1), (2, .int p2), (3, .int x3_34), (4, .int x4_34), (5, .int x5_34)]) hx hb dX5_lesson_45 hl (by decide) rfl (fun ls hl => ?_)
          replace hl := lv_sub hl [1, 2, 3, 4, 5, 6, 0] (l' := [(0, .ref (gA g 0)), (1, .int p1), (2, .int p2), (3, .int x3_34), (4, .int x4_34), (5, .int x5_34), (6, .ref (gA g (40 + 6 * 1)))]) rfl
          refine lv_aload hx hb dX5_lesson_47 (lv_at hl 6 rfl) ?_
          refine lv_iload_n hx hb dX5_lesson_49 rfl (lv_at hl 1 rfl) ?_
          refine lv_iload hx hb dX5_lesson_50 (lv_at hl 5 rfl) ?_
          refine g_cv (g_runV (n := 2) (rest := []) hx hb hml hown hts hG (c_X4_turnHour (by decide) (up_same _ _ _) p1 x5_34) tw_ml_RX5_191 tw_im_X4_turnHour tw_se_X4_turnHour tw_in_RX4 tw_cd_X4_turnHour (by decide +kernel) ⟨rfl, rfl, Nat.le_of_ble_eq_true rfl, Nat.le_of_ble_eq_true rfl⟩ (gw_Town (o := 1) (by decide) (up_same _ _ _)) rfl rfl hl.1 rfl (Nat.le_of_ble_eq_true rfl) dX5_lesson_52 ⟨Nat.le_refl _, Nat.le_refl _⟩) hG hA (fun u H locs hp hG => ?_)
          obtain ⟨t_m_52, rfl⟩ : ∃ z, z = u := ⟨u, rfl⟩
          replace hG : gS g A s H locs (gW g bb tx rw sb dy (va_up tn 1 t_m_52) mo jk) := by simpa only [up_up] using hG
          have hp_52 := hp
          rw [hp] at hE
          unfold F_X5_lesson_c52 at hE
          try dsimp only at hE
          have hv52 : tEv tx t_m_52 := tEv_th hp_52 hv42
          refine lv_aload hx hb dX5_lesson_55 (lv_at hl 6 rfl) ?_
          refine lv_bipush (v := 24) hx hb dX5_lesson_57 (by decide) ?_
          refine g_ci (g_runV (n := 1) (rest := []) hx hb hml hown hts hG (c_X4_passHours (by decide) (up_same _ _ _) 24 hv52 (by decide)) tw_ml_RX5_161 tw_im_X4_passHours tw_se_X4_passHours tw_in_RX4 tw_cd_X4_passHours (by decide +kernel) ⟨rfl, rfl, Nat.le_of_ble_eq_true rfl, Nat.le_of_ble_eq_true rfl⟩ (gw_Town (o := 1) (by decide) (up_same _ _ _)) rfl rfl hl.1 rfl (Nat.le_of_ble_eq_true rfl) dX5_lesson_59 ⟨Nat.le_refl _, Nat.le_refl _⟩) hG hA (fun r_59 u H locs hp hG => ?_)
          obtain ⟨t_m_59, jk⟩ := u
          replace hG : gS g A s H locs (gW g bb tx rw sb dy (va_up tn 1 t_m_59) mo jk) := by simpa only [up_up] using hG
          have hp_59 := hp
          rw [hp] at hE
          unfold F_X5_lesson_c59 at hE
          try dsimp only at hE
          have hv59 : tEv tx t_m_59 := tEv_pHs hp_59 hv52
          refine lv_istore (lv' := [(7, .int r_59), (0, .ref (gA g 0)), (1, .int p1), (2, .int p2), (3, .int x3_34), (4, .int x4_34), (5, .int x5_34), (6, .ref (gA g (40 + 6 * 1)))]) hx hb dX5_lesson_62 hl (by decide) rfl (fun ls hl => ?_)
          replace hl := lv_sub hl [1, 2, 3, 4, 5, 6, 7, 0] (l' := [(0, .ref (gA g 0)), (1, .int p1), (2, .int p2), (3, .int x3_34), (4, .int x4_34), (5, .int x5_34), (6, .ref (gA g (40 + 6 * 1))), (7, .int r_59)]) rfl
          refine lv_iload hx hb dX5_lesson_64 (lv_at hl 7 rfl) ?_
          refine lv_iload hx hb dX5_lesson_66 (lv_at hl 4 rfl) ?_
          have J78 : ∀ (x3_78 : Int32) (x4_78 : Int32) (jk : (Nat → Nat → Int32)) (H : Heap) (locs : List Loc), gS g A s H locs (gW g bb tx rw sb dy (va_up tn 1 t_m_59) mo jk) → ∀ ls : Array Slot, lv_has ls 8 [(0, .ref (gA g 0)), (1, .int p1), (2, .int p2), (3, .int x3_78), (4, .int x4_78), (5, .int x5_34)] → F_X5_lesson_b78  (F_X5_lesson_l34 n ) tx tn t_m_59 p1 p2 x3_78 x4_78 x5_34 = EE → W p l e (rmL 9) s m [.ref (gA g 0), .int p1, .int p2].toArray below meth c H locs 0 0 Q (F0 m 78 ls []) := by
            intro x3_78 x4_78 jk H locs hG ls hl  hE
            unfold F_X5_lesson_b78 at hE
            refine lv_iinc (v := (x5_34 + 1)) (lv' := [(5, .int (x5_34 + 1)), (0, .ref (gA g 0)), (1, .int p1), (2, .int p2), (3, .int x3_78), (4, .int x4_78)]) hx hb dX5_lesson_78 hl (k := 5) rfl rfl (by decide) rfl (fun ls hl => ?_)
            replace hl := lv_sub hl [1, 2, 3, 4, 5, 0] (l' := [(0, .ref (gA g 0)), (1, .int p1), (2, .int p2), (3, .int x3_78), (4, .int x4_78), (5, .int (x5_34 + 1))]) rfl
            refine lv_goto (tgt := 34) hx hb dX5_lesson_81 (by decide) ?_
            have e1 : (x5_34 + 1).toInt = x5_34.toInt + 1 := addL (k := 1) (by decide +kernel) (by clear hE; omega) (by clear hE; omega)
            exact ih34 x3_78 x4_78 (x5_34 + 1) t_m_59 _ _ _ hG _ (lv_sub hl [0, 1, 2, 3, 4, 5] rfl) (by clear hE; omega) (by clear hE; omega) (by clear hE; omega) hE
          refine lv_icmp_le (tgt := 78) hx hb dX5_lesson_68 (by decide) (fun c_68 => ?_) (fun c_68 => ?_)
          · replace hE := (if_pos c_68).symm.trans hE
            have i_68 : r_59.toInt ≤ x4_34.toInt := i_le.mp c_68
            exact J78 x3_34 x4_34 _ _ _ hG _ (lv_sub hl [0, 1, 2, 3, 4, 5] rfl) hE
          replace hE := (if_neg c_68).symm.trans hE
          have i_68 : x4_34.toInt < r_59.toInt := i_nle c_68
          refine lv_iload hx hb dX5_lesson_71 (lv_at hl 7 rfl) ?_
          refine lv_istore (lv' := [(4, .int r_59), (0, .ref (gA g 0)), (1, .int p1), (2, .int p2), (3, .int x3_34), (5, .int x5_34), (6, .ref (gA g (40 + 6 * 1))), (7, .int r_59)]) hx hb dX5_lesson_73 hl (by decide) rfl (fun ls hl => ?_)
          replace hl := lv_sub hl [1, 2, 3, 4, 0, 5, 6, 7] (l' := [(0, .ref (gA g 0)), (1, .int p1), (2, .int p2), (3, .int x3_34), (4, .int r_59), (5, .int x5_34), (6, .ref (gA g (40 + 6 * 1))), (7, .int r_59)]) rfl
          refine lv_iload hx hb dX5_lesson_75 (lv_at hl 5 rfl) ?_
          refine lv_istore_n (lv' := [(3, .int x5_34), (0, .ref (gA g 0)), (1, .int p1), (2, .int p2), (4, .int r_59), (5, .int x5_34), (6, .ref (gA g (40 + 6 * 1))), (7, .int r_59)]) hx hb dX5_lesson_77 rfl hl (by decide) rfl (fun ls hl => ?_)
          replace hl := lv_sub hl [1, 2, 3, 0, 4, 5, 6, 7] (l' := [(0, .ref (gA g 0)), (1, .int p1), (2, .int p2), (3, .int x5_34), (4, .int r_59), (5, .int x5_34), (6, .ref (gA g (40 + 6 * 1))), (7, .int r_59)]) rfl
          exact J78 x5_34 r_59 _ _ _ hG _ (lv_sub hl [0, 1, 2, 3, 4, 5] rfl) hE
      exact L34 25 0 (-1) 0 (tn 1) _ _ _ hG _ (lv_sub hl [0, 1, 2, 3, 4, 5] rfl) (by decide) (by decide) (by decide) hE
    replace hE := (if_pos c_20).symm.trans hE
    refine lv_bipush (v := (-7)) hx hb dX5_lesson_23 (by decide) ?_
    subst hQ
    exact g_iret hx hb hr hlocks hG (((tn 1), jk) : Ob × (Nat → Nat → Int32)) rfl hE.symm dX5_lesson_25
  replace hE := (if_pos c_8).symm.trans hE
  refine lv_bipush (v := (-5)) hx hb dX5_lesson_11 (by decide) ?_
  subst hQ
  exact g_iret hx hb hr hlocks hG (((tn 1), jk) : Ob × (Nat → Nat → Int32)) rfl hE.symm dX5_lesson_13
def F_X5_lowestTerms_b45 (y0 : Int64) (y2 : Int64) (x4 : Int32) (y7 : Int64) : Int64 :=
  (if (lg_cmp y7 0) = 0 then (-4611686018427387904) else (if x4 = 0 then (y0 / y7) else (y2 / y7)))
def F_X5_lowestTerms_l9 : Nat → Int64 → Int64 → Int32 → Int64 → Int64 → Int32 → Int64
  | 0, _, _, _, _, _, _ => 0
  | n + 1, y0, y2, x4, y5, y7, x9 =>
    (if 1000 ≤ x9 then (F_X5_lowestTerms_b45  y0 y2 x4 y7) else (if (lg_cmp y5 0) = 0 then (F_X5_lowestTerms_b45  y0 y2 x4 y7) else ((F_X5_lowestTerms_l9 n ) y0 y2 x4 (y7 - y7 / y5 * y5) y5 (x9 + 1))))
def F_X5_lowestTerms (p0 : Int64) (p2 : Int64) (p4 : Int32) : Int64 :=
  (F_X5_lowestTerms_l9 1001  p0 p2 p4 p0 p2 0)
set_option maxHeartbeats 4000000 in
set_option maxRecDepth 100000 in
theorem c_X5_lowestTerms {l : Launch} {g : GG} {sz : Nat}  (p0 : Int64) (p2 : Int64) (p4 : Int32)  : Met l yX5_lowestTerms (Cond.code yX5_lowestTerms cX5_lowestTerms 12 (some .long) :: TT) (rmL 1) (va_Pc [.long p0, .long p2, .int p4] (gB g sz [])) (va_Ql (fun r (_ : Unit) => r = (F_X5_lowestTerms p0 p2 p4)) (fun u t => gC g (va_A [] sz) [] t) (va_A [] sz)) 0 0 (va_A [] sz) := by
  generalize hE : F_X5_lowestTerms p0 p2 p4 = EE
  refine g_of (Qf := fun A => (va_Ql (fun r (_ : Unit) => r = EE) (fun u t => gC g A [] t) A)) (cc := cX5_lowestTerms) (maxL := 12) (ret := (some .long)) (by decide) (Nat.le_of_ble_eq_true rfl) ?_
  intro p e s m below meth c A ls hx hb hml hr hlocks hts hown hA hG hl
  replace hown : s.vm.findClass RX5 = some m.cls := hown
  replace hl : lv_has ls 12 [(0, .long p0), (2, .long p2), (4, .int p4)] := hl
  show W p l e (rmL 1) s m [.long p0, .long p2, .int p4].toArray below meth c s.heap [] 0 0 (MQ below (va_Ql (fun r (_ : Unit) => r = EE) (fun u t => gC g A [] t) A) [.long p0, .long p2, .int p4].toArray s 0 0 A) (F0 m 0 ls [])
  generalize hQ : MQ below (va_Ql (fun r (_ : Unit) => r = EE) (fun u t => gC g A [] t) A) [.long p0, .long p2, .int p4].toArray s 0 0 A = Q
  unfold F_X5_lowestTerms at hE
  refine lv_lload_n hx hb dX5_lowestTerms_0 rfl (lv_at hl 0 rfl) ?_
  refine lv_lstore (lv' := [(5, .long p0), (0, .long p0), (2, .long p2), (4, .int p4)]) hx hb dX5_lowestTerms_1 hl (by decide) rfl (fun ls hl => ?_)
  replace hl := lv_sub hl [1, 2, 3, 0] (l' := [(0, .long p0), (2, .long p2), (4, .int p4), (5, .long p0)]) rfl
  refine lv_lload_n hx hb dX5_lowestTerms_3 rfl (lv_at hl 1 rfl) ?_
  refine lv_lstore (lv' := [(7, .long p2), (0, .long p0), (2, .long p2), (4, .int p4), (5, .long p0)]) hx hb dX5_lowestTerms_4 hl (by decide) rfl (fun ls hl => ?_)
  replace hl := lv_sub hl [1, 2, 3, 4, 0] (l' := [(0, .long p0), (2, .long p2), (4, .int p4), (5, .long p0), (7, .long p2)]) rfl
  refine lv_iconst (v := 0) hx hb dX5_lowestTerms_6 (by decide) ?_
  refine lv_istore (lv' := [(9, .int 0), (0, .long p0), (2, .long p2), (4, .int p4), (5, .long p0), (7, .long p2)]) hx hb dX5_lowestTerms_7 hl (by decide) rfl (fun ls hl => ?_)
  replace hl := lv_sub hl [1, 2, 3, 4, 5, 0] (l' := [(0, .long p0), (2, .long p2), (4, .int p4), (5, .long p0), (7, .long p2), (9, .int 0)]) rfl
  have L9 : ∀ (n : Nat) (y5_9 : Int64) (y7_9 : Int64) (x9_9 : Int32) (H : Heap) (locs : List Loc), gS g A s H locs [] → ∀ ls : Array Slot, lv_has ls 12 [(0, .long p0), (2, .long p2), (4, .int p4), (5, .long y5_9), (7, .long y7_9), (9, .int x9_9)] → 0 ≤ x9_9.toInt → x9_9.toInt ≤ 1000 → 1000 < x9_9.toInt + n → F_X5_lowestTerms_l9 n  p0 p2 p4 y5_9 y7_9 x9_9 = EE → W p l e (rmL 1) s m [.long p0, .long p2, .int p4].toArray below meth c H locs 0 0 Q (F0 m 9 ls []) := by
    intro n
    induction n with
    | zero =>
      intro y5_9 y7_9 x9_9 H locs hG ls hl h0_9 h1_9 hm_9 hE
      omega
    | succ n ih9 =>
      intro y5_9 y7_9 x9_9 H locs hG ls hl h0_9 h1_9 hm_9 hE
      unfold F_X5_lowestTerms_l9 at hE
      refine lv_iload hx hb dX5_lowestTerms_9 (lv_at hl 5 rfl) ?_
      refine lv_sipush (v := 1000) hx hb dX5_lowestTerms_11 (by decide) ?_
      have J45 : ∀  (H : Heap) (locs : List Loc), gS g A s H locs [] → ∀ ls : Array Slot, lv_has ls 12 [(0, .long p0), (2, .long p2), (4, .int p4), (7, .long y7_9)] → F_X5_lowestTerms_b45   p0 p2 p4 y7_9 = EE → W p l e (rmL 1) s m [.long p0, .long p2, .int p4].toArray below meth c H locs 0 0 Q (F0 m 45 ls []) := by
        intro  H locs hG ls hl  hE
        unfold F_X5_lowestTerms_b45 at hE
        refine lv_lload hx hb dX5_lowestTerms_45 (lv_at hl 3 rfl) ?_
        refine lv_lconst (v := 0) hx hb dX5_lowestTerms_47 (by decide) ?_
        refine W.lcmp hx hb dX5_lowestTerms_48 ?_
        refine lv_if_ne (tgt := 56) hx hb dX5_lowestTerms_49 (by decide) (fun c_49 => ?_) (fun c_49 => ?_)
        · replace hE := (if_neg c_49).symm.trans hE
          refine lv_iload hx hb dX5_lowestTerms_56 (lv_at hl 2 rfl) ?_
          refine lv_if_ne (tgt := 68) hx hb dX5_lowestTerms_58 (by decide) (fun c_58 => ?_) (fun c_58 => ?_)
          · replace hE := (if_neg c_58).symm.trans hE
            have i_58 : p4.toInt ≠ 0 := fun h => c_58 (Int32.toInt_inj.mp h)
            refine lv_lload_n hx hb dX5_lowestTerms_68 rfl (lv_at hl 1 rfl) ?_
            refine lv_lload hx hb dX5_lowestTerms_69 (lv_at hl 3 rfl) ?_
            refine lv_ldiv hx hb dX5_lowestTerms_71 (lcmp_ne c_49) ?_
            subst hQ
            exact g_lret hx hb hr hlocks hG () rfl hE dX5_lowestTerms_72
          replace hE := (if_pos c_58).symm.trans hE
          have i_58 : p4.toInt = 0 := congrArg Int32.toInt c_58
          refine lv_lload_n hx hb dX5_lowestTerms_61 rfl (lv_at hl 0 rfl) ?_
          refine lv_lload hx hb dX5_lowestTerms_62 (lv_at hl 3 rfl) ?_
          refine lv_ldiv hx hb dX5_lowestTerms_64 (lcmp_ne c_49) ?_
          refine lv_goto (tgt := 72) hx hb dX5_lowestTerms_65 (by decide) ?_
          subst hQ
          exact g_lret hx hb hr hlocks hG () rfl hE dX5_lowestTerms_72
        replace hE := (if_pos c_49).symm.trans hE
        refine lv_ldc2 (v := (-4611686018427387904)) hx hb hown (hts _ tw_cg_RX5_198) dX5_lowestTerms_52 ?_
        subst hQ
        exact g_lret hx hb hr hlocks hG () rfl hE dX5_lowestTerms_55
      refine lv_icmp_ge (tgt := 45) hx hb dX5_lowestTerms_14 (by decide) (fun c_14 => ?_) (fun c_14 => ?_)
      · replace hE := (if_pos c_14).symm.trans hE
        have i_14 : 1000 ≤ x9_9.toInt := i_le.mp c_14
        exact J45 _ _ hG _ (lv_sub hl [0, 1, 2, 4] rfl) hE
      replace hE := (if_neg c_14).symm.trans hE
      have i_14 : x9_9.toInt < 1000 := i_nle c_14
      refine lv_lload hx hb dX5_lowestTerms_17 (lv_at hl 3 rfl) ?_
      refine lv_lconst (v := 0) hx hb dX5_lowestTerms_19 (by decide) ?_
      refine W.lcmp hx hb dX5_lowestTerms_20 ?_
      refine lv_if_eq (tgt := 45) hx hb dX5_lowestTerms_21 (by decide) (fun c_21 => ?_) (fun c_21 => ?_)
      · replace hE := (if_pos c_21).symm.trans hE
        exact J45 _ _ hG _ (lv_sub hl [0, 1, 2, 4] rfl) hE
      replace hE := (if_neg c_21).symm.trans hE
      refine lv_lload hx hb dX5_lowestTerms_24 (lv_at hl 4 rfl) ?_
      refine lv_lload hx hb dX5_lowestTerms_26 (lv_at hl 3 rfl) ?_
      refine lv_lrem hx hb dX5_lowestTerms_28 (lcmp_ne c_21) ?_
      refine lv_lstore (lv' := [(10, .long (y7_9 - y7_9 / y5_9 * y5_9)), (0, .long p0), (2, .long p2), (4, .int p4), (5, .long y5_9), (7, .long y7_9), (9, .int x9_9)]) hx hb dX5_lowestTerms_29 hl (by decide) rfl (fun ls hl => ?_)
      replace hl := lv_sub hl [1, 2, 3, 4, 5, 6, 0] (l' := [(0, .long p0), (2, .long p2), (4, .int p4), (5, .long y5_9), (7, .long y7_9), (9, .int x9_9), (10, .long (y7_9 - y7_9 / y5_9 * y5_9))]) rfl
      refine lv_lload hx hb dX5_lowestTerms_31 (lv_at hl 3 rfl) ?_
      refine lv_lstore (lv' := [(7, .long y5_9), (0, .long p0), (2, .long p2), (4, .int p4), (5, .long y5_9), (9, .int x9_9), (10, .long (y7_9 - y7_9 / y5_9 * y5_9))]) hx hb dX5_lowestTerms_33 hl (by decide) rfl (fun ls hl => ?_)
      replace hl := lv_sub hl [1, 2, 3, 4, 0, 5, 6] (l' := [(0, .long p0), (2, .long p2), (4, .int p4), (5, .long y5_9), (7, .long y5_9), (9, .int x9_9), (10, .long (y7_9 - y7_9 / y5_9 * y5_9))]) rfl
      refine lv_lload hx hb dX5_lowestTerms_35 (lv_at hl 6 rfl) ?_
      refine lv_lstore (lv' := [(5, .long (y7_9 - y7_9 / y5_9 * y5_9)), (0, .long p0), (2, .long p2), (4, .int p4), (7, .long y5_9), (9, .int x9_9), (10, .long (y7_9 - y7_9 / y5_9 * y5_9))]) hx hb dX5_lowestTerms_37 hl (by decide) rfl (fun ls hl => ?_)
      replace hl := lv_sub hl [1, 2, 3, 0, 4, 5, 6] (l' := [(0, .long p0), (2, .long p2), (4, .int p4), (5, .long (y7_9 - y7_9 / y5_9 * y5_9)), (7, .long y5_9), (9, .int x9_9), (10, .long (y7_9 - y7_9 / y5_9 * y5_9))]) rfl
      refine lv_iinc (v := (x9_9 + 1)) (lv' := [(9, .int (x9_9 + 1)), (0, .long p0), (2, .long p2), (4, .int p4), (5, .long (y7_9 - y7_9 / y5_9 * y5_9)), (7, .long y5_9), (10, .long (y7_9 - y7_9 / y5_9 * y5_9))]) hx hb dX5_lowestTerms_39 hl (k := 5) rfl rfl (by decide) rfl (fun ls hl => ?_)
      replace hl := lv_sub hl [1, 2, 3, 4, 5, 0, 6] (l' := [(0, .long p0), (2, .long p2), (4, .int p4), (5, .long (y7_9 - y7_9 / y5_9 * y5_9)), (7, .long y5_9), (9, .int (x9_9 + 1)), (10, .long (y7_9 - y7_9 / y5_9 * y5_9))]) rfl
      refine lv_goto (tgt := 9) hx hb dX5_lowestTerms_42 (by decide) ?_
      have e1 : (x9_9 + 1).toInt = x9_9.toInt + 1 := addL (k := 1) (by decide +kernel) (by clear hE; omega) (by clear hE; omega)
      exact ih9 (y7_9 - y7_9 / y5_9 * y5_9) y5_9 (x9_9 + 1) _ _ hG _ (lv_sub hl [0, 1, 2, 3, 4, 5] rfl) (by clear hE; omega) (by clear hE; omega) (by clear hE; omega) hE
  exact L9 1001 p0 p2 0 _ _ hG _ (lv_sub hl [0, 1, 2, 3, 4, 5] rfl) (by decide) (by decide) (by decide) hE
def F_X5_mean_c28 (u : Int32 × Ob) (tx : Nat → Ob) (tn : Nat → Ob) (x1 : Int32) (x2 : Int32) : Int64 × Ob :=
  ((F_X5_lowestTerms (Int32.toInt64 u.1) (Int32.toInt64 x1) x2), u.2)
def F_X5_mean_c24 (u : Ob) (tx : Nat → Ob) (tn : Nat → Ob) (x1 : Int32) (x2 : Int32) : Int64 × Ob :=
  (F_X5_mean_c28 (F_X4_passHours tx u x1) tx tn x1 x2)
def F_X5_mean (tx : Nat → Ob) (tn : Nat → Ob) (p1 : Int32) (p2 : Int32) : Int64 × Ob :=
  (if (F_X5_isWithin p1 1 48) = 0 then ((-4611686018427387904), (tn 1)) else (if (F_X5_isWithin p2 0 1) = 0 then ((-4611686018427387904), (tn 1)) else (F_X5_mean_c24 (F_X5_startThought (va_up tn 1 (tn 1))) tx tn p1 p2)))
set_option maxHeartbeats 4000000 in
set_option maxRecDepth 100000 in
theorem c_X5_mean {l : Launch} {g : GG} {sz : Nat} {bb : Ob} {tx rw : Nat → Ob} {sb dy : Ob} {tn : Nat → Ob} {mo : Ob} {jk : Nat → Nat → Int32}  (p1 : Int32) (p2 : Int32) (hv : tEv tx (tn 0)) : Met l yX5_mean (Cond.code yX5_mean cX5_mean 3 (some .long) :: TT) (rmL 9) (va_Pc [.ref (gA g 0), .int p1, .int p2] (gB g sz (gW g bb tx rw sb dy tn mo jk))) (va_Ql (fun r (u : Ob × (Nat → Nat → Int32)) => (F_X5_mean tx tn p1 p2) = (r, u.1)) (fun u t => gC g (va_A (gW g bb tx rw sb dy tn mo jk) sz) (gW g bb tx rw sb dy (va_up tn 1 u.1) mo u.2) t) (va_A (gW g bb tx rw sb dy tn mo jk) sz)) 0 0 (va_A (gW g bb tx rw sb dy tn mo jk) sz) := by
  generalize hE : F_X5_mean tx tn p1 p2 = EE
  refine g_of (Qf := fun A => (va_Ql (fun r (u : Ob × (Nat → Nat → Int32)) => EE = (r, u.1)) (fun u t => gC g A (gW g bb tx rw sb dy (va_up tn 1 u.1) mo u.2) t) A)) (cc := cX5_mean) (maxL := 3) (ret := (some .long)) (by decide) (Nat.le_of_ble_eq_true rfl) ?_
  intro p e s m below meth c A ls hx hb hml hr hlocks hts hown hA hG hl
  replace hown : s.vm.findClass RX5 = some m.cls := hown
  replace hl : lv_has ls 3 [(0, .ref (gA g 0)), (1, .int p1), (2, .int p2)] := hl
  show W p l e (rmL 9) s m [.ref (gA g 0), .int p1, .int p2].toArray below meth c s.heap [] 0 0 (MQ below (va_Ql (fun r (u : Ob × (Nat → Nat → Int32)) => EE = (r, u.1)) (fun u t => gC g A (gW g bb tx rw sb dy (va_up tn 1 u.1) mo u.2) t) A) [.ref (gA g 0), .int p1, .int p2].toArray s 0 0 A) (F0 m 0 ls [])
  generalize hQ : MQ below (va_Ql (fun r (u : Ob × (Nat → Nat → Int32)) => EE = (r, u.1)) (fun u t => gC g A (gW g bb tx rw sb dy (va_up tn 1 u.1) mo u.2) t) A) [.ref (gA g 0), .int p1, .int p2].toArray s 0 0 A = Q
  replace hG : gS g A s s.heap [] (gW g bb tx rw sb dy (va_up tn 1 (tn 1)) mo jk) := by simpa only [up_self] using hG
  unfold F_X5_mean at hE
  refine lv_iload_n hx hb dX5_mean_0 rfl (lv_at hl 1 rfl) ?_
  refine lv_iconst (v := 1) hx hb dX5_mean_1 (by decide) ?_
  refine lv_bipush (v := 48) hx hb dX5_mean_2 (by decide) ?_
  refine g_si (g_runS (n := 3) (rest := []) hx hb hml hown hts hG (c_X5_isWithin p1 1 48) tw_ml_RX5_81 tw_st_X5_isWithin tw_in_RX5 tw_cd_X5_isWithin (by decide +kernel) ⟨rfl, rfl, Nat.le_of_ble_eq_true rfl, Nat.le_of_ble_eq_true rfl⟩ rfl hl.1 rfl (Nat.le_of_ble_eq_true rfl) dX5_mean_4 ⟨Nat.le_refl _, Nat.le_refl _⟩) hG hA (fun H locs hG => ?_)
  refine lv_if_eq (tgt := 19) hx hb dX5_mean_7 (by decide) (fun c_7 => ?_) (fun c_7 => ?_)
  · replace hE := (if_pos c_7).symm.trans hE
    refine lv_ldc2 (v := (-4611686018427387904)) hx hb hown (hts _ tw_cg_RX5_198) dX5_mean_19 ?_
    subst hQ
    exact g_lret hx hb hr hlocks hG (((tn 1), jk) : Ob × (Nat → Nat → Int32)) rfl hE.symm dX5_mean_22
  replace hE := (if_neg c_7).symm.trans hE
  have i_7 : 1 ≤ p1.toInt ∧ p1.toInt ≤ 48 := within_f c_7
  refine lv_iload_n hx hb dX5_mean_10 rfl (lv_at hl 2 rfl) ?_
  refine lv_iconst (v := 0) hx hb dX5_mean_11 (by decide) ?_
  refine lv_iconst (v := 1) hx hb dX5_mean_12 (by decide) ?_
  refine g_si (g_runS (n := 3) (rest := []) hx hb hml hown hts hG (c_X5_isWithin p2 0 1) tw_ml_RX5_81 tw_st_X5_isWithin tw_in_RX5 tw_cd_X5_isWithin (by decide +kernel) ⟨rfl, rfl, Nat.le_of_ble_eq_true rfl, Nat.le_of_ble_eq_true rfl⟩ rfl hl.1 rfl (Nat.le_of_ble_eq_true rfl) dX5_mean_13 ⟨Nat.le_refl _, Nat.le_refl _⟩) hG hA (fun H locs hG => ?_)
  refine lv_if_ne (tgt := 23) hx hb dX5_mean_16 (by decide) (fun c_16 => ?_) (fun c_16 => ?_)
  · replace hE := (if_neg c_16).symm.trans hE
    have i_16 : 0 ≤ p2.toInt ∧ p2.toInt ≤ 1 := within_f c_16
    refine lv_aload_n hx hb dX5_mean_23 rfl (lv_at hl 0 rfl) ?_
    refine g_cr (g_runV (n := 0) (rest := []) hx hb hml hown hts hG (c_X5_startThought hv.2.1) tw_ml_RX5_157 tw_im_X5_startThought tw_se_X5_startThought tw_in_RX5 tw_cd_X5_startThought (by decide +kernel) ⟨rfl, rfl, Nat.le_of_ble_eq_true rfl, Nat.le_of_ble_eq_true rfl⟩ gw_Bell rfl rfl hl.1 rfl (Nat.le_of_ble_eq_true rfl) dX5_mean_24 ⟨Nat.le_refl _, Nat.le_refl _⟩) hG hA (fun u H locs hp hG => ?_)
    obtain ⟨t_m_24, rfl⟩ : ∃ z, z = u := ⟨u, rfl⟩
    replace hG : gS g A s H locs (gW g bb tx rw sb dy (va_up tn 1 t_m_24) mo jk) := by simpa only [up_up] using hG
    have hp_24 := hp
    rw [hp] at hE
    unfold F_X5_mean_c24 at hE
    try dsimp only at hE
    have hv24 : tEv tx t_m_24 := tEv_st hp_24 hv
    refine lv_iload_n hx hb dX5_mean_27 rfl (lv_at hl 1 rfl) ?_
    refine g_ci (g_runV (n := 1) (rest := []) hx hb hml hown hts hG (c_X4_passHours (by decide) (up_same _ _ _) p1 hv24 (by clear hE; omega)) tw_ml_RX5_161 tw_im_X4_passHours tw_se_X4_passHours tw_in_RX4 tw_cd_X4_passHours (by decide +kernel) ⟨rfl, rfl, Nat.le_of_ble_eq_true rfl, Nat.le_of_ble_eq_true rfl⟩ (gw_Town (o := 1) (by decide) (up_same _ _ _)) rfl rfl hl.1 rfl (Nat.le_of_ble_eq_true rfl) dX5_mean_28 ⟨Nat.le_refl _, Nat.le_refl _⟩) hG hA (fun r_28 u H locs hp hG => ?_)
    obtain ⟨t_m_28, jk⟩ := u
    replace hG : gS g A s H locs (gW g bb tx rw sb dy (va_up tn 1 t_m_28) mo jk) := by simpa only [up_up] using hG
    have hp_28 := hp
    rw [hp] at hE
    unfold F_X5_mean_c28 at hE
    try dsimp only at hE
    refine lv_i2l (v := (Int32.toInt64 r_28)) hx hb dX5_mean_31 rfl ?_
    refine lv_iload_n hx hb dX5_mean_32 rfl (lv_at hl 1 rfl) ?_
    refine lv_i2l (v := (Int32.toInt64 p1)) hx hb dX5_mean_33 rfl ?_
    refine lv_iload_n hx hb dX5_mean_34 rfl (lv_at hl 2 rfl) ?_
    refine g_sl (g_runS (n := 3) (rest := []) hx hb hml hown hts hG (c_X5_lowestTerms (Int32.toInt64 r_28) (Int32.toInt64 p1) p2) tw_ml_RX5_200 tw_st_X5_lowestTerms tw_in_RX5 tw_cd_X5_lowestTerms (by decide +kernel) ⟨rfl, rfl, Nat.le_of_ble_eq_true rfl, Nat.le_of_ble_eq_true rfl⟩ rfl hl.1 rfl (Nat.le_of_ble_eq_true rfl) dX5_mean_35 ⟨Nat.le_refl _, Nat.le_refl _⟩) hG hA (fun H locs hG => ?_)
    subst hQ
    exact g_lret hx hb hr hlocks hG ((t_m_28, jk) : Ob × (Nat → Nat → Int32)) rfl hE.symm dX5_mean_38
  replace hE := (if_pos c_16).symm.trans hE
  refine lv_ldc2 (v := (-4611686018427387904)) hx hb hown (hts _ tw_cg_RX5_198) dX5_mean_19 ?_
  subst hQ
  exact g_lret hx hb hr hlocks hG (((tn 1), jk) : Ob × (Nat → Nat → Int32)) rfl hE.symm dX5_mean_22
def F_X5_share_l29 : Nat → (Nat → Ob) → Int32 → Int32 → Int32 → Int32 → Int64
  | 0, _, _, _, _, _ => 0
  | n + 1, tn, x1, x2, x3, x4 =>
    (if ((tn 0).1 6) ≤ x4 then (if x3 = 0 then (-4611686018427387904) else (F_X5_lowestTerms (Int32.toInt64 (F_X4_known (tn 0) x1 1)) (Int32.toInt64 x3) x2)) else ((F_X5_share_l29 n ) tn x1 x2 (x3 + (F_X4_known (tn 0) x4 1)) (x4 + 1)))
def F_X5_share (tn : Nat → Ob) (p1 : Int32) (p2 : Int32) : Int64 :=
  (if (F_X4_has (tn 0) p1) = 0 then (-4611686018427387904) else (if (F_X5_isWithin p2 0 1) = 0 then (-4611686018427387904) else (F_X5_share_l29 7  tn p1 p2 0 0)))
set_option maxHeartbeats 4000000 in
set_option maxRecDepth 100000 in
theorem c_X5_share {l : Launch} {g : GG} {sz : Nat} {bb : Ob} {tx rw : Nat → Ob} {sb dy : Ob} {tn : Nat → Ob} {mo : Ob} {jk : Nat → Nat → Int32}  (p1 : Int32) (p2 : Int32) (hpo : 0 ≤ ((tn 0).1 6).toInt ∧ ((tn 0).1 6).toInt ≤ 6) : Met l yX5_share (Cond.code yX5_share cX5_share 5 (some .long) :: TT) (rmL 3) (va_Pc [.ref (gA g 0), .int p1, .int p2] (gB g sz (gW g bb tx rw sb dy tn mo jk))) (va_Ql (fun r (_ : Unit) => r = (F_X5_share tn p1 p2)) (fun u t => gC g (va_A (gW g bb tx rw sb dy tn mo jk) sz) (gW g bb tx rw sb dy tn mo jk) t) (va_A (gW g bb tx rw sb dy tn mo jk) sz)) 0 0 (va_A (gW g bb tx rw sb dy tn mo jk) sz) := by
  generalize hE : F_X5_share tn p1 p2 = EE
  refine g_of (Qf := fun A => (va_Ql (fun r (_ : Unit) => r = EE) (fun u t => gC g A (gW g bb tx rw sb dy tn mo jk) t) A)) (cc := cX5_share) (maxL := 5) (ret := (some .long)) (by decide) (Nat.le_of_ble_eq_true rfl) ?_
  intro p e s m below meth c A ls hx hb hml hr hlocks hts hown hA hG hl
  replace hown : s.vm.findClass RX5 = some m.cls := hown
  replace hl : lv_has ls 5 [(0, .ref (gA g 0)), (1, .int p1), (2, .int p2)] := hl
  show W p l e (rmL 3) s m [.ref (gA g 0), .int p1, .int p2].toArray below meth c s.heap [] 0 0 (MQ below (va_Ql (fun r (_ : Unit) => r = EE) (fun u t => gC g A (gW g bb tx rw sb dy tn mo jk) t) A) [.ref (gA g 0), .int p1, .int p2].toArray s 0 0 A) (F0 m 0 ls [])
  generalize hQ : MQ below (va_Ql (fun r (_ : Unit) => r = EE) (fun u t => gC g A (gW g bb tx rw sb dy tn mo jk) t) A) [.ref (gA g 0), .int p1, .int p2].toArray s 0 0 A = Q
  unfold F_X5_share at hE
  refine lv_aload_n hx hb dX5_share_0 rfl (lv_at hl 0 rfl) ?_
  refine g_get hx hb hts hiX5 hown hG gw_Bell rfl 4 (by decide) (index := 53) tw_fl_RX5_53 (v := .ref (gA g (40 + 6 * 0))) rfl dX5_share_1 ?_
  refine lv_iload_n hx hb dX5_share_4 rfl (lv_at hl 1 rfl) ?_
  refine g_ci (g_runV (n := 1) (rest := []) hx hb hml hown hts hG (c_X4_has (by decide) rfl p1) tw_ml_RX5_101 tw_im_X4_has tw_se_X4_has tw_in_RX4 tw_cd_X4_has (by decide +kernel) ⟨rfl, rfl, Nat.le_of_ble_eq_true rfl, Nat.le_of_ble_eq_true rfl⟩ (gw_Town (o := 0) (by decide) rfl) rfl rfl hl.1 rfl (Nat.le_of_ble_eq_true rfl) dX5_share_5 ⟨Nat.le_refl _, Nat.le_refl _⟩) hG hA (fun r _ H locs hp hG => ?_)
  subst hp
  replace hG : gS g A s H locs (gW g bb tx rw sb dy tn mo jk) := hG
  refine lv_if_eq (tgt := 20) hx hb dX5_share_8 (by decide) (fun c_8 => ?_) (fun c_8 => ?_)
  · replace hE := (if_pos c_8).symm.trans hE
    refine lv_ldc2 (v := (-4611686018427387904)) hx hb hown (hts _ tw_cg_RX5_198) dX5_share_20 ?_
    subst hQ
    exact g_lret hx hb hr hlocks hG () rfl hE dX5_share_23
  replace hE := (if_neg c_8).symm.trans hE
  have i_8 := has_f c_8
  refine lv_iload_n hx hb dX5_share_11 rfl (lv_at hl 2 rfl) ?_
  refine lv_iconst (v := 0) hx hb dX5_share_12 (by decide) ?_
  refine lv_iconst (v := 1) hx hb dX5_share_13 (by decide) ?_
  refine g_si (g_runS (n := 3) (rest := []) hx hb hml hown hts hG (c_X5_isWithin p2 0 1) tw_ml_RX5_81 tw_st_X5_isWithin tw_in_RX5 tw_cd_X5_isWithin (by decide +kernel) ⟨rfl, rfl, Nat.le_of_ble_eq_true rfl, Nat.le_of_ble_eq_true rfl⟩ rfl hl.1 rfl (Nat.le_of_ble_eq_true rfl) dX5_share_14 ⟨Nat.le_refl _, Nat.le_refl _⟩) hG hA (fun H locs hG => ?_)
  refine lv_if_ne (tgt := 24) hx hb dX5_share_17 (by decide) (fun c_17 => ?_) (fun c_17 => ?_)
  · replace hE := (if_neg c_17).symm.trans hE
    have i_17 : 0 ≤ p2.toInt ∧ p2.toInt ≤ 1 := within_f c_17
    refine lv_iconst (v := 0) hx hb dX5_share_24 (by decide) ?_
    refine lv_istore_n (lv' := [(3, .int 0), (0, .ref (gA g 0)), (1, .int p1), (2, .int p2)]) hx hb dX5_share_25 rfl hl (by decide) rfl (fun ls hl => ?_)
    replace hl := lv_sub hl [1, 2, 3, 0] (l' := [(0, .ref (gA g 0)), (1, .int p1), (2, .int p2), (3, .int 0)]) rfl
    refine lv_iconst (v := 0) hx hb dX5_share_26 (by decide) ?_
    refine lv_istore (lv' := [(4, .int 0), (0, .ref (gA g 0)), (1, .int p1), (2, .int p2), (3, .int 0)]) hx hb dX5_share_27 hl (by decide) rfl (fun ls hl => ?_)
    replace hl := lv_sub hl [1, 2, 3, 4, 0] (l' := [(0, .ref (gA g 0)), (1, .int p1), (2, .int p2), (3, .int 0), (4, .int 0)]) rfl
    have L29 : ∀ (n : Nat) (x3_29 : Int32) (x4_29 : Int32) (H : Heap) (locs : List Loc), gS g A s H locs (gW g bb tx rw sb dy tn mo jk) → ∀ ls : Array Slot, lv_has ls 5 [(0, .ref (gA g 0)), (1, .int p1), (2, .int p2), (3, .int x3_29), (4, .int x4_29)] → 0 ≤ x4_29.toInt → x4_29.toInt ≤ 6 → 6 < x4_29.toInt + n → F_X5_share_l29 n  tn p1 p2 x3_29 x4_29 = EE → W p l e (rmL 3) s m [.ref (gA g 0), .int p1, .int p2].toArray below meth c H locs 0 0 Q (F0 m 29 ls []) := by
      intro n
      induction n with
      | zero =>
        intro x3_29 x4_29 H locs hG ls hl h0_29 h1_29 hm_29 hE
        omega
      | succ n ih29 =>
        intro x3_29 x4_29 H locs hG ls hl h0_29 h1_29 hm_29 hE
        unfold F_X5_share_l29 at hE
        refine lv_iload hx hb dX5_share_29 (lv_at hl 4 rfl) ?_
        refine lv_aload_n hx hb dX5_share_31 rfl (lv_at hl 0 rfl) ?_
        refine g_get hx hb hts hiX5 hown hG gw_Bell rfl 4 (by decide) (index := 53) tw_fl_RX5_53 (v := .ref (gA g (40 + 6 * 0))) rfl dX5_share_32 ?_
        refine g_get hx hb hts hiX4 hown hG (gw_Town (o := 0) (by decide) rfl) rfl 6 (by decide) (index := 63) tw_fl_RX5_63 (v := .int ((tn 0).1 6)) rfl dX5_share_35 ?_
        refine lv_icmp_ge (tgt := 60) hx hb dX5_share_38 (by decide) (fun c_38 => ?_) (fun c_38 => ?_)
        · replace hE := (if_pos c_38).symm.trans hE
          have i_38 : ((tn 0).1 6).toInt ≤ x4_29.toInt := i_le.mp c_38
          refine lv_iload_n hx hb dX5_share_60 rfl (lv_at hl 3 rfl) ?_
          refine lv_if_ne (tgt := 70) hx hb dX5_share_61 (by decide) (fun c_61 => ?_) (fun c_61 => ?_)
          · replace hE := (if_neg c_61).symm.trans hE
            have i_61 : x3_29.toInt ≠ 0 := fun h => c_61 (Int32.toInt_inj.mp h)
            refine lv_aload_n hx hb dX5_share_70 rfl (lv_at hl 0 rfl) ?_
            refine g_get hx hb hts hiX5 hown hG gw_Bell rfl 4 (by decide) (index := 53) tw_fl_RX5_53 (v := .ref (gA g (40 + 6 * 0))) rfl dX5_share_71 ?_
            refine lv_iload_n hx hb dX5_share_74 rfl (lv_at hl 1 rfl) ?_
            refine lv_iconst (v := 1) hx hb dX5_share_75 (by decide) ?_
            refine g_ci (g_runV (n := 2) (rest := []) hx hb hml hown hts hG (c_X4_known (by decide) rfl p1 1) tw_ml_RX5_120 tw_im_X4_known tw_se_X4_known tw_in_RX4 tw_cd_X4_known (by decide +kernel) ⟨rfl, rfl, Nat.le_of_ble_eq_true rfl, Nat.le_of_ble_eq_true rfl⟩ (gw_Town (o := 0) (by decide) rfl) rfl rfl hl.1 rfl (Nat.le_of_ble_eq_true rfl) dX5_share_76 ⟨Nat.le_refl _, Nat.le_refl _⟩) hG hA (fun r _ H locs hp hG => ?_)
            subst hp
            replace hG : gS g A s H locs (gW g bb tx rw sb dy tn mo jk) := hG
            refine lv_i2l (v := (Int32.toInt64 (F_X4_known (tn 0) p1 1))) hx hb dX5_share_79 rfl ?_
            refine lv_iload_n hx hb dX5_share_80 rfl (lv_at hl 3 rfl) ?_
            refine lv_i2l (v := (Int32.toInt64 x3_29)) hx hb dX5_share_81 rfl ?_
            refine lv_iload_n hx hb dX5_share_82 rfl (lv_at hl 2 rfl) ?_
            refine g_sl (g_runS (n := 3) (rest := []) hx hb hml hown hts hG (c_X5_lowestTerms (Int32.toInt64 (F_X4_known (tn 0) p1 1)) (Int32.toInt64 x3_29) p2) tw_ml_RX5_200 tw_st_X5_lowestTerms tw_in_RX5 tw_cd_X5_lowestTerms (by decide +kernel) ⟨rfl, rfl, Nat.le_of_ble_eq_true rfl, Nat.le_of_ble_eq_true rfl⟩ rfl hl.1 rfl (Nat.le_of_ble_eq_true rfl) dX5_share_83 ⟨Nat.le_refl _, Nat.le_refl _⟩) hG hA (fun H locs hG => ?_)
            subst hQ
            exact g_lret hx hb hr hlocks hG () rfl hE dX5_share_86
          replace hE := (if_pos c_61).symm.trans hE
          have i_61 : x3_29.toInt = 0 := congrArg Int32.toInt c_61
          refine lv_ldc2 (v := (-4611686018427387904)) hx hb hown (hts _ tw_cg_RX5_198) dX5_share_64 ?_
          refine lv_goto (tgt := 86) hx hb dX5_share_67 (by decide) ?_
          subst hQ
          exact g_lret hx hb hr hlocks hG () rfl hE dX5_share_86
        replace hE := (if_neg c_38).symm.trans hE
        have i_38 : x4_29.toInt < ((tn 0).1 6).toInt := i_nle c_38
        refine lv_iload_n hx hb dX5_share_41 rfl (lv_at hl 3 rfl) ?_
        refine lv_aload_n hx hb dX5_share_42 rfl (lv_at hl 0 rfl) ?_
        refine g_get hx hb hts hiX5 hown hG gw_Bell rfl 4 (by decide) (index := 53) tw_fl_RX5_53 (v := .ref (gA g (40 + 6 * 0))) rfl dX5_share_43 ?_
        refine lv_iload hx hb dX5_share_46 (lv_at hl 4 rfl) ?_
        refine lv_iconst (v := 1) hx hb dX5_share_48 (by decide) ?_
        refine g_ci (g_runV (n := 2) (rest := [.int x3_29]) hx hb hml hown hts hG (c_X4_known (by decide) rfl x4_29 1) tw_ml_RX5_120 tw_im_X4_known tw_se_X4_known tw_in_RX4 tw_cd_X4_known (by decide +kernel) ⟨rfl, rfl, Nat.le_of_ble_eq_true rfl, Nat.le_of_ble_eq_true rfl⟩ (gw_Town (o := 0) (by decide) rfl) rfl rfl hl.1 rfl (Nat.le_of_ble_eq_true rfl) dX5_share_49 ⟨Nat.le_refl _, Nat.le_refl _⟩) hG hA (fun r _ H locs hp hG => ?_)
        subst hp
        replace hG : gS g A s H locs (gW g bb tx rw sb dy tn mo jk) := hG
        refine lv_iadd hx hb dX5_share_52 ?_
        refine lv_istore_n (lv' := [(3, .int (x3_29 + (F_X4_known (tn 0) x4_29 1))), (0, .ref (gA g 0)), (1, .int p1), (2, .int p2), (4, .int x4_29)]) hx hb dX5_share_53 rfl hl (by decide) rfl (fun ls hl => ?_)
        replace hl := lv_sub hl [1, 2, 3, 0, 4] (l' := [(0, .ref (gA g 0)), (1, .int p1), (2, .int p2), (3, .int (x3_29 + (F_X4_known (tn 0) x4_29 1))), (4, .int x4_29)]) rfl
        refine lv_iinc (v := (x4_29 + 1)) (lv' := [(4, .int (x4_29 + 1)), (0, .ref (gA g 0)), (1, .int p1), (2, .int p2), (3, .int (x3_29 + (F_X4_known (tn 0) x4_29 1)))]) hx hb dX5_share_54 hl (k := 4) rfl rfl (by decide) rfl (fun ls hl => ?_)
        replace hl := lv_sub hl [1, 2, 3, 4, 0] (l' := [(0, .ref (gA g 0)), (1, .int p1), (2, .int p2), (3, .int (x3_29 + (F_X4_known (tn 0) x4_29 1))), (4, .int (x4_29 + 1))]) rfl
        refine lv_goto (tgt := 29) hx hb dX5_share_57 (by decide) ?_
        have e1 : (x4_29 + 1).toInt = x4_29.toInt + 1 := addL (k := 1) (by decide +kernel) (by clear hE; omega) (by clear hE; omega)
        exact ih29 (x3_29 + (F_X4_known (tn 0) x4_29 1)) (x4_29 + 1) _ _ hG _ (lv_sub hl [0, 1, 2, 3, 4] rfl) (by clear hE; omega) (by clear hE; omega) (by clear hE; omega) hE
    exact L29 7 0 0 _ _ hG _ (lv_sub hl [0, 1, 2, 3, 4] rfl) (by decide) (by decide) (by decide) hE
  replace hE := (if_pos c_17).symm.trans hE
  refine lv_ldc2 (v := (-4611686018427387904)) hx hb hown (hts _ tw_cg_RX5_198) dX5_share_20 ?_
  subst hQ
  exact g_lret hx hb hr hlocks hG () rfl hE dX5_share_23
