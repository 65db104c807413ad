def F_X5_pair_b91 (K30 : (Nat → Ob) → (Nat → Ob) → Ob → Ob → Int32 → Int32 → Int32 → Int32 → Int32 × Ob × Ob) (K48 : (Nat → Ob) → (Nat → Ob) → Ob → Ob → Int32 → Int32 → Int32 → Int32 → Int32 → Int32 × Ob × Ob) (tx : Nat → Ob) (tn : Nat → Ob) (dy : Ob) (t_m : Ob) (x1 : Int32) (x2 : Int32) (x3 : Int32) (x4 : Int32) (x5 : Int32) : Int32 × Ob × Ob :=
  (K48 tx tn dy t_m x1 x2 x3 x4 (x5 + 1))
def F_X5_pair_l48 : Nat → ((Nat → Ob) → (Nat → Ob) → Ob → Ob → Int32 → Int32 → Int32 → Int32 → Int32 × Ob × Ob) → (Nat → Ob) → (Nat → Ob) → Ob → Ob → Int32 → Int32 → Int32 → Int32 → Int32 → Int32 × Ob × Ob
  | 0, _, _, _, dy, t_m, _, _, _, _, _ => (0, dy, t_m)
  | n + 1, K30, tx, tn, dy, t_m, x1, x2, x3, x4, x5 =>
    (if ((tn 0).1 6) ≤ x5 then (K30 tx tn dy t_m x1 x2 x3 (x4 + 1)) else (if (F_X0_hoursOfBoth dy x4 x5) ≤ x3 then (F_X5_pair_b91 K30 (F_X5_pair_l48 n K30) tx tn dy t_m x1 x2 x3 x4 x5) else (F_X5_pair_b91 K30 (F_X5_pair_l48 n K30) tx tn dy t_m x1 ((10 * x4) + x5) (F_X0_hoursOfBoth dy x4 x5) x4 x5)))
def F_X5_pair_l30 : Nat → (Nat → Ob) → (Nat → Ob) → Ob → Ob → Int32 → Int32 → Int32 → Int32 → Int32 × Ob × Ob
  | 0, _, _, dy, t_m, _, _, _, _ => (0, dy, t_m)
  | n + 1, tx, tn, dy, t_m, x1, x2, x3, x4 =>
    (if ((tn 0).1 6) ≤ x4 then (if x1 = 0 then (x2, dy, t_m) else (x3, dy, t_m)) else (F_X5_pair_l48 8 (F_X5_pair_l30 n ) tx tn dy t_m x1 x2 x3 x4 (x4 + 1)))
def F_X5_pair_c20 (u : Ob × Ob) (tx : Nat → Ob) (tn : Nat → Ob) (x1 : Int32) : Int32 × Ob × Ob :=
  (F_X5_pair_l30 7  tx tn u.1 u.2 x1 (-1) (-1) 0)
def F_X5_pair_c17 (u : Ob) (tx : Nat → Ob) (tn : Nat → Ob) (dy : Ob) (x1 : Int32) : Int32 × Ob × Ob :=
  (F_X5_pair_c20 (F_X0_live tx dy u) tx tn x1)
def F_X5_pair (tx : Nat → Ob) (tn : Nat → Ob) (dy : Ob) (p1 : Int32) : Int32 × Ob × Ob :=
  (if (F_X5_isWithin p1 0 1) = 0 then ((-2), dy, (tn 1)) else (F_X5_pair_c17 (F_X5_startThought (va_up tn 1 (tn 1))) tx tn dy p1))
set_option maxHeartbeats 4000000 in
set_option maxRecDepth 100000 in
theorem c_X5_pair {l : Launch} {g : GG} {sz : Nat} {bb : Ob} {tx rw : Nat → Ob} {sb dy : Ob} {tn : Nat → Ob} {mo : Ob} {jk : Nat → Nat → Int32}  (p1 : Int32) (hv : tEv tx (tn 0)) : Met l yX5_pair (Cond.code yX5_pair cX5_pair 7 (some .int) :: TT) (rmL 9) (va_Pc [.ref (gA g 0), .int p1] (gB g sz (gW g bb tx rw sb dy tn mo jk))) (va_Qi (fun r (u : Ob × Ob × (Nat → Nat → Int32)) => (F_X5_pair tx tn dy p1) = (r, u.1, u.2.1)) (fun u t => gC g (va_A (gW g bb tx rw sb dy tn mo jk) sz) (gW g bb tx rw sb u.1 (va_up tn 1 u.2.1) mo u.2.2) t) (va_A (gW g bb tx rw sb dy tn mo jk) sz)) 0 0 (va_A (gW g bb tx rw sb dy tn mo jk) sz) := by
  generalize hE : F_X5_pair tx tn dy p1 = EE
  refine g_of (Qf := fun A => (va_Qi (fun r (u : Ob × Ob × (Nat → Nat → Int32)) => EE = (r, u.1, u.2.1)) (fun u t => gC g A (gW g bb tx rw sb u.1 (va_up tn 1 u.2.1) mo u.2.2) t) A)) (cc := cX5_pair) (maxL := 7) (ret := (some .int)) (by decide) (Nat.le_of_ble_eq_true rfl) ?_
  intro p e s m below meth c A ls hx hb hml hr hlocks hts hown hA hG hl
  replace hown : s.vm.findClass RX5 = some m.cls := hown
  replace hl : lv_has ls 7 [(0, .ref (gA g 0)), (1, .int p1)] := hl
  show W p l e (rmL 9) s m [.ref (gA g 0), .int p1].toArray below meth c s.heap [] 0 0 (MQ below (va_Qi (fun r (u : Ob × Ob × (Nat → Nat → Int32)) => EE = (r, u.1, u.2.1)) (fun u t => gC g A (gW g bb tx rw sb u.1 (va_up tn 1 u.2.1) mo u.2.2) t) A) [.ref (gA g 0), .int p1].toArray s 0 0 A) (F0 m 0 ls [])
  generalize hQ : MQ below (va_Qi (fun r (u : Ob × Ob × (Nat → Nat → Int32)) => EE = (r, u.1, u.2.1)) (fun u t => gC g A (gW g bb tx rw sb u.1 (va_up tn 1 u.2.1) mo u.2.2) t) A) [.ref (gA g 0), .int p1].toArray s 0 0 A = Q
  replace hG : gS g A s s.heap [] (gW g bb tx rw sb dy (va_up tn 1 (tn 1)) mo jk) := by simpa only [up_self] using hG
  have hpo := hv.1
  unfold F_X5_pair at hE
  refine lv_iload_n hx hb dX5_pair_0 rfl (lv_at hl 1 rfl) ?_
  refine lv_iconst (v := 0) hx hb dX5_pair_1 (by decide) ?_
  refine lv_iconst (v := 1) hx hb dX5_pair_2 (by decide) ?_
  refine g_si (g_runS (n := 3) (rest := []) hx hb hml hown hts hG (c_X5_isWithin p1 0 1) tw_ml_RX5_81 tw_st_X5_isWithin tw_in_RX5 tw_cd_X5_isWithin (by decide +kernel) ⟨rfl, rfl, Nat.le_of_ble_eq_true rfl, Nat.le_of_ble_eq_true rfl⟩ rfl hl.1 rfl (Nat.le_of_ble_eq_true rfl) dX5_pair_3 ⟨Nat.le_refl _, Nat.le_refl _⟩) hG hA (fun H locs hG => ?_)
  refine lv_if_ne (tgt := 12) hx hb dX5_pair_6 (by decide) (fun c_6 => ?_) (fun c_6 => ?_)
  · replace hE := (if_neg c_6).symm.trans hE
    have i_6 : 0 ≤ p1.toInt ∧ p1.toInt ≤ 1 := within_f c_6
    refine lv_aload_n hx hb dX5_pair_12 rfl (lv_at hl 0 rfl) ?_
    refine g_get hx hb hts hiX5 hown hG gw_Bell rfl 3 (by decide) (index := 31) tw_fl_RX5_31 (v := .ref (gA g 37)) rfl dX5_pair_13 ?_
    refine lv_aload_n hx hb dX5_pair_16 rfl (lv_at hl 0 rfl) ?_
    refine g_cr (g_runV (n := 0) (rest := [.ref (gA g 37)]) hx hb hml hown hts hG (c_X5_startThought hv.2.1) tw_ml_RX5_157 tw_im_X5_startThought tw_se_X5_startThought tw_in_RX5 tw_cd_X5_startThought (by decide +kernel) ⟨rfl, rfl, Nat.le_of_ble_eq_true rfl, Nat.le_of_ble_eq_true rfl⟩ gw_Bell rfl rfl hl.1 rfl (Nat.le_of_ble_eq_true rfl) dX5_pair_17 ⟨Nat.le_refl _, Nat.le_refl _⟩) hG hA (fun u H locs hp hG => ?_)
    obtain ⟨t_m_17, rfl⟩ : ∃ z, z = u := ⟨u, rfl⟩
    replace hG : gS g A s H locs (gW g bb tx rw sb dy (va_up tn 1 t_m_17) mo jk) := by simpa only [up_up] using hG
    have hp_17 := hp
    rw [hp] at hE
    unfold F_X5_pair_c17 at hE
    try dsimp only at hE
    have hv17 : tEv tx t_m_17 := tEv_st hp_17 hv
    refine g_cv (g_runV (n := 1) (rest := []) hx hb hml hown hts hG (c_X0_live (by decide) (up_same _ _ _) hv17) tw_ml_RX5_164 tw_im_X0_live tw_se_X0_live tw_in_RX0 tw_cd_X0_live (by decide +kernel) ⟨rfl, rfl, Nat.le_of_ble_eq_true rfl, Nat.le_of_ble_eq_true rfl⟩ gw_Day rfl rfl hl.1 rfl (Nat.le_of_ble_eq_true rfl) dX5_pair_20 ⟨Nat.le_refl _, Nat.le_refl _⟩) hG hA (fun u H locs hp hG => ?_)
    obtain ⟨dy_20, t_m_20, jk⟩ := u
    replace hG : gS g A s H locs (gW g bb tx rw sb dy_20 (va_up tn 1 t_m_20) mo jk) := by simpa only [up_up] using hG
    have hp_20 := hp
    rw [hp] at hE
    unfold F_X5_pair_c20 at hE
    try dsimp only at hE
    refine lv_iconst (v := (-1)) hx hb dX5_pair_23 (by decide) ?_
    refine lv_istore_n (lv' := [(2, .int (-1)), (0, .ref (gA g 0)), (1, .int p1)]) hx hb dX5_pair_24 rfl hl (by decide) rfl (fun ls hl => ?_)
    replace hl := lv_sub hl [1, 2, 0] (l' := [(0, .ref (gA g 0)), (1, .int p1), (2, .int (-1))]) rfl
    refine lv_iconst (v := (-1)) hx hb dX5_pair_25 (by decide) ?_
    refine lv_istore_n (lv' := [(3, .int (-1)), (0, .ref (gA g 0)), (1, .int p1), (2, .int (-1))]) hx hb dX5_pair_26 rfl hl (by decide) rfl (fun ls hl => ?_)
    replace hl := lv_sub hl [1, 2, 3, 0] (l' := [(0, .ref (gA g 0)), (1, .int p1), (2, .int (-1)), (3, .int (-1))]) rfl
    refine lv_iconst (v := 0) hx hb dX5_pair_27 (by decide) ?_
    refine lv_istore (lv' := [(4, .int 0), (0, .ref (gA g 0)), (1, .int p1), (2, .int (-1)), (3, .int (-1))]) hx hb dX5_pair_28 hl (by decide) rfl (fun ls hl => ?_)
    replace hl := lv_sub hl [1, 2, 3, 4, 0] (l' := [(0, .ref (gA g 0)), (1, .int p1), (2, .int (-1)), (3, .int (-1)), (4, .int 0)]) rfl
    have L30 : ∀ (n30 : Nat) (x2_30 : Int32) (x3_30 : Int32) (x4_30 : Int32) (dy_30 : Ob) (t_m_30 : Ob) (jk : (Nat → Nat → Int32)) (H : Heap) (locs : List Loc), gS g A s H locs (gW g bb tx rw sb dy_30 (va_up tn 1 t_m_30) mo jk) → ∀ ls : Array Slot, lv_has ls 7 [(0, .ref (gA g 0)), (1, .int p1), (2, .int x2_30), (3, .int x3_30), (4, .int x4_30)] → 0 ≤ x4_30.toInt → x4_30.toInt ≤ 6 → 6 < x4_30.toInt + n30 → F_X5_pair_l30 n30  tx tn dy_30 t_m_30 p1 x2_30 x3_30 x4_30 = EE → W p l e (rmL 9) s m [.ref (gA g 0), .int p1].toArray below meth c H locs 0 0 Q (F0 m 30 ls []) := by
      intro n30
      induction n30 with
      | zero =>
        intro x2_30 x3_30 x4_30 dy_30 t_m_30 jk H locs hG ls hl h0_30 h1_30 hm_30 hE
        clear hE; omega
      | succ n30 ih30 =>
        intro x2_30 x3_30 x4_30 dy_30 t_m_30 jk H locs hG ls hl h0_30 h1_30 hm_30 hE
        unfold F_X5_pair_l30 at hE
        refine lv_iload hx hb dX5_pair_30 (lv_at hl 4 rfl) ?_
        refine lv_aload_n hx hb dX5_pair_32 rfl (lv_at hl 0 rfl) ?_
        refine g_get hx hb hts hiX5 hown hG gw_Bell rfl 4 (by decide) (index := 53) tw_fl_RX5_53 (v := .ref (gA g (40 + 6 * 0))) rfl dX5_pair_33 ?_
        refine g_get hx hb hts hiX4 hown hG (gw_Town (o := 0) (by decide) (show _ = (tn 0) from rfl)) rfl 6 (by decide) (index := 63) tw_fl_RX5_63 (v := .int ((tn 0).1 6)) rfl dX5_pair_36 ?_
        refine lv_icmp_ge (tgt := 103) hx hb dX5_pair_39 (by decide) (fun c_39 => ?_) (fun c_39 => ?_)
        · replace hE := (if_pos c_39).symm.trans hE
          have i_39 : ((tn 0).1 6).toInt ≤ x4_30.toInt := i_le.mp c_39
          refine lv_iload_n hx hb dX5_pair_103 rfl (lv_at hl 1 rfl) ?_
          refine lv_if_ne (tgt := 111) hx hb dX5_pair_104 (by decide) (fun c_104 => ?_) (fun c_104 => ?_)
          · replace hE := (if_neg c_104).symm.trans hE
            have i_104 : p1.toInt ≠ 0 := fun h => c_104 (Int32.toInt_inj.mp h)
            refine lv_iload_n hx hb dX5_pair_111 rfl (lv_at hl 3 rfl) ?_
            subst hQ
            exact g_iret hx hb hr hlocks hG ((dy_30, t_m_30, jk) : Ob × Ob × (Nat → Nat → Int32)) rfl hE.symm dX5_pair_112
          replace hE := (if_pos c_104).symm.trans hE
          have i_104 : p1.toInt = 0 := congrArg Int32.toInt c_104
          refine lv_iload_n hx hb dX5_pair_107 rfl (lv_at hl 2 rfl) ?_
          refine lv_goto (tgt := 112) hx hb dX5_pair_108 (by decide) ?_
          subst hQ
          exact g_iret hx hb hr hlocks hG ((dy_30, t_m_30, jk) : Ob × Ob × (Nat → Nat → Int32)) rfl hE.symm dX5_pair_112
        replace hE := (if_neg c_39).symm.trans hE
        have i_39 : x4_30.toInt < ((tn 0).1 6).toInt := i_nle c_39
        refine lv_iload hx hb dX5_pair_42 (lv_at hl 4 rfl) ?_
        refine lv_iconst (v := 1) hx hb dX5_pair_44 (by decide) ?_
        refine lv_iadd hx hb dX5_pair_45 ?_
        refine lv_istore (lv' := [(5, .int (x4_30 + 1)), (0, .ref (gA g 0)), (1, .int p1), (2, .int x2_30), (3, .int x3_30), (4, .int x4_30)]) hx hb dX5_pair_46 hl (by decide) rfl (fun ls hl => ?_)
        replace hl := lv_sub hl [1, 2, 3, 4, 5, 0] (l' := [(0, .ref (gA g 0)), (1, .int p1), (2, .int x2_30), (3, .int x3_30), (4, .int x4_30), (5, .int (x4_30 + 1))]) rfl
        have L48 : ∀ (n48 : Nat) (x2_48 : Int32) (x3_48 : Int32) (x5_48 : Int32) (dy_48 : Ob) (t_m_48 : Ob) (jk : (Nat → Nat → Int32)) (H : Heap) (locs : List Loc), gS g A s H locs (gW g bb tx rw sb dy_48 (va_up tn 1 t_m_48) mo jk) → ∀ ls : Array Slot, lv_has ls 7 [(0, .ref (gA g 0)), (1, .int p1), (2, .int x2_48), (3, .int x3_48), (4, .int x4_30), (5, .int x5_48)] → 0 ≤ x5_48.toInt → x5_48.toInt ≤ 7 → 7 < x5_48.toInt + n48 → F_X5_pair_l48 n48 (F_X5_pair_l30 n30 ) tx tn dy_48 t_m_48 p1 x2_48 x3_48 x4_30 x5_48 = EE → W p l e (rmL 9) s m [.ref (gA g 0), .int p1].toArray below meth c H locs 0 0 Q (F0 m 48 ls []) := by
          intro n48
          induction n48 with
          | zero =>
            intro x2_48 x3_48 x5_48 dy_48 t_m_48 jk H locs hG ls hl h0_48 h1_48 hm_48 hE
            clear hE; omega
          | succ n48 ih48 =>
            intro x2_48 x3_48 x5_48 dy_48 t_m_48 jk H locs hG ls hl h0_48 h1_48 hm_48 hE
            unfold F_X5_pair_l48 at hE
            refine lv_iload hx hb dX5_pair_48 (lv_at hl 5 rfl) ?_
            refine lv_aload_n hx hb dX5_pair_50 rfl (lv_at hl 0 rfl) ?_
            refine g_get hx hb hts hiX5 hown hG gw_Bell rfl 4 (by decide) (index := 53) tw_fl_RX5_53 (v := .ref (gA g (40 + 6 * 0))) rfl dX5_pair_51 ?_
            refine g_get hx hb hts hiX4 hown hG (gw_Town (o := 0) (by decide) (show _ = (tn 0) from rfl)) rfl 6 (by decide) (index := 63) tw_fl_RX5_63 (v := .int ((tn 0).1 6)) rfl dX5_pair_54 ?_
            refine lv_icmp_ge (tgt := 97) hx hb dX5_pair_57 (by decide) (fun c_57 => ?_) (fun c_57 => ?_)
            · replace hE := (if_pos c_57).symm.trans hE
              have i_57 : ((tn 0).1 6).toInt ≤ x5_48.toInt := i_le.mp c_57
              refine lv_iinc (v := (x4_30 + 1)) (lv' := [(4, .int (x4_30 + 1)), (0, .ref (gA g 0)), (1, .int p1), (2, .int x2_48), (3, .int x3_48), (5, .int x5_48)]) hx hb dX5_pair_97 hl (k := 4) rfl rfl (by decide) rfl (fun ls hl => ?_)
              replace hl := lv_sub hl [1, 2, 3, 4, 0, 5] (l' := [(0, .ref (gA g 0)), (1, .int p1), (2, .int x2_48), (3, .int x3_48), (4, .int (x4_30 + 1)), (5, .int x5_48)]) rfl
              refine lv_goto (tgt := 30) hx hb dX5_pair_100 (by decide) ?_
              have e1 : (x4_30 + 1).toInt = x4_30.toInt + 1 := addL (k := 1) (by decide +kernel) (by clear hE; omega) (by clear hE; omega)
              exact ih30 x2_48 x3_48 (x4_30 + 1) dy_48 t_m_48 _ _ _ hG _ (lv_sub hl [0, 1, 2, 3, 4] rfl) (by clear hE; omega) (by clear hE; omega) (by clear hE; omega) hE
            replace hE := (if_neg c_57).symm.trans hE
            have i_57 : x5_48.toInt < ((tn 0).1 6).toInt := i_nle c_57
            refine lv_aload_n hx hb dX5_pair_60 rfl (lv_at hl 0 rfl) ?_
            refine g_get hx hb hts hiX5 hown hG gw_Bell rfl 3 (by decide) (index := 31) tw_fl_RX5_31 (v := .ref (gA g 37)) rfl dX5_pair_61 ?_
            refine lv_iload hx hb dX5_pair_64 (lv_at hl 4 rfl) ?_
            refine lv_iload hx hb dX5_pair_66 (lv_at hl 5 rfl) ?_
            refine g_ci (g_runV (n := 2) (rest := []) hx hb hml hown hts hG (c_X0_hoursOfBoth x4_30 x5_48) tw_ml_RX5_195 tw_im_X0_hoursOfBoth tw_se_X0_hoursOfBoth tw_in_RX0 tw_cd_X0_hoursOfBoth (by decide +kernel) ⟨rfl, rfl, Nat.le_of_ble_eq_true rfl, Nat.le_of_ble_eq_true rfl⟩ gw_Day rfl rfl hl.1 rfl (Nat.le_of_ble_eq_true rfl) dX5_pair_68 ⟨Nat.le_refl _, Nat.le_refl _⟩) hG hA (fun r _ H locs hp hG => ?_)
            subst hp
            replace hG : gS g A s H locs (gW g bb tx rw sb dy_48 (va_up tn 1 t_m_48) mo jk) := hG
            refine lv_istore (lv' := [(6, .int (F_X0_hoursOfBoth dy_48 x4_30 x5_48)), (0, .ref (gA g 0)), (1, .int p1), (2, .int x2_48), (3, .int x3_48), (4, .int x4_30), (5, .int x5_48)]) hx hb dX5_pair_71 hl (by decide) rfl (fun ls hl => ?_)
            replace hl := lv_sub hl [1, 2, 3, 4, 5, 6, 0] (l' := [(0, .ref (gA g 0)), (1, .int p1), (2, .int x2_48), (3, .int x3_48), (4, .int x4_30), (5, .int x5_48), (6, .int (F_X0_hoursOfBoth dy_48 x4_30 x5_48))]) rfl
            refine lv_iload hx hb dX5_pair_73 (lv_at hl 6 rfl) ?_
            refine lv_iload_n hx hb dX5_pair_75 rfl (lv_at hl 3 rfl) ?_
            have J91 : ∀ (x2_91 : Int32) (x3_91 : Int32) (jk : (Nat → Nat → Int32)) (H : Heap) (locs : List Loc), gS g A s H locs (gW g bb tx rw sb dy_48 (va_up tn 1 t_m_48) mo jk) → ∀ ls : Array Slot, lv_has ls 7 [(0, .ref (gA g 0)), (1, .int p1), (2, .int x2_91), (3, .int x3_91), (4, .int x4_30), (5, .int x5_48)] → F_X5_pair_b91  (F_X5_pair_l30 n30 ) (F_X5_pair_l48 n48 (F_X5_pair_l30 n30 )) tx tn dy_48 t_m_48 p1 x2_91 x3_91 x4_30 x5_48 = EE → W p l e (rmL 9) s m [.ref (gA g 0), .int p1].toArray below meth c H locs 0 0 Q (F0 m 91 ls []) := by
              intro x2_91 x3_91 jk H locs hG ls hl  hE
              unfold F_X5_pair_b91 at hE
              refine lv_iinc (v := (x5_48 + 1)) (lv' := [(5, .int (x5_48 + 1)), (0, .ref (gA g 0)), (1, .int p1), (2, .int x2_91), (3, .int x3_91), (4, .int x4_30)]) hx hb dX5_pair_91 hl (k := 5) rfl rfl (by decide) rfl (fun ls hl => ?_)
              replace hl := lv_sub hl [1, 2, 3, 4, 5, 0] (l' := [(0, .ref (gA g 0)), (1, .int p1), (2, .int x2_91), (3, .int x3_91), (4, .int x4_30), (5, .int (x5_48 + 1))]) rfl
              refine lv_goto (tgt := 48) hx hb dX5_pair_94 (by decide) ?_
              have e2 : (x5_48 + 1).toInt = x5_48.toInt + 1 := addL (k := 1) (by decide +kernel) (by clear hE; omega) (by clear hE; omega)
              exact ih48 x2_91 x3_91 (x5_48 + 1) dy_48 t_m_48 _ _ _ hG _ (lv_sub hl [0, 1, 2, 3, 4, 5] rfl) (by clear hE; omega) (by clear hE; omega) (by clear hE; omega) hE
            refine lv_icmp_le (tgt := 91) hx hb dX5_pair_76 (by decide) (fun c_76 => ?_) (fun c_76 => ?_)
            · replace hE := (if_pos c_76).symm.trans hE
              exact J91 x2_48 x3_48 _ _ _ hG _ (lv_sub hl [0, 1, 2, 3, 4, 5] rfl) hE
            replace hE := (if_neg c_76).symm.trans hE
            refine lv_iload hx hb dX5_pair_79 (lv_at hl 6 rfl) ?_
            refine lv_istore_n (lv' := [(3, .int (F_X0_hoursOfBoth dy_48 x4_30 x5_48)), (0, .ref (gA g 0)), (1, .int p1), (2, .int x2_48), (4, .int x4_30), (5, .int x5_48), (6, .int (F_X0_hoursOfBoth dy_48 x4_30 x5_48))]) hx hb dX5_pair_81 rfl hl (by decide) rfl (fun ls hl => ?_)
            replace hl := lv_sub hl [1, 2, 3, 0, 4, 5, 6] (l' := [(0, .ref (gA g 0)), (1, .int p1), (2, .int x2_48), (3, .int (F_X0_hoursOfBoth dy_48 x4_30 x5_48)), (4, .int x4_30), (5, .int x5_48), (6, .int (F_X0_hoursOfBoth dy_48 x4_30 x5_48))]) rfl
            refine lv_bipush (v := 10) hx hb dX5_pair_82 (by decide) ?_
            refine lv_iload hx hb dX5_pair_84 (lv_at hl 4 rfl) ?_
            refine lv_imul hx hb dX5_pair_86 ?_
            refine lv_iload hx hb dX5_pair_87 (lv_at hl 5 rfl) ?_
            refine lv_iadd hx hb dX5_pair_89 ?_
            refine lv_istore_n (lv' := [(2, .int ((10 * x4_30) + x5_48)), (0, .ref (gA g 0)), (1, .int p1), (3, .int (F_X0_hoursOfBoth dy_48 x4_30 x5_48)), (4, .int x4_30), (5, .int x5_48), (6, .int (F_X0_hoursOfBoth dy_48 x4_30 x5_48))]) hx hb dX5_pair_90 rfl hl (by decide) rfl (fun ls hl => ?_)
            replace hl := lv_sub hl [1, 2, 0, 3, 4, 5, 6] (l' := [(0, .ref (gA g 0)), (1, .int p1), (2, .int ((10 * x4_30) + x5_48)), (3, .int (F_X0_hoursOfBoth dy_48 x4_30 x5_48)), (4, .int x4_30), (5, .int x5_48), (6, .int (F_X0_hoursOfBoth dy_48 x4_30 x5_48))]) rfl
            exact J91 ((10 * x4_30) + x5_48) (F_X0_hoursOfBoth dy_48 x4_30 x5_48) _ _ _ hG _ (lv_sub hl [0, 1, 2, 3, 4, 5] rfl) hE
        have e3 : (x4_30 + 1).toInt = x4_30.toInt + 1 := addL (k := 1) (by decide +kernel) (by clear hE; omega) (by clear hE; omega)
        exact L48 8 x2_30 x3_30 (x4_30 + 1) dy_30 t_m_30 _ _ _ hG _ (lv_sub hl [0, 1, 2, 3, 4, 5] rfl) (by clear hE; omega) (by clear hE; omega) (by clear hE; omega) hE
    exact L30 7 (-1) (-1) 0 dy_20 t_m_20 _ _ _ hG _ (lv_sub hl [0, 1, 2, 3, 4] rfl) (by decide) (by decide) (by decide) hE
  replace hE := (if_pos c_6).symm.trans hE
  refine lv_bipush (v := (-2)) hx hb dX5_pair_9 (by decide) ?_
  subst hQ
  exact g_iret hx hb hr hlocks hG ((dy, (tn 1), jk) : Ob × Ob × (Nat → Nat → Int32)) rfl hE.symm dX5_pair_11
def F_X5_refusalOfTold (rw : Nat → Ob) (p1 : Int32) : Int32 :=
  (if (F_X5_isSheet p1) = 0 then (-2) else (if (F_X1_isMissing (rw (Int32.toNatClampNeg p1))) = 0 then (if ((rw (Int32.toNatClampNeg p1)).1 2) ≤ 24 then 0 else (-2)) else (-11)))
set_option maxHeartbeats 4000000 in
set_option maxRecDepth 100000 in
theorem c_X5_refusalOfTold {l : Launch} {g : GG} {sz : Nat} {bb : Ob} {tx rw : Nat → Ob} {sb dy : Ob} {tn : Nat → Ob} {mo : Ob} {jk : Nat → Nat → Int32}  (p1 : Int32)  : Met l yX5_refusalOfTold (Cond.code yX5_refusalOfTold cX5_refusalOfTold 2 (some .int) :: TT) (rmL 3) (va_Pc [.ref (gA g 0), .int p1] (gB g sz (gW g bb tx rw sb dy tn mo jk))) (va_Qi (fun r (_ : Unit) => r = (F_X5_refusalOfTold rw p1)) (fun u t => gC g (va_A (gW g bb tx rw sb dy tn mo jk) sz) (gW g bb tx rw sb dy tn mo jk) t) (va_A (gW g bb tx rw sb dy tn mo jk) sz)) 0 0 (va_A (gW g bb tx rw sb dy tn mo jk) sz) := by
  generalize hE : F_X5_refusalOfTold rw p1 = EE
  refine g_of (Qf := fun A => (va_Qi (fun r (_ : Unit) => r = EE) (fun u t => gC g A (gW g bb tx rw sb dy tn mo jk) t) A)) (cc := cX5_refusalOfTold) (maxL := 2) (ret := (some .int)) (by decide) (Nat.le_of_ble_eq_true rfl) ?_
  intro p e s m below meth c A ls hx hb hml hr hlocks hts hown hA hG hl
  replace hown : s.vm.findClass RX5 = some m.cls := hown
  replace hl : lv_has ls 2 [(0, .ref (gA g 0)), (1, .int p1)] := hl
  show W p l e (rmL 3) s m [.ref (gA g 0), .int p1].toArray below meth c s.heap [] 0 0 (MQ below (va_Qi (fun r (_ : Unit) => r = EE) (fun u t => gC g A (gW g bb tx rw sb dy tn mo jk) t) A) [.ref (gA g 0), .int p1].toArray s 0 0 A) (F0 m 0 ls [])
  generalize hQ : MQ below (va_Qi (fun r (_ : Unit) => r = EE) (fun u t => gC g A (gW g bb tx rw sb dy tn mo jk) t) A) [.ref (gA g 0), .int p1].toArray s 0 0 A = Q
  unfold F_X5_refusalOfTold at hE
  refine lv_iload_n hx hb dX5_refusalOfTold_0 rfl (lv_at hl 1 rfl) ?_
  refine g_si (g_runS (n := 1) (rest := []) hx hb hml hown hts hG (c_X5_isSheet p1) tw_ml_RX5_217 tw_st_X5_isSheet tw_in_RX5 tw_cd_X5_isSheet (by decide +kernel) ⟨rfl, rfl, Nat.le_of_ble_eq_true rfl, Nat.le_of_ble_eq_true rfl⟩ rfl hl.1 rfl (Nat.le_of_ble_eq_true rfl) dX5_refusalOfTold_1 ⟨Nat.le_refl _, Nat.le_refl _⟩) hG hA (fun H locs hG => ?_)
  refine lv_if_ne (tgt := 10) hx hb dX5_refusalOfTold_4 (by decide) (fun c_4 => ?_) (fun c_4 => ?_)
  · replace hE := (if_neg c_4).symm.trans hE
    have i_4 := isSheet_f c_4
    refine lv_aload_n hx hb dX5_refusalOfTold_10 rfl (lv_at hl 0 rfl) ?_
    refine g_get hx hb hts hiX5 hown hG gw_Bell rfl 1 (by decide) (index := 17) tw_fl_RX5_17 (v := .ref (gA g 2)) rfl dX5_refusalOfTold_11 ?_
    refine lv_iload_n hx hb dX5_refusalOfTold_14 rfl (lv_at hl 1 rfl) ?_
    have hi_15 : vp_in p1 4 := (vp_i (by clear hE; omega) (by clear hE; omega))
    have hj_15 := vp_lt hi_15
    refine g_ald hx hb hG (q0 := 2) (t0 := 1) rfl rfl hi_15 (b := gA g (27 + 2 * (Int32.toNatClampNeg p1))) rfl dX5_refusalOfTold_15 ?_
    refine g_ci (g_runV (n := 0) (rest := []) hx hb hml hown hts hG (c_X1_isMissing hj_15 rfl) tw_ml_RX5_232 tw_im_X1_isMissing tw_se_X1_isMissing tw_in_RX1 tw_cd_X1_isMissing (by decide +kernel) ⟨rfl, rfl, Nat.le_of_ble_eq_true rfl, Nat.le_of_ble_eq_true rfl⟩ (gw_Row hj_15 rfl) rfl rfl hl.1 rfl (Nat.le_of_ble_eq_true rfl) dX5_refusalOfTold_16 ⟨Nat.le_refl _, Nat.le_refl _⟩) hG hA (fun r _ H locs hp hG => ?_)
    subst hp
    replace hG : gS g A s H locs (gW g bb tx rw sb dy tn mo jk) := hG
    refine lv_if_eq (tgt := 25) hx hb dX5_refusalOfTold_19 (by decide) (fun c_19 => ?_) (fun c_19 => ?_)
    · replace hE := (if_pos c_19).symm.trans hE
      refine lv_aload_n hx hb dX5_refusalOfTold_25 rfl (lv_at hl 0 rfl) ?_
      refine g_get hx hb hts hiX5 hown hG gw_Bell rfl 1 (by decide) (index := 17) tw_fl_RX5_17 (v := .ref (gA g 2)) rfl dX5_refusalOfTold_26 ?_
      refine lv_iload_n hx hb dX5_refusalOfTold_29 rfl (lv_at hl 1 rfl) ?_
      have hi_30 : vp_in p1 4 := (vp_i (by clear hE; omega) (by clear hE; omega))
      have hj_30 := vp_lt hi_30
      refine g_ald hx hb hG (q0 := 2) (t0 := 1) rfl rfl hi_30 (b := gA g (27 + 2 * (Int32.toNatClampNeg p1))) rfl dX5_refusalOfTold_30 ?_
      refine g_get hx hb hts hiX1 hown hG (gw_Row hj_30 rfl) rfl 2 (by decide) (index := 258) tw_fl_RX5_258 (v := .int ((rw (Int32.toNatClampNeg p1)).1 2)) rfl dX5_refusalOfTold_31 ?_
      refine lv_bipush (v := 24) hx hb dX5_refusalOfTold_34 (by decide) ?_
      refine lv_icmp_le (tgt := 44) hx hb dX5_refusalOfTold_36 (by decide) (fun c_36 => ?_) (fun c_36 => ?_)
      · replace hE := (if_pos c_36).symm.trans hE
        have i_36 : ((rw (Int32.toNatClampNeg p1)).1 2).toInt ≤ 24 := i_le.mp c_36
        refine lv_iconst (v := 0) hx hb dX5_refusalOfTold_44 (by decide) ?_
        subst hQ
        exact g_iret hx hb hr hlocks hG () rfl hE dX5_refusalOfTold_45
      replace hE := (if_neg c_36).symm.trans hE
      have i_36 : 24 < ((rw (Int32.toNatClampNeg p1)).1 2).toInt := i_nle c_36
      refine lv_bipush (v := (-2)) hx hb dX5_refusalOfTold_39 (by decide) ?_
      refine lv_goto (tgt := 45) hx hb dX5_refusalOfTold_41 (by decide) ?_
      subst hQ
      exact g_iret hx hb hr hlocks hG () rfl hE dX5_refusalOfTold_45
    replace hE := (if_neg c_19).symm.trans hE
    refine lv_bipush (v := (-11)) hx hb dX5_refusalOfTold_22 (by decide) ?_
    subst hQ
    exact g_iret hx hb hr hlocks hG () rfl hE dX5_refusalOfTold_24
  replace hE := (if_pos c_4).symm.trans hE
  refine lv_bipush (v := (-2)) hx hb dX5_refusalOfTold_7 (by decide) ?_
  subst hQ
  exact g_iret hx hb hr hlocks hG () rfl hE dX5_refusalOfTold_9
theorem refusal_f {rw : Nat → Ob} {p : Int32} (h : F_X5_refusalOfTold rw p = 0) : (0 ≤ p.toInt ∧ p.toInt < 4) ∧ ((rw p.toNatClampNeg).1 2).toInt ≤ 24 := by
  unfold F_X5_refusalOfTold at h
  split at h
  · exact absurd h (by decide)
  · rename_i c
    split at h
    · split at h
      · rename_i d
        exact ⟨isSheet_f c, i_le.mp d⟩
      · exact absurd h (by decide)
    · exact absurd h (by decide)
def F_X5_refusalOfToldAbout (rw : Nat → Ob) (tn : Nat → Ob) (p1 : Int32) (p2 : Int32) (p3 : Int32) : Int32 :=
  (if (F_X5_refusalOfTold rw p1) = 0 then (if (F_X4_has (tn 0) p2) = 0 then (-5) else (if (F_X5_isWithin p3 0 1) = 0 then (-7) else 0)) else (F_X5_refusalOfTold rw p1))
set_option maxHeartbeats 4000000 in
set_option maxRecDepth 100000 in
theorem c_X5_refusalOfToldAbout {l : Launch} {g : GG} {sz : Nat} {bb : Ob} {tx rw : Nat → Ob} {sb dy : Ob} {tn : Nat → Ob} {mo : Ob} {jk : Nat → Nat → Int32}  (p1 : Int32) (p2 : Int32) (p3 : Int32)  : Met l yX5_refusalOfToldAbout (Cond.code yX5_refusalOfToldAbout cX5_refusalOfToldAbout 5 (some .int) :: TT) (rmL 4) (va_Pc [.ref (gA g 0), .int p1, .int p2, .int p3] (gB g sz (gW g bb tx rw sb dy tn mo jk))) (va_Qi (fun r (_ : Unit) => r = (F_X5_refusalOfToldAbout rw tn p1 p2 p3)) (fun u t => gC g (va_A (gW g bb tx rw sb dy tn mo jk) sz) (gW g bb tx rw sb dy tn mo jk) t) (va_A (gW g bb tx rw sb dy tn mo jk) sz)) 0 0 (va_A (gW g bb tx rw sb dy tn mo jk) sz) := by
  generalize hE : F_X5_refusalOfToldAbout rw tn p1 p2 p3 = EE
  refine g_of (Qf := fun A => (va_Qi (fun r (_ : Unit) => r = EE) (fun u t => gC g A (gW g bb tx rw sb dy tn mo jk) t) A)) (cc := cX5_refusalOfToldAbout) (maxL := 5) (ret := (some .int)) (by decide) (Nat.le_of_ble_eq_true rfl) ?_
  intro p e s m below meth c A ls hx hb hml hr hlocks hts hown hA hG hl
  replace hown : s.vm.findClass RX5 = some m.cls := hown
  replace hl : lv_has ls 5 [(0, .ref (gA g 0)), (1, .int p1), (2, .int p2), (3, .int p3)] := hl
  show W p l e (rmL 4) s m [.ref (gA g 0), .int p1, .int p2, .int p3].toArray below meth c s.heap [] 0 0 (MQ below (va_Qi (fun r (_ : Unit) => r = EE) (fun u t => gC g A (gW g bb tx rw sb dy tn mo jk) t) A) [.ref (gA g 0), .int p1, .int p2, .int p3].toArray s 0 0 A) (F0 m 0 ls [])
  generalize hQ : MQ below (va_Qi (fun r (_ : Unit) => r = EE) (fun u t => gC g A (gW g bb tx rw sb dy tn mo jk) t) A) [.ref (gA g 0), .int p1, .int p2, .int p3].toArray s 0 0 A = Q
  unfold F_X5_refusalOfToldAbout at hE
  refine lv_aload_n hx hb dX5_refusalOfToldAbout_0 rfl (lv_at hl 0 rfl) ?_
  refine lv_iload_n hx hb dX5_refusalOfToldAbout_1 rfl (lv_at hl 1 rfl) ?_
  refine g_ci (g_runV (n := 1) (rest := []) hx hb hml hown hts hG (c_X5_refusalOfTold p1) tw_ml_RX5_204 tw_im_X5_refusalOfTold tw_se_X5_refusalOfTold tw_in_RX5 tw_cd_X5_refusalOfTold (by decide +kernel) ⟨rfl, rfl, Nat.le_of_ble_eq_true rfl, Nat.le_of_ble_eq_true rfl⟩ gw_Bell rfl rfl hl.1 rfl (Nat.le_of_ble_eq_true rfl) dX5_refusalOfToldAbout_2 ⟨Nat.le_refl _, Nat.le_refl _⟩) hG hA (fun r _ H locs hp hG => ?_)
  subst hp
  replace hG : gS g A s H locs (gW g bb tx rw sb dy tn mo jk) := hG
  refine lv_istore (lv' := [(4, .int (F_X5_refusalOfTold rw p1)), (0, .ref (gA g 0)), (1, .int p1), (2, .int p2), (3, .int p3)]) hx hb dX5_refusalOfToldAbout_5 hl (by decide) rfl (fun ls hl => ?_)
  replace hl := lv_sub hl [1, 2, 3, 4, 0] (l' := [(0, .ref (gA g 0)), (1, .int p1), (2, .int p2), (3, .int p3), (4, .int (F_X5_refusalOfTold rw p1))]) rfl
  refine lv_iload hx hb dX5_refusalOfToldAbout_7 (lv_at hl 4 rfl) ?_
  refine lv_if_eq (tgt := 15) hx hb dX5_refusalOfToldAbout_9 (by decide) (fun c_9 => ?_) (fun c_9 => ?_)
  · replace hE := (if_pos c_9).symm.trans hE
    have i_9 := refusal_f c_9
    refine lv_aload_n hx hb dX5_refusalOfToldAbout_15 rfl (lv_at hl 0 rfl) ?_
    refine g_get hx hb hts hiX5 hown hG gw_Bell rfl 4 (by decide) (index := 53) tw_fl_RX5_53 (v := .ref (gA g (40 + 6 * 0))) rfl dX5_refusalOfToldAbout_16 ?_
    refine lv_iload_n hx hb dX5_refusalOfToldAbout_19 rfl (lv_at hl 2 rfl) ?_
    refine g_ci (g_runV (n := 1) (rest := []) hx hb hml hown hts hG (c_X4_has (by decide) rfl p2) tw_ml_RX5_101 tw_im_X4_has tw_se_X4_has tw_in_RX4 tw_cd_X4_has (by decide +kernel) ⟨rfl, rfl, Nat.le_of_ble_eq_true rfl, Nat.le_of_ble_eq_true rfl⟩ (gw_Town (o := 0) (by decide) rfl) rfl rfl hl.1 rfl (Nat.le_of_ble_eq_true rfl) dX5_refusalOfToldAbout_20 ⟨Nat.le_refl _, Nat.le_refl _⟩) hG hA (fun r _ H locs hp hG => ?_)
    subst hp
    replace hG : gS g A s H locs (gW g bb tx rw sb dy tn mo jk) := hG
    refine lv_if_ne (tgt := 29) hx hb dX5_refusalOfToldAbout_23 (by decide) (fun c_23 => ?_) (fun c_23 => ?_)
    · replace hE := (if_neg c_23).symm.trans hE
      have i_23 := has_f c_23
      refine lv_iload_n hx hb dX5_refusalOfToldAbout_29 rfl (lv_at hl 3 rfl) ?_
      refine lv_iconst (v := 0) hx hb dX5_refusalOfToldAbout_30 (by decide) ?_
      refine lv_iconst (v := 1) hx hb dX5_refusalOfToldAbout_31 (by decide) ?_
      refine g_si (g_runS (n := 3) (rest := []) hx hb hml hown hts hG (c_X5_isWithin p3 0 1) tw_ml_RX5_81 tw_st_X5_isWithin tw_in_RX5 tw_cd_X5_isWithin (by decide +kernel) ⟨rfl, rfl, Nat.le_of_ble_eq_true rfl, Nat.le_of_ble_eq_true rfl⟩ rfl hl.1 rfl (Nat.le_of_ble_eq_true rfl) dX5_refusalOfToldAbout_32 ⟨Nat.le_refl _, Nat.le_refl _⟩) hG hA (fun H locs hG => ?_)
      refine lv_if_eq (tgt := 42) hx hb dX5_refusalOfToldAbout_35 (by decide) (fun c_35 => ?_) (fun c_35 => ?_)
      · replace hE := (if_pos c_35).symm.trans hE
        refine lv_bipush (v := (-7)) hx hb dX5_refusalOfToldAbout_42 (by decide) ?_
        subst hQ
        exact g_iret hx hb hr hlocks hG () rfl hE dX5_refusalOfToldAbout_44
      replace hE := (if_neg c_35).symm.trans hE
      have i_35 : 0 ≤ p3.toInt ∧ p3.toInt ≤ 1 := within_f c_35
      refine lv_iconst (v := 0) hx hb dX5_refusalOfToldAbout_38 (by decide) ?_
      refine lv_goto (tgt := 44) hx hb dX5_refusalOfToldAbout_39 (by decide) ?_
      subst hQ
      exact g_iret hx hb hr hlocks hG () rfl hE dX5_refusalOfToldAbout_44
    replace hE := (if_pos c_23).symm.trans hE
    refine lv_bipush (v := (-5)) hx hb dX5_refusalOfToldAbout_26 (by decide) ?_
    subst hQ
    exact g_iret hx hb hr hlocks hG () rfl hE dX5_refusalOfToldAbout_28
  replace hE := (if_neg c_9).symm.trans hE
  refine lv_iload hx hb dX5_refusalOfToldAbout_12 (lv_at hl 4 rfl) ?_
  subst hQ
  exact g_iret hx hb hr hlocks hG () rfl hE dX5_refusalOfToldAbout_14
theorem refusalA_f {rw tn : Nat → Ob} {p q r : Int32} (h : F_X5_refusalOfToldAbout rw tn p q r = 0) : ((0 ≤ p.toInt ∧ p.toInt < 4) ∧ ((rw p.toNatClampNeg).1 2).toInt ≤ 24) ∧ (0 ≤ q.toInt ∧ q.toInt < ((tn 0).1 6).toInt ∧ q.toInt < 6) ∧ ((0 : Int32).toInt ≤ r.toInt ∧ r.toInt ≤ (1 : Int32).toInt) := by
  unfold F_X5_refusalOfToldAbout at h
  split at h
  · rename_i c
    split at h
    · exact absurd h (by decide)
    · rename_i d
      split at h
      · exact absurd h (by decide)
      · rename_i e
        exact ⟨refusal_f c, has_f d, within_f e⟩
  · rename_i c
    exact absurd h c
def F_X5_firstOtherwise_c31 (K10 : (Nat → Ob) → (Nat → Ob) → Ob → Int32 → Int32 → Int32 × Ob) (u : Int32 × Ob) (tx : Nat → Ob) (rw : Nat → Ob) (p1 : Int32) (x4 : Int32) : Int32 × Ob :=
  (if u.1 = (((rw (Int32.toNatClampNeg p1)).2 0) (Int32.toNatClampNeg x4)) then (K10 tx rw u.2 p1 (x4 + 1)) else (x4, u.2))
def F_X5_firstOtherwise_l10 : Nat → (Nat → Ob) → (Nat → Ob) → Ob → Int32 → Int32 → Int32 × Ob
  | 0, _, _, T2, _, _ => (0, T2)
  | n + 1, tx, rw, T2, p1, x4 =>
    (if ((rw (Int32.toNatClampNeg p1)).1 2) ≤ x4 then ((-1), T2) else (if 40 ≤ x4 then ((-1), T2) else (F_X5_firstOtherwise_c31 (F_X5_firstOtherwise_l10 n ) (F_X4_passHour tx T2 (F_X4_liars tx T2)) tx rw p1 x4)))
def F_X5_firstOtherwise (tx : Nat → Ob) (rw : Nat → Ob) (T2 : Ob) (p1 : Int32) : Int32 × Ob :=
  (F_X5_firstOtherwise_l10 41  tx rw T2 p1 0)
set_option maxHeartbeats 4000000 in
set_option maxRecDepth 100000 in
theorem c_X5_firstOtherwise {l : Launch} {g : GG} {sz : Nat} {bb : Ob} {tx rw : Nat → Ob} {sb dy : Ob} {tn : Nat → Ob} {mo : Ob} {jk : Nat → Nat → Int32} {o2 : Nat} (ho2 : o2 < 3) {T2 : Ob} (hT2 : tn o2 = T2) (p1 : Int32) (hv : tEv tx T2) (hs : 0 ≤ p1.toInt ∧ p1.toInt < 4) : Met l yX5_firstOtherwise (Cond.code yX5_firstOtherwise cX5_firstOtherwise 5 (some .int) :: TT) (rmL 8) (va_Pc [.ref (gA g 0), .int p1, .ref (gA g (40 + 6 * o2))] (gB g sz (gW g bb tx rw sb dy tn mo jk))) (va_Qi (fun r (u : Ob × (Nat → Nat → Int32)) => (F_X5_firstOtherwise tx rw T2 p1) = (r, u.1)) (fun u t => gC g (va_A (gW g bb tx rw sb dy tn mo jk) sz) (gW g bb tx rw sb dy (va_up tn o2 u.1) mo u.2) t) (va_A (gW g bb tx rw sb dy tn mo jk) sz)) 0 0 (va_A (gW g bb tx rw sb dy tn mo jk) sz) := by
  generalize hE : F_X5_firstOtherwise tx rw T2 p1 = EE
  refine g_of (Qf := fun A => (va_Qi (fun r (u : Ob × (Nat → Nat → Int32)) => EE = (r, u.1)) (fun u t => gC g A (gW g bb tx rw sb dy (va_up tn o2 u.1) mo u.2) t) A)) (cc := cX5_firstOtherwise) (maxL := 5) (ret := (some .int)) (by decide) (Nat.le_of_ble_eq_true rfl) ?_
  intro p e s m below meth c A ls hx hb hml hr hlocks hts hown hA hG hl
  replace hown : s.vm.findClass RX5 = some m.cls := hown
  replace hl : lv_has ls 5 [(0, .ref (gA g 0)), (1, .int p1), (2, .ref (gA g (40 + 6 * o2)))] := hl
  show W p l e (rmL 8) s m [.ref (gA g 0), .int p1, .ref (gA g (40 + 6 * o2))].toArray below meth c s.heap [] 0 0 (MQ below (va_Qi (fun r (u : Ob × (Nat → Nat → Int32)) => EE = (r, u.1)) (fun u t => gC g A (gW g bb tx rw sb dy (va_up tn o2 u.1) mo u.2) t) A) [.ref (gA g 0), .int p1, .ref (gA g (40 + 6 * o2))].toArray s 0 0 A) (F0 m 0 ls [])
  generalize hQ : MQ below (va_Qi (fun r (u : Ob × (Nat → Nat → Int32)) => EE = (r, u.1)) (fun u t => gC g A (gW g bb tx rw sb dy (va_up tn o2 u.1) mo u.2) t) A) [.ref (gA g 0), .int p1, .ref (gA g (40 + 6 * o2))].toArray s 0 0 A = Q
  replace hG : gS g A s s.heap [] (gW g bb tx rw sb dy (va_up tn o2 T2) mo jk) := by simpa only [← hT2, up_self] using hG
  unfold F_X5_firstOtherwise at hE
  refine lv_aload_n hx hb dX5_firstOtherwise_0 rfl (lv_at hl 0 rfl) ?_
  refine g_get hx hb hts hiX5 hown hG gw_Bell rfl 1 (by decide) (index := 17) tw_fl_RX5_17 (v := .ref (gA g 2)) rfl dX5_firstOtherwise_1 ?_
  refine lv_iload_n hx hb dX5_firstOtherwise_4 rfl (lv_at hl 1 rfl) ?_
  have hi_5 : vp_in p1 4 := (vp_i (by clear hE; omega) (by clear hE; omega))
  have hj_5 := vp_lt hi_5
  refine g_ald hx hb hG (q0 := 2) (t0 := 1) rfl rfl hi_5 (b := gA g (27 + 2 * (Int32.toNatClampNeg p1))) rfl dX5_firstOtherwise_5 ?_
  refine lv_astore_n (lv' := [(3, .ref (gA g (27 + 2 * (Int32.toNatClampNeg p1)))), (0, .ref (gA g 0)), (1, .int p1), (2, .ref (gA g (40 + 6 * o2)))]) hx hb dX5_firstOtherwise_6 rfl hl (by decide) rfl (fun ls hl => ?_)
  replace hl := lv_sub hl [1, 2, 3, 0] (l' := [(0, .ref (gA g 0)), (1, .int p1), (2, .ref (gA g (40 + 6 * o2))), (3, .ref (gA g (27 + 2 * (Int32.toNatClampNeg p1))))]) rfl
  refine lv_iconst (v := 0) hx hb dX5_firstOtherwise_7 (by decide) ?_
  refine lv_istore (lv' := [(4, .int 0), (0, .ref (gA g 0)), (1, .int p1), (2, .ref (gA g (40 + 6 * o2))), (3, .ref (gA g (27 + 2 * (Int32.toNatClampNeg p1))))]) hx hb dX5_firstOtherwise_8 hl (by decide) rfl (fun ls hl => ?_)
  replace hl := lv_sub hl [1, 2, 3, 4, 0] (l' := [(0, .ref (gA g 0)), (1, .int p1), (2, .ref (gA g (40 + 6 * o2))), (3, .ref (gA g (27 + 2 * (Int32.toNatClampNeg p1)))), (4, .int 0)]) rfl
  have L10 : ∀ (n10 : Nat) (x4_10 : Int32) (T2_10 : Ob) (jk : (Nat → Nat → Int32)) (H : Heap) (locs : List Loc), gS g A s H locs (gW g bb tx rw sb dy (va_up tn o2 T2_10) mo jk) → ∀ ls : Array Slot, lv_has ls 5 [(2, .ref (gA g (40 + 6 * o2))), (3, .ref (gA g (27 + 2 * (Int32.toNatClampNeg p1)))), (4, .int x4_10)] → 0 ≤ x4_10.toInt → x4_10.toInt ≤ 40 → 40 < x4_10.toInt + n10 → tEv tx T2_10 → F_X5_firstOtherwise_l10 n10  tx rw T2_10 p1 x4_10 = EE → W p l e (rmL 8) s m [.ref (gA g 0), .int p1, .ref (gA g (40 + 6 * o2))].toArray below meth c H locs 0 0 Q (F0 m 10 ls []) := by
    intro n10
    induction n10 with
    | zero =>
      intro x4_10 T2_10 jk H locs hG ls hl h0_10 h1_10 hm_10 hv10 hE
      clear hE; omega
    | succ n10 ih10 =>
      intro x4_10 T2_10 jk H locs hG ls hl h0_10 h1_10 hm_10 hv10 hE
      unfold F_X5_firstOtherwise_l10 at hE
      refine lv_iload hx hb dX5_firstOtherwise_10 (lv_at hl 2 rfl) ?_
      refine lv_aload_n hx hb dX5_firstOtherwise_12 rfl (lv_at hl 1 rfl) ?_
      refine g_get hx hb hts hiX1 hown hG (gw_Row hj_5 rfl) rfl 2 (by decide) (index := 258) tw_fl_RX5_258 (v := .int ((rw (Int32.toNatClampNeg p1)).1 2)) rfl dX5_firstOtherwise_13 ?_
      refine lv_icmp_ge (tgt := 53) hx hb dX5_firstOtherwise_16 (by decide) (fun c_16 => ?_) (fun c_16 => ?_)
      · replace hE := (if_pos c_16).symm.trans hE
        have i_16 : ((rw (Int32.toNatClampNeg p1)).1 2).toInt ≤ x4_10.toInt := i_le.mp c_16
        refine lv_iconst (v := (-1)) hx hb dX5_firstOtherwise_53 (by decide) ?_
        subst hQ
        exact g_iret hx hb hr hlocks hG ((T2_10, jk) : Ob × (Nat → Nat → Int32)) rfl hE.symm dX5_firstOtherwise_54
      replace hE := (if_neg c_16).symm.trans hE
      have i_16 : x4_10.toInt < ((rw (Int32.toNatClampNeg p1)).1 2).toInt := i_nle c_16
      refine lv_iload hx hb dX5_firstOtherwise_19 (lv_at hl 2 rfl) ?_
      refine lv_bipush (v := 40) hx hb dX5_firstOtherwise_21 (by decide) ?_
      refine lv_icmp_ge (tgt := 53) hx hb dX5_firstOtherwise_23 (by decide) (fun c_23 => ?_) (fun c_23 => ?_)
      · replace hE := (if_pos c_23).symm.trans hE
        have i_23 : 40 ≤ x4_10.toInt := i_le.mp c_23
        refine lv_iconst (v := (-1)) hx hb dX5_firstOtherwise_53 (by decide) ?_
        subst hQ
        exact g_iret hx hb hr hlocks hG ((T2_10, jk) : Ob × (Nat → Nat → Int32)) rfl hE.symm dX5_firstOtherwise_54
      replace hE := (if_neg c_23).symm.trans hE
      have i_23 : x4_10.toInt < 40 := i_nle c_23
      refine lv_aload_n hx hb dX5_firstOtherwise_26 rfl (lv_at hl 0 rfl) ?_
      refine lv_aload_n hx hb dX5_firstOtherwise_27 rfl (lv_at hl 0 rfl) ?_
      refine g_ci (g_runV (n := 0) (rest := [.ref (gA g (40 + 6 * o2))]) hx hb hml hown hts hG (c_X4_liars ho2 (up_same _ _ _) hv10) tw_ml_RX5_144 tw_im_X4_liars tw_se_X4_liars tw_in_RX4 tw_cd_X4_liars (by decide +kernel) ⟨rfl, rfl, Nat.le_of_ble_eq_true rfl, Nat.le_of_ble_eq_true rfl⟩ (gw_Town ho2 (up_same _ _ _)) rfl rfl hl.1 rfl (Nat.le_of_ble_eq_true rfl) dX5_firstOtherwise_28 ⟨Nat.le_refl _, Nat.le_refl _⟩) hG hA (fun r jk H locs hp hG => ?_)
      subst hp
      replace hG : gS g A s H locs (gW g bb tx rw sb dy (va_up tn o2 T2_10) mo jk) := hG
      refine g_ci (g_runV (n := 1) (rest := []) hx hb hml hown hts hG (c_X4_passHour ho2 (up_same _ _ _) (F_X4_liars tx T2_10) hv10) tw_ml_RX5_154 tw_im_X4_passHour tw_se_X4_passHour tw_in_RX4 tw_cd_X4_passHour (by decide +kernel) ⟨rfl, rfl, Nat.le_of_ble_eq_true rfl, Nat.le_of_ble_eq_true rfl⟩ (gw_Town ho2 (up_same _ _ _)) rfl rfl hl.1 rfl (Nat.le_of_ble_eq_true rfl) dX5_firstOtherwise_31 ⟨Nat.le_refl _, Nat.le_refl _⟩) hG hA (fun r_31 u H locs hp hG => ?_)
      obtain ⟨T2_31, jk⟩ := u
      replace hG : gS g A s H locs (gW g bb tx rw sb dy (va_up tn o2 T2_31) mo jk) := by simpa only [up_up] using hG
      have hp_31 := hp
      rw [hp] at hE
      unfold F_X5_firstOtherwise_c31 at hE
      try dsimp only at hE
      have hv31 : tEv tx T2_31 := tEv_pH hp_31 hv10
      refine lv_aload_n hx hb dX5_firstOtherwise_34 rfl (lv_at hl 1 rfl) ?_
      refine g_get hx hb hts hiX1 hown hG (gw_Row hj_5 rfl) rfl 0 (by decide) (index := 242) tw_fl_RX5_242 (v := .ref (gA g (27 + 2 * (Int32.toNatClampNeg p1) + 1))) rfl dX5_firstOtherwise_35 ?_
      refine lv_iload hx hb dX5_firstOtherwise_38 (lv_at hl 2 rfl) ?_
      refine g_ild hx hb hG (gw_Row_a0 hj_5 rfl) (vp_i (by clear hE; omega) (by clear hE; omega)) dX5_firstOtherwise_40 ?_
      refine lv_icmp_eq (tgt := 47) hx hb dX5_firstOtherwise_41 (by decide) (fun c_41 => ?_) (fun c_41 => ?_)
      · replace hE := (if_pos c_41).symm.trans hE
        have i_41 : r_31.toInt = (((rw (Int32.toNatClampNeg p1)).2 0) (Int32.toNatClampNeg x4_10)).toInt := congrArg Int32.toInt c_41
        refine lv_iinc (v := (x4_10 + 1)) (lv' := [(4, .int (x4_10 + 1)), (2, .ref (gA g (40 + 6 * o2))), (3, .ref (gA g (27 + 2 * (Int32.toNatClampNeg p1))))]) hx hb dX5_firstOtherwise_47 hl (k := 2) rfl rfl (by decide) rfl (fun ls hl => ?_)
        replace hl := lv_sub hl [1, 2, 0] (l' := [(2, .ref (gA g (40 + 6 * o2))), (3, .ref (gA g (27 + 2 * (Int32.toNatClampNeg p1)))), (4, .int (x4_10 + 1))]) rfl
        refine lv_goto (tgt := 10) hx hb dX5_firstOtherwise_50 (by decide) ?_
        have e1 : (x4_10 + 1).toInt = x4_10.toInt + 1 := addL (k := 1) (by decide +kernel) (by clear hE; omega) (by clear hE; omega)
        exact ih10 (x4_10 + 1) T2_31 _ _ _ hG _ (lv_sub hl [0, 1, 2] rfl) (by clear hE; omega) (by clear hE; omega) (by clear hE; omega) hv31 hE
      replace hE := (if_neg c_41).symm.trans hE
      have i_41 : r_31.toInt ≠ (((rw (Int32.toNatClampNeg p1)).2 0) (Int32.toNatClampNeg x4_10)).toInt := fun h => c_41 (Int32.toInt_inj.mp h)
      refine lv_iload hx hb dX5_firstOtherwise_44 (lv_at hl 2 rfl) ?_
      subst hQ
      exact g_iret hx hb hr hlocks hG ((T2_31, jk) : Ob × (Nat → Nat → Int32)) rfl hE.symm dX5_firstOtherwise_46
  exact L10 41 0 T2 _ _ _ hG _ (lv_sub hl [2, 3, 4] rfl) (by decide) (by decide) (by decide) hv hE
theorem fo_l10 (tx rw : Nat → Ob) (p1 : Int32) : ∀ (n : Nat) (T : Ob) (x4 : Int32), tEv tx T → tEv tx (F_X5_firstOtherwise_l10 n tx rw T p1 x4).2 := by
  intro n
  induction n with
  | zero => intro T x4 h; exact h
  | succ n ih =>
    intro T x4 h
    unfold F_X5_firstOtherwise_l10
    split
    · exact h
    · split
      · exact h
      · unfold F_X5_firstOtherwise_c31
        have k := tEv_passHour h (F_X4_liars tx T)
        split
        · exact ih _ _ k
        · exact k
theorem tEv_fo {tx rw : Nat → Ob} {T T2 : Ob} {p r : Int32} (hp : F_X5_firstOtherwise tx rw T p = (r, T2)) (h : tEv tx T) : tEv tx T2 := by
  have k := fo_l10 tx rw p 41 T 0 h
  have e : F_X5_firstOtherwise_l10 41 tx rw T p 0 = (r, T2) := hp
  rw [e] at k
  exact k
def F_X5_judge_c18 (u : Int32 × Ob) (tx : Nat → Ob) (rw : Nat → Ob) (tn : Nat → Ob) : Int32 × Ob :=
  (u.1, u.2)
def F_X5_judge_c15 (u : Ob) (tx : Nat → Ob) (rw : Nat → Ob) (tn : Nat → Ob) (z1 : Int32) : Int32 × Ob :=
  (F_X5_judge_c18 (F_X5_firstOtherwise tx rw u z1) tx rw tn)
def F_X5_judge (tx : Nat → Ob) (rw : Nat → Ob) (tn : Nat → Ob) (p1 : Int32) : Int32 × Ob :=
  (if (F_X5_refusalOfTold rw p1) = 0 then (F_X5_judge_c15 (F_X5_startThought (va_up tn 1 (tn 1))) tx rw tn p1) else ((F_X5_refusalOfTold rw p1), (tn 1)))
set_option maxHeartbeats 4000000 in
set_option maxRecDepth 100000 in
theorem c_X5_judge {l : Launch} {g : GG} {sz : Nat} {bb : Ob} {tx rw : Nat → Ob} {sb dy : Ob} {tn : Nat → Ob} {mo : Ob} {jk : Nat → Nat → Int32}  (p1 : Int32) (hv : tEv tx (tn 0)) : Met l yX5_judge (Cond.code yX5_judge cX5_judge 3 (some .int) :: TT) (rmL 9) (va_Pc [.ref (gA g 0), .int p1] (gB g sz (gW g bb tx rw sb dy tn mo jk))) (va_Qi (fun r (u : Ob × (Nat → Nat → Int32)) => (F_X5_judge tx rw tn p1) = (r, u.1)) (fun u t => gC g (va_A (gW g bb tx rw sb dy tn mo jk) sz) (gW g bb tx rw sb dy (va_up tn 1 u.1) mo u.2) t) (va_A (gW g bb tx rw sb dy tn mo jk) sz)) 0 0 (va_A (gW g bb tx rw sb dy tn mo jk) sz) := by
  generalize hE : F_X5_judge tx rw tn p1 = EE
  refine g_of (Qf := fun A => (va_Qi (fun r (u : Ob × (Nat → Nat → Int32)) => EE = (r, u.1)) (fun u t => gC g A (gW g bb tx rw sb dy (va_up tn 1 u.1) mo u.2) t) A)) (cc := cX5_judge) (maxL := 3) (ret := (some .int)) (by decide) (Nat.le_of_ble_eq_true rfl) ?_
  intro p e s m below meth c A ls hx hb hml hr hlocks hts hown hA hG hl
  replace hown : s.vm.findClass RX5 = some m.cls := hown
  replace hl : lv_has ls 3 [(0, .ref (gA g 0)), (1, .int p1)] := hl
  show W p l e (rmL 9) s m [.ref (gA g 0), .int p1].toArray below meth c s.heap [] 0 0 (MQ below (va_Qi (fun r (u : Ob × (Nat → Nat → Int32)) => EE = (r, u.1)) (fun u t => gC g A (gW g bb tx rw sb dy (va_up tn 1 u.1) mo u.2) t) A) [.ref (gA g 0), .int p1].toArray s 0 0 A) (F0 m 0 ls [])
  generalize hQ : MQ below (va_Qi (fun r (u : Ob × (Nat → Nat → Int32)) => EE = (r, u.1)) (fun u t => gC g A (gW g bb tx rw sb dy (va_up tn 1 u.1) mo u.2) t) A) [.ref (gA g 0), .int p1].toArray s 0 0 A = Q
  replace hG : gS g A s s.heap [] (gW g bb tx rw sb dy (va_up tn 1 (tn 1)) mo jk) := by simpa only [up_self] using hG
  unfold F_X5_judge at hE
  refine lv_aload_n hx hb dX5_judge_0 rfl (lv_at hl 0 rfl) ?_
  refine lv_iload_n hx hb dX5_judge_1 rfl (lv_at hl 1 rfl) ?_
  refine g_ci (g_runV (n := 1) (rest := []) hx hb hml hown hts hG (c_X5_refusalOfTold p1) tw_ml_RX5_204 tw_im_X5_refusalOfTold tw_se_X5_refusalOfTold tw_in_RX5 tw_cd_X5_refusalOfTold (by decide +kernel) ⟨rfl, rfl, Nat.le_of_ble_eq_true rfl, Nat.le_of_ble_eq_true rfl⟩ gw_Bell rfl rfl hl.1 rfl (Nat.le_of_ble_eq_true rfl) dX5_judge_2 ⟨Nat.le_refl _, Nat.le_refl _⟩) hG hA (fun r _ H locs hp hG => ?_)
  subst hp
  replace hG : gS g A s H locs (gW g bb tx rw sb dy (va_up tn 1 (tn 1)) mo jk) := hG
  refine lv_istore_n (lv' := [(2, .int (F_X5_refusalOfTold rw p1)), (0, .ref (gA g 0)), (1, .int p1)]) hx hb dX5_judge_5 rfl hl (by decide) rfl (fun ls hl => ?_)
  replace hl := lv_sub hl [1, 2, 0] (l' := [(0, .ref (gA g 0)), (1, .int p1), (2, .int (F_X5_refusalOfTold rw p1))]) rfl
  refine lv_iload_n hx hb dX5_judge_6 rfl (lv_at hl 2 rfl) ?_
  refine lv_if_eq (tgt := 12) hx hb dX5_judge_7 (by decide) (fun c_7 => ?_) (fun c_7 => ?_)
  · replace hE := (if_pos c_7).symm.trans hE
    have i_7 := refusal_f c_7
    refine lv_aload_n hx hb dX5_judge_12 rfl (lv_at hl 0 rfl) ?_
    refine lv_iload_n hx hb dX5_judge_13 rfl (lv_at hl 1 rfl) ?_
    refine lv_aload_n hx hb dX5_judge_14 rfl (lv_at hl 0 rfl) ?_
    refine g_cr (g_runV (n := 0) (rest := [.int p1, .ref (gA g 0)]) hx hb hml hown hts hG (c_X5_startThought hv.2.1) tw_ml_RX5_157 tw_im_X5_startThought tw_se_X5_startThought tw_in_RX5 tw_cd_X5_startThought (by decide +kernel) ⟨rfl, rfl, Nat.le_of_ble_eq_true rfl, Nat.le_of_ble_eq_true rfl⟩ gw_Bell rfl rfl hl.1 rfl (Nat.le_of_ble_eq_true rfl) dX5_judge_15 ⟨Nat.le_refl _, Nat.le_refl _⟩) hG hA (fun u H locs hp hG => ?_)
    obtain ⟨t_m_15, rfl⟩ : ∃ z, z = u := ⟨u, rfl⟩
    replace hG : gS g A s H locs (gW g bb tx rw sb dy (va_up tn 1 t_m_15) mo jk) := by simpa only [up_up] using hG
    have hp_15 := hp
    rw [hp] at hE
    unfold F_X5_judge_c15 at hE
    try dsimp only at hE
    have hv15 : tEv tx t_m_15 := tEv_st hp_15 hv
    refine g_ci (g_runV (n := 2) (rest := []) hx hb hml hown hts hG (c_X5_firstOtherwise (by decide) (up_same _ _ _) p1 hv15 (by clear hE; omega)) tw_ml_RX5_207 tw_im_X5_firstOtherwise tw_se_X5_firstOtherwise tw_in_RX5 tw_cd_X5_firstOtherwise (by decide +kernel) ⟨rfl, rfl, Nat.le_of_ble_eq_true rfl, Nat.le_of_ble_eq_true rfl⟩ gw_Bell rfl rfl hl.1 rfl (Nat.le_of_ble_eq_true rfl) dX5_judge_18 ⟨Nat.le_refl _, Nat.le_refl _⟩) hG hA (fun r_18 u H locs hp hG => ?_)
    obtain ⟨t_m_18, jk⟩ := u
    replace hG : gS g A s H locs (gW g bb tx rw sb dy (va_up tn 1 t_m_18) mo jk) := by simpa only [up_up] using hG
    have hp_18 := hp
    rw [hp] at hE
    unfold F_X5_judge_c18 at hE
    try dsimp only at hE
    subst hQ
    exact g_iret hx hb hr hlocks hG ((t_m_18, jk) : Ob × (Nat → Nat → Int32)) rfl hE.symm dX5_judge_21
  replace hE := (if_neg c_7).symm.trans hE
  refine lv_iload_n hx hb dX5_judge_10 rfl (lv_at hl 2 rfl) ?_
  subst hQ
  exact g_iret hx hb hr hlocks hG (((tn 1), jk) : Ob × (Nat → Nat → Int32)) rfl hE.symm dX5_judge_11
def F_X5_kinds_b94 (K36 : (Nat → Ob) → (Nat → Ob) → (Nat → Ob) → Ob → Int32 → Int32 → Int32 → Int32 → Int32 → Int32 → Int32 × Ob) (tx : Nat → Ob) (rw : Nat → Ob) (tn : Nat → Ob) (t_m : Ob) (x1 : Int32) (x2 : Int32) (x3 : Int32) (x5 : Int32) (x6 : Int32) (x7 : Int32) : Int32 × Ob :=
  (K36 tx rw tn t_m x1 x2 x3 x5 x6 (x7 + 1))
def F_X5_kinds_c78 (K36 : (Nat → Ob) → (Nat → Ob) → (Nat → Ob) → Ob → Int32 → Int32 → Int32 → Int32 → Int32 → Int32 → Int32 × Ob) (u : Int32 × Ob) (tx : Nat → Ob) (rw : Nat → Ob) (tn : Nat → Ob) (x1 : Int32) (x2 : Int32) (x3 : Int32) (x5 : Int32) (x6 : Int32) (x7 : Int32) : Int32 × Ob :=
  (if u.1 = (-1) then (F_X5_kinds_b94 K36 tx rw tn u.2 x1 x2 x3 (x5 ||| (1 <<< (x7 &&& 31))) x6 x7) else (F_X5_kinds_b94 K36 tx rw tn u.2 x1 x2 x3 x5 x6 x7))
def F_X5_kinds_b74 (K36 : (Nat → Ob) → (Nat → Ob) → (Nat → Ob) → Ob → Int32 → Int32 → Int32 → Int32 → Int32 → Int32 → Int32 × Ob) (tx : Nat → Ob) (rw : Nat → Ob) (tn : Nat → Ob) (t_m : Ob) (x1 : Int32) (x2 : Int32) (x3 : Int32) (x5 : Int32) (x6 : Int32) (x7 : Int32) : Int32 × Ob :=
  (F_X5_kinds_c78 K36 (F_X5_firstOtherwise tx rw t_m x1) tx rw tn x1 x2 x3 x5 x6 x7)
def F_X5_kinds_c44 (K36 : (Nat → Ob) → (Nat → Ob) → (Nat → Ob) → Ob → Int32 → Int32 → Int32 → Int32 → Int32 → Int32 → Int32 × Ob) (u : Ob) (tx : Nat → Ob) (rw : Nat → Ob) (tn : Nat → Ob) (x1 : Int32) (x2 : Int32) (x3 : Int32) (x5 : Int32) (x6 : Int32) (x7 : Int32) : Int32 × Ob :=
  (if x3 = 0 then (F_X5_kinds_b74 K36 tx rw tn (stA u 0 x2 x7) x1 x2 x3 x5 x6 x7) else (F_X5_kinds_b74 K36 tx rw tn (stA u 1 x2 x7) x1 x2 x3 x5 x6 x7))
def F_X5_kinds_l36 : Nat → (Nat → Ob) → (Nat → Ob) → (Nat → Ob) → Ob → Int32 → Int32 → Int32 → Int32 → Int32 → Int32 → Int32 × Ob
  | 0, _, _, _, t_m, _, _, _, _, _, _ => (0, t_m)
  | n + 1, tx, rw, tn, t_m, x1, x2, x3, x5, x6, x7 =>
    (if x6 ≤ x7 then (x5, t_m) else (F_X5_kinds_c44 (F_X5_kinds_l36 n ) (F_X5_startThought (va_up tn 1 t_m)) tx rw tn x1 x2 x3 x5 x6 x7))
def F_X5_kinds_b31 (tx : Nat → Ob) (rw : Nat → Ob) (tn : Nat → Ob) (t_m : Ob) (x1 : Int32) (x2 : Int32) (x3 : Int32) (x5 : Int32) (z0 : Int32) : Int32 × Ob :=
  (F_X5_kinds_l36 11  tx rw tn t_m x1 x2 x3 x5 z0 0)
def F_X5_kinds (tx : Nat → Ob) (rw : Nat → Ob) (tn : Nat → Ob) (p1 : Int32) (p2 : Int32) (p3 : Int32) : Int32 × Ob :=
  (if (F_X5_refusalOfToldAbout rw (va_up tn 1 (tn 1)) p1 p2 p3) = 0 then (if p3 = 0 then (F_X5_kinds_b31  tx rw tn (tn 1) p1 p2 p3 0 6) else (F_X5_kinds_b31  tx rw tn (tn 1) p1 p2 p3 0 10)) else ((F_X5_refusalOfToldAbout rw (va_up tn 1 (tn 1)) p1 p2 p3), (tn 1)))
set_option maxHeartbeats 4000000 in
set_option maxRecDepth 100000 in
theorem c_X5_kinds {l : Launch} {g : GG} {sz : Nat} {bb : Ob} {tx rw : Nat → Ob} {sb dy : Ob} {tn : Nat → Ob} {mo : Ob} {jk : Nat → Nat → Int32}  (p1 : Int32) (p2 : Int32) (p3 : Int32) (hv : tEv tx (tn 0)) : Met l yX5_kinds (Cond.code yX5_kinds cX5_kinds 9 (some .int) :: TT) (rmL 9) (va_Pc [.ref (gA g 0), .int p1, .int p2, .int p3] (gB g sz (gW g bb tx rw sb dy tn mo jk))) (va_Qi (fun r (u : Ob × (Nat → Nat → Int32)) => (F_X5_kinds tx rw tn p1 p2 p3) = (r, u.1)) (fun u t => gC g (va_A (gW g bb tx rw sb dy tn mo jk) sz) (gW g bb tx rw sb dy (va_up tn 1 u.1) mo u.2) t) (va_A (gW g bb tx rw sb dy tn mo jk) sz)) 0 0 (va_A (gW g bb tx rw sb dy tn mo jk) sz) := by
  generalize hE : F_X5_kinds tx rw tn p1 p2 p3 = EE
  refine g_of (Qf := fun A => (va_Qi (fun r (u : Ob × (Nat → Nat → Int32)) => EE = (r, u.1)) (fun u t => gC g A (gW g bb tx rw sb dy (va_up tn 1 u.1) mo u.2) t) A)) (cc := cX5_kinds) (maxL := 9) (ret := (some .int)) (by decide) (Nat.le_of_ble_eq_true rfl) ?_
  intro p e s m below meth c A ls hx hb hml hr hlocks hts hown hA hG hl
  replace hown : s.vm.findClass RX5 = some m.cls := hown
  replace hl : lv_has ls 9 [(0, .ref (gA g 0)), (1, .int p1), (2, .int p2), (3, .int p3)] := hl
  show W p l e (rmL 9) s m [.ref (gA g 0), .int p1, .int p2, .int p3].toArray below meth c s.heap [] 0 0 (MQ below (va_Qi (fun r (u : Ob × (Nat → Nat → Int32)) => EE = (r, u.1)) (fun u t => gC g A (gW g bb tx rw sb dy (va_up tn 1 u.1) mo u.2) t) A) [.ref (gA g 0), .int p1, .int p2, .int p3].toArray s 0 0 A) (F0 m 0 ls [])
  generalize hQ : MQ below (va_Qi (fun r (u : Ob × (Nat → Nat → Int32)) => EE = (r, u.1)) (fun u t => gC g A (gW g bb tx rw sb dy (va_up tn 1 u.1) mo u.2) t) A) [.ref (gA g 0), .int p1, .int p2, .int p3].toArray s 0 0 A = Q
  replace hG : gS g A s s.heap [] (gW g bb tx rw sb dy (va_up tn 1 (tn 1)) mo jk) := by simpa only [up_self] using hG
  unfold F_X5_kinds at hE
  refine lv_aload_n hx hb dX5_kinds_0 rfl (lv_at hl 0 rfl) ?_
  refine lv_iload_n hx hb dX5_kinds_1 rfl (lv_at hl 1 rfl) ?_
  refine lv_iload_n hx hb dX5_kinds_2 rfl (lv_at hl 2 rfl) ?_
  refine lv_iload_n hx hb dX5_kinds_3 rfl (lv_at hl 3 rfl) ?_
  refine g_ci (g_runV (n := 3) (rest := []) hx hb hml hown hts hG (c_X5_refusalOfToldAbout p1 p2 p3) tw_ml_RX5_211 tw_im_X5_refusalOfToldAbout tw_se_X5_refusalOfToldAbout tw_in_RX5 tw_cd_X5_refusalOfToldAbout (by decide +kernel) ⟨rfl, rfl, Nat.le_of_ble_eq_true rfl, Nat.le_of_ble_eq_true rfl⟩ gw_Bell rfl rfl hl.1 rfl (Nat.le_of_ble_eq_true rfl) dX5_kinds_4 ⟨Nat.le_refl _, Nat.le_refl _⟩) hG hA (fun r _ H locs hp hG => ?_)
  subst hp
  replace hG : gS g A s H locs (gW g bb tx rw sb dy (va_up tn 1 (tn 1)) mo jk) := hG
  refine lv_istore (lv' := [(4, .int (F_X5_refusalOfToldAbout rw (va_up tn 1 (tn 1)) p1 p2 p3)), (0, .ref (gA g 0)), (1, .int p1), (2, .int p2), (3, .int p3)]) hx hb dX5_kinds_7 hl (by decide) rfl (fun ls hl => ?_)
  replace hl := lv_sub hl [1, 2, 3, 4, 0] (l' := [(0, .ref (gA g 0)), (1, .int p1), (2, .int p2), (3, .int p3), (4, .int (F_X5_refusalOfToldAbout rw (va_up tn 1 (tn 1)) p1 p2 p3))]) rfl
  refine lv_iload hx hb dX5_kinds_9 (lv_at hl 4 rfl) ?_
  refine lv_if_eq (tgt := 17) hx hb dX5_kinds_11 (by decide) (fun c_11 => ?_) (fun c_11 => ?_)
  · replace hE := (if_pos c_11).symm.trans hE
    have i_11 := refusalA_f c_11
    refine lv_iconst (v := 0) hx hb dX5_kinds_17 (by decide) ?_
    refine lv_istore (lv' := [(5, .int 0), (0, .ref (gA g 0)), (1, .int p1), (2, .int p2), (3, .int p3), (4, .int (F_X5_refusalOfToldAbout rw (va_up tn 1 (tn 1)) p1 p2 p3))]) hx hb dX5_kinds_18 hl (by decide) rfl (fun ls hl => ?_)
    replace hl := lv_sub hl [1, 2, 3, 4, 5, 0] (l' := [(0, .ref (gA g 0)), (1, .int p1), (2, .int p2), (3, .int p3), (4, .int (F_X5_refusalOfToldAbout rw (va_up tn 1 (tn 1)) p1 p2 p3)), (5, .int 0)]) rfl
    refine lv_iload_n hx hb dX5_kinds_20 rfl (lv_at hl 3 rfl) ?_
    have J31 : ∀ (z0_31 : Int32) (jk : (Nat → Nat → Int32)) (H : Heap) (locs : List Loc), gS g A s H locs (gW g bb tx rw sb dy (va_up tn 1 (tn 1)) mo jk) → ∀ ls : Array Slot, lv_has ls 9 [(0, .ref (gA g 0)), (1, .int p1), (2, .int p2), (3, .int p3), (5, .int 0)] → z0_31.toInt ≤ 10 → F_X5_kinds_b31   tx rw tn (tn 1) p1 p2 p3 0 z0_31 = EE → W p l e (rmL 9) s m [.ref (gA g 0), .int p1, .int p2, .int p3].toArray below meth c H locs 0 0 Q (F0 m 31 ls [.int z0_31]) := by
      intro z0_31 jk H locs hG ls hl hz31 hE
      unfold F_X5_kinds_b31 at hE
      refine lv_istore (lv' := [(6, .int z0_31), (0, .ref (gA g 0)), (1, .int p1), (2, .int p2), (3, .int p3), (5, .int 0)]) hx hb dX5_kinds_31 hl (by decide) rfl (fun ls hl => ?_)
      replace hl := lv_sub hl [1, 2, 3, 4, 5, 0] (l' := [(0, .ref (gA g 0)), (1, .int p1), (2, .int p2), (3, .int p3), (5, .int 0), (6, .int z0_31)]) rfl
      refine lv_iconst (v := 0) hx hb dX5_kinds_33 (by decide) ?_
      refine lv_istore (lv' := [(7, .int 0), (0, .ref (gA g 0)), (1, .int p1), (2, .int p2), (3, .int p3), (5, .int 0), (6, .int z0_31)]) hx hb dX5_kinds_34 hl (by decide) rfl (fun ls hl => ?_)
      replace hl := lv_sub hl [1, 2, 3, 4, 5, 6, 0] (l' := [(0, .ref (gA g 0)), (1, .int p1), (2, .int p2), (3, .int p3), (5, .int 0), (6, .int z0_31), (7, .int 0)]) rfl
      have L36 : ∀ (n36 : Nat) (x5_36 : Int32) (x7_36 : Int32) (t_m_36 : Ob) (jk : (Nat → Nat → Int32)) (H : Heap) (locs : List Loc), gS g A s H locs (gW g bb tx rw sb dy (va_up tn 1 t_m_36) mo jk) → ∀ ls : Array Slot, lv_has ls 9 [(0, .ref (gA g 0)), (1, .int p1), (2, .int p2), (3, .int p3), (5, .int x5_36), (6, .int z0_31), (7, .int x7_36)] → 0 ≤ x7_36.toInt → x7_36.toInt ≤ 10 → 10 < x7_36.toInt + n36 → F_X5_kinds_l36 n36  tx rw tn t_m_36 p1 p2 p3 x5_36 z0_31 x7_36 = EE → W p l e (rmL 9) s m [.ref (gA g 0), .int p1, .int p2, .int p3].toArray below meth c H locs 0 0 Q (F0 m 36 ls []) := by
        intro n36
        induction n36 with
        | zero =>
          intro x5_36 x7_36 t_m_36 jk H locs hG ls hl h0_36 h1_36 hm_36 hE
          clear hE; omega
        | succ n36 ih36 =>
          intro x5_36 x7_36 t_m_36 jk H locs hG ls hl h0_36 h1_36 hm_36 hE
          unfold F_X5_kinds_l36 at hE
          refine lv_iload hx hb dX5_kinds_36 (lv_at hl 6 rfl) ?_
          refine lv_iload hx hb dX5_kinds_38 (lv_at hl 5 rfl) ?_
          refine lv_icmp_ge (tgt := 100) hx hb dX5_kinds_40 (by decide) (fun c_40 => ?_) (fun c_40 => ?_)
          · replace hE := (if_pos c_40).symm.trans hE
            have i_40 : z0_31.toInt ≤ x7_36.toInt := i_le.mp c_40
            refine lv_iload hx hb dX5_kinds_100 (lv_at hl 4 rfl) ?_
            subst hQ
            exact g_iret hx hb hr hlocks hG ((t_m_36, jk) : Ob × (Nat → Nat → Int32)) rfl hE.symm dX5_kinds_102
          replace hE := (if_neg c_40).symm.trans hE
          have i_40 : x7_36.toInt < z0_31.toInt := i_nle c_40
          refine lv_aload_n hx hb dX5_kinds_43 rfl (lv_at hl 0 rfl) ?_
          refine g_cr (g_runV (n := 0) (rest := []) hx hb hml hown hts hG (c_X5_startThought hv.2.1) tw_ml_RX5_157 tw_im_X5_startThought tw_se_X5_startThought tw_in_RX5 tw_cd_X5_startThought (by decide +kernel) ⟨rfl, rfl, Nat.le_of_ble_eq_true rfl, Nat.le_of_ble_eq_true rfl⟩ gw_Bell rfl rfl hl.1 rfl (Nat.le_of_ble_eq_true rfl) dX5_kinds_44 ⟨Nat.le_refl _, Nat.le_refl _⟩) hG hA (fun u H locs hp hG => ?_)
          obtain ⟨t_m_44, rfl⟩ : ∃ z, z = u := ⟨u, rfl⟩
          replace hG : gS g A s H locs (gW g bb tx rw sb dy (va_up tn 1 t_m_44) mo jk) := by simpa only [up_up] using hG
          have hp_44 := hp
          rw [hp] at hE
          unfold F_X5_kinds_c44 at hE
          try dsimp only at hE
          have hv44 : tEv tx t_m_44 := tEv_st hp_44 hv
          refine lv_astore (lv' := [(8, .ref (gA g (40 + 6 * 1))), (0, .ref (gA g 0)), (1, .int p1), (2, .int p2), (3, .int p3), (5, .int x5_36), (6, .int z0_31), (7, .int x7_36)]) hx hb dX5_kinds_47 hl (by decide) rfl (fun ls hl => ?_)
          replace hl := lv_sub hl [1, 2, 3, 4, 5, 6, 7, 0] (l' := [(0, .ref (gA g 0)), (1, .int p1), (2, .int p2), (3, .int p3), (5, .int x5_36), (6, .int z0_31), (7, .int x7_36), (8, .ref (gA g (40 + 6 * 1)))]) rfl
          refine lv_iload_n hx hb dX5_kinds_49 rfl (lv_at hl 3 rfl) ?_
          have J74 : ∀ (t_m_74 : Ob) (jk : (Nat → Nat → Int32)) (H : Heap) (locs : List Loc), gS g A s H locs (gW g bb tx rw sb dy (va_up tn 1 t_m_74) mo jk) → ∀ ls : Array Slot, lv_has ls 9 [(0, .ref (gA g 0)), (1, .int p1), (2, .int p2), (3, .int p3), (5, .int x5_36), (6, .int z0_31), (7, .int x7_36), (8, .ref (gA g (40 + 6 * 1)))] → tEv tx t_m_74 → F_X5_kinds_b74  (F_X5_kinds_l36 n36 ) tx rw tn t_m_74 p1 p2 p3 x5_36 z0_31 x7_36 = EE → W p l e (rmL 9) s m [.ref (gA g 0), .int p1, .int p2, .int p3].toArray below meth c H locs 0 0 Q (F0 m 74 ls []) := by
            intro t_m_74 jk H locs hG ls hl hv74 hE
            unfold F_X5_kinds_b74 at hE
            refine lv_aload_n hx hb dX5_kinds_74 rfl (lv_at hl 0 rfl) ?_
            refine lv_iload_n hx hb dX5_kinds_75 rfl (lv_at hl 1 rfl) ?_
            refine lv_aload hx hb dX5_kinds_76 (lv_at hl 7 rfl) ?_
            refine g_ci (g_runV (n := 2) (rest := []) hx hb hml hown hts hG (c_X5_firstOtherwise (by decide) (up_same _ _ _) p1 hv74 (by clear hE; omega)) tw_ml_RX5_207 tw_im_X5_firstOtherwise tw_se_X5_firstOtherwise tw_in_RX5 tw_cd_X5_firstOtherwise (by decide +kernel) ⟨rfl, rfl, Nat.le_of_ble_eq_true rfl, Nat.le_of_ble_eq_true rfl⟩ gw_Bell rfl rfl hl.1 rfl (Nat.le_of_ble_eq_true rfl) dX5_kinds_78 ⟨Nat.le_refl _, Nat.le_refl _⟩) hG hA (fun r_78 u H locs hp hG => ?_)
            obtain ⟨t_m_78, jk⟩ := u
            replace hG : gS g A s H locs (gW g bb tx rw sb dy (va_up tn 1 t_m_78) mo jk) := by simpa only [up_up] using hG
            have hp_78 := hp
            rw [hp] at hE
            unfold F_X5_kinds_c78 at hE
            try dsimp only at hE
            refine lv_iconst (v := (-1)) hx hb dX5_kinds_81 (by decide) ?_
            have J94 : ∀ (x5_94 : Int32) (jk : (Nat → Nat → Int32)) (H : Heap) (locs : List Loc), gS g A s H locs (gW g bb tx rw sb dy (va_up tn 1 t_m_78) mo jk) → ∀ ls : Array Slot, lv_has ls 9 [(0, .ref (gA g 0)), (1, .int p1), (2, .int p2), (3, .int p3), (5, .int x5_94), (6, .int z0_31), (7, .int x7_36)] → F_X5_kinds_b94  (F_X5_kinds_l36 n36 ) tx rw tn t_m_78 p1 p2 p3 x5_94 z0_31 x7_36 = EE → W p l e (rmL 9) s m [.ref (gA g 0), .int p1, .int p2, .int p3].toArray below meth c H locs 0 0 Q (F0 m 94 ls []) := by
              intro x5_94 jk H locs hG ls hl  hE
              unfold F_X5_kinds_b94 at hE
              refine lv_iinc (v := (x7_36 + 1)) (lv' := [(7, .int (x7_36 + 1)), (0, .ref (gA g 0)), (1, .int p1), (2, .int p2), (3, .int p3), (5, .int x5_94), (6, .int z0_31)]) hx hb dX5_kinds_94 hl (k := 6) rfl rfl (by decide) rfl (fun ls hl => ?_)
              replace hl := lv_sub hl [1, 2, 3, 4, 5, 6, 0] (l' := [(0, .ref (gA g 0)), (1, .int p1), (2, .int p2), (3, .int p3), (5, .int x5_94), (6, .int z0_31), (7, .int (x7_36 + 1))]) rfl
              refine lv_goto (tgt := 36) hx hb dX5_kinds_97 (by decide) ?_
              have e1 : (x7_36 + 1).toInt = x7_36.toInt + 1 := addL (k := 1) (by decide +kernel) (by clear hE; omega) (by clear hE; omega)
              exact ih36 x5_94 (x7_36 + 1) t_m_78 _ _ _ hG _ (lv_sub hl [0, 1, 2, 3, 4, 5, 6] rfl) (by clear hE; omega) (by clear hE; omega) (by clear hE; omega) hE
            refine lv_icmp_ne (tgt := 94) hx hb dX5_kinds_82 (by decide) (fun c_82 => ?_) (fun c_82 => ?_)
            · replace hE := (if_neg c_82).symm.trans hE
              have i_82 : r_78.toInt ≠ (-1) := fun h => c_82 (Int32.toInt_inj.mp h)
              exact J94 x5_36 _ _ _ hG _ (lv_sub hl [0, 1, 2, 3, 4, 5, 6] rfl) hE
            replace hE := (if_pos c_82).symm.trans hE
            have i_82 : r_78.toInt = (-1) := congrArg Int32.toInt c_82
            refine lv_iload hx hb dX5_kinds_85 (lv_at hl 4 rfl) ?_
            refine lv_iconst (v := 1) hx hb dX5_kinds_87 (by decide) ?_
            refine lv_iload hx hb dX5_kinds_88 (lv_at hl 6 rfl) ?_
            refine lv_ishl hx hb dX5_kinds_90 ?_
            refine lv_ior hx hb dX5_kinds_91 ?_
            refine lv_istore (lv' := [(5, .int (x5_36 ||| (1 <<< (x7_36 &&& 31)))), (0, .ref (gA g 0)), (1, .int p1), (2, .int p2), (3, .int p3), (6, .int z0_31), (7, .int x7_36), (8, .ref (gA g (40 + 6 * 1)))]) hx hb dX5_kinds_92 hl (by decide) rfl (fun ls hl => ?_)
            replace hl := lv_sub hl [1, 2, 3, 4, 0, 5, 6, 7] (l' := [(0, .ref (gA g 0)), (1, .int p1), (2, .int p2), (3, .int p3), (5, .int (x5_36 ||| (1 <<< (x7_36 &&& 31)))), (6, .int z0_31), (7, .int x7_36), (8, .ref (gA g (40 + 6 * 1)))]) rfl
            exact J94 (x5_36 ||| (1 <<< (x7_36 &&& 31))) _ _ _ hG _ (lv_sub hl [0, 1, 2, 3, 4, 5, 6] rfl) hE
          refine lv_if_ne (tgt := 65) hx hb dX5_kinds_50 (by decide) (fun c_50 => ?_) (fun c_50 => ?_)
          · replace hE := (if_neg c_50).symm.trans hE
            have i_50 : p3.toInt ≠ 0 := fun h => c_50 (Int32.toInt_inj.mp h)
            refine lv_aload hx hb dX5_kinds_65 (lv_at hl 7 rfl) ?_
            refine g_get hx hb hts hiX4 hown hG (gw_Town (o := 1) (by decide) (up_same _ _ _)) rfl 1 (by decide) (index := 132) tw_fl_RX5_132 (v := .ref (gA g (40 + 6 * 1 + 2))) rfl dX5_kinds_67 ?_
            refine lv_iload_n hx hb dX5_kinds_70 rfl (lv_at hl 2 rfl) ?_
            refine lv_iload hx hb dX5_kinds_71 (lv_at hl 6 rfl) ?_
            refine g_ist hx hb hG (gw_Town_a1 (o := 1) (by decide) (up_same _ _ _)) (vp_i (by clear hE; omega) (by clear hE; omega)) (gt_Town_a1 (o := 1) (by decide)) dX5_kinds_73 (fun H locs hG => ?_)
            exact J74 (stA t_m_44 1 p2 x7_36) _ _ _ hG _ (lv_sub hl [0, 1, 2, 3, 4, 5, 6, 7] rfl) hv44 hE
          replace hE := (if_pos c_50).symm.trans hE
          have i_50 : p3.toInt = 0 := congrArg Int32.toInt c_50
          refine lv_aload hx hb dX5_kinds_53 (lv_at hl 7 rfl) ?_
          refine g_get hx hb hts hiX4 hown hG (gw_Town (o := 1) (by decide) (up_same _ _ _)) rfl 0 (by decide) (index := 128) tw_fl_RX5_128 (v := .ref (gA g (40 + 6 * 1 + 1))) rfl dX5_kinds_55 ?_
          refine lv_iload_n hx hb dX5_kinds_58 rfl (lv_at hl 2 rfl) ?_
          refine lv_iload hx hb dX5_kinds_59 (lv_at hl 6 rfl) ?_
          refine g_ist hx hb hG (gw_Town_a0 (o := 1) (by decide) (up_same _ _ _)) (vp_i (by clear hE; omega) (by clear hE; omega)) (gt_Town_a0 (o := 1) (by decide)) dX5_kinds_61 (fun H locs hG => ?_)
          refine lv_goto (tgt := 74) hx hb dX5_kinds_62 (by decide) ?_
          exact J74 (stA t_m_44 0 p2 x7_36) _ _ _ hG _ (lv_sub hl [0, 1, 2, 3, 4, 5, 6, 7] rfl) hv44 hE
      exact L36 11 0 0 (tn 1) _ _ _ hG _ (lv_sub hl [0, 1, 2, 3, 4, 5, 6] rfl) (by decide) (by decide) (by decide) hE
    refine lv_if_ne (tgt := 29) hx hb dX5_kinds_21 (by decide) (fun c_21 => ?_) (fun c_21 => ?_)
    · replace hE := (if_neg c_21).symm.trans hE
      have i_21 : p3.toInt ≠ 0 := fun h => c_21 (Int32.toInt_inj.mp h)
      refine lv_bipush (v := 10) hx hb dX5_kinds_29 (by decide) ?_
      exact J31 10 _ _ _ hG _ (lv_sub hl [0, 1, 2, 3, 5] rfl) (by decide) hE
    replace hE := (if_pos c_21).symm.trans hE
    have i_21 : p3.toInt = 0 := congrArg Int32.toInt c_21
    refine lv_bipush (v := 6) hx hb dX5_kinds_24 (by decide) ?_
    refine lv_goto (tgt := 31) hx hb dX5_kinds_26 (by decide) ?_
    exact J31 6 _ _ _ hG _ (lv_sub hl [0, 1, 2, 3, 5] rfl) (by decide) hE
  replace hE := (if_neg c_11).symm.trans hE
  refine lv_iload hx hb dX5_kinds_14 (lv_at hl 4 rfl) ?_
  subst hQ
  exact g_iret hx hb hr hlocks hG (((tn 1), jk) : Ob × (Nat → Nat → Int32)) rfl hE.symm dX5_kinds_16
def F_X5_nerves_b77 (K26 : (Nat → Ob) → (Nat → Ob) → (Nat → Ob) → Ob → Int32 → Int32 → Int32 → Int32 → Int32 → Int32 → Int32 × Ob) (tx : Nat → Ob) (rw : Nat → Ob) (tn : Nat → Ob) (t_m : Ob) (x1 : Int32) (x2 : Int32) (x3 : Int32) (x5 : Int32) (x6 : Int32) (x7 : Int32) : Int32 × Ob :=
  (K26 tx rw tn t_m x1 x2 x3 x5 x6 (x7 + 1))
def F_X5_nerves_b75 (K26 : (Nat → Ob) → (Nat → Ob) → (Nat → Ob) → Ob → Int32 → Int32 → Int32 → Int32 → Int32 → Int32 → Int32 × Ob) (tx : Nat → Ob) (rw : Nat → Ob) (tn : Nat → Ob) (t_m : Ob) (x1 : Int32) (x2 : Int32) (x3 : Int32) (x5 : Int32) (x7 : Int32) (z0 : Int32) : Int32 × Ob :=
  (F_X5_nerves_b77 K26 tx rw tn t_m x1 x2 x3 x5 z0 x7)
def F_X5_nerves_c52 (K26 : (Nat → Ob) → (Nat → Ob) → (Nat → Ob) → Ob → Int32 → Int32 → Int32 → Int32 → Int32 → Int32 → Int32 × Ob) (u : Int32 × Ob) (tx : Nat → Ob) (rw : Nat → Ob) (tn : Nat → Ob) (x1 : Int32) (x2 : Int32) (x3 : Int32) (x5 : Int32) (x6 : Int32) (x7 : Int32) : Int32 × Ob :=
  (if u.1 = (-1) then (if x6 = (-1) then (F_X5_nerves_b75 K26 tx rw tn u.2 x1 x2 x3 (x5 + 1) x7 x7) else (F_X5_nerves_b75 K26 tx rw tn u.2 x1 x2 x3 (x5 + 1) x7 x6)) else (F_X5_nerves_b77 K26 tx rw tn u.2 x1 x2 x3 x5 x6 x7))
def F_X5_nerves_c34 (K26 : (Nat → Ob) → (Nat → Ob) → (Nat → Ob) → Ob → Int32 → Int32 → Int32 → Int32 → Int32 → Int32 → Int32 × Ob) (u : Ob) (tx : Nat → Ob) (rw : Nat → Ob) (tn : Nat → Ob) (x1 : Int32) (x2 : Int32) (x3 : Int32) (x5 : Int32) (x6 : Int32) (x7 : Int32) : Int32 × Ob :=
  (F_X5_nerves_c52 K26 (F_X5_firstOtherwise tx rw (stA u 2 x2 x7) x1) tx rw tn x1 x2 x3 x5 x6 x7)
def F_X5_nerves_l26 : Nat → (Nat → Ob) → (Nat → Ob) → (Nat → Ob) → Ob → Int32 → Int32 → Int32 → Int32 → Int32 → Int32 → Int32 × Ob
  | 0, _, _, _, t_m, _, _, _, _, _, _ => (0, t_m)
  | n + 1, tx, rw, tn, t_m, x1, x2, x3, x5, x6, x7 =>
    (if 99 < x7 then (if x3 = 0 then (x5, t_m) else (x6, t_m)) else (F_X5_nerves_c34 (F_X5_nerves_l26 n ) (F_X5_startThought (va_up tn 1 t_m)) tx rw tn x1 x2 x3 x5 x6 x7))
def F_X5_nerves (tx : Nat → Ob) (rw : Nat → Ob) (tn : Nat → Ob) (p1 : Int32) (p2 : Int32) (p3 : Int32) : Int32 × Ob :=
  (if (F_X5_refusalOfToldAbout rw (va_up tn 1 (tn 1)) p1 p2 p3) = 0 then (F_X5_nerves_l26 101  tx rw tn (tn 1) p1 p2 p3 0 (-1) 0) else ((F_X5_refusalOfToldAbout rw (va_up tn 1 (tn 1)) p1 p2 p3), (tn 1)))
set_option maxHeartbeats 4000000 in
set_option maxRecDepth 100000 in
theorem c_X5_nerves {l : Launch} {g : GG} {sz : Nat} {bb : Ob} {tx rw : Nat → Ob} {sb dy : Ob} {tn : Nat → Ob} {mo : Ob} {jk : Nat → Nat → Int32}  (p1 : Int32) (p2 : Int32) (p3 : Int32) (hv : tEv tx (tn 0)) : Met l yX5_nerves (Cond.code yX5_nerves cX5_nerves 9 (some .int) :: TT) (rmL 9) (va_Pc [.ref (gA g 0), .int p1, .int p2, .int p3] (gB g sz (gW g bb tx rw sb dy tn mo jk))) (va_Qi (fun r (u : Ob × (Nat → Nat → Int32)) => (F_X5_nerves tx rw tn p1 p2 p3) = (r, u.1)) (fun u t => gC g (va_A (gW g bb tx rw sb dy tn mo jk) sz) (gW g bb tx rw sb dy (va_up tn 1 u.1) mo u.2) t) (va_A (gW g bb tx rw sb dy tn mo jk) sz)) 0 0 (va_A (gW g bb tx rw sb dy tn mo jk) sz) := by
  generalize hE : F_X5_nerves tx rw tn p1 p2 p3 = EE
  refine g_of (Qf := fun A => (va_Qi (fun r (u : Ob × (Nat → Nat → Int32)) => EE = (r, u.1)) (fun u t => gC g A (gW g bb tx rw sb dy (va_up tn 1 u.1) mo u.2) t) A)) (cc := cX5_nerves) (maxL := 9) (ret := (some .int)) (by decide) (Nat.le_of_ble_eq_true rfl) ?_
  intro p e s m below meth c A ls hx hb hml hr hlocks hts hown hA hG hl
  replace hown : s.vm.findClass RX5 = some m.cls := hown
  replace hl : lv_has ls 9 [(0, .ref (gA g 0)), (1, .int p1), (2, .int p2), (3, .int p3)] := hl
  show W p l e (rmL 9) s m [.ref (gA g 0), .int p1, .int p2, .int p3].toArray below meth c s.heap [] 0 0 (MQ below (va_Qi (fun r (u : Ob × (Nat → Nat → Int32)) => EE = (r, u.1)) (fun u t => gC g A (gW g bb tx rw sb dy (va_up tn 1 u.1) mo u.2) t) A) [.ref (gA g 0), .int p1, .int p2, .int p3].toArray s 0 0 A) (F0 m 0 ls [])
  generalize hQ : MQ below (va_Qi (fun r (u : Ob × (Nat → Nat → Int32)) => EE = (r, u.1)) (fun u t => gC g A (gW g bb tx rw sb dy (va_up tn 1 u.1) mo u.2) t) A) [.ref (gA g 0), .int p1, .int p2, .int p3].toArray s 0 0 A = Q
  replace hG : gS g A s s.heap [] (gW g bb tx rw sb dy (va_up tn 1 (tn 1)) mo jk) := by simpa only [up_self] using hG
  unfold F_X5_nerves at hE
  refine lv_aload_n hx hb dX5_nerves_0 rfl (lv_at hl 0 rfl) ?_
  refine lv_iload_n hx hb dX5_nerves_1 rfl (lv_at hl 1 rfl) ?_
  refine lv_iload_n hx hb dX5_nerves_2 rfl (lv_at hl 2 rfl) ?_
  refine lv_iload_n hx hb dX5_nerves_3 rfl (lv_at hl 3 rfl) ?_
  refine g_ci (g_runV (n := 3) (rest := []) hx hb hml hown hts hG (c_X5_refusalOfToldAbout p1 p2 p3) tw_ml_RX5_211 tw_im_X5_refusalOfToldAbout tw_se_X5_refusalOfToldAbout tw_in_RX5 tw_cd_X5_refusalOfToldAbout (by decide +kernel) ⟨rfl, rfl, Nat.le_of_ble_eq_true rfl, Nat.le_of_ble_eq_true rfl⟩ gw_Bell rfl rfl hl.1 rfl (Nat.le_of_ble_eq_true rfl) dX5_nerves_4 ⟨Nat.le_refl _, Nat.le_refl _⟩) hG hA (fun r _ H locs hp hG => ?_)
  subst hp
  replace hG : gS g A s H locs (gW g bb tx rw sb dy (va_up tn 1 (tn 1)) mo jk) := hG
  refine lv_istore (lv' := [(4, .int (F_X5_refusalOfToldAbout rw (va_up tn 1 (tn 1)) p1 p2 p3)), (0, .ref (gA g 0)), (1, .int p1), (2, .int p2), (3, .int p3)]) hx hb dX5_nerves_7 hl (by decide) rfl (fun ls hl => ?_)
  replace hl := lv_sub hl [1, 2, 3, 4, 0] (l' := [(0, .ref (gA g 0)), (1, .int p1), (2, .int p2), (3, .int p3), (4, .int (F_X5_refusalOfToldAbout rw (va_up tn 1 (tn 1)) p1 p2 p3))]) rfl
  refine lv_iload hx hb dX5_nerves_9 (lv_at hl 4 rfl) ?_
  refine lv_if_eq (tgt := 17) hx hb dX5_nerves_11 (by decide) (fun c_11 => ?_) (fun c_11 => ?_)
  · replace hE := (if_pos c_11).symm.trans hE
    have i_11 := refusalA_f c_11
    refine lv_iconst (v := 0) hx hb dX5_nerves_17 (by decide) ?_
    refine lv_istore (lv' := [(5, .int 0), (0, .ref (gA g 0)), (1, .int p1), (2, .int p2), (3, .int p3), (4, .int (F_X5_refusalOfToldAbout rw (va_up tn 1 (tn 1)) p1 p2 p3))]) hx hb dX5_nerves_18 hl (by decide) rfl (fun ls hl => ?_)
    replace hl := lv_sub hl [1, 2, 3, 4, 5, 0] (l' := [(0, .ref (gA g 0)), (1, .int p1), (2, .int p2), (3, .int p3), (4, .int (F_X5_refusalOfToldAbout rw (va_up tn 1 (tn 1)) p1 p2 p3)), (5, .int 0)]) rfl
    refine lv_iconst (v := (-1)) hx hb dX5_nerves_20 (by decide) ?_
    refine lv_istore (lv' := [(6, .int (-1)), (0, .ref (gA g 0)), (1, .int p1), (2, .int p2), (3, .int p3), (4, .int (F_X5_refusalOfToldAbout rw (va_up tn 1 (tn 1)) p1 p2 p3)), (5, .int 0)]) hx hb dX5_nerves_21 hl (by decide) rfl (fun ls hl => ?_)
    replace hl := lv_sub hl [1, 2, 3, 4, 5, 6, 0] (l' := [(0, .ref (gA g 0)), (1, .int p1), (2, .int p2), (3, .int p3), (4, .int (F_X5_refusalOfToldAbout rw (va_up tn 1 (tn 1)) p1 p2 p3)), (5, .int 0), (6, .int (-1))]) rfl
    refine lv_iconst (v := 0) hx hb dX5_nerves_23 (by decide) ?_
    refine lv_istore (lv' := [(7, .int 0), (0, .ref (gA g 0)), (1, .int p1), (2, .int p2), (3, .int p3), (4, .int (F_X5_refusalOfToldAbout rw (va_up tn 1 (tn 1)) p1 p2 p3)), (5, .int 0), (6, .int (-1))]) hx hb dX5_nerves_24 hl (by decide) rfl (fun ls hl => ?_)
    replace hl := lv_sub hl [1, 2, 3, 4, 5, 6, 7, 0] (l' := [(0, .ref (gA g 0)), (1, .int p1), (2, .int p2), (3, .int p3), (4, .int (F_X5_refusalOfToldAbout rw (va_up tn 1 (tn 1)) p1 p2 p3)), (5, .int 0), (6, .int (-1)), (7, .int 0)]) rfl
    have L26 : ∀ (n26 : Nat) (x5_26 : Int32) (x6_26 : Int32) (x7_26 : Int32) (t_m_26 : Ob) (jk : (Nat → Nat → Int32)) (H : Heap) (locs : List Loc), gS g A s H locs (gW g bb tx rw sb dy (va_up tn 1 t_m_26) mo jk) → ∀ ls : Array Slot, lv_has ls 9 [(0, .ref (gA g 0)), (1, .int p1), (2, .int p2), (3, .int p3), (5, .int x5_26), (6, .int x6_26), (7, .int x7_26)] → 0 ≤ x7_26.toInt → x7_26.toInt ≤ 100 → 100 < x7_26.toInt + n26 → F_X5_nerves_l26 n26  tx rw tn t_m_26 p1 p2 p3 x5_26 x6_26 x7_26 = EE → W p l e (rmL 9) s m [.ref (gA g 0), .int p1, .int p2, .int p3].toArray below meth c H locs 0 0 Q (F0 m 26 ls []) := by
      intro n26
      induction n26 with
      | zero =>
        intro x5_26 x6_26 x7_26 t_m_26 jk H locs hG ls hl h0_26 h1_26 hm_26 hE
        clear hE; omega
      | succ n26 ih26 =>
        intro x5_26 x6_26 x7_26 t_m_26 jk H locs hG ls hl h0_26 h1_26 hm_26 hE
        unfold F_X5_nerves_l26 at hE
        refine lv_iload hx hb dX5_nerves_26 (lv_at hl 6 rfl) ?_
        refine lv_bipush (v := 99) hx hb dX5_nerves_28 (by decide) ?_
        refine lv_icmp_gt (tgt := 83) hx hb dX5_nerves_30 (by decide) (fun c_30 => ?_) (fun c_30 => ?_)
        · replace hE := (if_pos c_30).symm.trans hE
          have i_30 : 99 < x7_26.toInt := i_lt.mp c_30
          refine lv_iload_n hx hb dX5_nerves_83 rfl (lv_at hl 3 rfl) ?_
          refine lv_if_ne (tgt := 92) hx hb dX5_nerves_84 (by decide) (fun c_84 => ?_) (fun c_84 => ?_)
          · replace hE := (if_neg c_84).symm.trans hE
            have i_84 : p3.toInt ≠ 0 := fun h => c_84 (Int32.toInt_inj.mp h)
            refine lv_iload hx hb dX5_nerves_92 (lv_at hl 5 rfl) ?_
            subst hQ
            exact g_iret hx hb hr hlocks hG ((t_m_26, jk) : Ob × (Nat → Nat → Int32)) rfl hE.symm dX5_nerves_94
          replace hE := (if_pos c_84).symm.trans hE
          have i_84 : p3.toInt = 0 := congrArg Int32.toInt c_84
          refine lv_iload hx hb dX5_nerves_87 (lv_at hl 4 rfl) ?_
          refine lv_goto (tgt := 94) hx hb dX5_nerves_89 (by decide) ?_
          subst hQ
          exact g_iret hx hb hr hlocks hG ((t_m_26, jk) : Ob × (Nat → Nat → Int32)) rfl hE.symm dX5_nerves_94
        replace hE := (if_neg c_30).symm.trans hE
        have i_30 : x7_26.toInt ≤ 99 := i_nlt c_30
        refine lv_aload_n hx hb dX5_nerves_33 rfl (lv_at hl 0 rfl) ?_
        refine g_cr (g_runV (n := 0) (rest := []) hx hb hml hown hts hG (c_X5_startThought hv.2.1) tw_ml_RX5_157 tw_im_X5_startThought tw_se_X5_startThought tw_in_RX5 tw_cd_X5_startThought (by decide +kernel) ⟨rfl, rfl, Nat.le_of_ble_eq_true rfl, Nat.le_of_ble_eq_true rfl⟩ gw_Bell rfl rfl hl.1 rfl (Nat.le_of_ble_eq_true rfl) dX5_nerves_34 ⟨Nat.le_refl _, Nat.le_refl _⟩) hG hA (fun u H locs hp hG => ?_)
        obtain ⟨t_m_34, rfl⟩ : ∃ z, z = u := ⟨u, rfl⟩
        replace hG : gS g A s H locs (gW g bb tx rw sb dy (va_up tn 1 t_m_34) mo jk) := by simpa only [up_up] using hG
        have hp_34 := hp
        rw [hp] at hE
        unfold F_X5_nerves_c34 at hE
        try dsimp only at hE
        have hv34 : tEv tx t_m_34 := tEv_st hp_34 hv
        refine lv_astore (lv' := [(8, .ref (gA g (40 + 6 * 1))), (0, .ref (gA g 0)), (1, .int p1), (2, .int p2), (3, .int p3), (5, .int x5_26), (6, .int x6_26), (7, .int x7_26)]) hx hb dX5_nerves_37 hl (by decide) rfl (fun ls hl => ?_)
        replace hl := lv_sub hl [1, 2, 3, 4, 5, 6, 7, 0] (l' := [(0, .ref (gA g 0)), (1, .int p1), (2, .int p2), (3, .int p3), (5, .int x5_26), (6, .int x6_26), (7, .int x7_26), (8, .ref (gA g (40 + 6 * 1)))]) rfl
        refine lv_aload hx hb dX5_nerves_39 (lv_at hl 7 rfl) ?_
        refine g_get hx hb hts hiX4 hown hG (gw_Town (o := 1) (by decide) (up_same _ _ _)) rfl 2 (by decide) (index := 214) tw_fl_RX5_214 (v := .ref (gA g (40 + 6 * 1 + 3))) rfl dX5_nerves_41 ?_
        refine lv_iload_n hx hb dX5_nerves_44 rfl (lv_at hl 2 rfl) ?_
        refine lv_iload hx hb dX5_nerves_45 (lv_at hl 6 rfl) ?_
        refine g_ist hx hb hG (gw_Town_a2 (o := 1) (by decide) (up_same _ _ _)) (vp_i (by clear hE; omega) (by clear hE; omega)) (gt_Town_a2 (o := 1) (by decide)) dX5_nerves_47 (fun H locs hG => ?_)
        refine lv_aload_n hx hb dX5_nerves_48 rfl (lv_at hl 0 rfl) ?_
        refine lv_iload_n hx hb dX5_nerves_49 rfl (lv_at hl 1 rfl) ?_
        refine lv_aload hx hb dX5_nerves_50 (lv_at hl 7 rfl) ?_
        refine g_ci (g_runV (n := 2) (rest := []) hx hb hml hown hts hG (c_X5_firstOtherwise (by decide) (up_same _ _ _) p1 hv34 (by clear hE; omega)) tw_ml_RX5_207 tw_im_X5_firstOtherwise tw_se_X5_firstOtherwise tw_in_RX5 tw_cd_X5_firstOtherwise (by decide +kernel) ⟨rfl, rfl, Nat.le_of_ble_eq_true rfl, Nat.le_of_ble_eq_true rfl⟩ gw_Bell rfl rfl hl.1 rfl (Nat.le_of_ble_eq_true rfl) dX5_nerves_52 ⟨Nat.le_refl _, Nat.le_refl _⟩) hG hA (fun r_52 u H locs hp hG => ?_)
        obtain ⟨t_m_52, jk⟩ := u
        replace hG : gS g A s H locs (gW g bb tx rw sb dy (va_up tn 1 t_m_52) mo jk) := by simpa only [up_up] using hG
        have hp_52 := hp
        rw [hp] at hE
        unfold F_X5_nerves_c52 at hE
        try dsimp only at hE
        refine lv_iconst (v := (-1)) hx hb dX5_nerves_55 (by decide) ?_
        have J77 : ∀ (x5_77 : Int32) (x6_77 : Int32) (jk : (Nat → Nat → Int32)) (H : Heap) (locs : List Loc), gS g A s H locs (gW g bb tx rw sb dy (va_up tn 1 t_m_52) mo jk) → ∀ ls : Array Slot, lv_has ls 9 [(0, .ref (gA g 0)), (1, .int p1), (2, .int p2), (3, .int p3), (5, .int x5_77), (6, .int x6_77), (7, .int x7_26)] → F_X5_nerves_b77  (F_X5_nerves_l26 n26 ) tx rw tn t_m_52 p1 p2 p3 x5_77 x6_77 x7_26 = EE → W p l e (rmL 9) s m [.ref (gA g 0), .int p1, .int p2, .int p3].toArray below meth c H locs 0 0 Q (F0 m 77 ls []) := by
          intro x5_77 x6_77 jk H locs hG ls hl  hE
          unfold F_X5_nerves_b77 at hE
          refine lv_iinc (v := (x7_26 + 1)) (lv' := [(7, .int (x7_26 + 1)), (0, .ref (gA g 0)), (1, .int p1), (2, .int p2), (3, .int p3), (5, .int x5_77), (6, .int x6_77)]) hx hb dX5_nerves_77 hl (k := 6) rfl rfl (by decide) rfl (fun ls hl => ?_)
          replace hl := lv_sub hl [1, 2, 3, 4, 5, 6, 0] (l' := [(0, .ref (gA g 0)), (1, .int p1), (2, .int p2), (3, .int p3), (5, .int x5_77), (6, .int x6_77), (7, .int (x7_26 + 1))]) rfl
          refine lv_goto (tgt := 26) hx hb dX5_nerves_80 (by decide) ?_
          have e1 : (x7_26 + 1).toInt = x7_26.toInt + 1 := addL (k := 1) (by decide +kernel) (by clear hE; omega) (by clear hE; omega)
          exact ih26 x5_77 x6_77 (x7_26 + 1) t_m_52 _ _ _ hG _ (lv_sub hl [0, 1, 2, 3, 4, 5, 6] rfl) (by clear hE; omega) (by clear hE; omega) (by clear hE; omega) hE
        refine lv_icmp_ne (tgt := 77) hx hb dX5_nerves_56 (by decide) (fun c_56 => ?_) (fun c_56 => ?_)
        · replace hE := (if_neg c_56).symm.trans hE
          have i_56 : r_52.toInt ≠ (-1) := fun h => c_56 (Int32.toInt_inj.mp h)
          exact J77 x5_26 x6_26 _ _ _ hG _ (lv_sub hl [0, 1, 2, 3, 4, 5, 6] rfl) hE
        replace hE := (if_pos c_56).symm.trans hE
        have i_56 : r_52.toInt = (-1) := congrArg Int32.toInt c_56
        refine lv_iinc (v := (x5_26 + 1)) (lv' := [(5, .int (x5_26 + 1)), (0, .ref (gA g 0)), (1, .int p1), (2, .int p2), (3, .int p3), (6, .int x6_26), (7, .int x7_26), (8, .ref (gA g (40 + 6 * 1)))]) hx hb dX5_nerves_59 hl (k := 4) rfl rfl (by decide) rfl (fun ls hl => ?_)
        replace hl := lv_sub hl [1, 2, 3, 4, 0, 5, 6, 7] (l' := [(0, .ref (gA g 0)), (1, .int p1), (2, .int p2), (3, .int p3), (5, .int (x5_26 + 1)), (6, .int x6_26), (7, .int x7_26), (8, .ref (gA g (40 + 6 * 1)))]) rfl
        refine lv_iload hx hb dX5_nerves_62 (lv_at hl 5 rfl) ?_
        refine lv_iconst (v := (-1)) hx hb dX5_nerves_64 (by decide) ?_
        have J75 : ∀ (z0_75 : Int32) (jk : (Nat → Nat → Int32)) (H : Heap) (locs : List Loc), gS g A s H locs (gW g bb tx rw sb dy (va_up tn 1 t_m_52) mo jk) → ∀ ls : Array Slot, lv_has ls 9 [(0, .ref (gA g 0)), (1, .int p1), (2, .int p2), (3, .int p3), (5, .int (x5_26 + 1)), (7, .int x7_26)] → F_X5_nerves_b75  (F_X5_nerves_l26 n26 ) tx rw tn t_m_52 p1 p2 p3 (x5_26 + 1) x7_26 z0_75 = EE → W p l e (rmL 9) s m [.ref (gA g 0), .int p1, .int p2, .int p3].toArray below meth c H locs 0 0 Q (F0 m 75 ls [.int z0_75]) := by
          intro z0_75 jk H locs hG ls hl  hE
          unfold F_X5_nerves_b75 at hE
          refine lv_istore (lv' := [(6, .int z0_75), (0, .ref (gA g 0)), (1, .int p1), (2, .int p2), (3, .int p3), (5, .int (x5_26 + 1)), (7, .int x7_26)]) hx hb dX5_nerves_75 hl (by decide) rfl (fun ls hl => ?_)
          replace hl := lv_sub hl [1, 2, 3, 4, 5, 0, 6] (l' := [(0, .ref (gA g 0)), (1, .int p1), (2, .int p2), (3, .int p3), (5, .int (x5_26 + 1)), (6, .int z0_75), (7, .int x7_26)]) rfl
          exact J77 (x5_26 + 1) z0_75 _ _ _ hG _ (lv_sub hl [0, 1, 2, 3, 4, 5, 6] rfl) hE
        refine lv_icmp_ne (tgt := 73) hx hb dX5_nerves_65 (by decide) (fun c_65 => ?_) (fun c_65 => ?_)
        · replace hE := (if_neg c_65).symm.trans hE
          have i_65 : x6_26.toInt ≠ (-1) := fun h => c_65 (Int32.toInt_inj.mp h)
          refine lv_iload hx hb dX5_nerves_73 (lv_at hl 5 rfl) ?_
          exact J75 x6_26 _ _ _ hG _ (lv_sub hl [0, 1, 2, 3, 4, 6] rfl) hE
        replace hE := (if_pos c_65).symm.trans hE
        have i_65 : x6_26.toInt = (-1) := congrArg Int32.toInt c_65
        refine lv_iload hx hb dX5_nerves_68 (lv_at hl 6 rfl) ?_
        refine lv_goto (tgt := 75) hx hb dX5_nerves_70 (by decide) ?_
        exact J75 x7_26 _ _ _ hG _ (lv_sub hl [0, 1, 2, 3, 4, 6] rfl) hE
    exact L26 101 0 (-1) 0 (tn 1) _ _ _ hG _ (lv_sub hl [0, 1, 2, 3, 5, 6, 7] rfl) (by decide) (by decide) (by decide) hE
  replace hE := (if_neg c_11).symm.trans hE
  refine lv_iload hx hb dX5_nerves_14 (lv_at hl 4 rfl) ?_
  subst hQ
  exact g_iret hx hb hr hlocks hG (((tn 1), jk) : Ob × (Nat → Nat → Int32)) rfl hE.symm dX5_nerves_16
def F_X5_turned_b60 (K17 : (Nat → Ob) → (Nat → Ob) → (Nat → Ob) → Ob → Int32 → Int32 → Int32 → Int32 × Ob) (tx : Nat → Ob) (rw : Nat → Ob) (tn : Nat → Ob) (t_m : Ob) (x1 : Int32) (x3 : Int32) (x4 : Int32) : Int32 × Ob :=
  (K17 tx rw tn t_m x1 x3 (x4 + 1))
def F_X5_turned_c46 (K17 : (Nat → Ob) → (Nat → Ob) → (Nat → Ob) → Ob → Int32 → Int32 → Int32 → Int32 × Ob) (u : Int32 × Ob) (tx : Nat → Ob) (rw : Nat → Ob) (tn : Nat → Ob) (x1 : Int32) (x3 : Int32) (x4 : Int32) : Int32 × Ob :=
  (if u.1 = (-1) then (F_X5_turned_b60 K17 tx rw tn u.2 x1 (x3 ||| (1 <<< (x4 &&& 31))) x4) else (F_X5_turned_b60 K17 tx rw tn u.2 x1 x3 x4))
def F_X5_turned_c39 (K17 : (Nat → Ob) → (Nat → Ob) → (Nat → Ob) → Ob → Int32 → Int32 → Int32 → Int32 × Ob) (u : Ob) (tx : Nat → Ob) (rw : Nat → Ob) (tn : Nat → Ob) (x1 : Int32) (x3 : Int32) (x4 : Int32) : Int32 × Ob :=
  (F_X5_turned_c46 K17 (F_X5_firstOtherwise tx rw u x1) tx rw tn x1 x3 x4)
def F_X5_turned_c30 (K17 : (Nat → Ob) → (Nat → Ob) → (Nat → Ob) → Ob → Int32 → Int32 → Int32 → Int32 × Ob) (u : Ob) (tx : Nat → Ob) (rw : Nat → Ob) (tn : Nat → Ob) (x1 : Int32) (x3 : Int32) (x4 : Int32) : Int32 × Ob :=
  (F_X5_turned_c39 K17 (F_X4_turnVow u x4) tx rw tn x1 x3 x4)
def F_X5_turned_l17 : Nat → (Nat → Ob) → (Nat → Ob) → (Nat → Ob) → Ob → Int32 → Int32 → Int32 → Int32 × Ob
  | 0, _, _, _, t_m, _, _, _ => (0, t_m)
  | n + 1, tx, rw, tn, t_m, x1, x3, x4 =>
    (if ((tn 0).1 6) ≤ x4 then (x3, t_m) else (F_X5_turned_c30 (F_X5_turned_l17 n ) (F_X5_startThought (va_up tn 1 t_m)) tx rw tn x1 x3 x4))
def F_X5_turned (tx : Nat → Ob) (rw : Nat → Ob) (tn : Nat → Ob) (p1 : Int32) : Int32 × Ob :=
  (if (F_X5_refusalOfTold rw p1) = 0 then (F_X5_turned_l17 7  tx rw tn (tn 1) p1 0 0) else ((F_X5_refusalOfTold rw p1), (tn 1)))
set_option maxHeartbeats 4000000 in
set_option maxRecDepth 100000 in
theorem c_X5_turned {l : Launch} {g : GG} {sz : Nat} {bb : Ob} {tx rw : Nat → Ob} {sb dy : Ob} {tn : Nat → Ob} {mo : Ob} {jk : Nat → Nat → Int32}  (p1 : Int32) (hv : tEv tx (tn 0)) : Met l yX5_turned (Cond.code yX5_turned cX5_turned 6 (some .int) :: TT) (rmL 9) (va_Pc [.ref (gA g 0), .int p1] (gB g sz (gW g bb tx rw sb dy tn mo jk))) (va_Qi (fun r (u : Ob × (Nat → Nat → Int32)) => (F_X5_turned tx rw tn p1) = (r, u.1)) (fun u t => gC g (va_A (gW g bb tx rw sb dy tn mo jk) sz) (gW g bb tx rw sb dy (va_up tn 1 u.1) mo u.2) t) (va_A (gW g bb tx rw sb dy tn mo jk) sz)) 0 0 (va_A (gW g bb tx rw sb dy tn mo jk) sz) := by
  generalize hE : F_X5_turned tx rw tn p1 = EE
  refine g_of (Qf := fun A => (va_Qi (fun r (u : Ob × (Nat → Nat → Int32)) => EE = (r, u.1)) (fun u t => gC g A (gW g bb tx rw sb dy (va_up tn 1 u.1) mo u.2) t) A)) (cc := cX5_turned) (maxL := 6) (ret := (some .int)) (by decide) (Nat.le_of_ble_eq_true rfl) ?_
  intro p e s m below meth c A ls hx hb hml hr hlocks hts hown hA hG hl
  replace hown : s.vm.findClass RX5 = some m.cls := hown
  replace hl : lv_has ls 6 [(0, .ref (gA g 0)), (1, .int p1)] := hl
  show W p l e (rmL 9) s m [.ref (gA g 0), .int p1].toArray below meth c s.heap [] 0 0 (MQ below (va_Qi (fun r (u : Ob × (Nat → Nat → Int32)) => EE = (r, u.1)) (fun u t => gC g A (gW g bb tx rw sb dy (va_up tn 1 u.1) mo u.2) t) A) [.ref (gA g 0), .int p1].toArray s 0 0 A) (F0 m 0 ls [])
  generalize hQ : MQ below (va_Qi (fun r (u : Ob × (Nat → Nat → Int32)) => EE = (r, u.1)) (fun u t => gC g A (gW g bb tx rw sb dy (va_up tn 1 u.1) mo u.2) t) A) [.ref (gA g 0), .int p1].toArray s 0 0 A = Q
  replace hG : gS g A s s.heap [] (gW g bb tx rw sb dy (va_up tn 1 (tn 1)) mo jk) := by simpa only [up_self] using hG
  have hpo := hv.1
  unfold F_X5_turned at hE
  refine lv_aload_n hx hb dX5_turned_0 rfl (lv_at hl 0 rfl) ?_
  refine lv_iload_n hx hb dX5_turned_1 rfl (lv_at hl 1 rfl) ?_
  refine g_ci (g_runV (n := 1) (rest := []) hx hb hml hown hts hG (c_X5_refusalOfTold p1) tw_ml_RX5_204 tw_im_X5_refusalOfTold tw_se_X5_refusalOfTold tw_in_RX5 tw_cd_X5_refusalOfTold (by decide +kernel) ⟨rfl, rfl, Nat.le_of_ble_eq_true rfl, Nat.le_of_ble_eq_true rfl⟩ gw_Bell rfl rfl hl.1 rfl (Nat.le_of_ble_eq_true rfl) dX5_turned_2 ⟨Nat.le_refl _, Nat.le_refl _⟩) hG hA (fun r _ H locs hp hG => ?_)
  subst hp
  replace hG : gS g A s H locs (gW g bb tx rw sb dy (va_up tn 1 (tn 1)) mo jk) := hG
  refine lv_istore_n (lv' := [(2, .int (F_X5_refusalOfTold rw p1)), (0, .ref (gA g 0)), (1, .int p1)]) hx hb dX5_turned_5 rfl hl (by decide) rfl (fun ls hl => ?_)
  replace hl := lv_sub hl [1, 2, 0] (l' := [(0, .ref (gA g 0)), (1, .int p1), (2, .int (F_X5_refusalOfTold rw p1))]) rfl
  refine lv_iload_n hx hb dX5_turned_6 rfl (lv_at hl 2 rfl) ?_
  refine lv_if_eq (tgt := 12) hx hb dX5_turned_7 (by decide) (fun c_7 => ?_) (fun c_7 => ?_)
  · replace hE := (if_pos c_7).symm.trans hE
    have i_7 := refusal_f c_7
    refine lv_iconst (v := 0) hx hb dX5_turned_12 (by decide) ?_
    refine lv_istore_n (lv' := [(3, .int 0), (0, .ref (gA g 0)), (1, .int p1), (2, .int (F_X5_refusalOfTold rw p1))]) hx hb dX5_turned_13 rfl hl (by decide) rfl (fun ls hl => ?_)
    replace hl := lv_sub hl [1, 2, 3, 0] (l' := [(0, .ref (gA g 0)), (1, .int p1), (2, .int (F_X5_refusalOfTold rw p1)), (3, .int 0)]) rfl
    refine lv_iconst (v := 0) hx hb dX5_turned_14 (by decide) ?_
    refine lv_istore (lv' := [(4, .int 0), (0, .ref (gA g 0)), (1, .int p1), (2, .int (F_X5_refusalOfTold rw p1)), (3, .int 0)]) hx hb dX5_turned_15 hl (by decide) rfl (fun ls hl => ?_)
    replace hl := lv_sub hl [1, 2, 3, 4, 0] (l' := [(0, .ref (gA g 0)), (1, .int p1), (2, .int (F_X5_refusalOfTold rw p1)), (3, .int 0), (4, .int 0)]) rfl
    have L17 : ∀ (n17 : Nat) (x3_17 : Int32) (x4_17 : Int32) (t_m_17 : Ob) (jk : (Nat → Nat → Int32)) (H : Heap) (locs : List Loc), gS g A s H locs (gW g bb tx rw sb dy (va_up tn 1 t_m_17) mo jk) → ∀ ls : Array Slot, lv_has ls 6 [(0, .ref (gA g 0)), (1, .int p1), (3, .int x3_17), (4, .int x4_17)] → 0 ≤ x4_17.toInt → x4_17.toInt ≤ 6 → 6 < x4_17.toInt + n17 → F_X5_turned_l17 n17  tx rw tn t_m_17 p1 x3_17 x4_17 = EE → W p l e (rmL 9) s m [.ref (gA g 0), .int p1].toArray below meth c H locs 0 0 Q (F0 m 17 ls []) := by
      intro n17
      induction n17 with
      | zero =>
        intro x3_17 x4_17 t_m_17 jk H locs hG ls hl h0_17 h1_17 hm_17 hE
        clear hE; omega
      | succ n17 ih17 =>
        intro x3_17 x4_17 t_m_17 jk H locs hG ls hl h0_17 h1_17 hm_17 hE
        unfold F_X5_turned_l17 at hE
        refine lv_iload hx hb dX5_turned_17 (lv_at hl 3 rfl) ?_
        refine lv_aload_n hx hb dX5_turned_19 rfl (lv_at hl 0 rfl) ?_
        refine g_get hx hb hts hiX5 hown hG gw_Bell rfl 4 (by decide) (index := 53) tw_fl_RX5_53 (v := .ref (gA g (40 + 6 * 0))) rfl dX5_turned_20 ?_
        refine g_get hx hb hts hiX4 hown hG (gw_Town (o := 0) (by decide) (show _ = (tn 0) from rfl)) rfl 6 (by decide) (index := 63) tw_fl_RX5_63 (v := .int ((tn 0).1 6)) rfl dX5_turned_23 ?_
        refine lv_icmp_ge (tgt := 66) hx hb dX5_turned_26 (by decide) (fun c_26 => ?_) (fun c_26 => ?_)
        · replace hE := (if_pos c_26).symm.trans hE
          have i_26 : ((tn 0).1 6).toInt ≤ x4_17.toInt := i_le.mp c_26
          refine lv_iload_n hx hb dX5_turned_66 rfl (lv_at hl 2 rfl) ?_
          subst hQ
          exact g_iret hx hb hr hlocks hG ((t_m_17, jk) : Ob × (Nat → Nat → Int32)) rfl hE.symm dX5_turned_67
        replace hE := (if_neg c_26).symm.trans hE
        have i_26 : x4_17.toInt < ((tn 0).1 6).toInt := i_nle c_26
        refine lv_aload_n hx hb dX5_turned_29 rfl (lv_at hl 0 rfl) ?_
        refine g_cr (g_runV (n := 0) (rest := []) hx hb hml hown hts hG (c_X5_startThought hv.2.1) tw_ml_RX5_157 tw_im_X5_startThought tw_se_X5_startThought tw_in_RX5 tw_cd_X5_startThought (by decide +kernel) ⟨rfl, rfl, Nat.le_of_ble_eq_true rfl, Nat.le_of_ble_eq_true rfl⟩ gw_Bell rfl rfl hl.1 rfl (Nat.le_of_ble_eq_true rfl) dX5_turned_30 ⟨Nat.le_refl _, Nat.le_refl _⟩) hG hA (fun u H locs hp hG => ?_)
        obtain ⟨t_m_30, rfl⟩ : ∃ z, z = u := ⟨u, rfl⟩
        replace hG : gS g A s H locs (gW g bb tx rw sb dy (va_up tn 1 t_m_30) mo jk) := by simpa only [up_up] using hG
        have hp_30 := hp
        rw [hp] at hE
        unfold F_X5_turned_c30 at hE
        try dsimp only at hE
        have hv30 : tEv tx t_m_30 := tEv_st hp_30 hv
        refine lv_astore (lv' := [(5, .ref (gA g (40 + 6 * 1))), (0, .ref (gA g 0)), (1, .int p1), (3, .int x3_17), (4, .int x4_17)]) hx hb dX5_turned_33 hl (by decide) rfl (fun ls hl => ?_)
        replace hl := lv_sub hl [1, 2, 3, 4, 0] (l' := [(0, .ref (gA g 0)), (1, .int p1), (3, .int x3_17), (4, .int x4_17), (5, .ref (gA g (40 + 6 * 1)))]) rfl
        refine lv_aload hx hb dX5_turned_35 (lv_at hl 4 rfl) ?_
        refine lv_iload hx hb dX5_turned_37 (lv_at hl 3 rfl) ?_
        refine g_cv (g_runV (n := 1) (rest := []) hx hb hml hown hts hG (c_X4_turnVow (by decide) (up_same _ _ _) x4_17) tw_ml_RX5_183 tw_im_X4_turnVow tw_se_X4_turnVow tw_in_RX4 tw_cd_X4_turnVow (by decide +kernel) ⟨rfl, rfl, Nat.le_of_ble_eq_true rfl, Nat.le_of_ble_eq_true rfl⟩ (gw_Town (o := 1) (by decide) (up_same _ _ _)) rfl rfl hl.1 rfl (Nat.le_of_ble_eq_true rfl) dX5_turned_39 ⟨Nat.le_refl _, Nat.le_refl _⟩) hG hA (fun u H locs hp hG => ?_)
        obtain ⟨t_m_39, rfl⟩ : ∃ z, z = u := ⟨u, rfl⟩
        replace hG : gS g A s H locs (gW g bb tx rw sb dy (va_up tn 1 t_m_39) mo jk) := by simpa only [up_up] using hG
        have hp_39 := hp
        rw [hp] at hE
        unfold F_X5_turned_c39 at hE
        try dsimp only at hE
        have hv39 : tEv tx t_m_39 := tEv_tv hp_39 hv30
        refine lv_aload_n hx hb dX5_turned_42 rfl (lv_at hl 0 rfl) ?_
        refine lv_iload_n hx hb dX5_turned_43 rfl (lv_at hl 1 rfl) ?_
        refine lv_aload hx hb dX5_turned_44 (lv_at hl 4 rfl) ?_
        refine g_ci (g_runV (n := 2) (rest := []) hx hb hml hown hts hG (c_X5_firstOtherwise (by decide) (up_same _ _ _) p1 hv39 (by clear hE; omega)) tw_ml_RX5_207 tw_im_X5_firstOtherwise tw_se_X5_firstOtherwise tw_in_RX5 tw_cd_X5_firstOtherwise (by decide +kernel) ⟨rfl, rfl, Nat.le_of_ble_eq_true rfl, Nat.le_of_ble_eq_true rfl⟩ gw_Bell rfl rfl hl.1 rfl (Nat.le_of_ble_eq_true rfl) dX5_turned_46 ⟨Nat.le_refl _, Nat.le_refl _⟩) hG hA (fun r_46 u H locs hp hG => ?_)
        obtain ⟨t_m_46, jk⟩ := u
        replace hG : gS g A s H locs (gW g bb tx rw sb dy (va_up tn 1 t_m_46) mo jk) := by simpa only [up_up] using hG
        have hp_46 := hp
        rw [hp] at hE
        unfold F_X5_turned_c46 at hE
        try dsimp only at hE
        refine lv_iconst (v := (-1)) hx hb dX5_turned_49 (by decide) ?_
        have J60 : ∀ (x3_60 : Int32) (jk : (Nat → Nat → Int32)) (H : Heap) (locs : List Loc), gS g A s H locs (gW g bb tx rw sb dy (va_up tn 1 t_m_46) mo jk) → ∀ ls : Array Slot, lv_has ls 6 [(0, .ref (gA g 0)), (1, .int p1), (3, .int x3_60), (4, .int x4_17)] → F_X5_turned_b60  (F_X5_turned_l17 n17 ) tx rw tn t_m_46 p1 x3_60 x4_17 = EE → W p l e (rmL 9) s m [.ref (gA g 0), .int p1].toArray below meth c H locs 0 0 Q (F0 m 60 ls []) := by
          intro x3_60 jk H locs hG ls hl  hE
          unfold F_X5_turned_b60 at hE
          refine lv_iinc (v := (x4_17 + 1)) (lv' := [(4, .int (x4_17 + 1)), (0, .ref (gA g 0)), (1, .int p1), (3, .int x3_60)]) hx hb dX5_turned_60 hl (k := 3) rfl rfl (by decide) rfl (fun ls hl => ?_)
          replace hl := lv_sub hl [1, 2, 3, 0] (l' := [(0, .ref (gA g 0)), (1, .int p1), (3, .int x3_60), (4, .int (x4_17 + 1))]) rfl
          refine lv_goto (tgt := 17) hx hb dX5_turned_63 (by decide) ?_
          have e1 : (x4_17 + 1).toInt = x4_17.toInt + 1 := addL (k := 1) (by decide +kernel) (by clear hE; omega) (by clear hE; omega)
          exact ih17 x3_60 (x4_17 + 1) t_m_46 _ _ _ hG _ (lv_sub hl [0, 1, 2, 3] rfl) (by clear hE; omega) (by clear hE; omega) (by clear hE; omega) hE
        refine lv_icmp_ne (tgt := 60) hx hb dX5_turned_50 (by decide) (fun c_50 => ?_) (fun c_50 => ?_)
        · replace hE := (if_neg c_50).symm.trans hE
          have i_50 : r_46.toInt ≠ (-1) := fun h => c_50 (Int32.toInt_inj.mp h)
          exact J60 x3_17 _ _ _ hG _ (lv_sub hl [0, 1, 2, 3] rfl) hE
        replace hE := (if_pos c_50).symm.trans hE
        have i_50 : r_46.toInt = (-1) := congrArg Int32.toInt c_50
        refine lv_iload_n hx hb dX5_turned_53 rfl (lv_at hl 2 rfl) ?_
        refine lv_iconst (v := 1) hx hb dX5_turned_54 (by decide) ?_
        refine lv_iload hx hb dX5_turned_55 (lv_at hl 3 rfl) ?_
        refine lv_ishl hx hb dX5_turned_57 ?_
        refine lv_ior hx hb dX5_turned_58 ?_
        refine lv_istore_n (lv' := [(3, .int (x3_17 ||| (1 <<< (x4_17 &&& 31)))), (0, .ref (gA g 0)), (1, .int p1), (4, .int x4_17), (5, .ref (gA g (40 + 6 * 1)))]) hx hb dX5_turned_59 rfl hl (by decide) rfl (fun ls hl => ?_)
        replace hl := lv_sub hl [1, 2, 0, 3, 4] (l' := [(0, .ref (gA g 0)), (1, .int p1), (3, .int (x3_17 ||| (1 <<< (x4_17 &&& 31)))), (4, .int x4_17), (5, .ref (gA g (40 + 6 * 1)))]) rfl
        exact J60 (x3_17 ||| (1 <<< (x4_17 &&& 31))) _ _ _ hG _ (lv_sub hl [0, 1, 2, 3] rfl) hE
    exact L17 7 0 0 (tn 1) _ _ _ hG _ (lv_sub hl [0, 1, 3, 4] rfl) (by decide) (by decide) (by decide) hE
  replace hE := (if_neg c_7).symm.trans hE
  refine lv_iload_n hx hb dX5_turned_10 rfl (lv_at hl 2 rfl) ?_
  subst hQ
  exact g_iret hx hb hr hlocks hG (((tn 1), jk) : Ob × (Nat → Nat → Int32)) rfl hE.symm dX5_turned_11
def F_X5_hours_b55 (K17 : (Nat → Ob) → (Nat → Ob) → (Nat → Ob) → Ob → Int32 → Int32 → Int32 → Int32 × Ob) (tx : Nat → Ob) (rw : Nat → Ob) (tn : Nat → Ob) (t_m : Ob) (x1 : Int32) (x3 : Int32) (x4 : Int32) : Int32 × Ob :=
  (K17 tx rw tn t_m x1 x3 (x4 + 1))
def F_X5_hours_c41 (K17 : (Nat → Ob) → (Nat → Ob) → (Nat → Ob) → Ob → Int32 → Int32 → Int32 → Int32 × Ob) (u : Int32 × Ob) (tx : Nat → Ob) (rw : Nat → Ob) (tn : Nat → Ob) (x1 : Int32) (x3 : Int32) (x4 : Int32) : Int32 × Ob :=
  (if u.1 = (-1) then (F_X5_hours_b55 K17 tx rw tn u.2 x1 (x3 ||| (1 <<< (x4 &&& 31))) x4) else (F_X5_hours_b55 K17 tx rw tn u.2 x1 x3 x4))
def F_X5_hours_c25 (K17 : (Nat → Ob) → (Nat → Ob) → (Nat → Ob) → Ob → Int32 → Int32 → Int32 → Int32 × Ob) (u : Ob) (tx : Nat → Ob) (rw : Nat → Ob) (tn : Nat → Ob) (x1 : Int32) (x3 : Int32) (x4 : Int32) : Int32 × Ob :=
  (F_X5_hours_c41 K17 (F_X5_firstOtherwise tx rw (setS u 7 x4) x1) tx rw tn x1 x3 x4)
def F_X5_hours_l17 : Nat → (Nat → Ob) → (Nat → Ob) → (Nat → Ob) → Ob → Int32 → Int32 → Int32 → Int32 × Ob
  | 0, _, _, _, t_m, _, _, _ => (0, t_m)
  | n + 1, tx, rw, tn, t_m, x1, x3, x4 =>
    (if 24 ≤ x4 then (x3, t_m) else (F_X5_hours_c25 (F_X5_hours_l17 n ) (F_X5_startThought (va_up tn 1 t_m)) tx rw tn x1 x3 x4))
def F_X5_hours (tx : Nat → Ob) (rw : Nat → Ob) (tn : Nat → Ob) (p1 : Int32) : Int32 × Ob :=
  (if (F_X5_refusalOfTold rw p1) = 0 then (F_X5_hours_l17 25  tx rw tn (tn 1) p1 0 0) else ((F_X5_refusalOfTold rw p1), (tn 1)))
set_option maxHeartbeats 4000000 in
set_option maxRecDepth 100000 in
theorem c_X5_hours {l : Launch} {g : GG} {sz : Nat} {bb : Ob} {tx rw : Nat → Ob} {sb dy : Ob} {tn : Nat → Ob} {mo : Ob} {jk : Nat → Nat → Int32}  (p1 : Int32) (hv : tEv tx (tn 0)) : Met l yX5_hours (Cond.code yX5_hours cX5_hours 6 (some .int) :: TT) (rmL 9) (va_Pc [.ref (gA g 0), .int p1] (gB g sz (gW g bb tx rw sb dy tn mo jk))) (va_Qi (fun r (u : Ob × (Nat → Nat → Int32)) => (F_X5_hours tx rw tn p1) = (r, u.1)) (fun u t => gC g (va_A (gW g bb tx rw sb dy tn mo jk) sz) (gW g bb tx rw sb dy (va_up tn 1 u.1) mo u.2) t) (va_A (gW g bb tx rw sb dy tn mo jk) sz)) 0 0 (va_A (gW g bb tx rw sb dy tn mo jk) sz) := by
  generalize hE : F_X5_hours tx rw tn p1 = EE
  refine g_of (Qf := fun A => (va_Qi (fun r (u : Ob × (Nat → Nat → Int32)) => EE = (r, u.1)) (fun u t => gC g A (gW g bb tx rw sb dy (va_up tn 1 u.1) mo u.2) t) A)) (cc := cX5_hours) (maxL := 6) (ret := (some .int)) (by decide) (Nat.le_of_ble_eq_true rfl) ?_
  intro p e s m below meth c A ls hx hb hml hr hlocks hts hown hA hG hl
  replace hown : s.vm.findClass RX5 = some m.cls := hown
  replace hl : lv_has ls 6 [(0, .ref (gA g 0)), (1, .int p1)] := hl
  show W p l e (rmL 9) s m [.ref (gA g 0), .int p1].toArray below meth c s.heap [] 0 0 (MQ below (va_Qi (fun r (u : Ob × (Nat → Nat → Int32)) => EE = (r, u.1)) (fun u t => gC g A (gW g bb tx rw sb dy (va_up tn 1 u.1) mo u.2) t) A) [.ref (gA g 0), .int p1].toArray s 0 0 A) (F0 m 0 ls [])
  generalize hQ : MQ below (va_Qi (fun r (u : Ob × (Nat → Nat → Int32)) => EE = (r, u.1)) (fun u t => gC g A (gW g bb tx rw sb dy (va_up tn 1 u.1) mo u.2) t) A) [.ref (gA g 0), .int p1].toArray s 0 0 A = Q
  replace hG : gS g A s s.heap [] (gW g bb tx rw sb dy (va_up tn 1 (tn 1)) mo jk) := by simpa only [up_self] using hG
  unfold F_X5_hours at hE
  refine lv_aload_n hx hb dX5_hours_0 rfl (lv_at hl 0 rfl) ?_
  refine lv_iload_n hx hb dX5_hours_1 rfl (lv_at hl 1 rfl) ?_
  refine g_ci (g_runV (n := 1) (rest := []) hx hb hml hown hts hG (c_X5_refusalOfTold p1) tw_ml_RX5_204 tw_im_X5_refusalOfTold tw_se_X5_refusalOfTold tw_in_RX5 tw_cd_X5_refusalOfTold (by decide +kernel) ⟨rfl, rfl, Nat.le_of_ble_eq_true rfl, Nat.le_of_ble_eq_true rfl⟩ gw_Bell rfl rfl hl.1 rfl (Nat.le_of_ble_eq_true rfl) dX5_hours_2 ⟨Nat.le_refl _, Nat.le_refl _⟩) hG hA (fun r _ H locs hp hG => ?_)
  subst hp
  replace hG : gS g A s H locs (gW g bb tx rw sb dy (va_up tn 1 (tn 1)) mo jk) := hG
  refine lv_istore_n (lv' := [(2, .int (F_X5_refusalOfTold rw p1)), (0, .ref (gA g 0)), (1, .int p1)]) hx hb dX5_hours_5 rfl hl (by decide) rfl (fun ls hl => ?_)
  replace hl := lv_sub hl [1, 2, 0] (l' := [(0, .ref (gA g 0)), (1, .int p1), (2, .int (F_X5_refusalOfTold rw p1))]) rfl
  refine lv_iload_n hx hb dX5_hours_6 rfl (lv_at hl 2 rfl) ?_
  refine lv_if_eq (tgt := 12) hx hb dX5_hours_7 (by decide) (fun c_7 => ?_) (fun c_7 => ?_)
  · replace hE := (if_pos c_7).symm.trans hE
    have i_7 := refusal_f c_7
    refine lv_iconst (v := 0) hx hb dX5_hours_12 (by decide) ?_
    refine lv_istore_n (lv' := [(3, .int 0), (0, .ref (gA g 0)), (1, .int p1), (2, .int (F_X5_refusalOfTold rw p1))]) hx hb dX5_hours_13 rfl hl (by decide) rfl (fun ls hl => ?_)
    replace hl := lv_sub hl [1, 2, 3, 0] (l' := [(0, .ref (gA g 0)), (1, .int p1), (2, .int (F_X5_refusalOfTold rw p1)), (3, .int 0)]) rfl
    refine lv_iconst (v := 0) hx hb dX5_hours_14 (by decide) ?_
    refine lv_istore (lv' := [(4, .int 0), (0, .ref (gA g 0)), (1, .int p1), (2, .int (F_X5_refusalOfTold rw p1)), (3, .int 0)]) hx hb dX5_hours_15 hl (by decide) rfl (fun ls hl => ?_)
    replace hl := lv_sub hl [1, 2, 3, 4, 0] (l' := [(0, .ref (gA g 0)), (1, .int p1), (2, .int (F_X5_refusalOfTold rw p1)), (3, .int 0), (4, .int 0)]) rfl
    have L17 : ∀ (n17 : Nat) (x3_17 : Int32) (x4_17 : Int32) (t_m_17 : Ob) (jk : (Nat → Nat → Int32)) (H : Heap) (locs : List Loc), gS g A s H locs (gW g bb tx rw sb dy (va_up tn 1 t_m_17) mo jk) → ∀ ls : Array Slot, lv_has ls 6 [(0, .ref (gA g 0)), (1, .int p1), (3, .int x3_17), (4, .int x4_17)] → 0 ≤ x4_17.toInt → x4_17.toInt ≤ 24 → 24 < x4_17.toInt + n17 → F_X5_hours_l17 n17  tx rw tn t_m_17 p1 x3_17 x4_17 = EE → W p l e (rmL 9) s m [.ref (gA g 0), .int p1].toArray below meth c H locs 0 0 Q (F0 m 17 ls []) := by
      intro n17
      induction n17 with
      | zero =>
        intro x3_17 x4_17 t_m_17 jk H locs hG ls hl h0_17 h1_17 hm_17 hE
        clear hE; omega
      | succ n17 ih17 =>
        intro x3_17 x4_17 t_m_17 jk H locs hG ls hl h0_17 h1_17 hm_17 hE
        unfold F_X5_hours_l17 at hE
        refine lv_iload hx hb dX5_hours_17 (lv_at hl 3 rfl) ?_
        refine lv_bipush (v := 24) hx hb dX5_hours_19 (by decide) ?_
        refine lv_icmp_ge (tgt := 61) hx hb dX5_hours_21 (by decide) (fun c_21 => ?_) (fun c_21 => ?_)
        · replace hE := (if_pos c_21).symm.trans hE
          have i_21 : 24 ≤ x4_17.toInt := i_le.mp c_21
          refine lv_iload_n hx hb dX5_hours_61 rfl (lv_at hl 2 rfl) ?_
          subst hQ
          exact g_iret hx hb hr hlocks hG ((t_m_17, jk) : Ob × (Nat → Nat → Int32)) rfl hE.symm dX5_hours_62
        replace hE := (if_neg c_21).symm.trans hE
        have i_21 : x4_17.toInt < 24 := i_nle c_21
        refine lv_aload_n hx hb dX5_hours_24 rfl (lv_at hl 0 rfl) ?_
        refine g_cr (g_runV (n := 0) (rest := []) hx hb hml hown hts hG (c_X5_startThought hv.2.1) tw_ml_RX5_157 tw_im_X5_startThought tw_se_X5_startThought tw_in_RX5 tw_cd_X5_startThought (by decide +kernel) ⟨rfl, rfl, Nat.le_of_ble_eq_true rfl, Nat.le_of_ble_eq_true rfl⟩ gw_Bell rfl rfl hl.1 rfl (Nat.le_of_ble_eq_true rfl) dX5_hours_25 ⟨Nat.le_refl _, Nat.le_refl _⟩) hG hA (fun u H locs hp hG => ?_)
        obtain ⟨t_m_25, rfl⟩ : ∃ z, z = u := ⟨u, rfl⟩
        replace hG : gS g A s H locs (gW g bb tx rw sb dy (va_up tn 1 t_m_25) mo jk) := by simpa only [up_up] using hG
        have hp_25 := hp
        rw [hp] at hE
        unfold F_X5_hours_c25 at hE
        try dsimp only at hE
        have hv25 : tEv tx t_m_25 := tEv_st hp_25 hv
        refine lv_astore (lv' := [(5, .ref (gA g (40 + 6 * 1))), (0, .ref (gA g 0)), (1, .int p1), (3, .int x3_17), (4, .int x4_17)]) hx hb dX5_hours_28 hl (by decide) rfl (fun ls hl => ?_)
        replace hl := lv_sub hl [1, 2, 3, 4, 0] (l' := [(0, .ref (gA g 0)), (1, .int p1), (3, .int x3_17), (4, .int x4_17), (5, .ref (gA g (40 + 6 * 1)))]) rfl
        refine lv_aload hx hb dX5_hours_30 (lv_at hl 4 rfl) ?_
        refine lv_iload hx hb dX5_hours_32 (lv_at hl 3 rfl) ?_
        refine g_put hx hb hts hiX4 tyX4 tyX4_ok nmX4 hown hG (gw_Town (o := 1) (by decide) (up_same _ _ _)) rfl 7 (by decide) (index := 66) tw_fl_RX5_66 rfl rfl rfl (Nat.le_of_ble_eq_true rfl) (gt_Town_f7 (o := 1) (by decide)) dX5_hours_34 (fun H locs hG => ?_)
        refine lv_aload_n hx hb dX5_hours_37 rfl (lv_at hl 0 rfl) ?_
        refine lv_iload_n hx hb dX5_hours_38 rfl (lv_at hl 1 rfl) ?_
        refine lv_aload hx hb dX5_hours_39 (lv_at hl 4 rfl) ?_
        refine g_ci (g_runV (n := 2) (rest := []) hx hb hml hown hts hG (c_X5_firstOtherwise (by decide) (up_same _ _ _) p1 hv25 (by clear hE; omega)) tw_ml_RX5_207 tw_im_X5_firstOtherwise tw_se_X5_firstOtherwise tw_in_RX5 tw_cd_X5_firstOtherwise (by decide +kernel) ⟨rfl, rfl, Nat.le_of_ble_eq_true rfl, Nat.le_of_ble_eq_true rfl⟩ gw_Bell rfl rfl hl.1 rfl (Nat.le_of_ble_eq_true rfl) dX5_hours_41 ⟨Nat.le_refl _, Nat.le_refl _⟩) hG hA (fun r_41 u H locs hp hG => ?_)
        obtain ⟨t_m_41, jk⟩ := u
        replace hG : gS g A s H locs (gW g bb tx rw sb dy (va_up tn 1 t_m_41) mo jk) := by simpa only [up_up] using hG
        have hp_41 := hp
        rw [hp] at hE
        unfold F_X5_hours_c41 at hE
        try dsimp only at hE
        refine lv_iconst (v := (-1)) hx hb dX5_hours_44 (by decide) ?_
        have J55 : ∀ (x3_55 : Int32) (jk : (Nat → Nat → Int32)) (H : Heap) (locs : List Loc), gS g A s H locs (gW g bb tx rw sb dy (va_up tn 1 t_m_41) mo jk) → ∀ ls : Array Slot, lv_has ls 6 [(0, .ref (gA g 0)), (1, .int p1), (3, .int x3_55), (4, .int x4_17)] → F_X5_hours_b55  (F_X5_hours_l17 n17 ) tx rw tn t_m_41 p1 x3_55 x4_17 = EE → W p l e (rmL 9) s m [.ref (gA g 0), .int p1].toArray below meth c H locs 0 0 Q (F0 m 55 ls []) := by
          intro x3_55 jk H locs hG ls hl  hE
          unfold F_X5_hours_b55 at hE
          refine lv_iinc (v := (x4_17 + 1)) (lv' := [(4, .int (x4_17 + 1)), (0, .ref (gA g 0)), (1, .int p1), (3, .int x3_55)]) hx hb dX5_hours_55 hl (k := 3) rfl rfl (by decide) rfl (fun ls hl => ?_)
          replace hl := lv_sub hl [1, 2, 3, 0] (l' := [(0, .ref (gA g 0)), (1, .int p1), (3, .int x3_55), (4, .int (x4_17 + 1))]) rfl
          refine lv_goto (tgt := 17) hx hb dX5_hours_58 (by decide) ?_
          have e1 : (x4_17 + 1).toInt = x4_17.toInt + 1 := addL (k := 1) (by decide +kernel) (by clear hE; omega) (by clear hE; omega)
          exact ih17 x3_55 (x4_17 + 1) t_m_41 _ _ _ hG _ (lv_sub hl [0, 1, 2, 3] rfl) (by clear hE; omega) (by clear hE; omega) (by clear hE; omega) hE
        refine lv_icmp_ne (tgt := 55) hx hb dX5_hours_45 (by decide) (fun c_45 => ?_) (fun c_45 => ?_)
        · replace hE := (if_neg c_45).symm.trans hE
          have i_45 : r_41.toInt ≠ (-1) := fun h => c_45 (Int32.toInt_inj.mp h)
          exact J55 x3_17 _ _ _ hG _ (lv_sub hl [0, 1, 2, 3] rfl) hE
        replace hE := (if_pos c_45).symm.trans hE
        have i_45 : r_41.toInt = (-1) := congrArg Int32.toInt c_45
        refine lv_iload_n hx hb dX5_hours_48 rfl (lv_at hl 2 rfl) ?_
        refine lv_iconst (v := 1) hx hb dX5_hours_49 (by decide) ?_
        refine lv_iload hx hb dX5_hours_50 (lv_at hl 3 rfl) ?_
        refine lv_ishl hx hb dX5_hours_52 ?_
        refine lv_ior hx hb dX5_hours_53 ?_
        refine lv_istore_n (lv' := [(3, .int (x3_17 ||| (1 <<< (x4_17 &&& 31)))), (0, .ref (gA g 0)), (1, .int p1), (4, .int x4_17), (5, .ref (gA g (40 + 6 * 1)))]) hx hb dX5_hours_54 rfl hl (by decide) rfl (fun ls hl => ?_)
        replace hl := lv_sub hl [1, 2, 0, 3, 4] (l' := [(0, .ref (gA g 0)), (1, .int p1), (3, .int (x3_17 ||| (1 <<< (x4_17 &&& 31)))), (4, .int x4_17), (5, .ref (gA g (40 + 6 * 1)))]) rfl
        exact J55 (x3_17 ||| (1 <<< (x4_17 &&& 31))) _ _ _ hG _ (lv_sub hl [0, 1, 2, 3] rfl) hE
    exact L17 25 0 0 (tn 1) _ _ _ hG _ (lv_sub hl [0, 1, 3, 4] rfl) (by decide) (by decide) (by decide) hE
  replace hE := (if_neg c_7).symm.trans hE
  refine lv_iload_n hx hb dX5_hours_10 rfl (lv_at hl 2 rfl) ?_
  subst hQ
  exact g_iret hx hb hr hlocks hG (((tn 1), jk) : Ob × (Nat → Nat → Int32)) rfl hE.symm dX5_hours_11
def F_X5_laws_b71 (K17 : (Nat → Ob) → (Nat → Ob) → (Nat → Ob) → Ob → Ob → Int32 → Int32 → Int32 → Int32 × Ob) (tx : Nat → Ob) (rw : Nat → Ob) (tn : Nat → Ob) (bb : Ob) (t_m : Ob) (x1 : Int32) (x3 : Int32) (x4 : Int32) : Int32 × Ob :=
  (K17 tx rw tn bb t_m x1 x3 (x4 + 1))
def F_X5_laws_c57 (K17 : (Nat → Ob) → (Nat → Ob) → (Nat → Ob) → Ob → Ob → Int32 → Int32 → Int32 → Int32 × Ob) (u : Int32 × Ob) (tx : Nat → Ob) (rw : Nat → Ob) (tn : Nat → Ob) (bb : Ob) (x1 : Int32) (x3 : Int32) (x4 : Int32) : Int32 × Ob :=
  (if u.1 = (-1) then (F_X5_laws_b71 K17 tx rw tn bb u.2 x1 (x3 ||| (1 <<< (x4 &&& 31))) x4) else (F_X5_laws_b71 K17 tx rw tn bb u.2 x1 x3 x4))
def F_X5_laws_c50 (K17 : (Nat → Ob) → (Nat → Ob) → (Nat → Ob) → Ob → Ob → Int32 → Int32 → Int32 → Int32 × Ob) (u : Ob) (tx : Nat → Ob) (rw : Nat → Ob) (tn : Nat → Ob) (bb : Ob) (x1 : Int32) (x3 : Int32) (x4 : Int32) : Int32 × Ob :=
  (F_X5_laws_c57 K17 (F_X5_firstOtherwise tx rw u x1) tx rw tn bb x1 x3 x4)
def F_X5_laws_c34 (K17 : (Nat → Ob) → (Nat → Ob) → (Nat → Ob) → Ob → Ob → Int32 → Int32 → Int32 → Int32 × Ob) (u : Ob) (tx : Nat → Ob) (rw : Nat → Ob) (tn : Nat → Ob) (bb : Ob) (x1 : Int32) (x3 : Int32) (x4 : Int32) : Int32 × Ob :=
  (F_X5_laws_c50 K17 (F_X4_obey u (Int32.toNatClampNeg x4) x4) tx rw tn bb x1 x3 x4)
def F_X5_laws_l17 : Nat → (Nat → Ob) → (Nat → Ob) → (Nat → Ob) → Ob → Ob → Int32 → Int32 → Int32 → Int32 × Ob
  | 0, _, _, _, _, t_m, _, _, _ => (0, t_m)
  | n + 1, tx, rw, tn, bb, t_m, x1, x3, x4 =>
    (if (bb.1 7) ≤ x4 then (x3, t_m) else (if 6 ≤ x4 then (x3, t_m) else (F_X5_laws_c34 (F_X5_laws_l17 n ) (F_X5_startThought (va_up tn 1 t_m)) tx rw tn bb x1 x3 x4)))
def F_X5_laws (tx : Nat → Ob) (rw : Nat → Ob) (tn : Nat → Ob) (bb : Ob) (p1 : Int32) : Int32 × Ob :=
  (if (F_X5_refusalOfTold rw p1) = 0 then (F_X5_laws_l17 7  tx rw tn bb (tn 1) p1 0 0) else ((F_X5_refusalOfTold rw p1), (tn 1)))
set_option maxHeartbeats 4000000 in
set_option maxRecDepth 100000 in
theorem c_X5_laws {l : Launch} {g : GG} {sz : Nat} {bb : Ob} {tx rw : Nat → Ob} {sb dy : Ob} {tn : Nat → Ob} {mo : Ob} {jk : Nat → Nat → Int32}  (p1 : Int32) (hv : tEv tx (tn 0)) (hxs : ∀ t : Nat, t < 6 → (t : Int) < (bb.1 7).toInt → xOK (tx t)) : Met l yX5_laws (Cond.code yX5_laws cX5_laws 6 (some .int) :: TT) (rmL 9) (va_Pc [.ref (gA g 0), .int p1] (gB g sz (gW g bb tx rw sb dy tn mo jk))) (va_Qi (fun r (u : Ob × (Nat → Nat → Int32)) => (F_X5_laws tx rw tn bb p1) = (r, u.1)) (fun u t => gC g (va_A (gW g bb tx rw sb dy tn mo jk) sz) (gW g bb tx rw sb dy (va_up tn 1 u.1) mo u.2) t) (va_A (gW g bb tx rw sb dy tn mo jk) sz)) 0 0 (va_A (gW g bb tx rw sb dy tn mo jk) sz) := by
  generalize hE : F_X5_laws tx rw tn bb p1 = EE
  refine g_of (Qf := fun A => (va_Qi (fun r (u : Ob × (Nat → Nat → Int32)) => EE = (r, u.1)) (fun u t => gC g A (gW g bb tx rw sb dy (va_up tn 1 u.1) mo u.2) t) A)) (cc := cX5_laws) (maxL := 6) (ret := (some .int)) (by decide) (Nat.le_of_ble_eq_true rfl) ?_
  intro p e s m below meth c A ls hx hb hml hr hlocks hts hown hA hG hl
  replace hown : s.vm.findClass RX5 = some m.cls := hown
  replace hl : lv_has ls 6 [(0, .ref (gA g 0)), (1, .int p1)] := hl
  show W p l e (rmL 9) s m [.ref (gA g 0), .int p1].toArray below meth c s.heap [] 0 0 (MQ below (va_Qi (fun r (u : Ob × (Nat → Nat → Int32)) => EE = (r, u.1)) (fun u t => gC g A (gW g bb tx rw sb dy (va_up tn 1 u.1) mo u.2) t) A) [.ref (gA g 0), .int p1].toArray s 0 0 A) (F0 m 0 ls [])
  generalize hQ : MQ below (va_Qi (fun r (u : Ob × (Nat → Nat → Int32)) => EE = (r, u.1)) (fun u t => gC g A (gW g bb tx rw sb dy (va_up tn 1 u.1) mo u.2) t) A) [.ref (gA g 0), .int p1].toArray s 0 0 A = Q
  replace hG : gS g A s s.heap [] (gW g bb tx rw sb dy (va_up tn 1 (tn 1)) mo jk) := by simpa only [up_self] using hG
  unfold F_X5_laws at hE
  refine lv_aload_n hx hb dX5_laws_0 rfl (lv_at hl 0 rfl) ?_
  refine lv_iload_n hx hb dX5_laws_1 rfl (lv_at hl 1 rfl) ?_
  refine g_ci (g_runV (n := 1) (rest := []) hx hb hml hown hts hG (c_X5_refusalOfTold p1) tw_ml_RX5_204 tw_im_X5_refusalOfTold tw_se_X5_refusalOfTold tw_in_RX5 tw_cd_X5_refusalOfTold (by decide +kernel) ⟨rfl, rfl, Nat.le_of_ble_eq_true rfl, Nat.le_of_ble_eq_true rfl⟩ gw_Bell rfl rfl hl.1 rfl (Nat.le_of_ble_eq_true rfl) dX5_laws_2 ⟨Nat.le_refl _, Nat.le_refl _⟩) hG hA (fun r _ H locs hp hG => ?_)
  subst hp
  replace hG : gS g A s H locs (gW g bb tx rw sb dy (va_up tn 1 (tn 1)) mo jk) := hG
  refine lv_istore_n (lv' := [(2, .int (F_X5_refusalOfTold rw p1)), (0, .ref (gA g 0)), (1, .int p1)]) hx hb dX5_laws_5 rfl hl (by decide) rfl (fun ls hl => ?_)
  replace hl := lv_sub hl [1, 2, 0] (l' := [(0, .ref (gA g 0)), (1, .int p1), (2, .int (F_X5_refusalOfTold rw p1))]) rfl
  refine lv_iload_n hx hb dX5_laws_6 rfl (lv_at hl 2 rfl) ?_
  refine lv_if_eq (tgt := 12) hx hb dX5_laws_7 (by decide) (fun c_7 => ?_) (fun c_7 => ?_)
  · replace hE := (if_pos c_7).symm.trans hE
    have i_7 := refusal_f c_7
    refine lv_iconst (v := 0) hx hb dX5_laws_12 (by decide) ?_
    refine lv_istore_n (lv' := [(3, .int 0), (0, .ref (gA g 0)), (1, .int p1), (2, .int (F_X5_refusalOfTold rw p1))]) hx hb dX5_laws_13 rfl hl (by decide) rfl (fun ls hl => ?_)
    replace hl := lv_sub hl [1, 2, 3, 0] (l' := [(0, .ref (gA g 0)), (1, .int p1), (2, .int (F_X5_refusalOfTold rw p1)), (3, .int 0)]) rfl
    refine lv_iconst (v := 0) hx hb dX5_laws_14 (by decide) ?_
    refine lv_istore (lv' := [(4, .int 0), (0, .ref (gA g 0)), (1, .int p1), (2, .int (F_X5_refusalOfTold rw p1)), (3, .int 0)]) hx hb dX5_laws_15 hl (by decide) rfl (fun ls hl => ?_)
    replace hl := lv_sub hl [1, 2, 3, 4, 0] (l' := [(0, .ref (gA g 0)), (1, .int p1), (2, .int (F_X5_refusalOfTold rw p1)), (3, .int 0), (4, .int 0)]) rfl
    have L17 : ∀ (n17 : Nat) (x3_17 : Int32) (x4_17 : Int32) (t_m_17 : Ob) (jk : (Nat → Nat → Int32)) (H : Heap) (locs : List Loc), gS g A s H locs (gW g bb tx rw sb dy (va_up tn 1 t_m_17) mo jk) → ∀ ls : Array Slot, lv_has ls 6 [(0, .ref (gA g 0)), (1, .int p1), (3, .int x3_17), (4, .int x4_17)] → 0 ≤ x4_17.toInt → x4_17.toInt ≤ 6 → 6 < x4_17.toInt + n17 → F_X5_laws_l17 n17  tx rw tn bb t_m_17 p1 x3_17 x4_17 = EE → W p l e (rmL 9) s m [.ref (gA g 0), .int p1].toArray below meth c H locs 0 0 Q (F0 m 17 ls []) := by
      intro n17
      induction n17 with
      | zero =>
        intro x3_17 x4_17 t_m_17 jk H locs hG ls hl h0_17 h1_17 hm_17 hE
        clear hE; omega
      | succ n17 ih17 =>
        intro x3_17 x4_17 t_m_17 jk H locs hG ls hl h0_17 h1_17 hm_17 hE
        unfold F_X5_laws_l17 at hE
        refine lv_iload hx hb dX5_laws_17 (lv_at hl 3 rfl) ?_
        refine lv_aload_n hx hb dX5_laws_19 rfl (lv_at hl 0 rfl) ?_
        refine g_get hx hb hts hiX5 hown hG gw_Bell rfl 7 (by decide) (index := 35) tw_fl_RX5_35 (v := .int (bb.1 7)) rfl dX5_laws_20 ?_
        refine lv_icmp_ge (tgt := 77) hx hb dX5_laws_23 (by decide) (fun c_23 => ?_) (fun c_23 => ?_)
        · replace hE := (if_pos c_23).symm.trans hE
          have i_23 : (bb.1 7).toInt ≤ x4_17.toInt := i_le.mp c_23
          refine lv_iload_n hx hb dX5_laws_77 rfl (lv_at hl 2 rfl) ?_
          subst hQ
          exact g_iret hx hb hr hlocks hG ((t_m_17, jk) : Ob × (Nat → Nat → Int32)) rfl hE.symm dX5_laws_78
        replace hE := (if_neg c_23).symm.trans hE
        have i_23 : x4_17.toInt < (bb.1 7).toInt := i_nle c_23
        refine lv_iload hx hb dX5_laws_26 (lv_at hl 3 rfl) ?_
        refine lv_bipush (v := 6) hx hb dX5_laws_28 (by decide) ?_
        refine lv_icmp_ge (tgt := 77) hx hb dX5_laws_30 (by decide) (fun c_30 => ?_) (fun c_30 => ?_)
        · replace hE := (if_pos c_30).symm.trans hE
          have i_30 : 6 ≤ x4_17.toInt := i_le.mp c_30
          refine lv_iload_n hx hb dX5_laws_77 rfl (lv_at hl 2 rfl) ?_
          subst hQ
          exact g_iret hx hb hr hlocks hG ((t_m_17, jk) : Ob × (Nat → Nat → Int32)) rfl hE.symm dX5_laws_78
        replace hE := (if_neg c_30).symm.trans hE
        have i_30 : x4_17.toInt < 6 := i_nle c_30
        refine lv_aload_n hx hb dX5_laws_33 rfl (lv_at hl 0 rfl) ?_
        refine g_cr (g_runV (n := 0) (rest := []) hx hb hml hown hts hG (c_X5_startThought hv.2.1) tw_ml_RX5_157 tw_im_X5_startThought tw_se_X5_startThought tw_in_RX5 tw_cd_X5_startThought (by decide +kernel) ⟨rfl, rfl, Nat.le_of_ble_eq_true rfl, Nat.le_of_ble_eq_true rfl⟩ gw_Bell rfl rfl hl.1 rfl (Nat.le_of_ble_eq_true rfl) dX5_laws_34 ⟨Nat.le_refl _, Nat.le_refl _⟩) hG hA (fun u H locs hp hG => ?_)
        obtain ⟨t_m_34, rfl⟩ : ∃ z, z = u := ⟨u, rfl⟩
        replace hG : gS g A s H locs (gW g bb tx rw sb dy (va_up tn 1 t_m_34) mo jk) := by simpa only [up_up] using hG
        have hp_34 := hp
        rw [hp] at hE
        unfold F_X5_laws_c34 at hE
        try dsimp only at hE
        have hv34 : tEv tx t_m_34 := tEv_st hp_34 hv
        refine lv_astore (lv' := [(5, .ref (gA g (40 + 6 * 1))), (0, .ref (gA g 0)), (1, .int p1), (3, .int x3_17), (4, .int x4_17)]) hx hb dX5_laws_37 hl (by decide) rfl (fun ls hl => ?_)
        replace hl := lv_sub hl [1, 2, 3, 4, 0] (l' := [(0, .ref (gA g 0)), (1, .int p1), (3, .int x3_17), (4, .int x4_17), (5, .ref (gA g (40 + 6 * 1)))]) rfl
        refine lv_aload hx hb dX5_laws_39 (lv_at hl 4 rfl) ?_
        refine lv_aload_n hx hb dX5_laws_41 rfl (lv_at hl 0 rfl) ?_
        refine g_get hx hb hts hiX5 hown hG gw_Bell rfl 0 (by decide) (index := 11) tw_fl_RX5_11 (v := .ref (gA g 1)) rfl dX5_laws_42 ?_
        refine lv_iload hx hb dX5_laws_45 (lv_at hl 3 rfl) ?_
        have hi_47 : vp_in x4_17 6 := (vp_i (by clear hE; omega) (by clear hE; omega))
        have hj_47 := vp_lt hi_47
        refine g_ald hx hb hG (q0 := 1) (t0 := 2) rfl rfl hi_47 (b := gA g (3 + 4 * (Int32.toNatClampNeg x4_17))) rfl dX5_laws_47 ?_
        refine lv_iload hx hb dX5_laws_48 (lv_at hl 3 rfl) ?_
        refine g_cv (g_runV (n := 2) (rest := []) hx hb hml hown hts hG (c_X4_obey (by decide) (up_same _ _ _) hj_47 x4_17) tw_ml_RX5_97 tw_im_X4_obey tw_se_X4_obey tw_in_RX4 tw_cd_X4_obey (by decide +kernel) ⟨rfl, rfl, Nat.le_of_ble_eq_true rfl, Nat.le_of_ble_eq_true rfl⟩ (gw_Town (o := 1) (by decide) (up_same _ _ _)) rfl rfl hl.1 rfl (Nat.le_of_ble_eq_true rfl) dX5_laws_50 ⟨Nat.le_refl _, Nat.le_refl _⟩) hG hA (fun u H locs hp hG => ?_)
        obtain ⟨t_m_50, rfl⟩ : ∃ z, z = u := ⟨u, rfl⟩
        replace hG : gS g A s H locs (gW g bb tx rw sb dy (va_up tn 1 t_m_50) mo jk) := by simpa only [up_up] using hG
        have hp_50 := hp
        rw [hp] at hE
        unfold F_X5_laws_c50 at hE
        try dsimp only at hE
        have hv50 : tEv tx t_m_50 := tEv_ob hp_50 hv34 hj_47 (hxs _ hj_47 (by clear hE; rw [tcn_i]; omega))
        refine lv_aload_n hx hb dX5_laws_53 rfl (lv_at hl 0 rfl) ?_
        refine lv_iload_n hx hb dX5_laws_54 rfl (lv_at hl 1 rfl) ?_
        refine lv_aload hx hb dX5_laws_55 (lv_at hl 4 rfl) ?_
        refine g_ci (g_runV (n := 2) (rest := []) hx hb hml hown hts hG (c_X5_firstOtherwise (by decide) (up_same _ _ _) p1 hv50 (by clear hE; omega)) tw_ml_RX5_207 tw_im_X5_firstOtherwise tw_se_X5_firstOtherwise tw_in_RX5 tw_cd_X5_firstOtherwise (by decide +kernel) ⟨rfl, rfl, Nat.le_of_ble_eq_true rfl, Nat.le_of_ble_eq_true rfl⟩ gw_Bell rfl rfl hl.1 rfl (Nat.le_of_ble_eq_true rfl) dX5_laws_57 ⟨Nat.le_refl _, Nat.le_refl _⟩) hG hA (fun r_57 u H locs hp hG => ?_)
        obtain ⟨t_m_57, jk⟩ := u
        replace hG : gS g A s H locs (gW g bb tx rw sb dy (va_up tn 1 t_m_57) mo jk) := by simpa only [up_up] using hG
        have hp_57 := hp
        rw [hp] at hE
        unfold F_X5_laws_c57 at hE
        try dsimp only at hE
        refine lv_iconst (v := (-1)) hx hb dX5_laws_60 (by decide) ?_
        have J71 : ∀ (x3_71 : Int32) (jk : (Nat → Nat → Int32)) (H : Heap) (locs : List Loc), gS g A s H locs (gW g bb tx rw sb dy (va_up tn 1 t_m_57) mo jk) → ∀ ls : Array Slot, lv_has ls 6 [(0, .ref (gA g 0)), (1, .int p1), (3, .int x3_71), (4, .int x4_17)] → F_X5_laws_b71  (F_X5_laws_l17 n17 ) tx rw tn bb t_m_57 p1 x3_71 x4_17 = EE → W p l e (rmL 9) s m [.ref (gA g 0), .int p1].toArray below meth c H locs 0 0 Q (F0 m 71 ls []) := by
          intro x3_71 jk H locs hG ls hl  hE
          unfold F_X5_laws_b71 at hE
          refine lv_iinc (v := (x4_17 + 1)) (lv' := [(4, .int (x4_17 + 1)), (0, .ref (gA g 0)), (1, .int p1), (3, .int x3_71)]) hx hb dX5_laws_71 hl (k := 3) rfl rfl (by decide) rfl (fun ls hl => ?_)
          replace hl := lv_sub hl [1, 2, 3, 0] (l' := [(0, .ref (gA g 0)), (1, .int p1), (3, .int x3_71), (4, .int (x4_17 + 1))]) rfl
          refine lv_goto (tgt := 17) hx hb dX5_laws_74 (by decide) ?_
          have e1 : (x4_17 + 1).toInt = x4_17.toInt + 1 := addL (k := 1) (by decide +kernel) (by clear hE; omega) (by clear hE; omega)
          exact ih17 x3_71 (x4_17 + 1) t_m_57 _ _ _ hG _ (lv_sub hl [0, 1, 2, 3] rfl) (by clear hE; omega) (by clear hE; omega) (by clear hE; omega) hE
        refine lv_icmp_ne (tgt := 71) hx hb dX5_laws_61 (by decide) (fun c_61 => ?_) (fun c_61 => ?_)
        · replace hE := (if_neg c_61).symm.trans hE
          have i_61 : r_57.toInt ≠ (-1) := fun h => c_61 (Int32.toInt_inj.mp h)
          exact J71 x3_17 _ _ _ hG _ (lv_sub hl [0, 1, 2, 3] rfl) hE
        replace hE := (if_pos c_61).symm.trans hE
        have i_61 : r_57.toInt = (-1) := congrArg Int32.toInt c_61
        refine lv_iload_n hx hb dX5_laws_64 rfl (lv_at hl 2 rfl) ?_
        refine lv_iconst (v := 1) hx hb dX5_laws_65 (by decide) ?_
        refine lv_iload hx hb dX5_laws_66 (lv_at hl 3 rfl) ?_
        refine lv_ishl hx hb dX5_laws_68 ?_
        refine lv_ior hx hb dX5_laws_69 ?_
        refine lv_istore_n (lv' := [(3, .int (x3_17 ||| (1 <<< (x4_17 &&& 31)))), (0, .ref (gA g 0)), (1, .int p1), (4, .int x4_17), (5, .ref (gA g (40 + 6 * 1)))]) hx hb dX5_laws_70 rfl hl (by decide) rfl (fun ls hl => ?_)
        replace hl := lv_sub hl [1, 2, 0, 3, 4] (l' := [(0, .ref (gA g 0)), (1, .int p1), (3, .int (x3_17 ||| (1 <<< (x4_17 &&& 31)))), (4, .int x4_17), (5, .ref (gA g (40 + 6 * 1)))]) rfl
        exact J71 (x3_17 ||| (1 <<< (x4_17 &&& 31))) _ _ _ hG _ (lv_sub hl [0, 1, 2, 3] rfl) hE
    exact L17 7 0 0 (tn 1) _ _ _ hG _ (lv_sub hl [0, 1, 3, 4] rfl) (by decide) (by decide) (by decide) hE
  replace hE := (if_neg c_7).symm.trans hE
  refine lv_iload_n hx hb dX5_laws_10 rfl (lv_at hl 2 rfl) ?_
  subst hQ
  exact g_iret hx hb hr hlocks hG (((tn 1), jk) : Ob × (Nat → Nat → Int32)) rfl hE.symm dX5_laws_11
