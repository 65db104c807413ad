def F_X5_film_c64 (K45 : (Nat → Ob) → (Nat → Ob) → (Nat → Ob) → Int32 → Ob → Ob → Int32 → Int32 → Int32 × Ob × Ob) (u : Ob) (tx : Nat → Ob) (rw : Nat → Ob) (tn : Nat → Ob) (p1 : Int32) (t_m : Ob) (x2 : Int32) (x5 : Int32) : Int32 × Ob × Ob :=
  (K45 tx rw tn p1 u t_m x2 (x5 + 1))
def F_X5_film_c61 (K45 : (Nat → Ob) → (Nat → Ob) → (Nat → Ob) → Int32 → Ob → Ob → Int32 → Int32 → Int32 × Ob × Ob) (u : Int32 × Ob) (tx : Nat → Ob) (rw : Nat → Ob) (tn : Nat → Ob) (p1 : Int32) (r_m : Ob) (x2 : Int32) (x5 : Int32) (z1 : Int32) : Int32 × Ob × Ob :=
  (F_X5_film_c64 K45 (F_X1_write r_m z1 u.1) tx rw tn p1 u.2 x2 x5)
def F_X5_film_l45 : Nat → (Nat → Ob) → (Nat → Ob) → (Nat → Ob) → Int32 → Ob → Ob → Int32 → Int32 → Int32 × Ob × Ob
  | 0, _, _, _, _, r_m, t_m, _, _ => (0, r_m, t_m)
  | n + 1, tx, rw, tn, p1, r_m, t_m, x2, x5 =>
    (if x2 ≤ x5 then (x2, r_m, t_m) else (F_X5_film_c61 (F_X5_film_l45 n ) (F_X4_passHour tx t_m (F_X4_liars tx t_m)) tx rw tn p1 r_m x2 x5 x5))
def F_X5_film_c37 (u : Ob) (tx : Nat → Ob) (rw : Nat → Ob) (tn : Nat → Ob) (p1 : Int32) (r_m : Ob) (x2 : Int32) : Int32 × Ob × Ob :=
  (F_X5_film_l45 25  tx rw tn p1 r_m u x2 0)
def F_X5_film_c33 (u : Ob) (tx : Nat → Ob) (rw : Nat → Ob) (tn : Nat → Ob) (p1 : Int32) (t_m : Ob) (x2 : Int32) : Int32 × Ob × Ob :=
  (F_X5_film_c37 (F_X5_startThought (va_up tn 1 t_m)) tx rw tn p1 u x2)
def F_X5_film (tx : Nat → Ob) (rw : Nat → Ob) (tn : Nat → Ob) (p1 : Int32) (p2 : Int32) : Int32 × Ob × Ob :=
  (if (F_X5_isSheet p1) = 0 then ((-2), (rw (Int32.toNatClampNeg p1)), (tn 1)) else (if (F_X5_isWithin p2 0 24) = 0 then ((-7), (rw (Int32.toNatClampNeg p1)), (tn 1)) else (F_X5_film_c33 (F_X1_become (rw (Int32.toNatClampNeg p1)) 2 p2) tx rw tn p1 (tn 1) p2)))
set_option maxHeartbeats 4000000 in
set_option maxRecDepth 100000 in
theorem c_X5_film {l : Launch} {g : GG} {sz : Nat} {bb : Ob} {tx rw : Nat → Ob} {sb dy : Ob} {tn : Nat → Ob} {mo : Ob} {jk : Nat → Nat → Int32}  (p1 : Int32) (p2 : Int32) (hv : tEv tx (tn 0)) : Met l yX5_film (Cond.code yX5_film cX5_film 6 (some .int) :: TT) (rmL 9) (va_Pc [.ref (gA g 0), .int p1, .int p2] (gB g sz (gW g bb tx rw sb dy tn mo jk))) (va_Qi (fun r (u : Ob × Ob × (Nat → Nat → Int32)) => (F_X5_film tx rw tn p1 p2) = (r, u.1, u.2.1)) (fun u t => gC g (va_A (gW g bb tx rw sb dy tn mo jk) sz) (gW g bb tx (va_up rw (Int32.toNatClampNeg p1) u.1) sb dy (va_up tn 1 u.2.1) mo u.2.2) t) (va_A (gW g bb tx rw sb dy tn mo jk) sz)) 0 0 (va_A (gW g bb tx rw sb dy tn mo jk) sz) := by
  generalize hE : F_X5_film tx rw tn p1 p2 = EE
  refine g_of (Qf := fun A => (va_Qi (fun r (u : Ob × Ob × (Nat → Nat → Int32)) => EE = (r, u.1, u.2.1)) (fun u t => gC g A (gW g bb tx (va_up rw (Int32.toNatClampNeg p1) u.1) sb dy (va_up tn 1 u.2.1) mo u.2.2) t) A)) (cc := cX5_film) (maxL := 6) (ret := (some .int)) (by decide) (Nat.le_of_ble_eq_true rfl) ?_
  intro p e s m below meth c A ls hx hb hml hr hlocks hts hown hA hG hl
  replace hown : s.vm.findClass RX5 = some m.cls := hown
  replace hl : lv_has ls 6 [(0, .ref (gA g 0)), (1, .int p1), (2, .int p2)] := hl
  show W p l e (rmL 9) s m [.ref (gA g 0), .int p1, .int p2].toArray below meth c s.heap [] 0 0 (MQ below (va_Qi (fun r (u : Ob × Ob × (Nat → Nat → Int32)) => EE = (r, u.1, u.2.1)) (fun u t => gC g A (gW g bb tx (va_up rw (Int32.toNatClampNeg p1) u.1) sb dy (va_up tn 1 u.2.1) mo u.2.2) t) A) [.ref (gA g 0), .int p1, .int p2].toArray s 0 0 A) (F0 m 0 ls [])
  generalize hQ : MQ below (va_Qi (fun r (u : Ob × Ob × (Nat → Nat → Int32)) => EE = (r, u.1, u.2.1)) (fun u t => gC g A (gW g bb tx (va_up rw (Int32.toNatClampNeg p1) u.1) sb dy (va_up tn 1 u.2.1) mo u.2.2) t) A) [.ref (gA g 0), .int p1, .int p2].toArray s 0 0 A = Q
  replace hG : gS g A s s.heap [] (gW g bb tx (va_up rw (Int32.toNatClampNeg p1) (rw (Int32.toNatClampNeg p1))) sb dy (va_up tn 1 (tn 1)) mo jk) := by simpa only [up_self] using hG
  unfold F_X5_film at hE
  refine lv_iload_n hx hb dX5_film_0 rfl (lv_at hl 1 rfl) ?_
  refine g_si (g_runS (n := 1) (rest := []) hx hb hml hown hts hG (c_X5_isSheet p1) tw_ml_RX5_217 tw_st_X5_isSheet tw_in_RX5 tw_cd_X5_isSheet (by decide +kernel) ⟨rfl, rfl, Nat.le_of_ble_eq_true rfl, Nat.le_of_ble_eq_true rfl⟩ rfl hl.1 rfl (Nat.le_of_ble_eq_true rfl) dX5_film_1 ⟨Nat.le_refl _, Nat.le_refl _⟩) hG hA (fun H locs hG => ?_)
  refine lv_if_ne (tgt := 10) hx hb dX5_film_4 (by decide) (fun c_4 => ?_) (fun c_4 => ?_)
  · replace hE := (if_neg c_4).symm.trans hE
    have i_4 := isSheet_f c_4
    refine lv_iload_n hx hb dX5_film_10 rfl (lv_at hl 2 rfl) ?_
    refine lv_iconst (v := 0) hx hb dX5_film_11 (by decide) ?_
    refine lv_bipush (v := 24) hx hb dX5_film_12 (by decide) ?_
    refine g_si (g_runS (n := 3) (rest := []) hx hb hml hown hts hG (c_X5_isWithin p2 0 24) tw_ml_RX5_81 tw_st_X5_isWithin tw_in_RX5 tw_cd_X5_isWithin (by decide +kernel) ⟨rfl, rfl, Nat.le_of_ble_eq_true rfl, Nat.le_of_ble_eq_true rfl⟩ rfl hl.1 rfl (Nat.le_of_ble_eq_true rfl) dX5_film_14 ⟨Nat.le_refl _, Nat.le_refl _⟩) hG hA (fun H locs hG => ?_)
    refine lv_if_ne (tgt := 23) hx hb dX5_film_17 (by decide) (fun c_17 => ?_) (fun c_17 => ?_)
    · replace hE := (if_neg c_17).symm.trans hE
      have i_17 : 0 ≤ p2.toInt ∧ p2.toInt ≤ 24 := within_f c_17
      refine lv_aload_n hx hb dX5_film_23 rfl (lv_at hl 0 rfl) ?_
      refine g_get hx hb hts hiX5 hown hG gw_Bell rfl 1 (by decide) (index := 17) tw_fl_RX5_17 (v := .ref (gA g 2)) rfl dX5_film_24 ?_
      refine lv_iload_n hx hb dX5_film_27 rfl (lv_at hl 1 rfl) ?_
      have hi_28 : vp_in p1 4 := (vp_i (by clear hE; omega) (by clear hE; omega))
      have hj_28 := vp_lt hi_28
      refine g_ald hx hb hG (q0 := 2) (t0 := 1) rfl rfl hi_28 (b := gA g (27 + 2 * (Int32.toNatClampNeg p1))) rfl dX5_film_28 ?_
      refine lv_astore_n (lv' := [(3, .ref (gA g (27 + 2 * (Int32.toNatClampNeg p1)))), (0, .ref (gA g 0)), (1, .int p1), (2, .int p2)]) hx hb dX5_film_29 rfl hl (by decide) rfl (fun ls hl => ?_)
      replace hl := lv_sub hl [1, 2, 3, 0] (l' := [(0, .ref (gA g 0)), (1, .int p1), (2, .int p2), (3, .ref (gA g (27 + 2 * (Int32.toNatClampNeg p1))))]) rfl
      refine lv_aload_n hx hb dX5_film_30 rfl (lv_at hl 3 rfl) ?_
      refine lv_iconst (v := 2) hx hb dX5_film_31 (by decide) ?_
      refine lv_iload_n hx hb dX5_film_32 rfl (lv_at hl 2 rfl) ?_
      refine g_cv (g_runV (n := 2) (rest := []) hx hb hml hown hts hG (c_X1_become hj_28 (up_same _ _ _) 2 p2) tw_ml_RX5_220 tw_im_X1_become tw_se_X1_become tw_in_RX1 tw_cd_X1_become (by decide +kernel) ⟨rfl, rfl, Nat.le_of_ble_eq_true rfl, Nat.le_of_ble_eq_true rfl⟩ (gw_Row hj_28 (up_same _ _ _)) rfl rfl hl.1 rfl (Nat.le_of_ble_eq_true rfl) dX5_film_33 ⟨Nat.le_refl _, Nat.le_refl _⟩) hG hA (fun u H locs hp hG => ?_)
      obtain ⟨r_m_33, rfl⟩ : ∃ z, z = u := ⟨u, rfl⟩
      replace hG : gS g A s H locs (gW g bb tx (va_up rw (Int32.toNatClampNeg p1) r_m_33) sb dy (va_up tn 1 (tn 1)) mo jk) := by simpa only [up_up] using hG
      have hp_33 := hp
      rw [hp] at hE
      unfold F_X5_film_c33 at hE
      try dsimp only at hE
      refine lv_aload_n hx hb dX5_film_36 rfl (lv_at hl 0 rfl) ?_
      refine g_cr (g_runV (n := 0) (rest := []) hx hb hml hown hts hG (c_X5_startThought hv.2.1) tw_ml_RX5_157 tw_im_X5_startThought tw_se_X5_startThought tw_in_RX5 tw_cd_X5_startThought (by decide +kernel) ⟨rfl, rfl, Nat.le_of_ble_eq_true rfl, Nat.le_of_ble_eq_true rfl⟩ gw_Bell rfl rfl hl.1 rfl (Nat.le_of_ble_eq_true rfl) dX5_film_37 ⟨Nat.le_refl _, Nat.le_refl _⟩) hG hA (fun u H locs hp hG => ?_)
      obtain ⟨t_m_37, rfl⟩ : ∃ z, z = u := ⟨u, rfl⟩
      replace hG : gS g A s H locs (gW g bb tx (va_up rw (Int32.toNatClampNeg p1) r_m_33) sb dy (va_up tn 1 t_m_37) mo jk) := by simpa only [up_up] using hG
      have hp_37 := hp
      rw [hp] at hE
      unfold F_X5_film_c37 at hE
      try dsimp only at hE
      have hv37 : tEv tx t_m_37 := tEv_st hp_37 hv
      refine lv_astore (lv' := [(4, .ref (gA g (40 + 6 * 1))), (0, .ref (gA g 0)), (1, .int p1), (2, .int p2), (3, .ref (gA g (27 + 2 * (Int32.toNatClampNeg p1))))]) hx hb dX5_film_40 hl (by decide) rfl (fun ls hl => ?_)
      replace hl := lv_sub hl [1, 2, 3, 4, 0] (l' := [(0, .ref (gA g 0)), (1, .int p1), (2, .int p2), (3, .ref (gA g (27 + 2 * (Int32.toNatClampNeg p1)))), (4, .ref (gA g (40 + 6 * 1)))]) rfl
      refine lv_iconst (v := 0) hx hb dX5_film_42 (by decide) ?_
      refine lv_istore (lv' := [(5, .int 0), (0, .ref (gA g 0)), (1, .int p1), (2, .int p2), (3, .ref (gA g (27 + 2 * (Int32.toNatClampNeg p1)))), (4, .ref (gA g (40 + 6 * 1)))]) hx hb dX5_film_43 hl (by decide) rfl (fun ls hl => ?_)
      replace hl := lv_sub hl [1, 2, 3, 4, 5, 0] (l' := [(0, .ref (gA g 0)), (1, .int p1), (2, .int p2), (3, .ref (gA g (27 + 2 * (Int32.toNatClampNeg p1)))), (4, .ref (gA g (40 + 6 * 1))), (5, .int 0)]) rfl
      have L45 : ∀ (n45 : Nat) (x5_45 : Int32) (r_m_45 : Ob) (t_m_45 : Ob) (jk : (Nat → Nat → Int32)) (H : Heap) (locs : List Loc), gS g A s H locs (gW g bb tx (va_up rw (Int32.toNatClampNeg p1) r_m_45) sb dy (va_up tn 1 t_m_45) mo jk) → ∀ ls : Array Slot, lv_has ls 6 [(2, .int p2), (3, .ref (gA g (27 + 2 * (Int32.toNatClampNeg p1)))), (4, .ref (gA g (40 + 6 * 1))), (5, .int x5_45)] → 0 ≤ x5_45.toInt → x5_45.toInt ≤ 24 → 24 < x5_45.toInt + n45 → tEv tx t_m_45 → F_X5_film_l45 n45  tx rw tn p1 r_m_45 t_m_45 p2 x5_45 = EE → W p l e (rmL 9) s m [.ref (gA g 0), .int p1, .int p2].toArray below meth c H locs 0 0 Q (F0 m 45 ls []) := by
        intro n45
        induction n45 with
        | zero =>
          intro x5_45 r_m_45 t_m_45 jk H locs hG ls hl h0_45 h1_45 hm_45 hv45 hE
          clear hE; omega
        | succ n45 ih45 =>
          intro x5_45 r_m_45 t_m_45 jk H locs hG ls hl h0_45 h1_45 hm_45 hv45 hE
          unfold F_X5_film_l45 at hE
          refine lv_iload hx hb dX5_film_45 (lv_at hl 3 rfl) ?_
          refine lv_iload_n hx hb dX5_film_47 rfl (lv_at hl 0 rfl) ?_
          refine lv_icmp_ge (tgt := 73) hx hb dX5_film_48 (by decide) (fun c_48 => ?_) (fun c_48 => ?_)
          · replace hE := (if_pos c_48).symm.trans hE
            have i_48 : p2.toInt ≤ x5_45.toInt := i_le.mp c_48
            refine lv_iload_n hx hb dX5_film_73 rfl (lv_at hl 0 rfl) ?_
            subst hQ
            exact g_iret hx hb hr hlocks hG ((r_m_45, t_m_45, jk) : Ob × Ob × (Nat → Nat → Int32)) rfl hE.symm dX5_film_74
          replace hE := (if_neg c_48).symm.trans hE
          have i_48 : x5_45.toInt < p2.toInt := i_nle c_48
          refine lv_aload_n hx hb dX5_film_51 rfl (lv_at hl 1 rfl) ?_
          refine lv_iload hx hb dX5_film_52 (lv_at hl 3 rfl) ?_
          refine lv_aload hx hb dX5_film_54 (lv_at hl 2 rfl) ?_
          refine lv_aload hx hb dX5_film_56 (lv_at hl 2 rfl) ?_
          refine g_ci (g_runV (n := 0) (rest := [.ref (gA g (40 + 6 * 1)), .int x5_45, .ref (gA g (27 + 2 * (Int32.toNatClampNeg p1)))]) hx hb hml hown hts hG (c_X4_liars (by decide) (up_same _ _ _) hv45) tw_ml_RX5_144 tw_im_X4_liars tw_se_X4_liars tw_in_RX4 tw_cd_X4_liars (by decide +kernel) ⟨rfl, rfl, Nat.le_of_ble_eq_true rfl, Nat.le_of_ble_eq_true rfl⟩ (gw_Town (o := 1) (by decide) (up_same _ _ _)) rfl rfl hl.1 rfl (Nat.le_of_ble_eq_true rfl) dX5_film_58 ⟨Nat.le_refl _, Nat.le_refl _⟩) hG hA (fun r jk H locs hp hG => ?_)
          subst hp
          replace hG : gS g A s H locs (gW g bb tx (va_up rw (Int32.toNatClampNeg p1) r_m_45) sb dy (va_up tn 1 t_m_45) mo jk) := hG
          refine g_ci (g_runV (n := 1) (rest := [.int x5_45, .ref (gA g (27 + 2 * (Int32.toNatClampNeg p1)))]) hx hb hml hown hts hG (c_X4_passHour (by decide) (up_same _ _ _) (F_X4_liars tx t_m_45) hv45) tw_ml_RX5_154 tw_im_X4_passHour tw_se_X4_passHour tw_in_RX4 tw_cd_X4_passHour (by decide +kernel) ⟨rfl, rfl, Nat.le_of_ble_eq_true rfl, Nat.le_of_ble_eq_true rfl⟩ (gw_Town (o := 1) (by decide) (up_same _ _ _)) rfl rfl hl.1 rfl (Nat.le_of_ble_eq_true rfl) dX5_film_61 ⟨Nat.le_refl _, Nat.le_refl _⟩) hG hA (fun r_61 u H locs hp hG => ?_)
          obtain ⟨t_m_61, jk⟩ := u
          replace hG : gS g A s H locs (gW g bb tx (va_up rw (Int32.toNatClampNeg p1) r_m_45) sb dy (va_up tn 1 t_m_61) mo jk) := by simpa only [up_up] using hG
          have hp_61 := hp
          rw [hp] at hE
          unfold F_X5_film_c61 at hE
          try dsimp only at hE
          have hv61 : tEv tx t_m_61 := tEv_pH hp_61 hv45
          refine g_cv (g_runV (n := 2) (rest := []) hx hb hml hown hts hG (c_X1_write hj_28 (up_same _ _ _) x5_45 r_61) tw_ml_RX5_223 tw_im_X1_write tw_se_X1_write tw_in_RX1 tw_cd_X1_write (by decide +kernel) ⟨rfl, rfl, Nat.le_of_ble_eq_true rfl, Nat.le_of_ble_eq_true rfl⟩ (gw_Row hj_28 (up_same _ _ _)) rfl rfl hl.1 rfl (Nat.le_of_ble_eq_true rfl) dX5_film_64 ⟨Nat.le_refl _, Nat.le_refl _⟩) hG hA (fun u H locs hp hG => ?_)
          obtain ⟨r_m_64, rfl⟩ : ∃ z, z = u := ⟨u, rfl⟩
          replace hG : gS g A s H locs (gW g bb tx (va_up rw (Int32.toNatClampNeg p1) r_m_64) sb dy (va_up tn 1 t_m_61) mo jk) := by simpa only [up_up] using hG
          have hp_64 := hp
          rw [hp] at hE
          unfold F_X5_film_c64 at hE
          try dsimp only at hE
          refine lv_iinc (v := (x5_45 + 1)) (lv' := [(5, .int (x5_45 + 1)), (2, .int p2), (3, .ref (gA g (27 + 2 * (Int32.toNatClampNeg p1)))), (4, .ref (gA g (40 + 6 * 1)))]) hx hb dX5_film_67 hl (k := 3) rfl rfl (by decide) rfl (fun ls hl => ?_)
          replace hl := lv_sub hl [1, 2, 3, 0] (l' := [(2, .int p2), (3, .ref (gA g (27 + 2 * (Int32.toNatClampNeg p1)))), (4, .ref (gA g (40 + 6 * 1))), (5, .int (x5_45 + 1))]) rfl
          refine lv_goto (tgt := 45) hx hb dX5_film_70 (by decide) ?_
          have e1 : (x5_45 + 1).toInt = x5_45.toInt + 1 := addL (k := 1) (by decide +kernel) (by clear hE; omega) (by clear hE; omega)
          exact ih45 (x5_45 + 1) r_m_64 t_m_61 _ _ _ hG _ (lv_sub hl [0, 1, 2, 3] rfl) (by clear hE; omega) (by clear hE; omega) (by clear hE; omega) hv61 hE
      exact L45 25 0 r_m_33 t_m_37 _ _ _ hG _ (lv_sub hl [2, 3, 4, 5] rfl) (by decide) (by decide) (by decide) hv37 hE
    replace hE := (if_pos c_17).symm.trans hE
    refine lv_bipush (v := (-7)) hx hb dX5_film_20 (by decide) ?_
    subst hQ
    exact g_iret hx hb hr hlocks hG (((rw (Int32.toNatClampNeg p1)), (tn 1), jk) : Ob × Ob × (Nat → Nat → Int32)) rfl hE.symm dX5_film_22
  replace hE := (if_pos c_4).symm.trans hE
  refine lv_bipush (v := (-2)) hx hb dX5_film_7 (by decide) ?_
  subst hQ
  exact g_iret hx hb hr hlocks hG (((rw (Int32.toNatClampNeg p1)), (tn 1), jk) : Ob × Ob × (Nat → Nat → Int32)) rfl hE.symm dX5_film_9
def F_X5_image_c8 (u : Ob) (tn : Nat → Ob) (bb : Ob) : Int32 × Ob × Ob :=
  ((u.1 6), (setS bb 8 1), u)
def F_X5_image (tn : Nat → Ob) (bb : Ob) : Int32 × Ob × Ob :=
  (F_X5_image_c8 (F_X4_become (tn 2) (tn 0)) tn bb)
set_option maxHeartbeats 4000000 in
set_option maxRecDepth 100000 in
theorem c_X5_image {l : Launch} {g : GG} {sz : Nat} {bb : Ob} {tx rw : Nat → Ob} {sb dy : Ob} {tn : Nat → Ob} {mo : Ob} {jk : Nat → Nat → Int32}   (hl0 : ((tn 0).1 11).toNatClampNeg < 6) : Met l yX5_image (Cond.code yX5_image cX5_image 1 (some .int) :: TT) (rmL 3) (va_Pc [.ref (gA g 0)] (gB g sz (gW g bb tx rw sb dy tn mo jk))) (va_Qi (fun r (u : Ob × Ob) => (F_X5_image tn bb) = (r, u.1, u.2)) (fun u t => gC g (va_A (gW g bb tx rw sb dy tn mo jk) sz) (gW g u.1 tx rw sb dy (va_up tn 2 u.2) mo jk) t) (va_A (gW g bb tx rw sb dy tn mo jk) sz)) 0 0 (va_A (gW g bb tx rw sb dy tn mo jk) sz) := by
  generalize hE : F_X5_image tn bb = EE
  refine g_of (Qf := fun A => (va_Qi (fun r (u : Ob × Ob) => EE = (r, u.1, u.2)) (fun u t => gC g A (gW g u.1 tx rw sb dy (va_up tn 2 u.2) mo jk) t) A)) (cc := cX5_image) (maxL := 1) (ret := (some .int)) (by decide) (Nat.le_of_ble_eq_true rfl) ?_
  intro p e s m below meth c A ls hx hb hml hr hlocks hts hown hA hG hl
  replace hown : s.vm.findClass RX5 = some m.cls := hown
  replace hl : lv_has ls 1 [(0, .ref (gA g 0))] := hl
  show W p l e (rmL 3) s m [.ref (gA g 0)].toArray below meth c s.heap [] 0 0 (MQ below (va_Qi (fun r (u : Ob × Ob) => EE = (r, u.1, u.2)) (fun u t => gC g A (gW g u.1 tx rw sb dy (va_up tn 2 u.2) mo jk) t) A) [.ref (gA g 0)].toArray s 0 0 A) (F0 m 0 ls [])
  generalize hQ : MQ below (va_Qi (fun r (u : Ob × Ob) => EE = (r, u.1, u.2)) (fun u t => gC g A (gW g u.1 tx rw sb dy (va_up tn 2 u.2) mo jk) t) A) [.ref (gA g 0)].toArray s 0 0 A = Q
  replace hG : gS g A s s.heap [] (gW g bb tx rw sb dy (va_up tn 2 (tn 2)) mo jk) := by simpa only [up_self] using hG
  unfold F_X5_image at hE
  refine lv_aload_n hx hb dX5_image_0 rfl (lv_at hl 0 rfl) ?_
  refine g_get hx hb hts hiX5 hown hG gw_Bell rfl 6 (by decide) (index := 60) tw_fl_RX5_60 (v := .ref (gA g (40 + 6 * 2))) rfl dX5_image_1 ?_
  refine lv_aload_n hx hb dX5_image_4 rfl (lv_at hl 0 rfl) ?_
  refine g_get hx hb hts hiX5 hown hG gw_Bell rfl 4 (by decide) (index := 53) tw_fl_RX5_53 (v := .ref (gA g (40 + 6 * 0))) rfl dX5_image_5 ?_
  refine g_cv (g_runV (n := 1) (rest := []) hx hb hml hown hts hG (c_X4_become (by decide) (up_same _ _ _) (by decide) (show _ = (tn 0) from rfl) (by decide) hl0) tw_ml_RX5_230 tw_im_X4_become tw_se_X4_become tw_in_RX4 tw_cd_X4_become (by decide +kernel) ⟨rfl, rfl, Nat.le_of_ble_eq_true rfl, Nat.le_of_ble_eq_true rfl⟩ (gw_Town (o := 2) (by decide) (up_same _ _ _)) rfl rfl hl.1 rfl (Nat.le_of_ble_eq_true rfl) dX5_image_8 ⟨Nat.le_refl _, Nat.le_refl _⟩) hG hA (fun u H locs hp hG => ?_)
  obtain ⟨t_m_8, rfl⟩ : ∃ z, z = u := ⟨u, rfl⟩
  replace hG : gS g A s H locs (gW g bb tx rw sb dy (va_up tn 2 t_m_8) mo jk) := by simpa only [up_up] using hG
  have hp_8 := hp
  rw [hp] at hE
  unfold F_X5_image_c8 at hE
  try dsimp only at hE
  refine lv_aload_n hx hb dX5_image_11 rfl (lv_at hl 0 rfl) ?_
  refine lv_iconst (v := 1) hx hb dX5_image_12 (by decide) ?_
  refine g_put hx hb hts hiX5 tyX5 tyX5_ok nmX5 hown hG gw_Bell rfl 8 (by decide) (index := 39) tw_fl_RX5_39 rfl rfl rfl (Nat.le_of_ble_eq_true rfl) gs_Bell_f8 dX5_image_13 (fun H locs hG => ?_)
  refine lv_aload_n hx hb dX5_image_16 rfl (lv_at hl 0 rfl) ?_
  refine g_get hx hb hts hiX5 hown hG gw_Bell rfl 6 (by decide) (index := 60) tw_fl_RX5_60 (v := .ref (gA g (40 + 6 * 2))) rfl dX5_image_17 ?_
  refine g_get hx hb hts hiX4 hown hG (gw_Town (o := 2) (by decide) (up_same _ _ _)) rfl 6 (by decide) (index := 63) tw_fl_RX5_63 (v := .int (t_m_8.1 6)) rfl dX5_image_20 ?_
  subst hQ
  exact g_iret hx hb hr hlocks hG (((setS bb 8 1), t_m_8) : Ob × Ob) rfl hE.symm dX5_image_23
def F_X5_back_c18 (u : Ob) (tn : Nat → Ob) (bb : Ob) : Int32 × Ob :=
  ((u.1 6), u)
def F_X5_back (tn : Nat → Ob) (bb : Ob) : Int32 × Ob :=
  (if (bb.1 8) = 0 then ((-3), (tn 0)) else (F_X5_back_c18 (F_X4_become (tn 0) (tn 2)) tn bb))
set_option maxHeartbeats 4000000 in
set_option maxRecDepth 100000 in
theorem c_X5_back {l : Launch} {g : GG} {sz : Nat} {bb : Ob} {tx rw : Nat → Ob} {sb dy : Ob} {tn : Nat → Ob} {mo : Ob} {jk : Nat → Nat → Int32}   (hlk : ((tn 2).1 11).toNatClampNeg < 6) : Met l yX5_back (Cond.code yX5_back cX5_back 1 (some .int) :: TT) (rmL 3) (va_Pc [.ref (gA g 0)] (gB g sz (gW g bb tx rw sb dy tn mo jk))) (va_Qi (fun r (u : Ob) => (F_X5_back tn bb) = (r, u)) (fun u t => gC g (va_A (gW g bb tx rw sb dy tn mo jk) sz) (gW g bb tx rw sb dy (va_up tn 0 u) mo jk) t) (va_A (gW g bb tx rw sb dy tn mo jk) sz)) 0 0 (va_A (gW g bb tx rw sb dy tn mo jk) sz) := by
  generalize hE : F_X5_back tn bb = EE
  refine g_of (Qf := fun A => (va_Qi (fun r (u : Ob) => EE = (r, u)) (fun u t => gC g A (gW g bb tx rw sb dy (va_up tn 0 u) mo jk) t) A)) (cc := cX5_back) (maxL := 1) (ret := (some .int)) (by decide) (Nat.le_of_ble_eq_true rfl) ?_
  intro p e s m below meth c A ls hx hb hml hr hlocks hts hown hA hG hl
  replace hown : s.vm.findClass RX5 = some m.cls := hown
  replace hl : lv_has ls 1 [(0, .ref (gA g 0))] := hl
  show W p l e (rmL 3) s m [.ref (gA g 0)].toArray below meth c s.heap [] 0 0 (MQ below (va_Qi (fun r (u : Ob) => EE = (r, u)) (fun u t => gC g A (gW g bb tx rw sb dy (va_up tn 0 u) mo jk) t) A) [.ref (gA g 0)].toArray s 0 0 A) (F0 m 0 ls [])
  generalize hQ : MQ below (va_Qi (fun r (u : Ob) => EE = (r, u)) (fun u t => gC g A (gW g bb tx rw sb dy (va_up tn 0 u) mo jk) t) A) [.ref (gA g 0)].toArray s 0 0 A = Q
  replace hG : gS g A s s.heap [] (gW g bb tx rw sb dy (va_up tn 0 (tn 0)) mo jk) := by simpa only [up_self] using hG
  unfold F_X5_back at hE
  refine lv_aload_n hx hb dX5_back_0 rfl (lv_at hl 0 rfl) ?_
  refine g_get hx hb hts hiX5 hown hG gw_Bell rfl 8 (by decide) (index := 39) tw_fl_RX5_39 (v := .int (bb.1 8)) rfl dX5_back_1 ?_
  refine lv_if_ne (tgt := 10) hx hb dX5_back_4 (by decide) (fun c_4 => ?_) (fun c_4 => ?_)
  · replace hE := (if_neg c_4).symm.trans hE
    have i_4 : (bb.1 8).toInt ≠ 0 := fun h => c_4 (Int32.toInt_inj.mp h)
    refine lv_aload_n hx hb dX5_back_10 rfl (lv_at hl 0 rfl) ?_
    refine g_get hx hb hts hiX5 hown hG gw_Bell rfl 4 (by decide) (index := 53) tw_fl_RX5_53 (v := .ref (gA g (40 + 6 * 0))) rfl dX5_back_11 ?_
    refine lv_aload_n hx hb dX5_back_14 rfl (lv_at hl 0 rfl) ?_
    refine g_get hx hb hts hiX5 hown hG gw_Bell rfl 6 (by decide) (index := 60) tw_fl_RX5_60 (v := .ref (gA g (40 + 6 * 2))) rfl dX5_back_15 ?_
    refine g_cv (g_runV (n := 1) (rest := []) hx hb hml hown hts hG (c_X4_become (by decide) (up_same _ _ _) (by decide) (show _ = (tn 2) from rfl) (by decide) hlk) tw_ml_RX5_230 tw_im_X4_become tw_se_X4_become tw_in_RX4 tw_cd_X4_become (by decide +kernel) ⟨rfl, rfl, Nat.le_of_ble_eq_true rfl, Nat.le_of_ble_eq_true rfl⟩ (gw_Town (o := 0) (by decide) (up_same _ _ _)) rfl rfl hl.1 rfl (Nat.le_of_ble_eq_true rfl) dX5_back_18 ⟨Nat.le_refl _, Nat.le_refl _⟩) hG hA (fun u H locs hp hG => ?_)
    obtain ⟨t_m_18, rfl⟩ : ∃ z, z = u := ⟨u, rfl⟩
    replace hG : gS g A s H locs (gW g bb tx rw sb dy (va_up tn 0 t_m_18) mo jk) := by simpa only [up_up] using hG
    have hp_18 := hp
    rw [hp] at hE
    unfold F_X5_back_c18 at hE
    try dsimp only at hE
    refine lv_aload_n hx hb dX5_back_21 rfl (lv_at hl 0 rfl) ?_
    refine g_get hx hb hts hiX5 hown hG gw_Bell rfl 4 (by decide) (index := 53) tw_fl_RX5_53 (v := .ref (gA g (40 + 6 * 0))) rfl dX5_back_22 ?_
    refine g_get hx hb hts hiX4 hown hG (gw_Town (o := 0) (by decide) (up_same _ _ _)) rfl 6 (by decide) (index := 63) tw_fl_RX5_63 (v := .int (t_m_18.1 6)) rfl dX5_back_25 ?_
    subst hQ
    exact g_iret hx hb hr hlocks hG ((t_m_18) : Ob) rfl hE.symm dX5_back_28
  replace hE := (if_pos c_4).symm.trans hE
  have i_4 : (bb.1 8).toInt = 0 := congrArg Int32.toInt c_4
  refine lv_bipush (v := (-3)) hx hb dX5_back_7 (by decide) ?_
  subst hQ
  exact g_iret hx hb hr hlocks hG (((tn 0)) : Ob) rfl hE.symm dX5_back_9
def F_X5_sheet_c61 (u : Ob) (rw : Nat → Ob) : Int32 × Ob :=
  (1, u)
def F_X5_sheet_c32 (u : Ob) (rw : Nat → Ob) : Int32 × Ob :=
  (1, u)
def F_X5_sheet (rw : Nat → Ob) (p1 : Int32) (p2 : Int32) (p3 : Int32) : Int32 × Ob :=
  (if (F_X5_isSheet p1) = 0 then ((-2), (rw (Int32.toNatClampNeg p1))) else (if (F_X5_isWithin p2 (-1) 2) = 0 then ((-2), (rw (Int32.toNatClampNeg p1))) else (if p2 = (-1) then (F_X5_sheet_c32 (F_X1_become (rw (Int32.toNatClampNeg p1)) p2 0) rw) else (if p3 ≤ 40 then (if 0 ≤ p3 then (F_X5_sheet_c61 (F_X1_become (rw (Int32.toNatClampNeg p1)) p2 p3) rw) else ((-14), (rw (Int32.toNatClampNeg p1)))) else ((-2), (rw (Int32.toNatClampNeg p1)))))))
set_option maxHeartbeats 4000000 in
set_option maxRecDepth 100000 in
theorem c_X5_sheet {l : Launch} {g : GG} {sz : Nat} {bb : Ob} {tx rw : Nat → Ob} {sb dy : Ob} {tn : Nat → Ob} {mo : Ob} {jk : Nat → Nat → Int32}  (p1 : Int32) (p2 : Int32) (p3 : Int32)  : Met l yX5_sheet (Cond.code yX5_sheet cX5_sheet 4 (some .int) :: TT) (rmL 3) (va_Pc [.ref (gA g 0), .int p1, .int p2, .int p3] (gB g sz (gW g bb tx rw sb dy tn mo jk))) (va_Qi (fun r (u : Ob) => (F_X5_sheet rw p1 p2 p3) = (r, u)) (fun u t => gC g (va_A (gW g bb tx rw sb dy tn mo jk) sz) (gW g bb tx (va_up rw (Int32.toNatClampNeg p1) u) sb dy tn mo jk) t) (va_A (gW g bb tx rw sb dy tn mo jk) sz)) 0 0 (va_A (gW g bb tx rw sb dy tn mo jk) sz) := by
  generalize hE : F_X5_sheet rw p1 p2 p3 = EE
  refine g_of (Qf := fun A => (va_Qi (fun r (u : Ob) => EE = (r, u)) (fun u t => gC g A (gW g bb tx (va_up rw (Int32.toNatClampNeg p1) u) sb dy tn mo jk) t) A)) (cc := cX5_sheet) (maxL := 4) (ret := (some .int)) (by decide) (Nat.le_of_ble_eq_true rfl) ?_
  intro p e s m below meth c A ls hx hb hml hr hlocks hts hown hA hG hl
  replace hown : s.vm.findClass RX5 = some m.cls := hown
  replace hl : lv_has ls 4 [(0, .ref (gA g 0)), (1, .int p1), (2, .int p2), (3, .int p3)] := hl
  show W p l e (rmL 3) s m [.ref (gA g 0), .int p1, .int p2, .int p3].toArray below meth c s.heap [] 0 0 (MQ below (va_Qi (fun r (u : Ob) => EE = (r, u)) (fun u t => gC g A (gW g bb tx (va_up rw (Int32.toNatClampNeg p1) u) sb dy tn mo jk) t) A) [.ref (gA g 0), .int p1, .int p2, .int p3].toArray s 0 0 A) (F0 m 0 ls [])
  generalize hQ : MQ below (va_Qi (fun r (u : Ob) => EE = (r, u)) (fun u t => gC g A (gW g bb tx (va_up rw (Int32.toNatClampNeg p1) u) sb dy tn mo jk) t) A) [.ref (gA g 0), .int p1, .int p2, .int p3].toArray s 0 0 A = Q
  replace hG : gS g A s s.heap [] (gW g bb tx (va_up rw (Int32.toNatClampNeg p1) (rw (Int32.toNatClampNeg p1))) sb dy tn mo jk) := by simpa only [up_self] using hG
  unfold F_X5_sheet at hE
  refine lv_iload_n hx hb dX5_sheet_0 rfl (lv_at hl 1 rfl) ?_
  refine g_si (g_runS (n := 1) (rest := []) hx hb hml hown hts hG (c_X5_isSheet p1) tw_ml_RX5_217 tw_st_X5_isSheet tw_in_RX5 tw_cd_X5_isSheet (by decide +kernel) ⟨rfl, rfl, Nat.le_of_ble_eq_true rfl, Nat.le_of_ble_eq_true rfl⟩ rfl hl.1 rfl (Nat.le_of_ble_eq_true rfl) dX5_sheet_1 ⟨Nat.le_refl _, Nat.le_refl _⟩) hG hA (fun H locs hG => ?_)
  refine lv_if_eq (tgt := 16) hx hb dX5_sheet_4 (by decide) (fun c_4 => ?_) (fun c_4 => ?_)
  · replace hE := (if_pos c_4).symm.trans hE
    refine lv_bipush (v := (-2)) hx hb dX5_sheet_16 (by decide) ?_
    subst hQ
    exact g_iret hx hb hr hlocks hG (((rw (Int32.toNatClampNeg p1))) : Ob) rfl hE.symm dX5_sheet_18
  replace hE := (if_neg c_4).symm.trans hE
  have i_4 := isSheet_f c_4
  refine lv_iload_n hx hb dX5_sheet_7 rfl (lv_at hl 2 rfl) ?_
  refine lv_iconst (v := (-1)) hx hb dX5_sheet_8 (by decide) ?_
  refine lv_iconst (v := 2) hx hb dX5_sheet_9 (by decide) ?_
  refine g_si (g_runS (n := 3) (rest := []) hx hb hml hown hts hG (c_X5_isWithin p2 (-1) 2) tw_ml_RX5_81 tw_st_X5_isWithin tw_in_RX5 tw_cd_X5_isWithin (by decide +kernel) ⟨rfl, rfl, Nat.le_of_ble_eq_true rfl, Nat.le_of_ble_eq_true rfl⟩ rfl hl.1 rfl (Nat.le_of_ble_eq_true rfl) dX5_sheet_10 ⟨Nat.le_refl _, Nat.le_refl _⟩) hG hA (fun H locs hG => ?_)
  refine lv_if_ne (tgt := 19) hx hb dX5_sheet_13 (by decide) (fun c_13 => ?_) (fun c_13 => ?_)
  · replace hE := (if_neg c_13).symm.trans hE
    have i_13 : (-1) ≤ p2.toInt ∧ p2.toInt ≤ 2 := within_f c_13
    refine lv_iload_n hx hb dX5_sheet_19 rfl (lv_at hl 2 rfl) ?_
    refine lv_iconst (v := (-1)) hx hb dX5_sheet_20 (by decide) ?_
    refine lv_icmp_ne (tgt := 37) hx hb dX5_sheet_21 (by decide) (fun c_21 => ?_) (fun c_21 => ?_)
    · replace hE := (if_neg c_21).symm.trans hE
      have i_21 : p2.toInt ≠ (-1) := fun h => c_21 (Int32.toInt_inj.mp h)
      refine lv_iload_n hx hb dX5_sheet_37 rfl (lv_at hl 3 rfl) ?_
      refine lv_bipush (v := 40) hx hb dX5_sheet_38 (by decide) ?_
      refine lv_icmp_le (tgt := 46) hx hb dX5_sheet_40 (by decide) (fun c_40 => ?_) (fun c_40 => ?_)
      · replace hE := (if_pos c_40).symm.trans hE
        have i_40 : p3.toInt ≤ 40 := i_le.mp c_40
        refine lv_iload_n hx hb dX5_sheet_46 rfl (lv_at hl 3 rfl) ?_
        refine lv_if_ge (tgt := 53) hx hb dX5_sheet_47 (by decide) (fun c_47 => ?_) (fun c_47 => ?_)
        · replace hE := (if_pos c_47).symm.trans hE
          have i_47 : 0 ≤ p3.toInt := i_le.mp c_47
          refine lv_aload_n hx hb dX5_sheet_53 rfl (lv_at hl 0 rfl) ?_
          refine g_get hx hb hts hiX5 hown hG gw_Bell rfl 1 (by decide) (index := 17) tw_fl_RX5_17 (v := .ref (gA g 2)) rfl dX5_sheet_54 ?_
          refine lv_iload_n hx hb dX5_sheet_57 rfl (lv_at hl 1 rfl) ?_
          have hi_58 : vp_in p1 4 := (vp_i (by clear hE; omega) (by clear hE; omega))
          have hj_58 := vp_lt hi_58
          refine g_ald hx hb hG (q0 := 2) (t0 := 1) rfl rfl hi_58 (b := gA g (27 + 2 * (Int32.toNatClampNeg p1))) rfl dX5_sheet_58 ?_
          refine lv_iload_n hx hb dX5_sheet_59 rfl (lv_at hl 2 rfl) ?_
          refine lv_iload_n hx hb dX5_sheet_60 rfl (lv_at hl 3 rfl) ?_
          refine g_cv (g_runV (n := 2) (rest := []) hx hb hml hown hts hG (c_X1_become hj_58 (up_same _ _ _) p2 p3) tw_ml_RX5_220 tw_im_X1_become tw_se_X1_become tw_in_RX1 tw_cd_X1_become (by decide +kernel) ⟨rfl, rfl, Nat.le_of_ble_eq_true rfl, Nat.le_of_ble_eq_true rfl⟩ (gw_Row hj_58 (up_same _ _ _)) rfl rfl hl.1 rfl (Nat.le_of_ble_eq_true rfl) dX5_sheet_61 ⟨Nat.le_refl _, Nat.le_refl _⟩) hG hA (fun u H locs hp hG => ?_)
          obtain ⟨r_m_61, rfl⟩ : ∃ z, z = u := ⟨u, rfl⟩
          replace hG : gS g A s H locs (gW g bb tx (va_up rw (Int32.toNatClampNeg p1) r_m_61) sb dy tn mo jk) := by simpa only [up_up] using hG
          have hp_61 := hp
          rw [hp] at hE
          unfold F_X5_sheet_c61 at hE
          try dsimp only at hE
          refine lv_iconst (v := 1) hx hb dX5_sheet_64 (by decide) ?_
          subst hQ
          exact g_iret hx hb hr hlocks hG ((r_m_61) : Ob) rfl hE.symm dX5_sheet_65
        replace hE := (if_neg c_47).symm.trans hE
        have i_47 : p3.toInt < 0 := i_nle c_47
        refine lv_bipush (v := (-14)) hx hb dX5_sheet_50 (by decide) ?_
        subst hQ
        exact g_iret hx hb hr hlocks hG (((rw (Int32.toNatClampNeg p1))) : Ob) rfl hE.symm dX5_sheet_52
      replace hE := (if_neg c_40).symm.trans hE
      have i_40 : 40 < p3.toInt := i_nle c_40
      refine lv_bipush (v := (-2)) hx hb dX5_sheet_43 (by decide) ?_
      subst hQ
      exact g_iret hx hb hr hlocks hG (((rw (Int32.toNatClampNeg p1))) : Ob) rfl hE.symm dX5_sheet_45
    replace hE := (if_pos c_21).symm.trans hE
    have i_21 : p2.toInt = (-1) := congrArg Int32.toInt c_21
    refine lv_aload_n hx hb dX5_sheet_24 rfl (lv_at hl 0 rfl) ?_
    refine g_get hx hb hts hiX5 hown hG gw_Bell rfl 1 (by decide) (index := 17) tw_fl_RX5_17 (v := .ref (gA g 2)) rfl dX5_sheet_25 ?_
    refine lv_iload_n hx hb dX5_sheet_28 rfl (lv_at hl 1 rfl) ?_
    have hi_29 : vp_in p1 4 := (vp_i (by clear hE; omega) (by clear hE; omega))
    have hj_29 := vp_lt hi_29
    refine g_ald hx hb hG (q0 := 2) (t0 := 1) rfl rfl hi_29 (b := gA g (27 + 2 * (Int32.toNatClampNeg p1))) rfl dX5_sheet_29 ?_
    refine lv_iload_n hx hb dX5_sheet_30 rfl (lv_at hl 2 rfl) ?_
    refine lv_iconst (v := 0) hx hb dX5_sheet_31 (by decide) ?_
    refine g_cv (g_runV (n := 2) (rest := []) hx hb hml hown hts hG (c_X1_become hj_29 (up_same _ _ _) p2 0) tw_ml_RX5_220 tw_im_X1_become tw_se_X1_become tw_in_RX1 tw_cd_X1_become (by decide +kernel) ⟨rfl, rfl, Nat.le_of_ble_eq_true rfl, Nat.le_of_ble_eq_true rfl⟩ (gw_Row hj_29 (up_same _ _ _)) rfl rfl hl.1 rfl (Nat.le_of_ble_eq_true rfl) dX5_sheet_32 ⟨Nat.le_refl _, Nat.le_refl _⟩) hG hA (fun u H locs hp hG => ?_)
    obtain ⟨r_m_32, rfl⟩ : ∃ z, z = u := ⟨u, rfl⟩
    replace hG : gS g A s H locs (gW g bb tx (va_up rw (Int32.toNatClampNeg p1) r_m_32) sb dy tn mo jk) := by simpa only [up_up] using hG
    have hp_32 := hp
    rw [hp] at hE
    unfold F_X5_sheet_c32 at hE
    try dsimp only at hE
    refine lv_iconst (v := 1) hx hb dX5_sheet_35 (by decide) ?_
    subst hQ
    exact g_iret hx hb hr hlocks hG ((r_m_32) : Ob) rfl hE.symm dX5_sheet_36
  replace hE := (if_pos c_13).symm.trans hE
  refine lv_bipush (v := (-2)) hx hb dX5_sheet_16 (by decide) ?_
  subst hQ
  exact g_iret hx hb hr hlocks hG (((rw (Int32.toNatClampNeg p1))) : Ob) rfl hE.symm dX5_sheet_18
theorem rowhas_f {T : Ob} {p q : Int32} (h : ¬ F_X1_has T p q = 0) : 0 ≤ p.toInt ∧ 0 ≤ q.toInt ∧ p.toInt ≤ (T.1 2).toInt ∧ q.toInt ≤ (T.1 2).toInt - p.toInt := by
  unfold F_X1_has at h
  split at h
  · exact absurd rfl h
  · rename_i a
    split at h
    · exact absurd rfl h
    · rename_i b
      split at h
      · exact absurd rfl h
      · rename_i c
        split at h
        · exact absurd rfl h
        · rename_i d
          have a2 := i_nlt a
          have b2 := i_nlt b
          have c2 := i_nlt c
          have d2 := i_nlt d
          have e0 : (0 : Int32).toInt = 0 := rfl
          have r := fb_rng (T.1 2)
          rw [e0] at a2 b2
          rw [fb_subI (by omega) (by omega)] at d2
          exact ⟨a2, b2, c2, d2⟩
def F_X5_cell_c46 (u : Ob) (rw : Nat → Ob) : Int32 × Ob :=
  (1, u)
def F_X5_cell (rw : Nat → Ob) (p1 : Int32) (p2 : Int32) (p3 : Int32) : Int32 × Ob :=
  (if (F_X5_isSheet p1) = 0 then ((-2), (rw (Int32.toNatClampNeg p1))) else (if (F_X1_isMissing (rw (Int32.toNatClampNeg p1))) = 0 then (if (F_X1_has (rw (Int32.toNatClampNeg p1)) p2 1) = 0 then ((-12), (rw (Int32.toNatClampNeg p1))) else (F_X5_cell_c46 (F_X1_write (rw (Int32.toNatClampNeg p1)) p2 p3) rw)) else ((-11), (rw (Int32.toNatClampNeg p1)))))
set_option maxHeartbeats 4000000 in
set_option maxRecDepth 100000 in
theorem c_X5_cell {l : Launch} {g : GG} {sz : Nat} {bb : Ob} {tx rw : Nat → Ob} {sb dy : Ob} {tn : Nat → Ob} {mo : Ob} {jk : Nat → Nat → Int32}  (p1 : Int32) (p2 : Int32) (p3 : Int32)  : Met l yX5_cell (Cond.code yX5_cell cX5_cell 5 (some .int) :: TT) (rmL 3) (va_Pc [.ref (gA g 0), .int p1, .int p2, .int p3] (gB g sz (gW g bb tx rw sb dy tn mo jk))) (va_Qi (fun r (u : Ob) => (F_X5_cell rw p1 p2 p3) = (r, u)) (fun u t => gC g (va_A (gW g bb tx rw sb dy tn mo jk) sz) (gW g bb tx (va_up rw (Int32.toNatClampNeg p1) u) sb dy tn mo jk) t) (va_A (gW g bb tx rw sb dy tn mo jk) sz)) 0 0 (va_A (gW g bb tx rw sb dy tn mo jk) sz) := by
  generalize hE : F_X5_cell rw p1 p2 p3 = EE
  refine g_of (Qf := fun A => (va_Qi (fun r (u : Ob) => EE = (r, u)) (fun u t => gC g A (gW g bb tx (va_up rw (Int32.toNatClampNeg p1) u) sb dy tn mo jk) t) A)) (cc := cX5_cell) (maxL := 5) (ret := (some .int)) (by decide) (Nat.le_of_ble_eq_true rfl) ?_
  intro p e s m below meth c A ls hx hb hml hr hlocks hts hown hA hG hl
  replace hown : s.vm.findClass RX5 = some m.cls := hown
  replace hl : lv_has ls 5 [(0, .ref (gA g 0)), (1, .int p1), (2, .int p2), (3, .int p3)] := hl
  show W p l e (rmL 3) s m [.ref (gA g 0), .int p1, .int p2, .int p3].toArray below meth c s.heap [] 0 0 (MQ below (va_Qi (fun r (u : Ob) => EE = (r, u)) (fun u t => gC g A (gW g bb tx (va_up rw (Int32.toNatClampNeg p1) u) sb dy tn mo jk) t) A) [.ref (gA g 0), .int p1, .int p2, .int p3].toArray s 0 0 A) (F0 m 0 ls [])
  generalize hQ : MQ below (va_Qi (fun r (u : Ob) => EE = (r, u)) (fun u t => gC g A (gW g bb tx (va_up rw (Int32.toNatClampNeg p1) u) sb dy tn mo jk) t) A) [.ref (gA g 0), .int p1, .int p2, .int p3].toArray s 0 0 A = Q
  replace hG : gS g A s s.heap [] (gW g bb tx (va_up rw (Int32.toNatClampNeg p1) (rw (Int32.toNatClampNeg p1))) sb dy tn mo jk) := by simpa only [up_self] using hG
  unfold F_X5_cell at hE
  refine lv_iload_n hx hb dX5_cell_0 rfl (lv_at hl 1 rfl) ?_
  refine g_si (g_runS (n := 1) (rest := []) hx hb hml hown hts hG (c_X5_isSheet p1) tw_ml_RX5_217 tw_st_X5_isSheet tw_in_RX5 tw_cd_X5_isSheet (by decide +kernel) ⟨rfl, rfl, Nat.le_of_ble_eq_true rfl, Nat.le_of_ble_eq_true rfl⟩ rfl hl.1 rfl (Nat.le_of_ble_eq_true rfl) dX5_cell_1 ⟨Nat.le_refl _, Nat.le_refl _⟩) hG hA (fun H locs hG => ?_)
  refine lv_if_ne (tgt := 10) hx hb dX5_cell_4 (by decide) (fun c_4 => ?_) (fun c_4 => ?_)
  · replace hE := (if_neg c_4).symm.trans hE
    have i_4 := isSheet_f c_4
    refine lv_aload_n hx hb dX5_cell_10 rfl (lv_at hl 0 rfl) ?_
    refine g_get hx hb hts hiX5 hown hG gw_Bell rfl 1 (by decide) (index := 17) tw_fl_RX5_17 (v := .ref (gA g 2)) rfl dX5_cell_11 ?_
    refine lv_iload_n hx hb dX5_cell_14 rfl (lv_at hl 1 rfl) ?_
    have hi_15 : vp_in p1 4 := (vp_i (by clear hE; omega) (by clear hE; omega))
    have hj_15 := vp_lt hi_15
    refine g_ald hx hb hG (q0 := 2) (t0 := 1) rfl rfl hi_15 (b := gA g (27 + 2 * (Int32.toNatClampNeg p1))) rfl dX5_cell_15 ?_
    refine lv_astore (lv' := [(4, .ref (gA g (27 + 2 * (Int32.toNatClampNeg p1)))), (0, .ref (gA g 0)), (1, .int p1), (2, .int p2), (3, .int p3)]) hx hb dX5_cell_16 hl (by decide) rfl (fun ls hl => ?_)
    replace hl := lv_sub hl [1, 2, 3, 4, 0] (l' := [(0, .ref (gA g 0)), (1, .int p1), (2, .int p2), (3, .int p3), (4, .ref (gA g (27 + 2 * (Int32.toNatClampNeg p1))))]) rfl
    refine lv_aload hx hb dX5_cell_18 (lv_at hl 4 rfl) ?_
    refine g_ci (g_runV (n := 0) (rest := []) hx hb hml hown hts hG (c_X1_isMissing hj_15 (up_same _ _ _)) tw_ml_RX5_232 tw_im_X1_isMissing tw_se_X1_isMissing tw_in_RX1 tw_cd_X1_isMissing (by decide +kernel) ⟨rfl, rfl, Nat.le_of_ble_eq_true rfl, Nat.le_of_ble_eq_true rfl⟩ (gw_Row hj_15 (up_same _ _ _)) rfl rfl hl.1 rfl (Nat.le_of_ble_eq_true rfl) dX5_cell_20 ⟨Nat.le_refl _, Nat.le_refl _⟩) hG hA (fun r _ H locs hp hG => ?_)
    subst hp
    replace hG : gS g A s H locs (gW g bb tx (va_up rw (Int32.toNatClampNeg p1) (rw (Int32.toNatClampNeg p1))) sb dy tn mo jk) := hG
    refine lv_if_eq (tgt := 29) hx hb dX5_cell_23 (by decide) (fun c_23 => ?_) (fun c_23 => ?_)
    · replace hE := (if_pos c_23).symm.trans hE
      refine lv_aload hx hb dX5_cell_29 (lv_at hl 4 rfl) ?_
      refine lv_iload_n hx hb dX5_cell_31 rfl (lv_at hl 2 rfl) ?_
      refine lv_iconst (v := 1) hx hb dX5_cell_32 (by decide) ?_
      refine g_ci (g_runV (n := 2) (rest := []) hx hb hml hown hts hG (c_X1_has hj_15 (up_same _ _ _) p2 1) tw_ml_RX5_236 tw_im_X1_has tw_se_X1_has tw_in_RX1 tw_cd_X1_has (by decide +kernel) ⟨rfl, rfl, Nat.le_of_ble_eq_true rfl, Nat.le_of_ble_eq_true rfl⟩ (gw_Row hj_15 (up_same _ _ _)) rfl rfl hl.1 rfl (Nat.le_of_ble_eq_true rfl) dX5_cell_33 ⟨Nat.le_refl _, Nat.le_refl _⟩) hG hA (fun r _ H locs hp hG => ?_)
      subst hp
      replace hG : gS g A s H locs (gW g bb tx (va_up rw (Int32.toNatClampNeg p1) (rw (Int32.toNatClampNeg p1))) sb dy tn mo jk) := hG
      refine lv_if_ne (tgt := 42) hx hb dX5_cell_36 (by decide) (fun c_36 => ?_) (fun c_36 => ?_)
      · replace hE := (if_neg c_36).symm.trans hE
        have i_36 := rowhas_f c_36
        refine lv_aload hx hb dX5_cell_42 (lv_at hl 4 rfl) ?_
        refine lv_iload_n hx hb dX5_cell_44 rfl (lv_at hl 2 rfl) ?_
        refine lv_iload_n hx hb dX5_cell_45 rfl (lv_at hl 3 rfl) ?_
        refine g_cv (g_runV (n := 2) (rest := []) hx hb hml hown hts hG (c_X1_write hj_15 (up_same _ _ _) p2 p3) tw_ml_RX5_223 tw_im_X1_write tw_se_X1_write tw_in_RX1 tw_cd_X1_write (by decide +kernel) ⟨rfl, rfl, Nat.le_of_ble_eq_true rfl, Nat.le_of_ble_eq_true rfl⟩ (gw_Row hj_15 (up_same _ _ _)) rfl rfl hl.1 rfl (Nat.le_of_ble_eq_true rfl) dX5_cell_46 ⟨Nat.le_refl _, Nat.le_refl _⟩) hG hA (fun u H locs hp hG => ?_)
        obtain ⟨r_m_46, rfl⟩ : ∃ z, z = u := ⟨u, rfl⟩
        replace hG : gS g A s H locs (gW g bb tx (va_up rw (Int32.toNatClampNeg p1) r_m_46) sb dy tn mo jk) := by simpa only [up_up] using hG
        have hp_46 := hp
        rw [hp] at hE
        unfold F_X5_cell_c46 at hE
        try dsimp only at hE
        refine lv_iconst (v := 1) hx hb dX5_cell_49 (by decide) ?_
        subst hQ
        exact g_iret hx hb hr hlocks hG ((r_m_46) : Ob) rfl hE.symm dX5_cell_50
      replace hE := (if_pos c_36).symm.trans hE
      refine lv_bipush (v := (-12)) hx hb dX5_cell_39 (by decide) ?_
      subst hQ
      exact g_iret hx hb hr hlocks hG (((rw (Int32.toNatClampNeg p1))) : Ob) rfl hE.symm dX5_cell_41
    replace hE := (if_neg c_23).symm.trans hE
    refine lv_bipush (v := (-11)) hx hb dX5_cell_26 (by decide) ?_
    subst hQ
    exact g_iret hx hb hr hlocks hG (((rw (Int32.toNatClampNeg p1))) : Ob) rfl hE.symm dX5_cell_28
  replace hE := (if_pos c_4).symm.trans hE
  refine lv_bipush (v := (-2)) hx hb dX5_cell_7 (by decide) ?_
  subst hQ
  exact g_iret hx hb hr hlocks hG (((rw (Int32.toNatClampNeg p1))) : Ob) rfl hE.symm dX5_cell_9
