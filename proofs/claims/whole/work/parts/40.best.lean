def F_X6_council_b207 (K52 : Ob → Int32 → Int32 → Int32 → Int32 → Int32 → Int32 → Int32 → Int32 × Ob) (mo : Ob) (x1 : Int32) (x2 : Int32) (x3 : Int32) (x4 : Int32) (x5 : Int32) (x6 : Int32) (x7 : Int32) : Int32 × Ob :=
  (K52 mo x1 x2 x3 x4 x5 x6 (x7 + 1))
def F_X6_council_b205 (K52 : Ob → Int32 → Int32 → Int32 → Int32 → Int32 → Int32 → Int32 → Int32 × Ob) (mo : Ob) (x1 : Int32) (x2 : Int32) (x3 : Int32) (x4 : Int32) (x5 : Int32) (x7 : Int32) (z0 : Int32) : Int32 × Ob :=
  (F_X6_council_b207 K52 mo x1 x2 x3 x4 x5 z0 x7)
def F_X6_council_b188 (K52 : Ob → Int32 → Int32 → Int32 → Int32 → Int32 → Int32 → Int32 → Int32 × Ob) (mo : Ob) (x1 : Int32) (x2 : Int32) (x3 : Int32) (x4 : Int32) (x6 : Int32) (x7 : Int32) (x9 : Int32) (z0 : Int32) : Int32 × Ob :=
  (if x9 = 0 then (F_X6_council_b205 K52 mo x1 x2 x3 x4 z0 x7 x6) else (F_X6_council_b205 K52 mo x1 x2 x3 x4 z0 x7 (F_X6_onesOf x7)))
def F_X6_council_c173 (K52 : Ob → Int32 → Int32 → Int32 → Int32 → Int32 → Int32 → Int32 → Int32 × Ob) (u : Ob) (x1 : Int32) (x2 : Int32) (x3 : Int32) (x4 : Int32) (x5 : Int32) (x6 : Int32) (x7 : Int32) (x9 : Int32) : Int32 × Ob :=
  (if x9 = 0 then (F_X6_council_b188 K52 u x1 x2 x3 x4 x6 x7 x9 x5) else (F_X6_council_b188 K52 u x1 x2 x3 x4 x6 x7 x9 x7))
def F_X6_council_b170 (K52 : Ob → Int32 → Int32 → Int32 → Int32 → Int32 → Int32 → Int32 → Int32 × Ob) (mo : Ob) (x1 : Int32) (x2 : Int32) (x3 : Int32) (x4 : Int32) (x5 : Int32) (x6 : Int32) (x7 : Int32) (z0 : Int32) : Int32 × Ob :=
  (F_X6_council_c173 K52 (F_X6_lays mo) x1 x2 x3 x4 x5 x6 x7 z0)
def F_X6_council_c149 (K52 : Ob → Int32 → Int32 → Int32 → Int32 → Int32 → Int32 → Int32 → Int32 × Ob) (K102 : Ob → Int32 → Int32 → Int32 → Int32 → Int32 → Int32 → Int32 → Int32 → Int32 × Ob) (u : Int32 × Ob) (x1 : Int32) (x2 : Int32) (x3 : Int32) (x4 : Int32) (x5 : Int32) (x6 : Int32) (x7 : Int32) : Int32 × Ob :=
  (if (F_X6_strikesBy u.2 (F_X6_liars u.2)) = x2 then (F_X6_council_b170 K52 u.2 x1 x2 x3 x4 x5 x6 x7 1) else (F_X6_council_b170 K52 u.2 x1 x2 x3 x4 x5 x6 x7 0))
def F_X6_council_b140 (K52 : Ob → Int32 → Int32 → Int32 → Int32 → Int32 → Int32 → Int32 → Int32 × Ob) (K102 : Ob → Int32 → Int32 → Int32 → Int32 → Int32 → Int32 → Int32 → Int32 → Int32 × Ob) (mo : Ob) (x1 : Int32) (x2 : Int32) (x3 : Int32) (x4 : Int32) (x5 : Int32) (x6 : Int32) (x7 : Int32) (x9 : Int32) (z1 : Int32) (z2 : Int32) : Int32 × Ob :=
  (K102 (stA mo 3 z1 z2) x1 x2 x3 x4 x5 x6 x7 (x9 + 1))
def F_X6_council_l102 : Nat → (Ob → Int32 → Int32 → Int32 → Int32 → Int32 → Int32 → Int32 → Int32 × Ob) → Ob → Int32 → Int32 → Int32 → Int32 → Int32 → Int32 → Int32 → Int32 → Int32 × Ob
  | 0, _, mo, _, _, _, _, _, _, _, _ => (0, mo)
  | n + 1, K52, mo, x1, x2, x3, x4, x5, x6, x7, x9 =>
    (if (mo.1 0) ≤ x9 then (F_X6_council_c149 K52 (F_X6_council_l102 n K52) (F_X6_goes mo x1) x1 x2 x3 x4 x5 x6 x7) else (if (((x7 ||| x4) >>> (x9 &&& 31)) &&& 1) = 1 then (F_X6_council_b140 K52 (F_X6_council_l102 n K52) mo x1 x2 x3 x4 x5 x6 x7 x9 ((4 * x9) + 3) 1) else (F_X6_council_b140 K52 (F_X6_council_l102 n K52) mo x1 x2 x3 x4 x5 x6 x7 x9 ((4 * x9) + 3) 0)))
def F_X6_council_b92 (K52 : Ob → Int32 → Int32 → Int32 → Int32 → Int32 → Int32 → Int32 → Int32 × Ob) (mo : Ob) (x1 : Int32) (x2 : Int32) (x3 : Int32) (x4 : Int32) (x5 : Int32) (x6 : Int32) (x7 : Int32) (z0 : Int32) : Int32 × Ob :=
  (if z0 = 0 then (F_X6_council_b207 K52 mo x1 x2 x3 x4 x5 x6 x7) else (F_X6_council_l102 7 K52 mo x1 x2 x3 x4 x5 x6 x7 0))
def F_X6_council_b91 (K52 : Ob → Int32 → Int32 → Int32 → Int32 → Int32 → Int32 → Int32 → Int32 × Ob) (mo : Ob) (x1 : Int32) (x2 : Int32) (x3 : Int32) (x4 : Int32) (x5 : Int32) (x6 : Int32) (x7 : Int32) : Int32 × Ob :=
  (F_X6_council_b92 K52 mo x1 x2 x3 x4 x5 x6 x7 0)
def F_X6_council_b87 (K52 : Ob → Int32 → Int32 → Int32 → Int32 → Int32 → Int32 → Int32 → Int32 × Ob) (mo : Ob) (x1 : Int32) (x2 : Int32) (x3 : Int32) (x4 : Int32) (x5 : Int32) (x6 : Int32) (x7 : Int32) : Int32 × Ob :=
  (F_X6_council_b92 K52 mo x1 x2 x3 x4 x5 x6 x7 1)
def F_X6_council_l52 : Nat → Ob → Int32 → Int32 → Int32 → Int32 → Int32 → Int32 → Int32 → Int32 × Ob
  | 0, mo, _, _, _, _, _, _, _ => (0, mo)
  | n + 1, mo, x1, x2, x3, x4, x5, x6, x7 =>
    (if (1 <<< ((mo.1 0) &&& 31)) ≤ x7 then (if x3 = 0 then (x5, mo) else (x6, mo)) else (if (x7 &&& x4) = 0 then (if x5 = (-1) then (F_X6_council_b87 (F_X6_council_l52 n ) mo x1 x2 x3 x4 x5 x6 x7) else (if x6 ≤ (F_X6_onesOf x7) then (F_X6_council_b91 (F_X6_council_l52 n ) mo x1 x2 x3 x4 x5 x6 x7) else (F_X6_council_b87 (F_X6_council_l52 n ) mo x1 x2 x3 x4 x5 x6 x7))) else (F_X6_council_b91 (F_X6_council_l52 n ) mo x1 x2 x3 x4 x5 x6 x7)))
def F_X6_council_c46 (u : Ob) (x1 : Int32) (x2 : Int32) (x3 : Int32) (x4 : Int32) (x5 : Int32) (x6 : Int32) : Int32 × Ob :=
  (F_X6_council_l52 65  u x1 x2 x3 x4 x5 x6 0)
def F_X6_council (mo : Ob) (p1 : Int32) (p2 : Int32) (p3 : Int32) : Int32 × Ob :=
  (if (F_X6_in p1 0 24) = 0 then ((-2), mo) else (if (F_X6_in p2 0 999) = 0 then ((-2), mo) else (if (F_X6_in p3 0 1) = 0 then ((-2), mo) else (F_X6_council_c46 (F_X6_keeps mo) p1 p2 p3 (F_X6_vows mo) (-1) (-1)))))
set_option maxHeartbeats 4000000 in
set_option maxRecDepth 100000 in
theorem c_X6_council {l : Launch} {g : GG} {sz : Nat} {bb : Ob} {tx rw : Nat → Ob} {sb dy : Ob} {tn : Nat → Ob} {mo : Ob} {jk : Nat → Nat → Int32}  (p1 : Int32) (p2 : Int32) (p3 : Int32) (hv : mEv mo) : Met l yX6_council (Cond.code yX6_council cX6_council 10 (some .int) :: TT) (rmL (8)) (va_Pc [.ref (gA g 58), .int p1, .int p2, .int p3] (gB g sz (gW g bb tx rw sb dy tn mo jk))) (va_Qi (fun r (u : Ob × (Nat → Nat → Int32)) => (F_X6_council mo p1 p2 p3) = (r, u.1)) (fun u t => gC g (va_A (gW g bb tx rw sb dy tn mo jk) sz) (gW g bb tx rw sb dy tn u.1 u.2) t) (va_A (gW g bb tx rw sb dy tn mo jk) sz)) 0 0 (va_A (gW g bb tx rw sb dy tn mo jk) sz) := by
  generalize hE : F_X6_council mo p1 p2 p3 = EE
  refine g_of (Qf := fun A => (va_Qi (fun r (u : Ob × (Nat → Nat → Int32)) => EE = (r, u.1)) (fun u t => gC g A (gW g bb tx rw sb dy tn u.1 u.2) t) A)) (cc := cX6_council) (maxL := 10) (ret := (some .int)) (by decide) (Nat.le_of_ble_eq_true rfl) ?_
  intro p e s m below meth c A ls hx hb hml hr hlocks hts hown hA hG hl
  replace hown : s.vm.findClass RX6 = some m.cls := hown
  replace hl : lv_has ls 10 [(0, .ref (gA g 58)), (1, .int p1), (2, .int p2), (3, .int p3)] := hl
  show W p l e (rmL (8)) s m [.ref (gA g 58), .int p1, .int p2, .int p3].toArray below meth c s.heap [] 0 0 (MQ below (va_Qi (fun r (u : Ob × (Nat → Nat → Int32)) => EE = (r, u.1)) (fun u t => gC g A (gW g bb tx rw sb dy tn u.1 u.2) t) A) [.ref (gA g 58), .int p1, .int p2, .int p3].toArray s 0 0 A) (F0 m 0 ls [])
  generalize hQ : MQ below (va_Qi (fun r (u : Ob × (Nat → Nat → Int32)) => EE = (r, u.1)) (fun u t => gC g A (gW g bb tx rw sb dy tn u.1 u.2) t) A) [.ref (gA g 58), .int p1, .int p2, .int p3].toArray s 0 0 A = Q
  have hpo := hv.1
  unfold F_X6_council at hE
  refine lv_iload_n hx hb dX6_council_0 rfl (lv_at hl 1 rfl) ?_
  refine lv_iconst (v := 0) hx hb dX6_council_1 (by decide) ?_
  refine lv_bipush (v := 24) hx hb dX6_council_2 (by decide) ?_
  refine g_si (g_runS (n := 3) (rest := []) hx hb hml hown hts hG (c_X6_in p1 0 24) tw_ml_RX6_81 tw_st_X6_in tw_in_RX6 tw_cd_X6_in (by decide +kernel) ⟨rfl, rfl, Nat.le_of_ble_eq_true rfl, Nat.le_of_ble_eq_true rfl⟩ rfl hl.1 rfl (Nat.le_of_ble_eq_true rfl) dX6_council_4 ⟨Nat.le_refl _, Nat.le_refl _⟩) hG hA (fun H locs hG => ?_)
  refine lv_if_eq (tgt := 30) hx hb dX6_council_7 (by decide) (fun c_7 => ?_) (fun c_7 => ?_)
  · replace hE := (if_pos c_7).symm.trans hE
    refine lv_bipush (v := (-2)) hx hb dX6_council_30 (by decide) ?_
    subst hQ
    exact g_iret hx hb hr hlocks hG ((mo, jk) : Ob × (Nat → Nat → Int32)) rfl hE.symm dX6_council_32
  replace hE := (if_neg c_7).symm.trans hE
  have i_7 : 0 ≤ p1.toInt ∧ p1.toInt ≤ 24 := in_f c_7
  refine lv_iload_n hx hb dX6_council_10 rfl (lv_at hl 2 rfl) ?_
  refine lv_iconst (v := 0) hx hb dX6_council_11 (by decide) ?_
  refine lv_sipush (v := 999) hx hb dX6_council_12 (by decide) ?_
  refine g_si (g_runS (n := 3) (rest := []) hx hb hml hown hts hG (c_X6_in p2 0 999) tw_ml_RX6_81 tw_st_X6_in tw_in_RX6 tw_cd_X6_in (by decide +kernel) ⟨rfl, rfl, Nat.le_of_ble_eq_true rfl, Nat.le_of_ble_eq_true rfl⟩ rfl hl.1 rfl (Nat.le_of_ble_eq_true rfl) dX6_council_15 ⟨Nat.le_refl _, Nat.le_refl _⟩) hG hA (fun H locs hG => ?_)
  refine lv_if_eq (tgt := 30) hx hb dX6_council_18 (by decide) (fun c_18 => ?_) (fun c_18 => ?_)
  · replace hE := (if_pos c_18).symm.trans hE
    refine lv_bipush (v := (-2)) hx hb dX6_council_30 (by decide) ?_
    subst hQ
    exact g_iret hx hb hr hlocks hG ((mo, jk) : Ob × (Nat → Nat → Int32)) rfl hE.symm dX6_council_32
  replace hE := (if_neg c_18).symm.trans hE
  have i_18 : 0 ≤ p2.toInt ∧ p2.toInt ≤ 999 := in_f c_18
  refine lv_iload_n hx hb dX6_council_21 rfl (lv_at hl 3 rfl) ?_
  refine lv_iconst (v := 0) hx hb dX6_council_22 (by decide) ?_
  refine lv_iconst (v := 1) hx hb dX6_council_23 (by decide) ?_
  refine g_si (g_runS (n := 3) (rest := []) hx hb hml hown hts hG (c_X6_in p3 0 1) tw_ml_RX6_81 tw_st_X6_in tw_in_RX6 tw_cd_X6_in (by decide +kernel) ⟨rfl, rfl, Nat.le_of_ble_eq_true rfl, Nat.le_of_ble_eq_true rfl⟩ rfl hl.1 rfl (Nat.le_of_ble_eq_true rfl) dX6_council_24 ⟨Nat.le_refl _, Nat.le_refl _⟩) hG hA (fun H locs hG => ?_)
  refine lv_if_ne (tgt := 33) hx hb dX6_council_27 (by decide) (fun c_27 => ?_) (fun c_27 => ?_)
  · replace hE := (if_neg c_27).symm.trans hE
    have i_27 : 0 ≤ p3.toInt ∧ p3.toInt ≤ 1 := in_f c_27
    refine lv_aload_n hx hb dX6_council_33 rfl (lv_at hl 0 rfl) ?_
    refine g_ci (g_runV (n := 0) (rest := []) hx hb hml hown hts hG (c_X6_vows (show 0 ≤ (mo.1 0).toInt ∧ (mo.1 0).toInt ≤ 6 from by clear hE; omega)) tw_ml_RX6_189 tw_im_X6_vows tw_se_X6_vows tw_in_RX6 tw_cd_X6_vows (by decide +kernel) ⟨rfl, rfl, Nat.le_of_ble_eq_true rfl, Nat.le_of_ble_eq_true rfl⟩ gw_Model rfl rfl hl.1 rfl (Nat.le_of_ble_eq_true rfl) dX6_council_34 ⟨Nat.le_refl _, Nat.le_refl _⟩) hG hA (fun r _ H locs hp hG => ?_)
    subst hp
    replace hG : gS g A s H locs (gW g bb tx rw sb dy tn mo jk) := hG
    refine lv_istore (lv' := [(4, .int (F_X6_vows mo)), (0, .ref (gA g 58)), (1, .int p1), (2, .int p2), (3, .int p3)]) hx hb dX6_council_37 hl (by decide) rfl (fun ls hl => ?_)
    replace hl := lv_sub hl [1, 2, 3, 4, 0] (l' := [(0, .ref (gA g 58)), (1, .int p1), (2, .int p2), (3, .int p3), (4, .int (F_X6_vows mo))]) rfl
    refine lv_iconst (v := (-1)) hx hb dX6_council_39 (by decide) ?_
    refine lv_istore (lv' := [(5, .int (-1)), (0, .ref (gA g 58)), (1, .int p1), (2, .int p2), (3, .int p3), (4, .int (F_X6_vows mo))]) hx hb dX6_council_40 hl (by decide) rfl (fun ls hl => ?_)
    replace hl := lv_sub hl [1, 2, 3, 4, 5, 0] (l' := [(0, .ref (gA g 58)), (1, .int p1), (2, .int p2), (3, .int p3), (4, .int (F_X6_vows mo)), (5, .int (-1))]) rfl
    refine lv_iconst (v := (-1)) hx hb dX6_council_42 (by decide) ?_
    refine lv_istore (lv' := [(6, .int (-1)), (0, .ref (gA g 58)), (1, .int p1), (2, .int p2), (3, .int p3), (4, .int (F_X6_vows mo)), (5, .int (-1))]) hx hb dX6_council_43 hl (by decide) rfl (fun ls hl => ?_)
    replace hl := lv_sub hl [1, 2, 3, 4, 5, 6, 0] (l' := [(0, .ref (gA g 58)), (1, .int p1), (2, .int p2), (3, .int p3), (4, .int (F_X6_vows mo)), (5, .int (-1)), (6, .int (-1))]) rfl
    refine lv_aload_n hx hb dX6_council_45 rfl (lv_at hl 0 rfl) ?_
    refine g_cv (g_runV (n := 0) (rest := []) hx hb hml hown hts hG (c_X6_keeps) tw_ml_RX6_199 tw_im_X6_keeps tw_se_X6_keeps tw_in_RX6 tw_cd_X6_keeps (by decide +kernel) ⟨rfl, rfl, Nat.le_of_ble_eq_true rfl, Nat.le_of_ble_eq_true rfl⟩ gw_Model rfl rfl hl.1 rfl (Nat.le_of_ble_eq_true rfl) dX6_council_46 ⟨Nat.le_refl _, Nat.le_refl _⟩) hG hA (fun u H locs hp hG => ?_)
    obtain ⟨mo_46, rfl⟩ : ∃ z, z = u := ⟨u, rfl⟩
    replace hG : gS g A s H locs (gW g bb tx rw sb dy tn mo_46 jk) := by simpa only [up_up] using hG
    have hp_46 := hp
    rw [hp] at hE
    unfold F_X6_council_c46 at hE
    try dsimp only at hE
    have hv46 : mEv mo_46 := (keeps_hR hp_46).mEv hv
    refine lv_iconst (v := 0) hx hb dX6_council_49 (by decide) ?_
    refine lv_istore (lv' := [(7, .int 0), (0, .ref (gA g 58)), (1, .int p1), (2, .int p2), (3, .int p3), (4, .int (F_X6_vows mo)), (5, .int (-1)), (6, .int (-1))]) hx hb dX6_council_50 hl (by decide) rfl (fun ls hl => ?_)
    replace hl := lv_sub hl [1, 2, 3, 4, 5, 6, 7, 0] (l' := [(0, .ref (gA g 58)), (1, .int p1), (2, .int p2), (3, .int p3), (4, .int (F_X6_vows mo)), (5, .int (-1)), (6, .int (-1)), (7, .int 0)]) rfl
    have L52 : ∀ (n52 : Nat) (x5_52 : Int32) (x6_52 : Int32) (x7_52 : Int32) (mo_52 : Ob) (jk : (Nat → Nat → Int32)) (H : Heap) (locs : List Loc), gS g A s H locs (gW g bb tx rw sb dy tn mo_52 jk) → ∀ ls : Array Slot, lv_has ls 10 [(0, .ref (gA g 58)), (1, .int p1), (2, .int p2), (3, .int p3), (4, .int (F_X6_vows mo)), (5, .int x5_52), (6, .int x6_52), (7, .int x7_52)] → 0 ≤ x7_52.toInt → x7_52.toInt ≤ 64 → 64 < x7_52.toInt + n52 → mEv mo_52 → F_X6_council_l52 n52  mo_52 p1 p2 p3 (F_X6_vows mo) x5_52 x6_52 x7_52 = EE → W p l e (rmL (8)) s m [.ref (gA g 58), .int p1, .int p2, .int p3].toArray below meth c H locs 0 0 Q (F0 m 52 ls []) := by
      intro n52
      induction n52 with
      | zero =>
        intro x5_52 x6_52 x7_52 mo_52 jk H locs hG ls hl h0_52 h1_52 hm_52 hv52 hE
        clear hE; omega
      | succ n52 ih52 =>
        intro x5_52 x6_52 x7_52 mo_52 jk H locs hG ls hl h0_52 h1_52 hm_52 hv52 hE
        unfold F_X6_council_l52 at hE
        have hsl52 := shl0_le hv52.1
        refine lv_iload hx hb dX6_council_52 (lv_at hl 7 rfl) ?_
        refine lv_iconst (v := 1) hx hb dX6_council_54 (by decide) ?_
        refine lv_aload_n hx hb dX6_council_55 rfl (lv_at hl 0 rfl) ?_
        refine g_get hx hb hts hiX6 hown hG gw_Model rfl 0 (by decide) (index := 78) tw_fl_RX6_78 (v := .int (mo_52.1 0)) rfl dX6_council_56 ?_
        refine lv_ishl hx hb dX6_council_59 ?_
        refine lv_icmp_ge (tgt := 213) hx hb dX6_council_60 (by decide) (fun c_60 => ?_) (fun c_60 => ?_)
        · replace hE := (if_pos c_60).symm.trans hE
          have i_60 : (1 <<< ((mo_52.1 0) &&& 31)).toInt ≤ x7_52.toInt := i_le.mp c_60
          refine lv_iload_n hx hb dX6_council_213 rfl (lv_at hl 3 rfl) ?_
          refine lv_if_ne (tgt := 222) hx hb dX6_council_214 (by decide) (fun c_214 => ?_) (fun c_214 => ?_)
          · replace hE := (if_neg c_214).symm.trans hE
            have i_214 : p3.toInt ≠ 0 := fun h => c_214 (Int32.toInt_inj.mp h)
            refine lv_iload hx hb dX6_council_222 (lv_at hl 6 rfl) ?_
            subst hQ
            exact g_iret hx hb hr hlocks hG ((mo_52, jk) : Ob × (Nat → Nat → Int32)) rfl hE.symm dX6_council_224
          replace hE := (if_pos c_214).symm.trans hE
          have i_214 : p3.toInt = 0 := congrArg Int32.toInt c_214
          refine lv_iload hx hb dX6_council_217 (lv_at hl 5 rfl) ?_
          refine lv_goto (tgt := 224) hx hb dX6_council_219 (by decide) ?_
          subst hQ
          exact g_iret hx hb hr hlocks hG ((mo_52, jk) : Ob × (Nat → Nat → Int32)) rfl hE.symm dX6_council_224
        replace hE := (if_neg c_60).symm.trans hE
        have i_60 : x7_52.toInt < (1 <<< ((mo_52.1 0) &&& 31)).toInt := i_nle c_60
        refine lv_iload hx hb dX6_council_63 (lv_at hl 7 rfl) ?_
        refine lv_iload hx hb dX6_council_65 (lv_at hl 4 rfl) ?_
        refine lv_iand hx hb dX6_council_67 ?_
        have J92 : ∀ (z0_92 : Int32) (jk : (Nat → Nat → Int32)) (H : Heap) (locs : List Loc), gS g A s H locs (gW g bb tx rw sb dy tn mo_52 jk) → ∀ ls : Array Slot, lv_has ls 10 [(0, .ref (gA g 58)), (1, .int p1), (2, .int p2), (3, .int p3), (4, .int (F_X6_vows mo)), (5, .int x5_52), (6, .int x6_52), (7, .int x7_52)] → F_X6_council_b92  (F_X6_council_l52 n52 ) mo_52 p1 p2 p3 (F_X6_vows mo) x5_52 x6_52 x7_52 z0_92 = EE → W p l e (rmL (8)) s m [.ref (gA g 58), .int p1, .int p2, .int p3].toArray below meth c H locs 0 0 Q (F0 m 92 ls [.int z0_92]) := by
          intro z0_92 jk H locs hG ls hl  hE
          unfold F_X6_council_b92 at hE
          refine lv_istore (lv' := [(8, .int z0_92), (0, .ref (gA g 58)), (1, .int p1), (2, .int p2), (3, .int p3), (4, .int (F_X6_vows mo)), (5, .int x5_52), (6, .int x6_52), (7, .int x7_52)]) hx hb dX6_council_92 hl (by decide) rfl (fun ls hl => ?_)
          replace hl := lv_sub hl [1, 2, 3, 4, 5, 6, 7, 8, 0] (l' := [(0, .ref (gA g 58)), (1, .int p1), (2, .int p2), (3, .int p3), (4, .int (F_X6_vows mo)), (5, .int x5_52), (6, .int x6_52), (7, .int x7_52), (8, .int z0_92)]) rfl
          refine lv_iload hx hb dX6_council_94 (lv_at hl 8 rfl) ?_
          have J207 : ∀ (x5_207 : Int32) (x6_207 : Int32) (mo_207 : Ob) (jk : (Nat → Nat → Int32)) (H : Heap) (locs : List Loc), gS g A s H locs (gW g bb tx rw sb dy tn mo_207 jk) → ∀ ls : Array Slot, lv_has ls 10 [(0, .ref (gA g 58)), (1, .int p1), (2, .int p2), (3, .int p3), (4, .int (F_X6_vows mo)), (5, .int x5_207), (6, .int x6_207), (7, .int x7_52)] → mEv mo_207 → F_X6_council_b207  (F_X6_council_l52 n52 ) mo_207 p1 p2 p3 (F_X6_vows mo) x5_207 x6_207 x7_52 = EE → W p l e (rmL (8)) s m [.ref (gA g 58), .int p1, .int p2, .int p3].toArray below meth c H locs 0 0 Q (F0 m 207 ls []) := by
            intro x5_207 x6_207 mo_207 jk H locs hG ls hl hv207 hE
            unfold F_X6_council_b207 at hE
            refine lv_iinc (v := (x7_52 + 1)) (lv' := [(7, .int (x7_52 + 1)), (0, .ref (gA g 58)), (1, .int p1), (2, .int p2), (3, .int p3), (4, .int (F_X6_vows mo)), (5, .int x5_207), (6, .int x6_207)]) hx hb dX6_council_207 hl (k := 7) rfl rfl (by decide) rfl (fun ls hl => ?_)
            replace hl := lv_sub hl [1, 2, 3, 4, 5, 6, 7, 0] (l' := [(0, .ref (gA g 58)), (1, .int p1), (2, .int p2), (3, .int p3), (4, .int (F_X6_vows mo)), (5, .int x5_207), (6, .int x6_207), (7, .int (x7_52 + 1))]) rfl
            refine lv_goto (tgt := 52) hx hb dX6_council_210 (by decide) ?_
            have e1 : (x7_52 + 1).toInt = x7_52.toInt + 1 := addL (k := 1) (by decide +kernel) (by clear hE; omega) (by clear hE; omega)
            exact ih52 x5_207 x6_207 (x7_52 + 1) mo_207 _ _ _ hG _ (lv_sub hl [0, 1, 2, 3, 4, 5, 6, 7] rfl) (by clear hE; omega) (by clear hE; omega) (by clear hE; omega) hv207 hE
          refine lv_if_eq (tgt := 207) hx hb dX6_council_96 (by decide) (fun c_96 => ?_) (fun c_96 => ?_)
          · replace hE := (if_pos c_96).symm.trans hE
            have i_96 : z0_92.toInt = 0 := congrArg Int32.toInt c_96
            exact J207 x5_52 x6_52 mo_52 _ _ _ hG _ (lv_sub hl [0, 1, 2, 3, 4, 5, 6, 7] rfl) hv52 hE
          replace hE := (if_neg c_96).symm.trans hE
          have i_96 : z0_92.toInt ≠ 0 := fun h => c_96 (Int32.toInt_inj.mp h)
          refine lv_iconst (v := 0) hx hb dX6_council_99 (by decide) ?_
          refine lv_istore (lv' := [(9, .int 0), (0, .ref (gA g 58)), (1, .int p1), (2, .int p2), (3, .int p3), (4, .int (F_X6_vows mo)), (5, .int x5_52), (6, .int x6_52), (7, .int x7_52), (8, .int z0_92)]) hx hb dX6_council_100 hl (by decide) rfl (fun ls hl => ?_)
          replace hl := lv_sub hl [1, 2, 3, 4, 5, 6, 7, 8, 9, 0] (l' := [(0, .ref (gA g 58)), (1, .int p1), (2, .int p2), (3, .int p3), (4, .int (F_X6_vows mo)), (5, .int x5_52), (6, .int x6_52), (7, .int x7_52), (8, .int z0_92), (9, .int 0)]) rfl
          have L102 : ∀ (n102 : Nat) (x9_102 : Int32) (mo_102 : Ob) (jk : (Nat → Nat → Int32)) (H : Heap) (locs : List Loc), gS g A s H locs (gW g bb tx rw sb dy tn mo_102 jk) → ∀ ls : Array Slot, lv_has ls 10 [(0, .ref (gA g 58)), (1, .int p1), (2, .int p2), (3, .int p3), (4, .int (F_X6_vows mo)), (5, .int x5_52), (6, .int x6_52), (7, .int x7_52), (9, .int x9_102)] → 0 ≤ x9_102.toInt → x9_102.toInt ≤ 6 → 6 < x9_102.toInt + n102 → mEv mo_102 → F_X6_council_l102 n102 (F_X6_council_l52 n52 ) mo_102 p1 p2 p3 (F_X6_vows mo) x5_52 x6_52 x7_52 x9_102 = EE → W p l e (rmL (8)) s m [.ref (gA g 58), .int p1, .int p2, .int p3].toArray below meth c H locs 0 0 Q (F0 m 102 ls []) := by
            intro n102
            induction n102 with
            | zero =>
              intro x9_102 mo_102 jk H locs hG ls hl h0_102 h1_102 hm_102 hv102 hE
              clear hE; omega
            | succ n102 ih102 =>
              intro x9_102 mo_102 jk H locs hG ls hl h0_102 h1_102 hm_102 hv102 hE
              unfold F_X6_council_l102 at hE
              have hpo102 := hv102.1
              refine lv_iload hx hb dX6_council_102 (lv_at hl 8 rfl) ?_
              refine lv_aload_n hx hb dX6_council_104 rfl (lv_at hl 0 rfl) ?_
              refine g_get hx hb hts hiX6 hown hG gw_Model rfl 0 (by decide) (index := 78) tw_fl_RX6_78 (v := .int (mo_102.1 0)) rfl dX6_council_105 ?_
              refine lv_icmp_ge (tgt := 147) hx hb dX6_council_108 (by decide) (fun c_108 => ?_) (fun c_108 => ?_)
              · replace hE := (if_pos c_108).symm.trans hE
                have i_108 : (mo_102.1 0).toInt ≤ x9_102.toInt := i_le.mp c_108
                refine lv_aload_n hx hb dX6_council_147 rfl (lv_at hl 0 rfl) ?_
                refine lv_iload_n hx hb dX6_council_148 rfl (lv_at hl 1 rfl) ?_
                refine g_ci (g_runV (n := 1) (rest := []) hx hb hml hown hts hG (c_X6_goes p1 hv102 (by clear hE; omega)) tw_ml_RX6_202 tw_im_X6_goes tw_se_X6_goes tw_in_RX6 tw_cd_X6_goes (by decide +kernel) ⟨rfl, rfl, Nat.le_of_ble_eq_true rfl, Nat.le_of_ble_eq_true rfl⟩ gw_Model rfl rfl hl.1 rfl (Nat.le_of_ble_eq_true rfl) dX6_council_149 ⟨Nat.le_refl _, Nat.le_refl _⟩) hG hA (fun r_149 u H locs hp hG => ?_)
                obtain ⟨mo_149, jk⟩ := u
                replace hG : gS g A s H locs (gW g bb tx rw sb dy tn mo_149 jk) := by simpa only [up_up] using hG
                have hp_149 := hp
                rw [hp] at hE
                unfold F_X6_council_c149 at hE
                try dsimp only at hE
                have hv149 : mEv mo_149 := (goes_hR hp_149).mEv hv102
                refine lv_pop hx hb dX6_council_152 rfl ?_
                refine lv_aload_n hx hb dX6_council_153 rfl (lv_at hl 0 rfl) ?_
                refine lv_aload_n hx hb dX6_council_154 rfl (lv_at hl 0 rfl) ?_
                refine g_ci (g_runV (n := 0) (rest := [.ref (gA g 58)]) hx hb hml hown hts hG (c_X6_liars hv149) tw_ml_RX6_183 tw_im_X6_liars tw_se_X6_liars tw_in_RX6 tw_cd_X6_liars (by decide +kernel) ⟨rfl, rfl, Nat.le_of_ble_eq_true rfl, Nat.le_of_ble_eq_true rfl⟩ gw_Model rfl rfl hl.1 rfl (Nat.le_of_ble_eq_true rfl) dX6_council_155 ⟨Nat.le_refl _, Nat.le_refl _⟩) hG hA (fun r jk H locs hp hG => ?_)
                subst hp
                replace hG : gS g A s H locs (gW g bb tx rw sb dy tn mo_149 jk) := hG
                refine g_ci (g_runV (n := 1) (rest := []) hx hb hml hown hts hG (c_X6_strikesBy (F_X6_liars mo_149) hv149) tw_ml_RX6_186 tw_im_X6_strikesBy tw_se_X6_strikesBy tw_in_RX6 tw_cd_X6_strikesBy (by decide +kernel) ⟨rfl, rfl, Nat.le_of_ble_eq_true rfl, Nat.le_of_ble_eq_true rfl⟩ gw_Model rfl rfl hl.1 rfl (Nat.le_of_ble_eq_true rfl) dX6_council_158 ⟨Nat.le_refl _, Nat.le_refl _⟩) hG hA (fun r jk H locs hp hG => ?_)
                subst hp
                replace hG : gS g A s H locs (gW g bb tx rw sb dy tn mo_149 jk) := hG
                refine lv_iload_n hx hb dX6_council_161 rfl (lv_at hl 2 rfl) ?_
                have J170 : ∀ (z0_170 : Int32) (jk : (Nat → Nat → Int32)) (H : Heap) (locs : List Loc), gS g A s H locs (gW g bb tx rw sb dy tn mo_149 jk) → ∀ ls : Array Slot, lv_has ls 10 [(0, .ref (gA g 58)), (1, .int p1), (2, .int p2), (3, .int p3), (4, .int (F_X6_vows mo)), (5, .int x5_52), (6, .int x6_52), (7, .int x7_52)] → F_X6_council_b170  (F_X6_council_l52 n52 ) mo_149 p1 p2 p3 (F_X6_vows mo) x5_52 x6_52 x7_52 z0_170 = EE → W p l e (rmL (8)) s m [.ref (gA g 58), .int p1, .int p2, .int p3].toArray below meth c H locs 0 0 Q (F0 m 170 ls [.int z0_170]) := by
                  intro z0_170 jk H locs hG ls hl  hE
                  unfold F_X6_council_b170 at hE
                  refine lv_istore (lv' := [(9, .int z0_170), (0, .ref (gA g 58)), (1, .int p1), (2, .int p2), (3, .int p3), (4, .int (F_X6_vows mo)), (5, .int x5_52), (6, .int x6_52), (7, .int x7_52)]) hx hb dX6_council_170 hl (by decide) rfl (fun ls hl => ?_)
                  replace hl := lv_sub hl [1, 2, 3, 4, 5, 6, 7, 8, 0] (l' := [(0, .ref (gA g 58)), (1, .int p1), (2, .int p2), (3, .int p3), (4, .int (F_X6_vows mo)), (5, .int x5_52), (6, .int x6_52), (7, .int x7_52), (9, .int z0_170)]) rfl
                  refine lv_aload_n hx hb dX6_council_172 rfl (lv_at hl 0 rfl) ?_
                  refine g_cv (g_runV (n := 0) (rest := []) hx hb hml hown hts hG (c_X6_lays) tw_ml_RX6_205 tw_im_X6_lays tw_se_X6_lays tw_in_RX6 tw_cd_X6_lays (by decide +kernel) ⟨rfl, rfl, Nat.le_of_ble_eq_true rfl, Nat.le_of_ble_eq_true rfl⟩ gw_Model rfl rfl hl.1 rfl (Nat.le_of_ble_eq_true rfl) dX6_council_173 ⟨Nat.le_refl _, Nat.le_refl _⟩) hG hA (fun u H locs hp hG => ?_)
                  obtain ⟨mo_173, rfl⟩ : ∃ z, z = u := ⟨u, rfl⟩
                  replace hG : gS g A s H locs (gW g bb tx rw sb dy tn mo_173 jk) := by simpa only [up_up] using hG
                  have hp_173 := hp
                  rw [hp] at hE
                  unfold F_X6_council_c173 at hE
                  try dsimp only at hE
                  have hv173 : mEv mo_173 := (lays_hR hp_173).mEv hv149
                  refine lv_iload hx hb dX6_council_176 (lv_at hl 8 rfl) ?_
                  have J188 : ∀ (z0_188 : Int32) (jk : (Nat → Nat → Int32)) (H : Heap) (locs : List Loc), gS g A s H locs (gW g bb tx rw sb dy tn mo_173 jk) → ∀ ls : Array Slot, lv_has ls 10 [(0, .ref (gA g 58)), (1, .int p1), (2, .int p2), (3, .int p3), (4, .int (F_X6_vows mo)), (6, .int x6_52), (7, .int x7_52), (9, .int z0_170)] → F_X6_council_b188  (F_X6_council_l52 n52 ) mo_173 p1 p2 p3 (F_X6_vows mo) x6_52 x7_52 z0_170 z0_188 = EE → W p l e (rmL (8)) s m [.ref (gA g 58), .int p1, .int p2, .int p3].toArray below meth c H locs 0 0 Q (F0 m 188 ls [.int z0_188]) := by
                    intro z0_188 jk H locs hG ls hl  hE
                    unfold F_X6_council_b188 at hE
                    refine lv_istore (lv' := [(5, .int z0_188), (0, .ref (gA g 58)), (1, .int p1), (2, .int p2), (3, .int p3), (4, .int (F_X6_vows mo)), (6, .int x6_52), (7, .int x7_52), (9, .int z0_170)]) hx hb dX6_council_188 hl (by decide) rfl (fun ls hl => ?_)
                    replace hl := lv_sub hl [1, 2, 3, 4, 5, 0, 6, 7, 8] (l' := [(0, .ref (gA g 58)), (1, .int p1), (2, .int p2), (3, .int p3), (4, .int (F_X6_vows mo)), (5, .int z0_188), (6, .int x6_52), (7, .int x7_52), (9, .int z0_170)]) rfl
                    refine lv_iload hx hb dX6_council_190 (lv_at hl 8 rfl) ?_
                    have J205 : ∀ (z0_205 : Int32) (jk : (Nat → Nat → Int32)) (H : Heap) (locs : List Loc), gS g A s H locs (gW g bb tx rw sb dy tn mo_173 jk) → ∀ ls : Array Slot, lv_has ls 10 [(0, .ref (gA g 58)), (1, .int p1), (2, .int p2), (3, .int p3), (4, .int (F_X6_vows mo)), (5, .int z0_188), (7, .int x7_52)] → mEv mo_173 → F_X6_council_b205  (F_X6_council_l52 n52 ) mo_173 p1 p2 p3 (F_X6_vows mo) z0_188 x7_52 z0_205 = EE → W p l e (rmL (8)) s m [.ref (gA g 58), .int p1, .int p2, .int p3].toArray below meth c H locs 0 0 Q (F0 m 205 ls [.int z0_205]) := by
                      intro z0_205 jk H locs hG ls hl hv205 hE
                      unfold F_X6_council_b205 at hE
                      refine lv_istore (lv' := [(6, .int z0_205), (0, .ref (gA g 58)), (1, .int p1), (2, .int p2), (3, .int p3), (4, .int (F_X6_vows mo)), (5, .int z0_188), (7, .int x7_52)]) hx hb dX6_council_205 hl (by decide) rfl (fun ls hl => ?_)
                      replace hl := lv_sub hl [1, 2, 3, 4, 5, 6, 0, 7] (l' := [(0, .ref (gA g 58)), (1, .int p1), (2, .int p2), (3, .int p3), (4, .int (F_X6_vows mo)), (5, .int z0_188), (6, .int z0_205), (7, .int x7_52)]) rfl
                      exact J207 z0_188 z0_205 mo_173 _ _ _ hG _ (lv_sub hl [0, 1, 2, 3, 4, 5, 6, 7] rfl) hv205 hE
                    refine lv_if_eq (tgt := 203) hx hb dX6_council_192 (by decide) (fun c_192 => ?_) (fun c_192 => ?_)
                    · replace hE := (if_pos c_192).symm.trans hE
                      have i_192 : z0_170.toInt = 0 := congrArg Int32.toInt c_192
                      refine lv_iload hx hb dX6_council_203 (lv_at hl 6 rfl) ?_
                      exact J205 x6_52 _ _ _ hG _ (lv_sub hl [0, 1, 2, 3, 4, 5, 7] rfl) hv173 hE
                    replace hE := (if_neg c_192).symm.trans hE
                    have i_192 : z0_170.toInt ≠ 0 := fun h => c_192 (Int32.toInt_inj.mp h)
                    refine lv_iload hx hb dX6_council_195 (lv_at hl 7 rfl) ?_
                    refine g_si (g_runS (n := 1) (rest := []) hx hb hml hown hts hG (c_X6_onesOf x7_52) tw_ml_RX6_226 tw_st_X6_onesOf tw_in_RX6 tw_cd_X6_onesOf (by decide +kernel) ⟨rfl, rfl, Nat.le_of_ble_eq_true rfl, Nat.le_of_ble_eq_true rfl⟩ rfl hl.1 rfl (Nat.le_of_ble_eq_true rfl) dX6_council_197 ⟨Nat.le_refl _, Nat.le_refl _⟩) hG hA (fun H locs hG => ?_)
                    refine lv_goto (tgt := 205) hx hb dX6_council_200 (by decide) ?_
                    exact J205 (F_X6_onesOf x7_52) _ _ _ hG _ (lv_sub hl [0, 1, 2, 3, 4, 5, 7] rfl) hv173 hE
                  refine lv_if_eq (tgt := 186) hx hb dX6_council_178 (by decide) (fun c_178 => ?_) (fun c_178 => ?_)
                  · replace hE := (if_pos c_178).symm.trans hE
                    have i_178 : z0_170.toInt = 0 := congrArg Int32.toInt c_178
                    refine lv_iload hx hb dX6_council_186 (lv_at hl 5 rfl) ?_
                    exact J188 x5_52 _ _ _ hG _ (lv_sub hl [0, 1, 2, 3, 4, 6, 7, 8] rfl) hE
                  replace hE := (if_neg c_178).symm.trans hE
                  have i_178 : z0_170.toInt ≠ 0 := fun h => c_178 (Int32.toInt_inj.mp h)
                  refine lv_iload hx hb dX6_council_181 (lv_at hl 7 rfl) ?_
                  refine lv_goto (tgt := 188) hx hb dX6_council_183 (by decide) ?_
                  exact J188 x7_52 _ _ _ hG _ (lv_sub hl [0, 1, 2, 3, 4, 6, 7, 8] rfl) hE
                refine lv_icmp_ne (tgt := 169) hx hb dX6_council_162 (by decide) (fun c_162 => ?_) (fun c_162 => ?_)
                · replace hE := (if_neg c_162).symm.trans hE
                  refine lv_iconst (v := 0) hx hb dX6_council_169 (by decide) ?_
                  exact J170 0 _ _ _ hG _ (lv_sub hl [0, 1, 2, 3, 4, 5, 6, 7] rfl) hE
                replace hE := (if_pos c_162).symm.trans hE
                refine lv_iconst (v := 1) hx hb dX6_council_165 (by decide) ?_
                refine lv_goto (tgt := 170) hx hb dX6_council_166 (by decide) ?_
                exact J170 1 _ _ _ hG _ (lv_sub hl [0, 1, 2, 3, 4, 5, 6, 7] rfl) hE
              replace hE := (if_neg c_108).symm.trans hE
              have i_108 : x9_102.toInt < (mo_102.1 0).toInt := i_nle c_108
              refine lv_aload_n hx hb dX6_council_111 rfl (lv_at hl 0 rfl) ?_
              refine g_get hx hb hts hiX6 hown hG gw_Model rfl 3 (by decide) (index := 16) tw_fl_RX6_16 (v := .ref (gA g 61)) rfl dX6_council_112 ?_
              refine lv_iconst (v := 4) hx hb dX6_council_115 (by decide) ?_
              refine lv_iload hx hb dX6_council_116 (lv_at hl 8 rfl) ?_
              refine lv_imul hx hb dX6_council_118 ?_
              refine lv_iconst (v := 3) hx hb dX6_council_119 (by decide) ?_
              refine lv_iadd hx hb dX6_council_120 ?_
              refine lv_iload hx hb dX6_council_121 (lv_at hl 7 rfl) ?_
              refine lv_iload hx hb dX6_council_123 (lv_at hl 4 rfl) ?_
              refine lv_ior hx hb dX6_council_125 ?_
              refine lv_iload hx hb dX6_council_126 (lv_at hl 8 rfl) ?_
              refine lv_ishr hx hb dX6_council_128 ?_
              refine lv_iconst (v := 1) hx hb dX6_council_129 (by decide) ?_
              refine lv_iand hx hb dX6_council_130 ?_
              refine lv_iconst (v := 1) hx hb dX6_council_131 (by decide) ?_
              have J140 : ∀ (z2_140 : Int32) (jk : (Nat → Nat → Int32)) (H : Heap) (locs : List Loc), gS g A s H locs (gW g bb tx rw sb dy tn mo_102 jk) → ∀ ls : Array Slot, lv_has ls 10 [(0, .ref (gA g 58)), (1, .int p1), (2, .int p2), (3, .int p3), (4, .int (F_X6_vows mo)), (5, .int x5_52), (6, .int x6_52), (7, .int x7_52), (9, .int x9_102)] → F_X6_council_b140  (F_X6_council_l52 n52 ) (F_X6_council_l102 n102 (F_X6_council_l52 n52 )) mo_102 p1 p2 p3 (F_X6_vows mo) x5_52 x6_52 x7_52 x9_102 ((4 * x9_102) + 3) z2_140 = EE → W p l e (rmL (8)) s m [.ref (gA g 58), .int p1, .int p2, .int p3].toArray below meth c H locs 0 0 Q (F0 m 140 ls [.int z2_140, .int ((4 * x9_102) + 3), .ref (gA g 61)]) := by
                intro z2_140 jk H locs hG ls hl  hE
                unfold F_X6_council_b140 at hE
                have e2 : (4 * x9_102).toInt = 4 * x9_102.toInt := mulL (k := 4) (by decide +kernel) (by clear hE; omega) (by clear hE; omega)
                have e3 : ((4 * x9_102) + 3).toInt = (4 * x9_102).toInt + 3 := addL (k := 3) (by decide +kernel) (by clear hE; omega) (by clear hE; omega)
                refine g_ist hx hb hG gw_Model_a3 (show vp_in ((4 * x9_102) + 3) 24 from (vp_i (by clear hE; omega) (by clear hE; omega))) gs_Model_a3 dX6_council_140 (fun H locs hG => ?_)
                refine lv_iinc (v := (x9_102 + 1)) (lv' := [(9, .int (x9_102 + 1)), (0, .ref (gA g 58)), (1, .int p1), (2, .int p2), (3, .int p3), (4, .int (F_X6_vows mo)), (5, .int x5_52), (6, .int x6_52), (7, .int x7_52)]) hx hb dX6_council_141 hl (k := 8) rfl rfl (by decide) rfl (fun ls hl => ?_)
                replace hl := lv_sub hl [1, 2, 3, 4, 5, 6, 7, 8, 0] (l' := [(0, .ref (gA g 58)), (1, .int p1), (2, .int p2), (3, .int p3), (4, .int (F_X6_vows mo)), (5, .int x5_52), (6, .int x6_52), (7, .int x7_52), (9, .int (x9_102 + 1))]) rfl
                refine lv_goto (tgt := 102) hx hb dX6_council_144 (by decide) ?_
                have e4 : (x9_102 + 1).toInt = x9_102.toInt + 1 := addL (k := 1) (by decide +kernel) (by clear hE; omega) (by clear hE; omega)
                exact ih102 (x9_102 + 1) (stA mo_102 3 ((4 * x9_102) + 3) z2_140) _ _ _ hG _ (lv_sub hl [0, 1, 2, 3, 4, 5, 6, 7, 8] rfl) (by clear hE; omega) (by clear hE; omega) (by clear hE; omega) (mEv_of hv102 rfl rfl rfl rfl) hE
              refine lv_icmp_ne (tgt := 139) hx hb dX6_council_132 (by decide) (fun c_132 => ?_) (fun c_132 => ?_)
              · replace hE := (if_neg c_132).symm.trans hE
                have i_132 : (((x7_52 ||| (F_X6_vows mo)) >>> (x9_102 &&& 31)) &&& 1).toInt ≠ 1 := fun h => c_132 (Int32.toInt_inj.mp h)
                refine lv_iconst (v := 0) hx hb dX6_council_139 (by decide) ?_
                exact J140 0 _ _ _ hG _ (lv_sub hl [0, 1, 2, 3, 4, 5, 6, 7, 8] rfl) hE
              replace hE := (if_pos c_132).symm.trans hE
              have i_132 : (((x7_52 ||| (F_X6_vows mo)) >>> (x9_102 &&& 31)) &&& 1).toInt = 1 := congrArg Int32.toInt c_132
              refine lv_iconst (v := 1) hx hb dX6_council_135 (by decide) ?_
              refine lv_goto (tgt := 140) hx hb dX6_council_136 (by decide) ?_
              exact J140 1 _ _ _ hG _ (lv_sub hl [0, 1, 2, 3, 4, 5, 6, 7, 8] rfl) hE
          exact L102 7 0 mo_52 _ _ _ hG _ (lv_sub hl [0, 1, 2, 3, 4, 5, 6, 7, 9] rfl) (by decide) (by decide) (by decide) hv52 hE
        have J91 : ∀  (jk : (Nat → Nat → Int32)) (H : Heap) (locs : List Loc), gS g A s H locs (gW g bb tx rw sb dy tn mo_52 jk) → ∀ ls : Array Slot, lv_has ls 10 [(0, .ref (gA g 58)), (1, .int p1), (2, .int p2), (3, .int p3), (4, .int (F_X6_vows mo)), (5, .int x5_52), (6, .int x6_52), (7, .int x7_52)] → F_X6_council_b91  (F_X6_council_l52 n52 ) mo_52 p1 p2 p3 (F_X6_vows mo) x5_52 x6_52 x7_52 = EE → W p l e (rmL (8)) s m [.ref (gA g 58), .int p1, .int p2, .int p3].toArray below meth c H locs 0 0 Q (F0 m 91 ls []) := by
          intro  jk H locs hG ls hl  hE
          unfold F_X6_council_b91 at hE
          refine lv_iconst (v := 0) hx hb dX6_council_91 (by decide) ?_
          exact J92 0 _ _ _ hG _ (lv_sub hl [0, 1, 2, 3, 4, 5, 6, 7] rfl) hE
        refine lv_if_ne (tgt := 91) hx hb dX6_council_68 (by decide) (fun c_68 => ?_) (fun c_68 => ?_)
        · replace hE := (if_neg c_68).symm.trans hE
          have i_68 : (x7_52 &&& (F_X6_vows mo)).toInt ≠ 0 := fun h => c_68 (Int32.toInt_inj.mp h)
          exact J91 _ _ _ hG _ (lv_sub hl [0, 1, 2, 3, 4, 5, 6, 7] rfl) hE
        replace hE := (if_pos c_68).symm.trans hE
        have i_68 : (x7_52 &&& (F_X6_vows mo)).toInt = 0 := congrArg Int32.toInt c_68
        refine lv_iload hx hb dX6_council_71 (lv_at hl 5 rfl) ?_
        refine lv_iconst (v := (-1)) hx hb dX6_council_73 (by decide) ?_
        have J87 : ∀  (jk : (Nat → Nat → Int32)) (H : Heap) (locs : List Loc), gS g A s H locs (gW g bb tx rw sb dy tn mo_52 jk) → ∀ ls : Array Slot, lv_has ls 10 [(0, .ref (gA g 58)), (1, .int p1), (2, .int p2), (3, .int p3), (4, .int (F_X6_vows mo)), (5, .int x5_52), (6, .int x6_52), (7, .int x7_52)] → F_X6_council_b87  (F_X6_council_l52 n52 ) mo_52 p1 p2 p3 (F_X6_vows mo) x5_52 x6_52 x7_52 = EE → W p l e (rmL (8)) s m [.ref (gA g 58), .int p1, .int p2, .int p3].toArray below meth c H locs 0 0 Q (F0 m 87 ls []) := by
          intro  jk H locs hG ls hl  hE
          unfold F_X6_council_b87 at hE
          refine lv_iconst (v := 1) hx hb dX6_council_87 (by decide) ?_
          refine lv_goto (tgt := 92) hx hb dX6_council_88 (by decide) ?_
          exact J92 1 _ _ _ hG _ (lv_sub hl [0, 1, 2, 3, 4, 5, 6, 7] rfl) hE
        refine lv_icmp_eq (tgt := 87) hx hb dX6_council_74 (by decide) (fun c_74 => ?_) (fun c_74 => ?_)
        · replace hE := (if_pos c_74).symm.trans hE
          have i_74 : x5_52.toInt = (-1) := congrArg Int32.toInt c_74
          exact J87 _ _ _ hG _ (lv_sub hl [0, 1, 2, 3, 4, 5, 6, 7] rfl) hE
        replace hE := (if_neg c_74).symm.trans hE
        have i_74 : x5_52.toInt ≠ (-1) := fun h => c_74 (Int32.toInt_inj.mp h)
        refine lv_iload hx hb dX6_council_77 (lv_at hl 7 rfl) ?_
        refine g_si (g_runS (n := 1) (rest := []) hx hb hml hown hts hG (c_X6_onesOf x7_52) tw_ml_RX6_226 tw_st_X6_onesOf tw_in_RX6 tw_cd_X6_onesOf (by decide +kernel) ⟨rfl, rfl, Nat.le_of_ble_eq_true rfl, Nat.le_of_ble_eq_true rfl⟩ rfl hl.1 rfl (Nat.le_of_ble_eq_true rfl) dX6_council_79 ⟨Nat.le_refl _, Nat.le_refl _⟩) hG hA (fun H locs hG => ?_)
        refine lv_iload hx hb dX6_council_82 (lv_at hl 6 rfl) ?_
        refine lv_icmp_ge (tgt := 91) hx hb dX6_council_84 (by decide) (fun c_84 => ?_) (fun c_84 => ?_)
        · replace hE := (if_pos c_84).symm.trans hE
          exact J91 _ _ _ hG _ (lv_sub hl [0, 1, 2, 3, 4, 5, 6, 7] rfl) hE
        replace hE := (if_neg c_84).symm.trans hE
        exact J87 _ _ _ hG _ (lv_sub hl [0, 1, 2, 3, 4, 5, 6, 7] rfl) hE
    exact L52 65 (-1) (-1) 0 mo_46 _ _ _ hG _ (lv_sub hl [0, 1, 2, 3, 4, 5, 6, 7] rfl) (by decide) (by decide) (by decide) hv46 hE
  replace hE := (if_pos c_27).symm.trans hE
  refine lv_bipush (v := (-2)) hx hb dX6_council_30 (by decide) ?_
  subst hQ
  exact g_iret hx hb hr hlocks hG ((mo, jk) : Ob × (Nat → Nat → Int32)) rfl hE.symm dX6_council_32
def F_X6_lesson_b99 (K35 : Ob → Int32 → Int32 → Int32 → Int32 → Int32 → Int32 × Ob) (mo : Ob) (x1 : Int32) (x2 : Int32) (x3 : Int32) (x5 : Int32) (z0 : Int32) : Int32 × Ob :=
  (K35 mo x1 x2 x3 z0 (x5 + 1))
def F_X6_lesson_b84 (K35 : Ob → Int32 → Int32 → Int32 → Int32 → Int32 → Int32 × Ob) (mo : Ob) (x1 : Int32) (x2 : Int32) (x4 : Int32) (x5 : Int32) (x6 : Int32) (z0 : Int32) : Int32 × Ob :=
  (if x6 ≤ x4 then (F_X6_lesson_b99 K35 mo x1 x2 z0 x5 x4) else (F_X6_lesson_b99 K35 mo x1 x2 z0 x5 x6))
def F_X6_lesson_c68 (K35 : Ob → Int32 → Int32 → Int32 → Int32 → Int32 → Int32 × Ob) (u : Ob) (x1 : Int32) (x2 : Int32) (x3 : Int32) (x4 : Int32) (x5 : Int32) (x6 : Int32) : Int32 × Ob :=
  (if x6 ≤ x4 then (F_X6_lesson_b84 K35 u x1 x2 x4 x5 x6 x3) else (F_X6_lesson_b84 K35 u x1 x2 x4 x5 x6 x5))
def F_X6_lesson_c62 (K35 : Ob → Int32 → Int32 → Int32 → Int32 → Int32 → Int32 × Ob) (u : Int32 × Ob) (x1 : Int32) (x2 : Int32) (x3 : Int32) (x4 : Int32) (x5 : Int32) : Int32 × Ob :=
  (F_X6_lesson_c68 K35 (F_X6_lays u.2) x1 x2 x3 x4 x5 u.1)
def F_X6_lesson_l35 : Nat → Ob → Int32 → Int32 → Int32 → Int32 → Int32 → Int32 × Ob
  | 0, mo, _, _, _, _, _ => (0, mo)
  | n + 1, mo, x1, x2, x3, x4, x5 =>
    (if 24 ≤ x5 then (if x2 = 0 then (x3, mo) else (x4, mo)) else (F_X6_lesson_c62 (F_X6_lesson_l35 n ) (F_X6_goes (stA mo 3 ((4 * x1) + 2) (((mo.2 3) (Int32.toNatClampNeg ((4 * x1) + 2))) ^^^ (1 <<< (x5 &&& 31)))) 24) x1 x2 x3 x4 x5))
def F_X6_lesson_c29 (u : Ob) (x1 : Int32) (x2 : Int32) (x3 : Int32) (x4 : Int32) : Int32 × Ob :=
  (F_X6_lesson_l35 25  u x1 x2 x3 x4 0)
def F_X6_lesson (mo : Ob) (p1 : Int32) (p2 : Int32) : Int32 × Ob :=
  (if (F_X6_isOne mo p1) = 0 then ((-5), mo) else (if (F_X6_in p2 0 1) = 0 then ((-7), mo) else (F_X6_lesson_c29 (F_X6_keeps mo) p1 p2 (-1) (-1))))
set_option maxHeartbeats 4000000 in
set_option maxRecDepth 100000 in
theorem c_X6_lesson {l : Launch} {g : GG} {sz : Nat} {bb : Ob} {tx rw : Nat → Ob} {sb dy : Ob} {tn : Nat → Ob} {mo : Ob} {jk : Nat → Nat → Int32}  (p1 : Int32) (p2 : Int32) (hv : mEv mo) : Met l yX6_lesson (Cond.code yX6_lesson cX6_lesson 7 (some .int) :: TT) (rmL (8)) (va_Pc [.ref (gA g 58), .int p1, .int p2] (gB g sz (gW g bb tx rw sb dy tn mo jk))) (va_Qi (fun r (u : Ob × (Nat → Nat → Int32)) => (F_X6_lesson mo p1 p2) = (r, u.1)) (fun u t => gC g (va_A (gW g bb tx rw sb dy tn mo jk) sz) (gW g bb tx rw sb dy tn u.1 u.2) t) (va_A (gW g bb tx rw sb dy tn mo jk) sz)) 0 0 (va_A (gW g bb tx rw sb dy tn mo jk) sz) := by
  generalize hE : F_X6_lesson mo p1 p2 = EE
  refine g_of (Qf := fun A => (va_Qi (fun r (u : Ob × (Nat → Nat → Int32)) => EE = (r, u.1)) (fun u t => gC g A (gW g bb tx rw sb dy tn u.1 u.2) t) A)) (cc := cX6_lesson) (maxL := 7) (ret := (some .int)) (by decide) (Nat.le_of_ble_eq_true rfl) ?_
  intro p e s m below meth c A ls hx hb hml hr hlocks hts hown hA hG hl
  replace hown : s.vm.findClass RX6 = some m.cls := hown
  replace hl : lv_has ls 7 [(0, .ref (gA g 58)), (1, .int p1), (2, .int p2)] := hl
  show W p l e (rmL (8)) s m [.ref (gA g 58), .int p1, .int p2].toArray below meth c s.heap [] 0 0 (MQ below (va_Qi (fun r (u : Ob × (Nat → Nat → Int32)) => EE = (r, u.1)) (fun u t => gC g A (gW g bb tx rw sb dy tn u.1 u.2) t) A) [.ref (gA g 58), .int p1, .int p2].toArray s 0 0 A) (F0 m 0 ls [])
  generalize hQ : MQ below (va_Qi (fun r (u : Ob × (Nat → Nat → Int32)) => EE = (r, u.1)) (fun u t => gC g A (gW g bb tx rw sb dy tn u.1 u.2) t) A) [.ref (gA g 58), .int p1, .int p2].toArray s 0 0 A = Q
  have hpo := hv.1
  have e_pe : ((mo.1 0) - 1).toInt = (mo.1 0).toInt - 1 := subL (k := 1) (by decide +kernel) (by omega) (by omega)
  unfold F_X6_lesson at hE
  refine lv_aload_n hx hb dX6_lesson_0 rfl (lv_at hl 0 rfl) ?_
  refine lv_iload_n hx hb dX6_lesson_1 rfl (lv_at hl 1 rfl) ?_
  refine g_ci (g_runV (n := 1) (rest := []) hx hb hml hown hts hG (c_X6_isOne p1) tw_ml_RX6_164 tw_im_X6_isOne tw_se_X6_isOne tw_in_RX6 tw_cd_X6_isOne (by decide +kernel) ⟨rfl, rfl, Nat.le_of_ble_eq_true rfl, Nat.le_of_ble_eq_true rfl⟩ gw_Model rfl rfl hl.1 rfl (Nat.le_of_ble_eq_true rfl) dX6_lesson_2 ⟨Nat.le_refl _, Nat.le_refl _⟩) hG hA (fun r _ H locs hp hG => ?_)
  subst hp
  replace hG : gS g A s H locs (gW g bb tx rw sb dy tn mo jk) := hG
  refine lv_if_ne (tgt := 11) hx hb dX6_lesson_5 (by decide) (fun c_5 => ?_) (fun c_5 => ?_)
  · replace hE := (if_neg c_5).symm.trans hE
    have i_5 := isOne_f c_5
    refine lv_iload_n hx hb dX6_lesson_11 rfl (lv_at hl 2 rfl) ?_
    refine lv_iconst (v := 0) hx hb dX6_lesson_12 (by decide) ?_
    refine lv_iconst (v := 1) hx hb dX6_lesson_13 (by decide) ?_
    refine g_si (g_runS (n := 3) (rest := []) hx hb hml hown hts hG (c_X6_in p2 0 1) tw_ml_RX6_81 tw_st_X6_in tw_in_RX6 tw_cd_X6_in (by decide +kernel) ⟨rfl, rfl, Nat.le_of_ble_eq_true rfl, Nat.le_of_ble_eq_true rfl⟩ rfl hl.1 rfl (Nat.le_of_ble_eq_true rfl) dX6_lesson_14 ⟨Nat.le_refl _, Nat.le_refl _⟩) hG hA (fun H locs hG => ?_)
    refine lv_if_ne (tgt := 23) hx hb dX6_lesson_17 (by decide) (fun c_17 => ?_) (fun c_17 => ?_)
    · replace hE := (if_neg c_17).symm.trans hE
      have i_17 : 0 ≤ p2.toInt ∧ p2.toInt ≤ 1 := in_f c_17
      refine lv_iconst (v := (-1)) hx hb dX6_lesson_23 (by decide) ?_
      refine lv_istore_n (lv' := [(3, .int (-1)), (0, .ref (gA g 58)), (1, .int p1), (2, .int p2)]) hx hb dX6_lesson_24 rfl hl (by decide) rfl (fun ls hl => ?_)
      replace hl := lv_sub hl [1, 2, 3, 0] (l' := [(0, .ref (gA g 58)), (1, .int p1), (2, .int p2), (3, .int (-1))]) rfl
      refine lv_iconst (v := (-1)) hx hb dX6_lesson_25 (by decide) ?_
      refine lv_istore (lv' := [(4, .int (-1)), (0, .ref (gA g 58)), (1, .int p1), (2, .int p2), (3, .int (-1))]) hx hb dX6_lesson_26 hl (by decide) rfl (fun ls hl => ?_)
      replace hl := lv_sub hl [1, 2, 3, 4, 0] (l' := [(0, .ref (gA g 58)), (1, .int p1), (2, .int p2), (3, .int (-1)), (4, .int (-1))]) rfl
      refine lv_aload_n hx hb dX6_lesson_28 rfl (lv_at hl 0 rfl) ?_
      refine g_cv (g_runV (n := 0) (rest := []) hx hb hml hown hts hG (c_X6_keeps) tw_ml_RX6_199 tw_im_X6_keeps tw_se_X6_keeps tw_in_RX6 tw_cd_X6_keeps (by decide +kernel) ⟨rfl, rfl, Nat.le_of_ble_eq_true rfl, Nat.le_of_ble_eq_true rfl⟩ gw_Model rfl rfl hl.1 rfl (Nat.le_of_ble_eq_true rfl) dX6_lesson_29 ⟨Nat.le_refl _, Nat.le_refl _⟩) hG hA (fun u H locs hp hG => ?_)
      obtain ⟨mo_29, rfl⟩ : ∃ z, z = u := ⟨u, rfl⟩
      replace hG : gS g A s H locs (gW g bb tx rw sb dy tn mo_29 jk) := by simpa only [up_up] using hG
      have hp_29 := hp
      rw [hp] at hE
      unfold F_X6_lesson_c29 at hE
      try dsimp only at hE
      have hv29 : mEv mo_29 := (keeps_hR hp_29).mEv hv
      refine lv_iconst (v := 0) hx hb dX6_lesson_32 (by decide) ?_
      refine lv_istore (lv' := [(5, .int 0), (0, .ref (gA g 58)), (1, .int p1), (2, .int p2), (3, .int (-1)), (4, .int (-1))]) hx hb dX6_lesson_33 hl (by decide) rfl (fun ls hl => ?_)
      replace hl := lv_sub hl [1, 2, 3, 4, 5, 0] (l' := [(0, .ref (gA g 58)), (1, .int p1), (2, .int p2), (3, .int (-1)), (4, .int (-1)), (5, .int 0)]) rfl
      have L35 : ∀ (n35 : Nat) (x3_35 : Int32) (x4_35 : Int32) (x5_35 : Int32) (mo_35 : Ob) (jk : (Nat → Nat → Int32)) (H : Heap) (locs : List Loc), gS g A s H locs (gW g bb tx rw sb dy tn mo_35 jk) → ∀ ls : Array Slot, lv_has ls 7 [(0, .ref (gA g 58)), (1, .int p1), (2, .int p2), (3, .int x3_35), (4, .int x4_35), (5, .int x5_35)] → 0 ≤ x5_35.toInt → x5_35.toInt ≤ 24 → 24 < x5_35.toInt + n35 → mEv mo_35 → F_X6_lesson_l35 n35  mo_35 p1 p2 x3_35 x4_35 x5_35 = EE → W p l e (rmL (8)) s m [.ref (gA g 58), .int p1, .int p2].toArray below meth c H locs 0 0 Q (F0 m 35 ls []) := by
        intro n35
        induction n35 with
        | zero =>
          intro x3_35 x4_35 x5_35 mo_35 jk H locs hG ls hl h0_35 h1_35 hm_35 hv35 hE
          clear hE; omega
        | succ n35 ih35 =>
          intro x3_35 x4_35 x5_35 mo_35 jk H locs hG ls hl h0_35 h1_35 hm_35 hv35 hE
          unfold F_X6_lesson_l35 at hE
          refine lv_iload hx hb dX6_lesson_35 (lv_at hl 5 rfl) ?_
          refine lv_bipush (v := 24) hx hb dX6_lesson_37 (by decide) ?_
          refine lv_icmp_ge (tgt := 107) hx hb dX6_lesson_39 (by decide) (fun c_39 => ?_) (fun c_39 => ?_)
          · replace hE := (if_pos c_39).symm.trans hE
            have i_39 : 24 ≤ x5_35.toInt := i_le.mp c_39
            refine lv_iload_n hx hb dX6_lesson_107 rfl (lv_at hl 2 rfl) ?_
            refine lv_if_ne (tgt := 115) hx hb dX6_lesson_108 (by decide) (fun c_108 => ?_) (fun c_108 => ?_)
            · replace hE := (if_neg c_108).symm.trans hE
              have i_108 : p2.toInt ≠ 0 := fun h => c_108 (Int32.toInt_inj.mp h)
              refine lv_iload hx hb dX6_lesson_115 (lv_at hl 4 rfl) ?_
              subst hQ
              exact g_iret hx hb hr hlocks hG ((mo_35, jk) : Ob × (Nat → Nat → Int32)) rfl hE.symm dX6_lesson_117
            replace hE := (if_pos c_108).symm.trans hE
            have i_108 : p2.toInt = 0 := congrArg Int32.toInt c_108
            refine lv_iload_n hx hb dX6_lesson_111 rfl (lv_at hl 3 rfl) ?_
            refine lv_goto (tgt := 117) hx hb dX6_lesson_112 (by decide) ?_
            subst hQ
            exact g_iret hx hb hr hlocks hG ((mo_35, jk) : Ob × (Nat → Nat → Int32)) rfl hE.symm dX6_lesson_117
          replace hE := (if_neg c_39).symm.trans hE
          have i_39 : x5_35.toInt < 24 := i_nle c_39
          refine lv_aload_n hx hb dX6_lesson_42 rfl (lv_at hl 0 rfl) ?_
          refine g_get hx hb hts hiX6 hown hG gw_Model rfl 3 (by decide) (index := 16) tw_fl_RX6_16 (v := .ref (gA g 61)) rfl dX6_lesson_43 ?_
          refine lv_iconst (v := 4) hx hb dX6_lesson_46 (by decide) ?_
          refine lv_iload_n hx hb dX6_lesson_47 rfl (lv_at hl 1 rfl) ?_
          refine lv_imul hx hb dX6_lesson_48 ?_
          refine lv_iconst (v := 2) hx hb dX6_lesson_49 (by decide) ?_
          refine lv_iadd hx hb dX6_lesson_50 ?_
          refine lv_dup2_11 hx hb dX6_lesson_51 rfl rfl ?_
          have e1 : (4 * p1).toInt = 4 * p1.toInt := mulL (k := 4) (by decide +kernel) (by clear hE; omega) (by clear hE; omega)
          have e2 : ((4 * p1) + 2).toInt = (4 * p1).toInt + 2 := addL (k := 2) (by decide +kernel) (by clear hE; omega) (by clear hE; omega)
          refine g_ild (f := (mo_35.2 3)) hx hb hG gw_Model_a3 (show vp_in ((4 * p1) + 2) 24 from (vp_i (by clear hE; omega) (by clear hE; omega))) dX6_lesson_52 ?_
          refine lv_iconst (v := 1) hx hb dX6_lesson_53 (by decide) ?_
          refine lv_iload hx hb dX6_lesson_54 (lv_at hl 5 rfl) ?_
          refine lv_ishl hx hb dX6_lesson_56 ?_
          refine lv_ixor hx hb dX6_lesson_57 ?_
          have e3 : (4 * p1).toInt = 4 * p1.toInt := mulL (k := 4) (by decide +kernel) (by clear hE; omega) (by clear hE; omega)
          have e4 : ((4 * p1) + 2).toInt = (4 * p1).toInt + 2 := addL (k := 2) (by decide +kernel) (by clear hE; omega) (by clear hE; omega)
          refine g_ist hx hb hG gw_Model_a3 (show vp_in ((4 * p1) + 2) 24 from (vp_i (by clear hE; omega) (by clear hE; omega))) gs_Model_a3 dX6_lesson_58 (fun H locs hG => ?_)
          refine lv_aload_n hx hb dX6_lesson_59 rfl (lv_at hl 0 rfl) ?_
          refine lv_bipush (v := 24) hx hb dX6_lesson_60 (by decide) ?_
          refine g_ci (g_runV (n := 1) (rest := []) hx hb hml hown hts hG (c_X6_goes 24 (mEv_of hv35 rfl rfl rfl rfl) (by decide)) tw_ml_RX6_202 tw_im_X6_goes tw_se_X6_goes tw_in_RX6 tw_cd_X6_goes (by decide +kernel) ⟨rfl, rfl, Nat.le_of_ble_eq_true rfl, Nat.le_of_ble_eq_true rfl⟩ gw_Model rfl rfl hl.1 rfl (Nat.le_of_ble_eq_true rfl) dX6_lesson_62 ⟨Nat.le_refl _, Nat.le_refl _⟩) hG hA (fun r_62 u H locs hp hG => ?_)
          obtain ⟨mo_62, jk⟩ := u
          replace hG : gS g A s H locs (gW g bb tx rw sb dy tn mo_62 jk) := by simpa only [up_up] using hG
          have hp_62 := hp
          rw [hp] at hE
          unfold F_X6_lesson_c62 at hE
          try dsimp only at hE
          have hv62 : mEv mo_62 := (goes_hR hp_62).mEv (mEv_of hv35 rfl rfl rfl rfl)
          refine lv_istore (lv' := [(6, .int r_62), (0, .ref (gA g 58)), (1, .int p1), (2, .int p2), (3, .int x3_35), (4, .int x4_35), (5, .int x5_35)]) hx hb dX6_lesson_65 hl (by decide) rfl (fun ls hl => ?_)
          replace hl := lv_sub hl [1, 2, 3, 4, 5, 6, 0] (l' := [(0, .ref (gA g 58)), (1, .int p1), (2, .int p2), (3, .int x3_35), (4, .int x4_35), (5, .int x5_35), (6, .int r_62)]) rfl
          refine lv_aload_n hx hb dX6_lesson_67 rfl (lv_at hl 0 rfl) ?_
          refine g_cv (g_runV (n := 0) (rest := []) hx hb hml hown hts hG (c_X6_lays) tw_ml_RX6_205 tw_im_X6_lays tw_se_X6_lays tw_in_RX6 tw_cd_X6_lays (by decide +kernel) ⟨rfl, rfl, Nat.le_of_ble_eq_true rfl, Nat.le_of_ble_eq_true rfl⟩ gw_Model rfl rfl hl.1 rfl (Nat.le_of_ble_eq_true rfl) dX6_lesson_68 ⟨Nat.le_refl _, Nat.le_refl _⟩) hG hA (fun u H locs hp hG => ?_)
          obtain ⟨mo_68, rfl⟩ : ∃ z, z = u := ⟨u, rfl⟩
          replace hG : gS g A s H locs (gW g bb tx rw sb dy tn mo_68 jk) := by simpa only [up_up] using hG
          have hp_68 := hp
          rw [hp] at hE
          unfold F_X6_lesson_c68 at hE
          try dsimp only at hE
          have hv68 : mEv mo_68 := (lays_hR hp_68).mEv hv62
          refine lv_iload hx hb dX6_lesson_71 (lv_at hl 6 rfl) ?_
          refine lv_iload hx hb dX6_lesson_73 (lv_at hl 4 rfl) ?_
          have J84 : ∀ (z0_84 : Int32) (jk : (Nat → Nat → Int32)) (H : Heap) (locs : List Loc), gS g A s H locs (gW g bb tx rw sb dy tn mo_68 jk) → ∀ ls : Array Slot, lv_has ls 7 [(0, .ref (gA g 58)), (1, .int p1), (2, .int p2), (4, .int x4_35), (5, .int x5_35), (6, .int r_62)] → F_X6_lesson_b84  (F_X6_lesson_l35 n35 ) mo_68 p1 p2 x4_35 x5_35 r_62 z0_84 = EE → W p l e (rmL (8)) s m [.ref (gA g 58), .int p1, .int p2].toArray below meth c H locs 0 0 Q (F0 m 84 ls [.int z0_84]) := by
            intro z0_84 jk H locs hG ls hl  hE
            unfold F_X6_lesson_b84 at hE
            refine lv_istore_n (lv' := [(3, .int z0_84), (0, .ref (gA g 58)), (1, .int p1), (2, .int p2), (4, .int x4_35), (5, .int x5_35), (6, .int r_62)]) hx hb dX6_lesson_84 rfl hl (by decide) rfl (fun ls hl => ?_)
            replace hl := lv_sub hl [1, 2, 3, 0, 4, 5, 6] (l' := [(0, .ref (gA g 58)), (1, .int p1), (2, .int p2), (3, .int z0_84), (4, .int x4_35), (5, .int x5_35), (6, .int r_62)]) rfl
            refine lv_iload hx hb dX6_lesson_85 (lv_at hl 6 rfl) ?_
            refine lv_iload hx hb dX6_lesson_87 (lv_at hl 4 rfl) ?_
            have J99 : ∀ (z0_99 : Int32) (jk : (Nat → Nat → Int32)) (H : Heap) (locs : List Loc), gS g A s H locs (gW g bb tx rw sb dy tn mo_68 jk) → ∀ ls : Array Slot, lv_has ls 7 [(0, .ref (gA g 58)), (1, .int p1), (2, .int p2), (3, .int z0_84), (5, .int x5_35)] → F_X6_lesson_b99  (F_X6_lesson_l35 n35 ) mo_68 p1 p2 z0_84 x5_35 z0_99 = EE → W p l e (rmL (8)) s m [.ref (gA g 58), .int p1, .int p2].toArray below meth c H locs 0 0 Q (F0 m 99 ls [.int z0_99]) := by
              intro z0_99 jk H locs hG ls hl  hE
              unfold F_X6_lesson_b99 at hE
              refine lv_istore (lv' := [(4, .int z0_99), (0, .ref (gA g 58)), (1, .int p1), (2, .int p2), (3, .int z0_84), (5, .int x5_35)]) hx hb dX6_lesson_99 hl (by decide) rfl (fun ls hl => ?_)
              replace hl := lv_sub hl [1, 2, 3, 4, 0, 5] (l' := [(0, .ref (gA g 58)), (1, .int p1), (2, .int p2), (3, .int z0_84), (4, .int z0_99), (5, .int x5_35)]) rfl
              refine lv_iinc (v := (x5_35 + 1)) (lv' := [(5, .int (x5_35 + 1)), (0, .ref (gA g 58)), (1, .int p1), (2, .int p2), (3, .int z0_84), (4, .int z0_99)]) hx hb dX6_lesson_101 hl (k := 5) rfl rfl (by decide) rfl (fun ls hl => ?_)
              replace hl := lv_sub hl [1, 2, 3, 4, 5, 0] (l' := [(0, .ref (gA g 58)), (1, .int p1), (2, .int p2), (3, .int z0_84), (4, .int z0_99), (5, .int (x5_35 + 1))]) rfl
              refine lv_goto (tgt := 35) hx hb dX6_lesson_104 (by decide) ?_
              have e5 : (x5_35 + 1).toInt = x5_35.toInt + 1 := addL (k := 1) (by decide +kernel) (by clear hE; omega) (by clear hE; omega)
              exact ih35 z0_84 z0_99 (x5_35 + 1) mo_68 _ _ _ hG _ (lv_sub hl [0, 1, 2, 3, 4, 5] rfl) (by clear hE; omega) (by clear hE; omega) (by clear hE; omega) hv68 hE
            refine lv_icmp_le (tgt := 97) hx hb dX6_lesson_89 (by decide) (fun c_89 => ?_) (fun c_89 => ?_)
            · replace hE := (if_pos c_89).symm.trans hE
              have i_89 : r_62.toInt ≤ x4_35.toInt := i_le.mp c_89
              refine lv_iload hx hb dX6_lesson_97 (lv_at hl 4 rfl) ?_
              exact J99 x4_35 _ _ _ hG _ (lv_sub hl [0, 1, 2, 3, 5] rfl) hE
            replace hE := (if_neg c_89).symm.trans hE
            have i_89 : x4_35.toInt < r_62.toInt := i_nle c_89
            refine lv_iload hx hb dX6_lesson_92 (lv_at hl 6 rfl) ?_
            refine lv_goto (tgt := 99) hx hb dX6_lesson_94 (by decide) ?_
            exact J99 r_62 _ _ _ hG _ (lv_sub hl [0, 1, 2, 3, 5] rfl) hE
          refine lv_icmp_le (tgt := 83) hx hb dX6_lesson_75 (by decide) (fun c_75 => ?_) (fun c_75 => ?_)
          · replace hE := (if_pos c_75).symm.trans hE
            have i_75 : r_62.toInt ≤ x4_35.toInt := i_le.mp c_75
            refine lv_iload_n hx hb dX6_lesson_83 rfl (lv_at hl 3 rfl) ?_
            exact J84 x3_35 _ _ _ hG _ (lv_sub hl [0, 1, 2, 4, 5, 6] rfl) hE
          replace hE := (if_neg c_75).symm.trans hE
          have i_75 : x4_35.toInt < r_62.toInt := i_nle c_75
          refine lv_iload hx hb dX6_lesson_78 (lv_at hl 5 rfl) ?_
          refine lv_goto (tgt := 84) hx hb dX6_lesson_80 (by decide) ?_
          exact J84 x5_35 _ _ _ hG _ (lv_sub hl [0, 1, 2, 4, 5, 6] rfl) hE
      exact L35 25 (-1) (-1) 0 mo_29 _ _ _ hG _ (lv_sub hl [0, 1, 2, 3, 4, 5] rfl) (by decide) (by decide) (by decide) hv29 hE
    replace hE := (if_pos c_17).symm.trans hE
    refine lv_bipush (v := (-7)) hx hb dX6_lesson_20 (by decide) ?_
    subst hQ
    exact g_iret hx hb hr hlocks hG ((mo, jk) : Ob × (Nat → Nat → Int32)) rfl hE.symm dX6_lesson_22
  replace hE := (if_pos c_5).symm.trans hE
  refine lv_bipush (v := (-5)) hx hb dX6_lesson_8 (by decide) ?_
  subst hQ
  exact g_iret hx hb hr hlocks hG ((mo, jk) : Ob × (Nat → Nat → Int32)) rfl hE.symm dX6_lesson_10
def F_X6_pair_b125 (K23 : Ob → Int32 → Int32 → Int32 → Int32 → Int32 × Ob) (K38 : Ob → Int32 → Int32 → Int32 → Int32 → Int32 → Int32 × Ob) (mo : Ob) (x1 : Int32) (x2 : Int32) (x4 : Int32) (x5 : Int32) (z0 : Int32) : Int32 × Ob :=
  (K38 mo x1 x2 z0 x4 (x5 + 1))
def F_X6_pair_b112 (K23 : Ob → Int32 → Int32 → Int32 → Int32 → Int32 × Ob) (K38 : Ob → Int32 → Int32 → Int32 → Int32 → Int32 → Int32 × Ob) (mo : Ob) (x1 : Int32) (x3 : Int32) (x4 : Int32) (x5 : Int32) (x6 : Int32) (z0 : Int32) : Int32 × Ob :=
  (if x6 ≤ x3 then (F_X6_pair_b125 K23 K38 mo x1 z0 x4 x5 x3) else (F_X6_pair_b125 K23 K38 mo x1 z0 x4 x5 x6))
def F_X6_pair_l53 : Nat → (Ob → Int32 → Int32 → Int32 → Int32 → Int32 × Ob) → (Ob → Int32 → Int32 → Int32 → Int32 → Int32 → Int32 × Ob) → Ob → Int32 → Int32 → Int32 → Int32 → Int32 → Int32 → Int32 → Int32 × Ob
  | 0, _, _, mo, _, _, _, _, _, _, _ => (0, mo)
  | n + 1, K23, K38, mo, x1, x2, x3, x4, x5, x6, x7 =>
    (if 24 ≤ x7 then (if x6 ≤ x3 then (F_X6_pair_b112 K23 K38 mo x1 x3 x4 x5 x6 x2) else (F_X6_pair_b112 K23 K38 mo x1 x3 x4 x5 x6 ((10 * x4) + x5))) else ((F_X6_pair_l53 n K23 K38) mo x1 x2 x3 x4 x5 (x6 + (((((mo.2 32) (Int32.toNatClampNeg x7)) >>> (x4 &&& 31)) &&& (((mo.2 32) (Int32.toNatClampNeg x7)) >>> (x5 &&& 31))) &&& 1)) (x7 + 1)))
def F_X6_pair_l38 : Nat → (Ob → Int32 → Int32 → Int32 → Int32 → Int32 × Ob) → Ob → Int32 → Int32 → Int32 → Int32 → Int32 → Int32 × Ob
  | 0, _, mo, _, _, _, _, _ => (0, mo)
  | n + 1, K23, mo, x1, x2, x3, x4, x5 =>
    (if (mo.1 0) ≤ x5 then (K23 mo x1 x2 x3 (x4 + 1)) else (F_X6_pair_l53 25 K23 (F_X6_pair_l38 n K23) mo x1 x2 x3 x4 x5 0 0))
def F_X6_pair_l23 : Nat → Ob → Int32 → Int32 → Int32 → Int32 → Int32 × Ob
  | 0, mo, _, _, _, _ => (0, mo)
  | n + 1, mo, x1, x2, x3, x4 =>
    (if (mo.1 0) ≤ x4 then (if x1 = 0 then (x2, mo) else (x3, mo)) else (F_X6_pair_l38 8 (F_X6_pair_l23 n ) mo x1 x2 x3 x4 (x4 + 1)))
def F_X6_pair_c13 (u : Ob) (x1 : Int32) : Int32 × Ob :=
  (F_X6_pair_l23 7  u x1 (-1) (-1) 0)
def F_X6_pair (mo : Ob) (p1 : Int32) : Int32 × Ob :=
  (if (F_X6_in p1 0 1) = 0 then ((-2), mo) else (F_X6_pair_c13 (F_X6_tellsDay mo) p1))
set_option maxHeartbeats 4000000 in
set_option maxRecDepth 100000 in
theorem c_X6_pair {l : Launch} {g : GG} {sz : Nat} {bb : Ob} {tx rw : Nat → Ob} {sb dy : Ob} {tn : Nat → Ob} {mo : Ob} {jk : Nat → Nat → Int32}  (p1 : Int32) (hv : mEv mo) : Met l yX6_pair (Cond.code yX6_pair cX6_pair 8 (some .int) :: TT) (rmL (8)) (va_Pc [.ref (gA g 58), .int p1] (gB g sz (gW g bb tx rw sb dy tn mo jk))) (va_Qi (fun r (u : Ob × (Nat → Nat → Int32)) => (F_X6_pair mo p1) = (r, u.1)) (fun u t => gC g (va_A (gW g bb tx rw sb dy tn mo jk) sz) (gW g bb tx rw sb dy tn u.1 u.2) t) (va_A (gW g bb tx rw sb dy tn mo jk) sz)) 0 0 (va_A (gW g bb tx rw sb dy tn mo jk) sz) := by
  generalize hE : F_X6_pair mo p1 = EE
  refine g_of (Qf := fun A => (va_Qi (fun r (u : Ob × (Nat → Nat → Int32)) => EE = (r, u.1)) (fun u t => gC g A (gW g bb tx rw sb dy tn u.1 u.2) t) A)) (cc := cX6_pair) (maxL := 8) (ret := (some .int)) (by decide) (Nat.le_of_ble_eq_true rfl) ?_
  intro p e s m below meth c A ls hx hb hml hr hlocks hts hown hA hG hl
  replace hown : s.vm.findClass RX6 = some m.cls := hown
  replace hl : lv_has ls 8 [(0, .ref (gA g 58)), (1, .int p1)] := hl
  show W p l e (rmL (8)) s m [.ref (gA g 58), .int p1].toArray below meth c s.heap [] 0 0 (MQ below (va_Qi (fun r (u : Ob × (Nat → Nat → Int32)) => EE = (r, u.1)) (fun u t => gC g A (gW g bb tx rw sb dy tn u.1 u.2) t) A) [.ref (gA g 58), .int p1].toArray s 0 0 A) (F0 m 0 ls [])
  generalize hQ : MQ below (va_Qi (fun r (u : Ob × (Nat → Nat → Int32)) => EE = (r, u.1)) (fun u t => gC g A (gW g bb tx rw sb dy tn u.1 u.2) t) A) [.ref (gA g 58), .int p1].toArray s 0 0 A = Q
  unfold F_X6_pair at hE
  refine lv_iload_n hx hb dX6_pair_0 rfl (lv_at hl 1 rfl) ?_
  refine lv_iconst (v := 0) hx hb dX6_pair_1 (by decide) ?_
  refine lv_iconst (v := 1) hx hb dX6_pair_2 (by decide) ?_
  refine g_si (g_runS (n := 3) (rest := []) hx hb hml hown hts hG (c_X6_in p1 0 1) tw_ml_RX6_81 tw_st_X6_in tw_in_RX6 tw_cd_X6_in (by decide +kernel) ⟨rfl, rfl, Nat.le_of_ble_eq_true rfl, Nat.le_of_ble_eq_true rfl⟩ rfl hl.1 rfl (Nat.le_of_ble_eq_true rfl) dX6_pair_3 ⟨Nat.le_refl _, Nat.le_refl _⟩) hG hA (fun H locs hG => ?_)
  refine lv_if_ne (tgt := 12) hx hb dX6_pair_6 (by decide) (fun c_6 => ?_) (fun c_6 => ?_)
  · replace hE := (if_neg c_6).symm.trans hE
    have i_6 : 0 ≤ p1.toInt ∧ p1.toInt ≤ 1 := in_f c_6
    refine lv_aload_n hx hb dX6_pair_12 rfl (lv_at hl 0 rfl) ?_
    refine g_cv (g_runV (n := 0) (rest := []) hx hb hml hown hts hG (c_X6_tellsDay hv) tw_ml_RX6_211 tw_im_X6_tellsDay tw_se_X6_tellsDay tw_in_RX6 tw_cd_X6_tellsDay (by decide +kernel) ⟨rfl, rfl, Nat.le_of_ble_eq_true rfl, Nat.le_of_ble_eq_true rfl⟩ gw_Model rfl rfl hl.1 rfl (Nat.le_of_ble_eq_true rfl) dX6_pair_13 ⟨Nat.le_refl _, Nat.le_refl _⟩) hG hA (fun u H locs hp hG => ?_)
    obtain ⟨mo_13, jk⟩ := u
    replace hG : gS g A s H locs (gW g bb tx rw sb dy tn mo_13 jk) := by simpa only [up_up] using hG
    have hp_13 := hp
    rw [hp] at hE
    unfold F_X6_pair_c13 at hE
    try dsimp only at hE
    have hv13 : mEv mo_13 := tellsDay_mEv hp_13 hv
    have hpo13 := hv13.1
    refine lv_iconst (v := (-1)) hx hb dX6_pair_16 (by decide) ?_
    refine lv_istore_n (lv' := [(2, .int (-1)), (0, .ref (gA g 58)), (1, .int p1)]) hx hb dX6_pair_17 rfl hl (by decide) rfl (fun ls hl => ?_)
    replace hl := lv_sub hl [1, 2, 0] (l' := [(0, .ref (gA g 58)), (1, .int p1), (2, .int (-1))]) rfl
    refine lv_iconst (v := (-1)) hx hb dX6_pair_18 (by decide) ?_
    refine lv_istore_n (lv' := [(3, .int (-1)), (0, .ref (gA g 58)), (1, .int p1), (2, .int (-1))]) hx hb dX6_pair_19 rfl hl (by decide) rfl (fun ls hl => ?_)
    replace hl := lv_sub hl [1, 2, 3, 0] (l' := [(0, .ref (gA g 58)), (1, .int p1), (2, .int (-1)), (3, .int (-1))]) rfl
    refine lv_iconst (v := 0) hx hb dX6_pair_20 (by decide) ?_
    refine lv_istore (lv' := [(4, .int 0), (0, .ref (gA g 58)), (1, .int p1), (2, .int (-1)), (3, .int (-1))]) hx hb dX6_pair_21 hl (by decide) rfl (fun ls hl => ?_)
    replace hl := lv_sub hl [1, 2, 3, 4, 0] (l' := [(0, .ref (gA g 58)), (1, .int p1), (2, .int (-1)), (3, .int (-1)), (4, .int 0)]) rfl
    have L23 : ∀ (n23 : Nat) (x2_23 : Int32) (x3_23 : Int32) (x4_23 : Int32) (jk : (Nat → Nat → Int32)) (H : Heap) (locs : List Loc), gS g A s H locs (gW g bb tx rw sb dy tn mo_13 jk) → ∀ ls : Array Slot, lv_has ls 8 [(0, .ref (gA g 58)), (1, .int p1), (2, .int x2_23), (3, .int x3_23), (4, .int x4_23)] → 0 ≤ x4_23.toInt → x4_23.toInt ≤ 6 → 6 < x4_23.toInt + n23 → F_X6_pair_l23 n23  mo_13 p1 x2_23 x3_23 x4_23 = EE → W p l e (rmL (8)) s m [.ref (gA g 58), .int p1].toArray below meth c H locs 0 0 Q (F0 m 23 ls []) := by
      intro n23
      induction n23 with
      | zero =>
        intro x2_23 x3_23 x4_23 jk H locs hG ls hl h0_23 h1_23 hm_23 hE
        clear hE; omega
      | succ n23 ih23 =>
        intro x2_23 x3_23 x4_23 jk H locs hG ls hl h0_23 h1_23 hm_23 hE
        unfold F_X6_pair_l23 at hE
        refine lv_iload hx hb dX6_pair_23 (lv_at hl 4 rfl) ?_
        refine lv_aload_n hx hb dX6_pair_25 rfl (lv_at hl 0 rfl) ?_
        refine g_get hx hb hts hiX6 hown hG gw_Model rfl 0 (by decide) (index := 78) tw_fl_RX6_78 (v := .int (mo_13.1 0)) rfl dX6_pair_26 ?_
        refine lv_icmp_ge (tgt := 138) hx hb dX6_pair_29 (by decide) (fun c_29 => ?_) (fun c_29 => ?_)
        · replace hE := (if_pos c_29).symm.trans hE
          have i_29 : (mo_13.1 0).toInt ≤ x4_23.toInt := i_le.mp c_29
          refine lv_iload_n hx hb dX6_pair_138 rfl (lv_at hl 1 rfl) ?_
          refine lv_if_ne (tgt := 146) hx hb dX6_pair_139 (by decide) (fun c_139 => ?_) (fun c_139 => ?_)
          · replace hE := (if_neg c_139).symm.trans hE
            have i_139 : p1.toInt ≠ 0 := fun h => c_139 (Int32.toInt_inj.mp h)
            refine lv_iload_n hx hb dX6_pair_146 rfl (lv_at hl 3 rfl) ?_
            subst hQ
            exact g_iret hx hb hr hlocks hG ((mo_13, jk) : Ob × (Nat → Nat → Int32)) rfl hE.symm dX6_pair_147
          replace hE := (if_pos c_139).symm.trans hE
          have i_139 : p1.toInt = 0 := congrArg Int32.toInt c_139
          refine lv_iload_n hx hb dX6_pair_142 rfl (lv_at hl 2 rfl) ?_
          refine lv_goto (tgt := 147) hx hb dX6_pair_143 (by decide) ?_
          subst hQ
          exact g_iret hx hb hr hlocks hG ((mo_13, jk) : Ob × (Nat → Nat → Int32)) rfl hE.symm dX6_pair_147
        replace hE := (if_neg c_29).symm.trans hE
        have i_29 : x4_23.toInt < (mo_13.1 0).toInt := i_nle c_29
        refine lv_iload hx hb dX6_pair_32 (lv_at hl 4 rfl) ?_
        refine lv_iconst (v := 1) hx hb dX6_pair_34 (by decide) ?_
        refine lv_iadd hx hb dX6_pair_35 ?_
        refine lv_istore (lv' := [(5, .int (x4_23 + 1)), (0, .ref (gA g 58)), (1, .int p1), (2, .int x2_23), (3, .int x3_23), (4, .int x4_23)]) hx hb dX6_pair_36 hl (by decide) rfl (fun ls hl => ?_)
        replace hl := lv_sub hl [1, 2, 3, 4, 5, 0] (l' := [(0, .ref (gA g 58)), (1, .int p1), (2, .int x2_23), (3, .int x3_23), (4, .int x4_23), (5, .int (x4_23 + 1))]) rfl
        have L38 : ∀ (n38 : Nat) (x2_38 : Int32) (x3_38 : Int32) (x5_38 : Int32) (jk : (Nat → Nat → Int32)) (H : Heap) (locs : List Loc), gS g A s H locs (gW g bb tx rw sb dy tn mo_13 jk) → ∀ ls : Array Slot, lv_has ls 8 [(0, .ref (gA g 58)), (1, .int p1), (2, .int x2_38), (3, .int x3_38), (4, .int x4_23), (5, .int x5_38)] → 0 ≤ x5_38.toInt → x5_38.toInt ≤ 7 → 7 < x5_38.toInt + n38 → F_X6_pair_l38 n38 (F_X6_pair_l23 n23 ) mo_13 p1 x2_38 x3_38 x4_23 x5_38 = EE → W p l e (rmL (8)) s m [.ref (gA g 58), .int p1].toArray below meth c H locs 0 0 Q (F0 m 38 ls []) := by
          intro n38
          induction n38 with
          | zero =>
            intro x2_38 x3_38 x5_38 jk H locs hG ls hl h0_38 h1_38 hm_38 hE
            clear hE; omega
          | succ n38 ih38 =>
            intro x2_38 x3_38 x5_38 jk H locs hG ls hl h0_38 h1_38 hm_38 hE
            unfold F_X6_pair_l38 at hE
            refine lv_iload hx hb dX6_pair_38 (lv_at hl 5 rfl) ?_
            refine lv_aload_n hx hb dX6_pair_40 rfl (lv_at hl 0 rfl) ?_
            refine g_get hx hb hts hiX6 hown hG gw_Model rfl 0 (by decide) (index := 78) tw_fl_RX6_78 (v := .int (mo_13.1 0)) rfl dX6_pair_41 ?_
            refine lv_icmp_ge (tgt := 132) hx hb dX6_pair_44 (by decide) (fun c_44 => ?_) (fun c_44 => ?_)
            · replace hE := (if_pos c_44).symm.trans hE
              have i_44 : (mo_13.1 0).toInt ≤ x5_38.toInt := i_le.mp c_44
              refine lv_iinc (v := (x4_23 + 1)) (lv' := [(4, .int (x4_23 + 1)), (0, .ref (gA g 58)), (1, .int p1), (2, .int x2_38), (3, .int x3_38), (5, .int x5_38)]) hx hb dX6_pair_132 hl (k := 4) rfl rfl (by decide) rfl (fun ls hl => ?_)
              replace hl := lv_sub hl [1, 2, 3, 4, 0, 5] (l' := [(0, .ref (gA g 58)), (1, .int p1), (2, .int x2_38), (3, .int x3_38), (4, .int (x4_23 + 1)), (5, .int x5_38)]) rfl
              refine lv_goto (tgt := 23) hx hb dX6_pair_135 (by decide) ?_
              have e1 : (x4_23 + 1).toInt = x4_23.toInt + 1 := addL (k := 1) (by decide +kernel) (by clear hE; omega) (by clear hE; omega)
              exact ih23 x2_38 x3_38 (x4_23 + 1) _ _ _ hG _ (lv_sub hl [0, 1, 2, 3, 4] rfl) (by clear hE; omega) (by clear hE; omega) (by clear hE; omega) hE
            replace hE := (if_neg c_44).symm.trans hE
            have i_44 : x5_38.toInt < (mo_13.1 0).toInt := i_nle c_44
            refine lv_iconst (v := 0) hx hb dX6_pair_47 (by decide) ?_
            refine lv_istore (lv' := [(6, .int 0), (0, .ref (gA g 58)), (1, .int p1), (2, .int x2_38), (3, .int x3_38), (4, .int x4_23), (5, .int x5_38)]) hx hb dX6_pair_48 hl (by decide) rfl (fun ls hl => ?_)
            replace hl := lv_sub hl [1, 2, 3, 4, 5, 6, 0] (l' := [(0, .ref (gA g 58)), (1, .int p1), (2, .int x2_38), (3, .int x3_38), (4, .int x4_23), (5, .int x5_38), (6, .int 0)]) rfl
            refine lv_iconst (v := 0) hx hb dX6_pair_50 (by decide) ?_
            refine lv_istore (lv' := [(7, .int 0), (0, .ref (gA g 58)), (1, .int p1), (2, .int x2_38), (3, .int x3_38), (4, .int x4_23), (5, .int x5_38), (6, .int 0)]) hx hb dX6_pair_51 hl (by decide) rfl (fun ls hl => ?_)
            replace hl := lv_sub hl [1, 2, 3, 4, 5, 6, 7, 0] (l' := [(0, .ref (gA g 58)), (1, .int p1), (2, .int x2_38), (3, .int x3_38), (4, .int x4_23), (5, .int x5_38), (6, .int 0), (7, .int 0)]) rfl
            have L53 : ∀ (n53 : Nat) (x6_53 : Int32) (x7_53 : Int32) (jk : (Nat → Nat → Int32)) (H : Heap) (locs : List Loc), gS g A s H locs (gW g bb tx rw sb dy tn mo_13 jk) → ∀ ls : Array Slot, lv_has ls 8 [(0, .ref (gA g 58)), (1, .int p1), (2, .int x2_38), (3, .int x3_38), (4, .int x4_23), (5, .int x5_38), (6, .int x6_53), (7, .int x7_53)] → 0 ≤ x7_53.toInt → x7_53.toInt ≤ 24 → 24 < x7_53.toInt + n53 → F_X6_pair_l53 n53 (F_X6_pair_l23 n23 ) (F_X6_pair_l38 n38 (F_X6_pair_l23 n23 )) mo_13 p1 x2_38 x3_38 x4_23 x5_38 x6_53 x7_53 = EE → W p l e (rmL (8)) s m [.ref (gA g 58), .int p1].toArray below meth c H locs 0 0 Q (F0 m 53 ls []) := by
              intro n53
              induction n53 with
              | zero =>
                intro x6_53 x7_53 jk H locs hG ls hl h0_53 h1_53 hm_53 hE
                clear hE; omega
              | succ n53 ih53 =>
                intro x6_53 x7_53 jk H locs hG ls hl h0_53 h1_53 hm_53 hE
                unfold F_X6_pair_l53 at hE
                refine lv_iload hx hb dX6_pair_53 (lv_at hl 7 rfl) ?_
                refine lv_bipush (v := 24) hx hb dX6_pair_55 (by decide) ?_
                refine lv_icmp_ge (tgt := 94) hx hb dX6_pair_57 (by decide) (fun c_57 => ?_) (fun c_57 => ?_)
                · replace hE := (if_pos c_57).symm.trans hE
                  have i_57 : 24 ≤ x7_53.toInt := i_le.mp c_57
                  refine lv_iload hx hb dX6_pair_94 (lv_at hl 6 rfl) ?_
                  refine lv_iload_n hx hb dX6_pair_96 rfl (lv_at hl 3 rfl) ?_
                  have J112 : ∀ (z0_112 : Int32) (jk : (Nat → Nat → Int32)) (H : Heap) (locs : List Loc), gS g A s H locs (gW g bb tx rw sb dy tn mo_13 jk) → ∀ ls : Array Slot, lv_has ls 8 [(0, .ref (gA g 58)), (1, .int p1), (3, .int x3_38), (4, .int x4_23), (5, .int x5_38), (6, .int x6_53)] → F_X6_pair_b112  (F_X6_pair_l23 n23 ) (F_X6_pair_l38 n38 (F_X6_pair_l23 n23 )) mo_13 p1 x3_38 x4_23 x5_38 x6_53 z0_112 = EE → W p l e (rmL (8)) s m [.ref (gA g 58), .int p1].toArray below meth c H locs 0 0 Q (F0 m 112 ls [.int z0_112]) := by
                    intro z0_112 jk H locs hG ls hl  hE
                    unfold F_X6_pair_b112 at hE
                    refine lv_istore_n (lv' := [(2, .int z0_112), (0, .ref (gA g 58)), (1, .int p1), (3, .int x3_38), (4, .int x4_23), (5, .int x5_38), (6, .int x6_53)]) hx hb dX6_pair_112 rfl hl (by decide) rfl (fun ls hl => ?_)
                    replace hl := lv_sub hl [1, 2, 0, 3, 4, 5, 6] (l' := [(0, .ref (gA g 58)), (1, .int p1), (2, .int z0_112), (3, .int x3_38), (4, .int x4_23), (5, .int x5_38), (6, .int x6_53)]) rfl
                    refine lv_iload hx hb dX6_pair_113 (lv_at hl 6 rfl) ?_
                    refine lv_iload_n hx hb dX6_pair_115 rfl (lv_at hl 3 rfl) ?_
                    have J125 : ∀ (z0_125 : Int32) (jk : (Nat → Nat → Int32)) (H : Heap) (locs : List Loc), gS g A s H locs (gW g bb tx rw sb dy tn mo_13 jk) → ∀ ls : Array Slot, lv_has ls 8 [(0, .ref (gA g 58)), (1, .int p1), (2, .int z0_112), (4, .int x4_23), (5, .int x5_38)] → F_X6_pair_b125  (F_X6_pair_l23 n23 ) (F_X6_pair_l38 n38 (F_X6_pair_l23 n23 )) mo_13 p1 z0_112 x4_23 x5_38 z0_125 = EE → W p l e (rmL (8)) s m [.ref (gA g 58), .int p1].toArray below meth c H locs 0 0 Q (F0 m 125 ls [.int z0_125]) := by
                      intro z0_125 jk H locs hG ls hl  hE
                      unfold F_X6_pair_b125 at hE
                      refine lv_istore_n (lv' := [(3, .int z0_125), (0, .ref (gA g 58)), (1, .int p1), (2, .int z0_112), (4, .int x4_23), (5, .int x5_38)]) hx hb dX6_pair_125 rfl hl (by decide) rfl (fun ls hl => ?_)
                      replace hl := lv_sub hl [1, 2, 3, 0, 4, 5] (l' := [(0, .ref (gA g 58)), (1, .int p1), (2, .int z0_112), (3, .int z0_125), (4, .int x4_23), (5, .int x5_38)]) rfl
                      refine lv_iinc (v := (x5_38 + 1)) (lv' := [(5, .int (x5_38 + 1)), (0, .ref (gA g 58)), (1, .int p1), (2, .int z0_112), (3, .int z0_125), (4, .int x4_23)]) hx hb dX6_pair_126 hl (k := 5) rfl rfl (by decide) rfl (fun ls hl => ?_)
                      replace hl := lv_sub hl [1, 2, 3, 4, 5, 0] (l' := [(0, .ref (gA g 58)), (1, .int p1), (2, .int z0_112), (3, .int z0_125), (4, .int x4_23), (5, .int (x5_38 + 1))]) rfl
                      refine lv_goto (tgt := 38) hx hb dX6_pair_129 (by decide) ?_
                      have e2 : (x5_38 + 1).toInt = x5_38.toInt + 1 := addL (k := 1) (by decide +kernel) (by clear hE; omega) (by clear hE; omega)
                      exact ih38 z0_112 z0_125 (x5_38 + 1) _ _ _ hG _ (lv_sub hl [0, 1, 2, 3, 4, 5] rfl) (by clear hE; omega) (by clear hE; omega) (by clear hE; omega) hE
                    refine lv_icmp_le (tgt := 124) hx hb dX6_pair_116 (by decide) (fun c_116 => ?_) (fun c_116 => ?_)
                    · replace hE := (if_pos c_116).symm.trans hE
                      have i_116 : x6_53.toInt ≤ x3_38.toInt := i_le.mp c_116
                      refine lv_iload_n hx hb dX6_pair_124 rfl (lv_at hl 3 rfl) ?_
                      exact J125 x3_38 _ _ _ hG _ (lv_sub hl [0, 1, 2, 4, 5] rfl) hE
                    replace hE := (if_neg c_116).symm.trans hE
                    have i_116 : x3_38.toInt < x6_53.toInt := i_nle c_116
                    refine lv_iload hx hb dX6_pair_119 (lv_at hl 6 rfl) ?_
                    refine lv_goto (tgt := 125) hx hb dX6_pair_121 (by decide) ?_
                    exact J125 x6_53 _ _ _ hG _ (lv_sub hl [0, 1, 2, 4, 5] rfl) hE
                  refine lv_icmp_le (tgt := 111) hx hb dX6_pair_97 (by decide) (fun c_97 => ?_) (fun c_97 => ?_)
                  · replace hE := (if_pos c_97).symm.trans hE
                    have i_97 : x6_53.toInt ≤ x3_38.toInt := i_le.mp c_97
                    refine lv_iload_n hx hb dX6_pair_111 rfl (lv_at hl 2 rfl) ?_
                    exact J112 x2_38 _ _ _ hG _ (lv_sub hl [0, 1, 3, 4, 5, 6] rfl) hE
                  replace hE := (if_neg c_97).symm.trans hE
                  have i_97 : x3_38.toInt < x6_53.toInt := i_nle c_97
                  refine lv_bipush (v := 10) hx hb dX6_pair_100 (by decide) ?_
                  refine lv_iload hx hb dX6_pair_102 (lv_at hl 4 rfl) ?_
                  refine lv_imul hx hb dX6_pair_104 ?_
                  refine lv_iload hx hb dX6_pair_105 (lv_at hl 5 rfl) ?_
                  refine lv_iadd hx hb dX6_pair_107 ?_
                  refine lv_goto (tgt := 112) hx hb dX6_pair_108 (by decide) ?_
                  exact J112 ((10 * x4_23) + x5_38) _ _ _ hG _ (lv_sub hl [0, 1, 3, 4, 5, 6] rfl) hE
                replace hE := (if_neg c_57).symm.trans hE
                have i_57 : x7_53.toInt < 24 := i_nle c_57
                refine lv_iload hx hb dX6_pair_60 (lv_at hl 6 rfl) ?_
                refine lv_aload_n hx hb dX6_pair_62 rfl (lv_at hl 0 rfl) ?_
                refine g_get hx hb hts hiX6 hown hG gw_Model rfl 32 (by decide) (index := 67) tw_fl_RX6_67 (v := .ref (gA g 78)) rfl dX6_pair_63 ?_
                refine lv_iload hx hb dX6_pair_66 (lv_at hl 7 rfl) ?_
                refine g_ild (f := (mo_13.2 32)) hx hb hG gw_Model_a32 (show vp_in x7_53 24 from (vp_i (by clear hE; omega) (by clear hE; omega))) dX6_pair_68 ?_
                refine lv_iload hx hb dX6_pair_69 (lv_at hl 4 rfl) ?_
                refine lv_ishr hx hb dX6_pair_71 ?_
                refine lv_aload_n hx hb dX6_pair_72 rfl (lv_at hl 0 rfl) ?_
                refine g_get hx hb hts hiX6 hown hG gw_Model rfl 32 (by decide) (index := 67) tw_fl_RX6_67 (v := .ref (gA g 78)) rfl dX6_pair_73 ?_
                refine lv_iload hx hb dX6_pair_76 (lv_at hl 7 rfl) ?_
                refine g_ild (f := (mo_13.2 32)) hx hb hG gw_Model_a32 (show vp_in x7_53 24 from (vp_i (by clear hE; omega) (by clear hE; omega))) dX6_pair_78 ?_
                refine lv_iload hx hb dX6_pair_79 (lv_at hl 5 rfl) ?_
                refine lv_ishr hx hb dX6_pair_81 ?_
                refine lv_iand hx hb dX6_pair_82 ?_
                refine lv_iconst (v := 1) hx hb dX6_pair_83 (by decide) ?_
                refine lv_iand hx hb dX6_pair_84 ?_
                refine lv_iadd hx hb dX6_pair_85 ?_
                refine lv_istore (lv' := [(6, .int (x6_53 + (((((mo_13.2 32) (Int32.toNatClampNeg x7_53)) >>> (x4_23 &&& 31)) &&& (((mo_13.2 32) (Int32.toNatClampNeg x7_53)) >>> (x5_38 &&& 31))) &&& 1))), (0, .ref (gA g 58)), (1, .int p1), (2, .int x2_38), (3, .int x3_38), (4, .int x4_23), (5, .int x5_38), (7, .int x7_53)]) hx hb dX6_pair_86 hl (by decide) rfl (fun ls hl => ?_)
                replace hl := lv_sub hl [1, 2, 3, 4, 5, 6, 0, 7] (l' := [(0, .ref (gA g 58)), (1, .int p1), (2, .int x2_38), (3, .int x3_38), (4, .int x4_23), (5, .int x5_38), (6, .int (x6_53 + (((((mo_13.2 32) (Int32.toNatClampNeg x7_53)) >>> (x4_23 &&& 31)) &&& (((mo_13.2 32) (Int32.toNatClampNeg x7_53)) >>> (x5_38 &&& 31))) &&& 1))), (7, .int x7_53)]) rfl
                refine lv_iinc (v := (x7_53 + 1)) (lv' := [(7, .int (x7_53 + 1)), (0, .ref (gA g 58)), (1, .int p1), (2, .int x2_38), (3, .int x3_38), (4, .int x4_23), (5, .int x5_38), (6, .int (x6_53 + (((((mo_13.2 32) (Int32.toNatClampNeg x7_53)) >>> (x4_23 &&& 31)) &&& (((mo_13.2 32) (Int32.toNatClampNeg x7_53)) >>> (x5_38 &&& 31))) &&& 1)))]) hx hb dX6_pair_88 hl (k := 7) rfl rfl (by decide) rfl (fun ls hl => ?_)
                replace hl := lv_sub hl [1, 2, 3, 4, 5, 6, 7, 0] (l' := [(0, .ref (gA g 58)), (1, .int p1), (2, .int x2_38), (3, .int x3_38), (4, .int x4_23), (5, .int x5_38), (6, .int (x6_53 + (((((mo_13.2 32) (Int32.toNatClampNeg x7_53)) >>> (x4_23 &&& 31)) &&& (((mo_13.2 32) (Int32.toNatClampNeg x7_53)) >>> (x5_38 &&& 31))) &&& 1))), (7, .int (x7_53 + 1))]) rfl
                refine lv_goto (tgt := 53) hx hb dX6_pair_91 (by decide) ?_
                have e3 : (x7_53 + 1).toInt = x7_53.toInt + 1 := addL (k := 1) (by decide +kernel) (by clear hE; omega) (by clear hE; omega)
                exact ih53 (x6_53 + (((((mo_13.2 32) (Int32.toNatClampNeg x7_53)) >>> (x4_23 &&& 31)) &&& (((mo_13.2 32) (Int32.toNatClampNeg x7_53)) >>> (x5_38 &&& 31))) &&& 1)) (x7_53 + 1) _ _ _ hG _ (lv_sub hl [0, 1, 2, 3, 4, 5, 6, 7] rfl) (by clear hE; omega) (by clear hE; omega) (by clear hE; omega) hE
            exact L53 25 0 0 _ _ _ hG _ (lv_sub hl [0, 1, 2, 3, 4, 5, 6, 7] rfl) (by decide) (by decide) (by decide) hE
        have e4 : (x4_23 + 1).toInt = x4_23.toInt + 1 := addL (k := 1) (by decide +kernel) (by clear hE; omega) (by clear hE; omega)
        exact L38 8 x2_23 x3_23 (x4_23 + 1) _ _ _ hG _ (lv_sub hl [0, 1, 2, 3, 4, 5] rfl) (by clear hE; omega) (by clear hE; omega) (by clear hE; omega) hE
    exact L23 7 (-1) (-1) 0 _ _ _ hG _ (lv_sub hl [0, 1, 2, 3, 4] rfl) (by decide) (by decide) (by decide) hE
  replace hE := (if_pos c_6).symm.trans hE
  refine lv_bipush (v := (-2)) hx hb dX6_pair_9 (by decide) ?_
  subst hQ
  exact g_iret hx hb hr hlocks hG ((mo, jk) : Ob × (Nat → Nat → Int32)) rfl hE.symm dX6_pair_11
def F_X6_lowest_l16 : Nat → Int64 → Int64 → Int32 → Int64 → Int64 → Int64
  | 0, _, _, _, _, _ => 0
  | n + 1, y0, y2, x4, y5, y7 =>
    (if (lg_cmp y7 0) = 0 then (if x4 = 0 then (y0 / y5) else (y2 / y5)) else ((F_X6_lowest_l16 n ) y0 y2 x4 y7 (y5 - y5 / y7 * y7)))
def F_X6_lowest (p0 : Int64) (p2 : Int64) (p4 : Int32) : Int64 :=
  (if (lg_cmp p0 0) = 0 then (Int32.toInt64 p4) else (F_X6_lowest_l16 (p2.toInt.natAbs + 1)  p0 p2 p4 p0 p2))
set_option maxHeartbeats 4000000 in
set_option maxRecDepth 100000 in
theorem c_X6_lowest {l : Launch} {g : GG} {sz : Nat}  (p0 : Int64) (p2 : Int64) (p4 : Int32) (hlw : p0.toInt.natAbs ≤ 2147483648 ∧ p2.toInt.natAbs ≤ 2147483648) : Met l yX6_lowest (Cond.code yX6_lowest cX6_lowest 11 (some .long) :: TT) (rmL (1)) (va_Pc [.long p0, .long p2, .int p4] (gB g sz [])) (va_Ql (fun r (_ : Unit) => r = (F_X6_lowest p0 p2 p4)) (fun u t => gC g (va_A [] sz) [] t) (va_A [] sz)) 0 0 (va_A [] sz) := by
  generalize hE : F_X6_lowest p0 p2 p4 = EE
  refine g_of (Qf := fun A => (va_Ql (fun r (_ : Unit) => r = EE) (fun u t => gC g A [] t) A)) (cc := cX6_lowest) (maxL := 11) (ret := (some .long)) (by decide) (Nat.le_of_ble_eq_true rfl) ?_
  intro p e s m below meth c A ls hx hb hml hr hlocks hts hown hA hG hl
  replace hown : s.vm.findClass RX6 = some m.cls := hown
  replace hl : lv_has ls 11 [(0, .long p0), (2, .long p2), (4, .int p4)] := hl
  show W p l e (rmL (1)) s m [.long p0, .long p2, .int p4].toArray below meth c s.heap [] 0 0 (MQ below (va_Ql (fun r (_ : Unit) => r = EE) (fun u t => gC g A [] t) A) [.long p0, .long p2, .int p4].toArray s 0 0 A) (F0 m 0 ls [])
  generalize hQ : MQ below (va_Ql (fun r (_ : Unit) => r = EE) (fun u t => gC g A [] t) A) [.long p0, .long p2, .int p4].toArray s 0 0 A = Q
  unfold F_X6_lowest at hE
  refine lv_lload_n hx hb dX6_lowest_0 rfl (lv_at hl 0 rfl) ?_
  refine lv_lconst (v := 0) hx hb dX6_lowest_1 (by decide) ?_
  refine W.lcmp hx hb dX6_lowest_2 ?_
  refine lv_if_ne (tgt := 10) hx hb dX6_lowest_3 (by decide) (fun c_3 => ?_) (fun c_3 => ?_)
  · replace hE := (if_neg c_3).symm.trans hE
    refine lv_lload_n hx hb dX6_lowest_10 rfl (lv_at hl 0 rfl) ?_
    refine lv_lstore (lv' := [(5, .long p0), (0, .long p0), (2, .long p2), (4, .int p4)]) hx hb dX6_lowest_11 hl (by decide) rfl (fun ls hl => ?_)
    replace hl := lv_sub hl [1, 2, 3, 0] (l' := [(0, .long p0), (2, .long p2), (4, .int p4), (5, .long p0)]) rfl
    refine lv_lload_n hx hb dX6_lowest_13 rfl (lv_at hl 1 rfl) ?_
    refine lv_lstore (lv' := [(7, .long p2), (0, .long p0), (2, .long p2), (4, .int p4), (5, .long p0)]) hx hb dX6_lowest_14 hl (by decide) rfl (fun ls hl => ?_)
    replace hl := lv_sub hl [1, 2, 3, 4, 0] (l' := [(0, .long p0), (2, .long p2), (4, .int p4), (5, .long p0), (7, .long p2)]) rfl
    have L16 : ∀ (n16 : Nat) (y5_16 : Int64) (y7_16 : Int64) (H : Heap) (locs : List Loc), gS g A s H locs [] → ∀ ls : Array Slot, lv_has ls 11 [(0, .long p0), (2, .long p2), (4, .int p4), (5, .long y5_16), (7, .long y7_16)] → y5_16.toInt.natAbs ≤ 2147483648 → y7_16.toInt.natAbs ≤ 2147483648 → y5_16 ≠ 0 ∨ y7_16 ≠ 0 → y7_16.toInt.natAbs < n16 → F_X6_lowest_l16 n16  p0 p2 p4 y5_16 y7_16 = EE → W p l e (rmL (1)) s m [.long p0, .long p2, .int p4].toArray below meth c H locs 0 0 Q (F0 m 16 ls []) := by
      intro n16
      induction n16 with
      | zero =>
        intro y5_16 y7_16 H locs hG ls hl ha0 hb0 hz0 hm_16 hE
        exact absurd hm_16 (Nat.not_lt_zero _)
      | succ n16 ih16 =>
        intro y5_16 y7_16 H locs hG ls hl ha0 hb0 hz0 hm_16 hE
        unfold F_X6_lowest_l16 at hE
        refine lv_lload hx hb dX6_lowest_16 (lv_at hl 4 rfl) ?_
        refine lv_lconst (v := 0) hx hb dX6_lowest_18 (by decide) ?_
        refine W.lcmp hx hb dX6_lowest_19 ?_
        refine lv_if_eq (tgt := 41) hx hb dX6_lowest_20 (by decide) (fun c_20 => ?_) (fun c_20 => ?_)
        · replace hE := (if_pos c_20).symm.trans hE
          have z7 := lcmp_eq c_20
          have n5 : y5_16 ≠ 0 := hz0.resolve_right (fun q => q z7)
          refine lv_iload hx hb dX6_lowest_41 (lv_at hl 2 rfl) ?_
          refine lv_if_ne (tgt := 50) hx hb dX6_lowest_43 (by decide) (fun c_43 => ?_) (fun c_43 => ?_)
          · replace hE := (if_neg c_43).symm.trans hE
            have i_43 : p4.toInt ≠ 0 := fun h => c_43 (Int32.toInt_inj.mp h)
            refine lv_lload_n hx hb dX6_lowest_50 rfl (lv_at hl 1 rfl) ?_
            refine lv_lload hx hb dX6_lowest_51 (lv_at hl 3 rfl) ?_
            refine lv_ldiv hx hb dX6_lowest_53 n5 ?_
            subst hQ
            exact g_lret hx hb hr hlocks hG () rfl hE dX6_lowest_54
          replace hE := (if_pos c_43).symm.trans hE
          have i_43 : p4.toInt = 0 := congrArg Int32.toInt c_43
          refine lv_lload_n hx hb dX6_lowest_46 rfl (lv_at hl 0 rfl) ?_
          refine lv_goto (tgt := 51) hx hb dX6_lowest_47 (by decide) ?_
          refine lv_lload hx hb dX6_lowest_51 (lv_at hl 3 rfl) ?_
          refine lv_ldiv hx hb dX6_lowest_53 n5 ?_
          subst hQ
          exact g_lret hx hb hr hlocks hG () rfl hE dX6_lowest_54
        replace hE := (if_neg c_20).symm.trans hE
        have n7 := lcmp_ne c_20
        have hrm := lrem_lt ha0 hb0 n7
        refine lv_lload hx hb dX6_lowest_23 (lv_at hl 3 rfl) ?_
        refine lv_lload hx hb dX6_lowest_25 (lv_at hl 4 rfl) ?_
        refine lv_lrem hx hb dX6_lowest_27 n7 ?_
        refine lv_lstore (lv' := [(9, .long (y5_16 - y5_16 / y7_16 * y7_16)), (0, .long p0), (2, .long p2), (4, .int p4), (5, .long y5_16), (7, .long y7_16)]) hx hb dX6_lowest_28 hl (by decide) rfl (fun ls hl => ?_)
        replace hl := lv_sub hl [1, 2, 3, 4, 5, 0] (l' := [(0, .long p0), (2, .long p2), (4, .int p4), (5, .long y5_16), (7, .long y7_16), (9, .long (y5_16 - y5_16 / y7_16 * y7_16))]) rfl
        refine lv_lload hx hb dX6_lowest_30 (lv_at hl 4 rfl) ?_
        refine lv_lstore (lv' := [(5, .long y7_16), (0, .long p0), (2, .long p2), (4, .int p4), (7, .long y7_16), (9, .long (y5_16 - y5_16 / y7_16 * y7_16))]) hx hb dX6_lowest_32 hl (by decide) rfl (fun ls hl => ?_)
        replace hl := lv_sub hl [1, 2, 3, 0, 4, 5] (l' := [(0, .long p0), (2, .long p2), (4, .int p4), (5, .long y7_16), (7, .long y7_16), (9, .long (y5_16 - y5_16 / y7_16 * y7_16))]) rfl
        refine lv_lload hx hb dX6_lowest_34 (lv_at hl 5 rfl) ?_
        refine lv_lstore (lv' := [(7, .long (y5_16 - y5_16 / y7_16 * y7_16)), (0, .long p0), (2, .long p2), (4, .int p4), (5, .long y7_16), (9, .long (y5_16 - y5_16 / y7_16 * y7_16))]) hx hb dX6_lowest_36 hl (by decide) rfl (fun ls hl => ?_)
        replace hl := lv_sub hl [1, 2, 3, 4, 0, 5] (l' := [(0, .long p0), (2, .long p2), (4, .int p4), (5, .long y7_16), (7, .long (y5_16 - y5_16 / y7_16 * y7_16)), (9, .long (y5_16 - y5_16 / y7_16 * y7_16))]) rfl
        refine lv_goto (tgt := 16) hx hb dX6_lowest_38 (by decide) ?_
        exact ih16 y7_16 (y5_16 - y5_16 / y7_16 * y7_16) _ _ hG _ (lv_sub hl [0, 1, 2, 3, 4] rfl) hb0 (by have := hrm; omega) (Or.inl n7) (by have := hrm; omega) hE
    exact L16 (p2.toInt.natAbs + 1) p0 p2 _ _ hG _ (lv_sub hl [0, 1, 2, 3, 4] rfl) hlw.1 hlw.2 (Or.inl (lcmp_ne c_3)) (Nat.lt_succ_self _) hE
  replace hE := (if_pos c_3).symm.trans hE
  refine lv_iload hx hb dX6_lowest_6 (lv_at hl 2 rfl) ?_
  refine lv_i2l (v := (Int32.toInt64 p4)) hx hb dX6_lowest_8 rfl ?_
  subst hQ
  exact g_lret hx hb hr hlocks hG () rfl hE dX6_lowest_9
def F_X6_mean_c34 (u : Ob) (x1 : Int32) (x2 : Int32) (x3 : Int32) : Int64 × Ob :=
  ((F_X6_lowest (Int32.toInt64 x3) (Int32.toInt64 x1) x2), u)
def F_X6_mean_c29 (u : Int32 × Ob) (x1 : Int32) (x2 : Int32) : Int64 × Ob :=
  (F_X6_mean_c34 (F_X6_lays u.2) x1 x2 u.1)
def F_X6_mean_c24 (u : Ob) (x1 : Int32) (x2 : Int32) : Int64 × Ob :=
  (F_X6_mean_c29 (F_X6_goes u x1) x1 x2)
def F_X6_mean (mo : Ob) (p1 : Int32) (p2 : Int32) : Int64 × Ob :=
  (if (F_X6_in p1 1 48) = 0 then ((-4611686018427387904), mo) else (if (F_X6_in p2 0 1) = 0 then ((-4611686018427387904), mo) else (F_X6_mean_c24 (F_X6_keeps mo) p1 p2)))
set_option maxHeartbeats 4000000 in
set_option maxRecDepth 100000 in
theorem c_X6_mean {l : Launch} {g : GG} {sz : Nat} {bb : Ob} {tx rw : Nat → Ob} {sb dy : Ob} {tn : Nat → Ob} {mo : Ob} {jk : Nat → Nat → Int32}  (p1 : Int32) (p2 : Int32) (hv : mEv mo) : Met l yX6_mean (Cond.code yX6_mean cX6_mean 4 (some .long) :: TT) (rmL (8)) (va_Pc [.ref (gA g 58), .int p1, .int p2] (gB g sz (gW g bb tx rw sb dy tn mo jk))) (va_Ql (fun r (u : Ob × (Nat → Nat → Int32)) => (F_X6_mean mo p1 p2) = (r, u.1)) (fun u t => gC g (va_A (gW g bb tx rw sb dy tn mo jk) sz) (gW g bb tx rw sb dy tn u.1 u.2) t) (va_A (gW g bb tx rw sb dy tn mo jk) sz)) 0 0 (va_A (gW g bb tx rw sb dy tn mo jk) sz) := by
  generalize hE : F_X6_mean mo p1 p2 = EE
  refine g_of (Qf := fun A => (va_Ql (fun r (u : Ob × (Nat → Nat → Int32)) => EE = (r, u.1)) (fun u t => gC g A (gW g bb tx rw sb dy tn u.1 u.2) t) A)) (cc := cX6_mean) (maxL := 4) (ret := (some .long)) (by decide) (Nat.le_of_ble_eq_true rfl) ?_
  intro p e s m below meth c A ls hx hb hml hr hlocks hts hown hA hG hl
  replace hown : s.vm.findClass RX6 = some m.cls := hown
  replace hl : lv_has ls 4 [(0, .ref (gA g 58)), (1, .int p1), (2, .int p2)] := hl
  show W p l e (rmL (8)) s m [.ref (gA g 58), .int p1, .int p2].toArray below meth c s.heap [] 0 0 (MQ below (va_Ql (fun r (u : Ob × (Nat → Nat → Int32)) => EE = (r, u.1)) (fun u t => gC g A (gW g bb tx rw sb dy tn u.1 u.2) t) A) [.ref (gA g 58), .int p1, .int p2].toArray s 0 0 A) (F0 m 0 ls [])
  generalize hQ : MQ below (va_Ql (fun r (u : Ob × (Nat → Nat → Int32)) => EE = (r, u.1)) (fun u t => gC g A (gW g bb tx rw sb dy tn u.1 u.2) t) A) [.ref (gA g 58), .int p1, .int p2].toArray s 0 0 A = Q
  unfold F_X6_mean at hE
  refine lv_iload_n hx hb dX6_mean_0 rfl (lv_at hl 1 rfl) ?_
  refine lv_iconst (v := 1) hx hb dX6_mean_1 (by decide) ?_
  refine lv_bipush (v := 48) hx hb dX6_mean_2 (by decide) ?_
  refine g_si (g_runS (n := 3) (rest := []) hx hb hml hown hts hG (c_X6_in p1 1 48) tw_ml_RX6_81 tw_st_X6_in tw_in_RX6 tw_cd_X6_in (by decide +kernel) ⟨rfl, rfl, Nat.le_of_ble_eq_true rfl, Nat.le_of_ble_eq_true rfl⟩ rfl hl.1 rfl (Nat.le_of_ble_eq_true rfl) dX6_mean_4 ⟨Nat.le_refl _, Nat.le_refl _⟩) hG hA (fun H locs hG => ?_)
  refine lv_if_eq (tgt := 19) hx hb dX6_mean_7 (by decide) (fun c_7 => ?_) (fun c_7 => ?_)
  · replace hE := (if_pos c_7).symm.trans hE
    refine lv_ldc2 (v := (-4611686018427387904)) hx hb hown (hts _ tw_cg_RX6_229) dX6_mean_19 ?_
    subst hQ
    exact g_lret hx hb hr hlocks hG ((mo, jk) : Ob × (Nat → Nat → Int32)) rfl hE.symm dX6_mean_22
  replace hE := (if_neg c_7).symm.trans hE
  have i_7 : 1 ≤ p1.toInt ∧ p1.toInt ≤ 48 := in_f c_7
  refine lv_iload_n hx hb dX6_mean_10 rfl (lv_at hl 2 rfl) ?_
  refine lv_iconst (v := 0) hx hb dX6_mean_11 (by decide) ?_
  refine lv_iconst (v := 1) hx hb dX6_mean_12 (by decide) ?_
  refine g_si (g_runS (n := 3) (rest := []) hx hb hml hown hts hG (c_X6_in p2 0 1) tw_ml_RX6_81 tw_st_X6_in tw_in_RX6 tw_cd_X6_in (by decide +kernel) ⟨rfl, rfl, Nat.le_of_ble_eq_true rfl, Nat.le_of_ble_eq_true rfl⟩ rfl hl.1 rfl (Nat.le_of_ble_eq_true rfl) dX6_mean_13 ⟨Nat.le_refl _, Nat.le_refl _⟩) hG hA (fun H locs hG => ?_)
  refine lv_if_ne (tgt := 23) hx hb dX6_mean_16 (by decide) (fun c_16 => ?_) (fun c_16 => ?_)
  · replace hE := (if_neg c_16).symm.trans hE
    have i_16 : 0 ≤ p2.toInt ∧ p2.toInt ≤ 1 := in_f c_16
    refine lv_aload_n hx hb dX6_mean_23 rfl (lv_at hl 0 rfl) ?_
    refine g_cv (g_runV (n := 0) (rest := []) hx hb hml hown hts hG (c_X6_keeps) tw_ml_RX6_199 tw_im_X6_keeps tw_se_X6_keeps tw_in_RX6 tw_cd_X6_keeps (by decide +kernel) ⟨rfl, rfl, Nat.le_of_ble_eq_true rfl, Nat.le_of_ble_eq_true rfl⟩ gw_Model rfl rfl hl.1 rfl (Nat.le_of_ble_eq_true rfl) dX6_mean_24 ⟨Nat.le_refl _, Nat.le_refl _⟩) hG hA (fun u H locs hp hG => ?_)
    obtain ⟨mo_24, rfl⟩ : ∃ z, z = u := ⟨u, rfl⟩
    replace hG : gS g A s H locs (gW g bb tx rw sb dy tn mo_24 jk) := by simpa only [up_up] using hG
    have hp_24 := hp
    rw [hp] at hE
    unfold F_X6_mean_c24 at hE
    try dsimp only at hE
    have hv24 : mEv mo_24 := (keeps_hR hp_24).mEv hv
    refine lv_aload_n hx hb dX6_mean_27 rfl (lv_at hl 0 rfl) ?_
    refine lv_iload_n hx hb dX6_mean_28 rfl (lv_at hl 1 rfl) ?_
    refine g_ci (g_runV (n := 1) (rest := []) hx hb hml hown hts hG (c_X6_goes p1 hv24 (by clear hE; omega)) tw_ml_RX6_202 tw_im_X6_goes tw_se_X6_goes tw_in_RX6 tw_cd_X6_goes (by decide +kernel) ⟨rfl, rfl, Nat.le_of_ble_eq_true rfl, Nat.le_of_ble_eq_true rfl⟩ gw_Model rfl rfl hl.1 rfl (Nat.le_of_ble_eq_true rfl) dX6_mean_29 ⟨Nat.le_refl _, Nat.le_refl _⟩) hG hA (fun r_29 u H locs hp hG => ?_)
    obtain ⟨mo_29, jk⟩ := u
    replace hG : gS g A s H locs (gW g bb tx rw sb dy tn mo_29 jk) := by simpa only [up_up] using hG
    have hp_29 := hp
    rw [hp] at hE
    unfold F_X6_mean_c29 at hE
    try dsimp only at hE
    have hv29 : mEv mo_29 := (goes_hR hp_29).mEv hv24
    refine lv_istore_n (lv' := [(3, .int r_29), (0, .ref (gA g 58)), (1, .int p1), (2, .int p2)]) hx hb dX6_mean_32 rfl hl (by decide) rfl (fun ls hl => ?_)
    replace hl := lv_sub hl [1, 2, 3, 0] (l' := [(0, .ref (gA g 58)), (1, .int p1), (2, .int p2), (3, .int r_29)]) rfl
    refine lv_aload_n hx hb dX6_mean_33 rfl (lv_at hl 0 rfl) ?_
    refine g_cv (g_runV (n := 0) (rest := []) hx hb hml hown hts hG (c_X6_lays) tw_ml_RX6_205 tw_im_X6_lays tw_se_X6_lays tw_in_RX6 tw_cd_X6_lays (by decide +kernel) ⟨rfl, rfl, Nat.le_of_ble_eq_true rfl, Nat.le_of_ble_eq_true rfl⟩ gw_Model rfl rfl hl.1 rfl (Nat.le_of_ble_eq_true rfl) dX6_mean_34 ⟨Nat.le_refl _, Nat.le_refl _⟩) hG hA (fun u H locs hp hG => ?_)
    obtain ⟨mo_34, rfl⟩ : ∃ z, z = u := ⟨u, rfl⟩
    replace hG : gS g A s H locs (gW g bb tx rw sb dy tn mo_34 jk) := by simpa only [up_up] using hG
    have hp_34 := hp
    rw [hp] at hE
    unfold F_X6_mean_c34 at hE
    try dsimp only at hE
    refine lv_iload_n hx hb dX6_mean_37 rfl (lv_at hl 3 rfl) ?_
    refine lv_i2l (v := (Int32.toInt64 r_29)) hx hb dX6_mean_38 rfl ?_
    refine lv_iload_n hx hb dX6_mean_39 rfl (lv_at hl 1 rfl) ?_
    refine lv_i2l (v := (Int32.toInt64 p1)) hx hb dX6_mean_40 rfl ?_
    refine lv_iload_n hx hb dX6_mean_41 rfl (lv_at hl 2 rfl) ?_
    refine g_sl (g_runS (n := 3) (rest := []) hx hb hml hown hts hG (c_X6_lowest (Int32.toInt64 r_29) (Int32.toInt64 p1) p2 ⟨i2l_abs _, i2l_abs _⟩) tw_ml_RX6_231 tw_st_X6_lowest tw_in_RX6 tw_cd_X6_lowest (by decide +kernel) ⟨rfl, rfl, Nat.le_of_ble_eq_true rfl, Nat.le_of_ble_eq_true rfl⟩ rfl hl.1 rfl (Nat.le_of_ble_eq_true rfl) dX6_mean_42 ⟨Nat.le_refl _, Nat.le_refl _⟩) hG hA (fun H locs hG => ?_)
    subst hQ
    exact g_lret hx hb hr hlocks hG ((mo_34, jk) : Ob × (Nat → Nat → Int32)) rfl hE.symm dX6_mean_45
  replace hE := (if_pos c_16).symm.trans hE
  refine lv_ldc2 (v := (-4611686018427387904)) hx hb hown (hts _ tw_cg_RX6_229) dX6_mean_19 ?_
  subst hQ
  exact g_lret hx hb hr hlocks hG ((mo, jk) : Ob × (Nat → Nat → Int32)) rfl hE.symm dX6_mean_22
def F_X6_share_l5 : Nat → Ob → Int32 → Int32 → Int32 → Int32 → Int64
  | 0, _, _, _, _, _ => 0
  | n + 1, mo, x1, x2, x3, x4 =>
    (if (mo.1 0) ≤ x4 then (if (F_X6_isOne mo x1) = 0 then (-4611686018427387904) else (if (F_X6_in x2 0 1) = 0 then (-4611686018427387904) else (if x3 ≤ 0 then (-4611686018427387904) else (F_X6_lowest (Int32.toInt64 ((mo.2 3) (Int32.toNatClampNeg ((4 * x1) + 1)))) (Int32.toInt64 x3) x2)))) else ((F_X6_share_l5 n ) mo x1 x2 (x3 + ((mo.2 3) (Int32.toNatClampNeg ((4 * x4) + 1)))) (x4 + 1)))
def F_X6_share (mo : Ob) (p1 : Int32) (p2 : Int32) : Int64 :=
  (F_X6_share_l5 7  mo p1 p2 0 0)
set_option maxHeartbeats 4000000 in
set_option maxRecDepth 100000 in
theorem c_X6_share {l : Launch} {g : GG} {sz : Nat} {bb : Ob} {tx rw : Nat → Ob} {sb dy : Ob} {tn : Nat → Ob} {mo : Ob} {jk : Nat → Nat → Int32}  (p1 : Int32) (p2 : Int32) (hpo : 0 ≤ (mo.1 0).toInt ∧ (mo.1 0).toInt ≤ 6) : Met l yX6_share (Cond.code yX6_share cX6_share 5 (some .long) :: TT) (rmL (3)) (va_Pc [.ref (gA g 58), .int p1, .int p2] (gB g sz (gW g bb tx rw sb dy tn mo jk))) (va_Ql (fun r (_ : Unit) => r = (F_X6_share mo p1 p2)) (fun u t => gC g (va_A (gW g bb tx rw sb dy tn mo jk) sz) (gW g bb tx rw sb dy tn mo jk) t) (va_A (gW g bb tx rw sb dy tn mo jk) sz)) 0 0 (va_A (gW g bb tx rw sb dy tn mo jk) sz) := by
  generalize hE : F_X6_share mo p1 p2 = EE
  refine g_of (Qf := fun A => (va_Ql (fun r (_ : Unit) => r = EE) (fun u t => gC g A (gW g bb tx rw sb dy tn mo jk) t) A)) (cc := cX6_share) (maxL := 5) (ret := (some .long)) (by decide) (Nat.le_of_ble_eq_true rfl) ?_
  intro p e s m below meth c A ls hx hb hml hr hlocks hts hown hA hG hl
  replace hown : s.vm.findClass RX6 = some m.cls := hown
  replace hl : lv_has ls 5 [(0, .ref (gA g 58)), (1, .int p1), (2, .int p2)] := hl
  show W p l e (rmL (3)) s m [.ref (gA g 58), .int p1, .int p2].toArray below meth c s.heap [] 0 0 (MQ below (va_Ql (fun r (_ : Unit) => r = EE) (fun u t => gC g A (gW g bb tx rw sb dy tn mo jk) t) A) [.ref (gA g 58), .int p1, .int p2].toArray s 0 0 A) (F0 m 0 ls [])
  generalize hQ : MQ below (va_Ql (fun r (_ : Unit) => r = EE) (fun u t => gC g A (gW g bb tx rw sb dy tn mo jk) t) A) [.ref (gA g 58), .int p1, .int p2].toArray s 0 0 A = Q
  have e_pe : ((mo.1 0) - 1).toInt = (mo.1 0).toInt - 1 := subL (k := 1) (by decide +kernel) (by omega) (by omega)
  unfold F_X6_share at hE
  refine lv_iconst (v := 0) hx hb dX6_share_0 (by decide) ?_
  refine lv_istore_n (lv' := [(3, .int 0), (0, .ref (gA g 58)), (1, .int p1), (2, .int p2)]) hx hb dX6_share_1 rfl hl (by decide) rfl (fun ls hl => ?_)
  replace hl := lv_sub hl [1, 2, 3, 0] (l' := [(0, .ref (gA g 58)), (1, .int p1), (2, .int p2), (3, .int 0)]) rfl
  refine lv_iconst (v := 0) hx hb dX6_share_2 (by decide) ?_
  refine lv_istore (lv' := [(4, .int 0), (0, .ref (gA g 58)), (1, .int p1), (2, .int p2), (3, .int 0)]) hx hb dX6_share_3 hl (by decide) rfl (fun ls hl => ?_)
  replace hl := lv_sub hl [1, 2, 3, 4, 0] (l' := [(0, .ref (gA g 58)), (1, .int p1), (2, .int p2), (3, .int 0), (4, .int 0)]) rfl
  have L5 : ∀ (n5 : Nat) (x3_5 : Int32) (x4_5 : Int32) (H : Heap) (locs : List Loc), gS g A s H locs (gW g bb tx rw sb dy tn mo jk) → ∀ ls : Array Slot, lv_has ls 5 [(0, .ref (gA g 58)), (1, .int p1), (2, .int p2), (3, .int x3_5), (4, .int x4_5)] → 0 ≤ x4_5.toInt → x4_5.toInt ≤ 6 → 6 < x4_5.toInt + n5 → F_X6_share_l5 n5  mo p1 p2 x3_5 x4_5 = EE → W p l e (rmL (3)) s m [.ref (gA g 58), .int p1, .int p2].toArray below meth c H locs 0 0 Q (F0 m 5 ls []) := by
    intro n5
    induction n5 with
    | zero =>
      intro x3_5 x4_5 H locs hG ls hl h0_5 h1_5 hm_5 hE
      clear hE; omega
    | succ n5 ih5 =>
      intro x3_5 x4_5 H locs hG ls hl h0_5 h1_5 hm_5 hE
      unfold F_X6_share_l5 at hE
      refine lv_iload hx hb dX6_share_5 (lv_at hl 4 rfl) ?_
      refine lv_aload_n hx hb dX6_share_7 rfl (lv_at hl 0 rfl) ?_
      refine g_get hx hb hts hiX6 hown hG gw_Model rfl 0 (by decide) (index := 78) tw_fl_RX6_78 (v := .int (mo.1 0)) rfl dX6_share_8 ?_
      refine lv_icmp_ge (tgt := 34) hx hb dX6_share_11 (by decide) (fun c_11 => ?_) (fun c_11 => ?_)
      · replace hE := (if_pos c_11).symm.trans hE
        have i_11 : (mo.1 0).toInt ≤ x4_5.toInt := i_le.mp c_11
        refine lv_aload_n hx hb dX6_share_34 rfl (lv_at hl 0 rfl) ?_
        refine lv_iload_n hx hb dX6_share_35 rfl (lv_at hl 1 rfl) ?_
        refine g_ci (g_runV (n := 1) (rest := []) hx hb hml hown hts hG (c_X6_isOne p1) tw_ml_RX6_164 tw_im_X6_isOne tw_se_X6_isOne tw_in_RX6 tw_cd_X6_isOne (by decide +kernel) ⟨rfl, rfl, Nat.le_of_ble_eq_true rfl, Nat.le_of_ble_eq_true rfl⟩ gw_Model rfl rfl hl.1 rfl (Nat.le_of_ble_eq_true rfl) dX6_share_36 ⟨Nat.le_refl _, Nat.le_refl _⟩) hG hA (fun r _ H locs hp hG => ?_)
        subst hp
        replace hG : gS g A s H locs (gW g bb tx rw sb dy tn mo jk) := hG
        refine lv_if_eq (tgt := 75) hx hb dX6_share_39 (by decide) (fun c_39 => ?_) (fun c_39 => ?_)
        · replace hE := (if_pos c_39).symm.trans hE
          refine lv_ldc2 (v := (-4611686018427387904)) hx hb hown (hts _ tw_cg_RX6_229) dX6_share_75 ?_
          subst hQ
          exact g_lret hx hb hr hlocks hG () rfl hE dX6_share_78
        replace hE := (if_neg c_39).symm.trans hE
        have i_39 := isOne_f c_39
        refine lv_iload_n hx hb dX6_share_42 rfl (lv_at hl 2 rfl) ?_
        refine lv_iconst (v := 0) hx hb dX6_share_43 (by decide) ?_
        refine lv_iconst (v := 1) hx hb dX6_share_44 (by decide) ?_
        refine g_si (g_runS (n := 3) (rest := []) hx hb hml hown hts hG (c_X6_in p2 0 1) tw_ml_RX6_81 tw_st_X6_in tw_in_RX6 tw_cd_X6_in (by decide +kernel) ⟨rfl, rfl, Nat.le_of_ble_eq_true rfl, Nat.le_of_ble_eq_true rfl⟩ rfl hl.1 rfl (Nat.le_of_ble_eq_true rfl) dX6_share_45 ⟨Nat.le_refl _, Nat.le_refl _⟩) hG hA (fun H locs hG => ?_)
        refine lv_if_eq (tgt := 75) hx hb dX6_share_48 (by decide) (fun c_48 => ?_) (fun c_48 => ?_)
        · replace hE := (if_pos c_48).symm.trans hE
          refine lv_ldc2 (v := (-4611686018427387904)) hx hb hown (hts _ tw_cg_RX6_229) dX6_share_75 ?_
          subst hQ
          exact g_lret hx hb hr hlocks hG () rfl hE dX6_share_78
        replace hE := (if_neg c_48).symm.trans hE
        have i_48 : 0 ≤ p2.toInt ∧ p2.toInt ≤ 1 := in_f c_48
        refine lv_iload_n hx hb dX6_share_51 rfl (lv_at hl 3 rfl) ?_
        refine lv_if_le (tgt := 75) hx hb dX6_share_52 (by decide) (fun c_52 => ?_) (fun c_52 => ?_)
        · replace hE := (if_pos c_52).symm.trans hE
          have i_52 : x3_5.toInt ≤ 0 := i_le.mp c_52
          refine lv_ldc2 (v := (-4611686018427387904)) hx hb hown (hts _ tw_cg_RX6_229) dX6_share_75 ?_
          subst hQ
          exact g_lret hx hb hr hlocks hG () rfl hE dX6_share_78
        replace hE := (if_neg c_52).symm.trans hE
        have i_52 : 0 < x3_5.toInt := i_nle c_52
        refine lv_aload_n hx hb dX6_share_55 rfl (lv_at hl 0 rfl) ?_
        refine g_get hx hb hts hiX6 hown hG gw_Model rfl 3 (by decide) (index := 16) tw_fl_RX6_16 (v := .ref (gA g 61)) rfl dX6_share_56 ?_
        refine lv_iconst (v := 4) hx hb dX6_share_59 (by decide) ?_
        refine lv_iload_n hx hb dX6_share_60 rfl (lv_at hl 1 rfl) ?_
        refine lv_imul hx hb dX6_share_61 ?_
        refine lv_iconst (v := 1) hx hb dX6_share_62 (by decide) ?_
        refine lv_iadd hx hb dX6_share_63 ?_
        have e1 : (4 * p1).toInt = 4 * p1.toInt := mulL (k := 4) (by decide +kernel) (by clear hE; omega) (by clear hE; omega)
        have e2 : ((4 * p1) + 1).toInt = (4 * p1).toInt + 1 := addL (k := 1) (by decide +kernel) (by clear hE; omega) (by clear hE; omega)
        refine g_ild (f := (mo.2 3)) hx hb hG gw_Model_a3 (show vp_in ((4 * p1) + 1) 24 from (vp_i (by clear hE; omega) (by clear hE; omega))) dX6_share_64 ?_
        refine lv_i2l (v := (Int32.toInt64 ((mo.2 3) (Int32.toNatClampNeg ((4 * p1) + 1))))) hx hb dX6_share_65 rfl ?_
        refine lv_iload_n hx hb dX6_share_66 rfl (lv_at hl 3 rfl) ?_
        refine lv_i2l (v := (Int32.toInt64 x3_5)) hx hb dX6_share_67 rfl ?_
        refine lv_iload_n hx hb dX6_share_68 rfl (lv_at hl 2 rfl) ?_
        refine g_sl (g_runS (n := 3) (rest := []) hx hb hml hown hts hG (c_X6_lowest (Int32.toInt64 ((mo.2 3) (Int32.toNatClampNeg ((4 * p1) + 1)))) (Int32.toInt64 x3_5) p2 ⟨i2l_abs _, i2l_abs _⟩) tw_ml_RX6_231 tw_st_X6_lowest tw_in_RX6 tw_cd_X6_lowest (by decide +kernel) ⟨rfl, rfl, Nat.le_of_ble_eq_true rfl, Nat.le_of_ble_eq_true rfl⟩ rfl hl.1 rfl (Nat.le_of_ble_eq_true rfl) dX6_share_69 ⟨Nat.le_refl _, Nat.le_refl _⟩) hG hA (fun H locs hG => ?_)
        refine lv_goto (tgt := 78) hx hb dX6_share_72 (by decide) ?_
        subst hQ
        exact g_lret hx hb hr hlocks hG () rfl hE dX6_share_78
      replace hE := (if_neg c_11).symm.trans hE
      have i_11 : x4_5.toInt < (mo.1 0).toInt := i_nle c_11
      refine lv_iload_n hx hb dX6_share_14 rfl (lv_at hl 3 rfl) ?_
      refine lv_aload_n hx hb dX6_share_15 rfl (lv_at hl 0 rfl) ?_
      refine g_get hx hb hts hiX6 hown hG gw_Model rfl 3 (by decide) (index := 16) tw_fl_RX6_16 (v := .ref (gA g 61)) rfl dX6_share_16 ?_
      refine lv_iconst (v := 4) hx hb dX6_share_19 (by decide) ?_
      refine lv_iload hx hb dX6_share_20 (lv_at hl 4 rfl) ?_
      refine lv_imul hx hb dX6_share_22 ?_
      refine lv_iconst (v := 1) hx hb dX6_share_23 (by decide) ?_
      refine lv_iadd hx hb dX6_share_24 ?_
      have e3 : (4 * x4_5).toInt = 4 * x4_5.toInt := mulL (k := 4) (by decide +kernel) (by clear hE; omega) (by clear hE; omega)
      have e4 : ((4 * x4_5) + 1).toInt = (4 * x4_5).toInt + 1 := addL (k := 1) (by decide +kernel) (by clear hE; omega) (by clear hE; omega)
      refine g_ild (f := (mo.2 3)) hx hb hG gw_Model_a3 (show vp_in ((4 * x4_5) + 1) 24 from (vp_i (by clear hE; omega) (by clear hE; omega))) dX6_share_25 ?_
      refine lv_iadd hx hb dX6_share_26 ?_
      refine lv_istore_n (lv' := [(3, .int (x3_5 + ((mo.2 3) (Int32.toNatClampNeg ((4 * x4_5) + 1))))), (0, .ref (gA g 58)), (1, .int p1), (2, .int p2), (4, .int x4_5)]) hx hb dX6_share_27 rfl hl (by decide) rfl (fun ls hl => ?_)
      replace hl := lv_sub hl [1, 2, 3, 0, 4] (l' := [(0, .ref (gA g 58)), (1, .int p1), (2, .int p2), (3, .int (x3_5 + ((mo.2 3) (Int32.toNatClampNeg ((4 * x4_5) + 1))))), (4, .int x4_5)]) rfl
      refine lv_iinc (v := (x4_5 + 1)) (lv' := [(4, .int (x4_5 + 1)), (0, .ref (gA g 58)), (1, .int p1), (2, .int p2), (3, .int (x3_5 + ((mo.2 3) (Int32.toNatClampNeg ((4 * x4_5) + 1)))))]) hx hb dX6_share_28 hl (k := 4) rfl rfl (by decide) rfl (fun ls hl => ?_)
      replace hl := lv_sub hl [1, 2, 3, 4, 0] (l' := [(0, .ref (gA g 58)), (1, .int p1), (2, .int p2), (3, .int (x3_5 + ((mo.2 3) (Int32.toNatClampNeg ((4 * x4_5) + 1))))), (4, .int (x4_5 + 1))]) rfl
      refine lv_goto (tgt := 5) hx hb dX6_share_31 (by decide) ?_
      have e5 : (x4_5 + 1).toInt = x4_5.toInt + 1 := addL (k := 1) (by decide +kernel) (by clear hE; omega) (by clear hE; omega)
      exact ih5 (x3_5 + ((mo.2 3) (Int32.toNatClampNeg ((4 * x4_5) + 1)))) (x4_5 + 1) _ _ hG _ (lv_sub hl [0, 1, 2, 3, 4] rfl) (by clear hE; omega) (by clear hE; omega) (by clear hE; omega) hE
  exact L5 7 0 0 _ _ hG _ (lv_sub hl [0, 1, 2, 3, 4] rfl) (by decide) (by decide) (by decide) hE
