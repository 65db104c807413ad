theorem lrem_big {x y : Int64} (hx : x.toInt.natAbs ≤ 4611686018427387904) (hn : y ≠ 0) : (x - x / y * y).toInt = x.toInt.tmod y.toInt := by
  have hd : (x.toInt.tdiv y.toInt).natAbs ≤ 4611686018427387904 := by
    rw [Int.natAbs_tdiv]
    exact Nat.le_trans (Nat.div_le_self _ _) hx
  have hm := Int.mul_tdiv_add_tmod x.toInt y.toInt
  have hlt : (x.toInt.tmod y.toInt).natAbs ≤ x.toInt.natAbs := by
    rw [Int.natAbs_tmod]
    exact Nat.mod_le _ _
  have hp : x.toInt.tdiv y.toInt * y.toInt = x.toInt - x.toInt.tmod y.toInt := by
    rw [Int.mul_comm]
    omega
  have hq : (x.toInt - x.toInt.tmod y.toInt).natAbs ≤ x.toInt.natAbs := by
    rw [← hp, Int.natAbs_mul, Int.natAbs_tdiv]
    exact Nat.div_mul_le_self _ _
  have bm : ∀ z : Int, z.natAbs ≤ 4611686018427387904 → z.bmod (2 ^ 64) = z := fun z hz => by
    rw [Int.bmod_eq_of_le (by omega) (by omega)]
  have e1 : (x / y).toInt = x.toInt.tdiv y.toInt := by
    rw [Int64.toInt_div]
    exact bm _ (by omega)
  have e2 : (x / y * y).toInt = x.toInt - x.toInt.tmod y.toInt := by
    rw [Int64.toInt_mul, e1, hp]
    exact bm _ (by omega)
  rw [Int64.toInt_sub, e2]
  have e3 : x.toInt - (x.toInt - x.toInt.tmod y.toInt) = x.toInt.tmod y.toInt := by omega
  rw [e3]
  exact bm _ (by omega)
theorem addL64 {x y : Int64} (h1 : (x.toInt + y.toInt).natAbs ≤ 4611686018427387904) (h2 : True := trivial) : (x + y).toInt = x.toInt + y.toInt := by
  rw [Int64.toInt_add, Int.bmod_eq_of_le (by omega) (by omega)]
/-- a lot, and whom it means -/
def lotOK (x : Int64) : Prop := 0 ≤ x.toInt ∧ x.toInt < 2147483648
def in8 (x : Int32) : Prop := 0 ≤ x.toInt ∧ x.toInt < 8
theorem lot_mul {x : Int64} (h : lotOK x) : (x * 48271).toInt = x.toInt * 48271 := by
  obtain ⟨h0, h1⟩ := h
  have e : (48271 : Int64).toInt = 48271 := rfl
  rw [Int64.toInt_mul, e]
  generalize x.toInt = z at *
  rw [Int.bmod_eq_of_le (by omega) (by omega)]
theorem lot_eq {x : Int64} (h : lotOK x) : ((x * 48271) - (x * 48271) / 2147483647 * 2147483647).toInt = x.toInt * 48271 % 2147483647 := by
  have e : (2147483647 : Int64).toInt = 2147483647 := rfl
  have hm := lot_mul h
  have k := lrem_big (x := x * 48271) (y := 2147483647) (by rw [hm]; obtain ⟨h0, h1⟩ := h; generalize x.toInt = z at *; omega) (by decide)
  rw [k, hm, e, Int.tmod_eq_emod_of_nonneg (by obtain ⟨h0, h1⟩ := h; generalize x.toInt = z at *; omega)]
theorem lot_next {x : Int64} (h : lotOK x) : lotOK ((x * 48271) - (x * 48271) / 2147483647 * 2147483647) := by
  unfold lotOK
  rw [lot_eq h]
  generalize x.toInt = z
  omega
theorem lot_8e {x : Int64} (h : lotOK x) : (Int64.toInt32 (x - x / 8 * 8)).toInt = x.toInt % 8 := by
  have e : (8 : Int64).toInt = 8 := rfl
  obtain ⟨h0, h1⟩ := h
  have k := lrem_big (x := x) (y := 8) (by generalize x.toInt = z at *; omega) (by decide)
  rw [Int64.toInt_toInt32, k, e, Int.tmod_eq_emod_of_nonneg h0]
  generalize x.toInt = z at *
  rw [Int.bmod_eq_of_le (by omega) (by omega)]
theorem lot_8 {x : Int64} (h : lotOK x) : in8 (Int64.toInt32 (x - x / 8 * 8)) := by
  unfold in8
  rw [lot_8e h]
  generalize x.toInt = z
  omega
theorem lot_0 {p : Int32} (h : 0 ≤ p.toInt ∧ p.toInt ≤ 1000000) : lotOK ((Int32.toInt64 p) + 1) := by
  have e1 : (1 : Int64).toInt = 1 := rfl
  have k := addL64 (x := Int32.toInt64 p) (y := 1) (by rw [i2l_toInt, e1]; generalize p.toInt = z at *; omega)
  unfold lotOK
  rw [k, i2l_toInt, e1]
  generalize p.toInt = z at *
  omega
theorem vrow {X P : Int32} (h : in8 X) (hx : X.toInt < P.toInt) (hp : 0 ≤ P.toInt ∧ P.toInt ≤ 6) : vp_in ((4 * X) + 3) 24 := by
  obtain ⟨h0, h1⟩ := h
  have e4 : (4 * X).toInt = 4 * X.toInt := mulL (k := 4) (by decide +kernel) (by omega) (by omega)
  have e3 : ((4 * X) + 3).toInt = (4 * X).toInt + 3 := addL (k := 3) (by decide +kernel) (by omega) (by omega)
  exact vp_i (by omega) (by omega)

def F_X6_crowds_c109 (K20 : Ob → Int32 → Int64 → Int32 → Int32 → Int32 × Ob) (u : Ob) (x5 : Int32) : Int32 × Ob :=
  (x5, u)
def F_X6_crowds_c80 (K20 : Ob → Int32 → Int64 → Int32 → Int32 → Int32 × Ob) (u : Int32 × Ob) (x2 : Int32) (y3 : Int64) (x6 : Int32) (z0 : Int32) : Int32 × Ob :=
  (K20 (setS u.2 33 ((u.2.1 33) + (F_X6_onesOf (u.2.1 29)))) x2 y3 (z0 + u.1) (x6 + 1))
def F_X6_crowds_b77 (K20 : Ob → Int32 → Int64 → Int32 → Int32 → Int32 × Ob) (mo : Ob) (x2 : Int32) (y3 : Int64) (x5 : Int32) (x6 : Int32) : Int32 × Ob :=
  (F_X6_crowds_c80 K20 (F_X6_hourOf mo) x2 y3 x6 x5)
def F_X6_crowds_l20 : Nat → Ob → Int32 → Int64 → Int32 → Int32 → Int32 × Ob
  | 0, mo, _, _, _, _ => (0, mo)
  | n + 1, mo, x2, y3, x5, x6 =>
    (if x2 ≤ x6 then (F_X6_crowds_c109 (F_X6_crowds_l20 n ) (F_X6_lays mo) x5) else (if (mo.1 0) ≤ (Int64.toInt32 (((y3 * 48271) - (y3 * 48271) / 2147483647 * 2147483647) - ((y3 * 48271) - (y3 * 48271) / 2147483647 * 2147483647) / 8 * 8)) then (F_X6_crowds_b77 (F_X6_crowds_l20 n ) mo x2 ((y3 * 48271) - (y3 * 48271) / 2147483647 * 2147483647) x5 x6) else (F_X6_crowds_b77 (F_X6_crowds_l20 n ) (stA mo 3 ((4 * (Int64.toInt32 (((y3 * 48271) - (y3 * 48271) / 2147483647 * 2147483647) - ((y3 * 48271) - (y3 * 48271) / 2147483647 * 2147483647) / 8 * 8))) + 3) (1 - ((mo.2 3) (Int32.toNatClampNeg ((4 * (Int64.toInt32 (((y3 * 48271) - (y3 * 48271) / 2147483647 * 2147483647) - ((y3 * 48271) - (y3 * 48271) / 2147483647 * 2147483647) / 8 * 8))) + 3))))) x2 ((y3 * 48271) - (y3 * 48271) / 2147483647 * 2147483647) x5 x6)))
def F_X6_crowds_c14 (u : Ob) (x2 : Int32) (y3 : Int64) (x5 : Int32) : Int32 × Ob :=
  (F_X6_crowds_l20 49  u x2 y3 x5 0)
def F_X6_crowds (mo : Ob) (p1 : Int32) (p2 : Int32) : Int32 × Ob :=
  (F_X6_crowds_c14 (F_X6_keeps (setS mo 33 0)) p2 ((Int32.toInt64 p1) + 1) 0)
set_option maxHeartbeats 4000000 in
set_option maxRecDepth 100000 in
theorem c_X6_crowds {l : Launch} {g : GG} {sz : Nat} {bb : Ob} {tx rw : Nat → Ob} {sb dy : Ob} {tn : Nat → Ob} {mo : Ob} {jk : Nat → Nat → Int32}  (p1 : Int32) (p2 : Int32) (hv : mEv mo) (hsd : 0 ≤ p1.toInt ∧ p1.toInt ≤ 1000000) (hn : p2.toInt ≤ 48) : Met l yX6_crowds (Cond.code yX6_crowds cX6_crowds 8 (some .int) :: TT) (rmL (7)) (va_Pc [.ref (gA g 58), .int p1, .int p2] (gB g sz (gW g bb tx rw sb dy tn mo jk))) (va_Qi (fun r (u : Ob × (Nat → Nat → Int32)) => (F_X6_crowds mo p1 p2) = (r, u.1)) (fun u t => gC g (va_A (gW g bb tx rw sb dy tn mo jk) sz) (gW g bb tx rw sb dy tn u.1 u.2) t) (va_A (gW g bb tx rw sb dy tn mo jk) sz)) 0 0 (va_A (gW g bb tx rw sb dy tn mo jk) sz) := by
  generalize hE : F_X6_crowds mo p1 p2 = EE
  refine g_of (Qf := fun A => (va_Qi (fun r (u : Ob × (Nat → Nat → Int32)) => EE = (r, u.1)) (fun u t => gC g A (gW g bb tx rw sb dy tn u.1 u.2) t) A)) (cc := cX6_crowds) (maxL := 8) (ret := (some .int)) (by decide) (Nat.le_of_ble_eq_true rfl) ?_
  intro p e s m below meth c A ls hx hb hml hr hlocks hts hown hA hG hl
  replace hown : s.vm.findClass RX6 = some m.cls := hown
  replace hl : lv_has ls 8 [(0, .ref (gA g 58)), (1, .int p1), (2, .int p2)] := hl
  show W p l e (rmL (7)) s m [.ref (gA g 58), .int p1, .int p2].toArray below meth c s.heap [] 0 0 (MQ below (va_Qi (fun r (u : Ob × (Nat → Nat → Int32)) => EE = (r, u.1)) (fun u t => gC g A (gW g bb tx rw sb dy tn u.1 u.2) t) A) [.ref (gA g 58), .int p1, .int p2].toArray s 0 0 A) (F0 m 0 ls [])
  generalize hQ : MQ below (va_Qi (fun r (u : Ob × (Nat → Nat → Int32)) => EE = (r, u.1)) (fun u t => gC g A (gW g bb tx rw sb dy tn u.1 u.2) t) A) [.ref (gA g 58), .int p1, .int p2].toArray s 0 0 A = Q
  unfold F_X6_crowds at hE
  refine lv_iload_n hx hb dX6_crowds_0 rfl (lv_at hl 1 rfl) ?_
  refine lv_i2l (v := (Int32.toInt64 p1)) hx hb dX6_crowds_1 rfl ?_
  refine lv_lconst (v := 1) hx hb dX6_crowds_2 (by decide) ?_
  refine lv_ladd hx hb dX6_crowds_3 ?_
  refine lv_lstore_n (lv' := [(3, .long ((Int32.toInt64 p1) + 1)), (0, .ref (gA g 58)), (1, .int p1), (2, .int p2)]) hx hb dX6_crowds_4 rfl hl (by decide) rfl (fun ls hl => ?_)
  replace hl := lv_sub hl [1, 2, 3, 0] (l' := [(0, .ref (gA g 58)), (1, .int p1), (2, .int p2), (3, .long ((Int32.toInt64 p1) + 1))]) rfl
  refine lv_iconst (v := 0) hx hb dX6_crowds_5 (by decide) ?_
  refine lv_istore (lv' := [(5, .int 0), (0, .ref (gA g 58)), (1, .int p1), (2, .int p2), (3, .long ((Int32.toInt64 p1) + 1))]) hx hb dX6_crowds_6 hl (by decide) rfl (fun ls hl => ?_)
  replace hl := lv_sub hl [1, 2, 3, 4, 0] (l' := [(0, .ref (gA g 58)), (1, .int p1), (2, .int p2), (3, .long ((Int32.toInt64 p1) + 1)), (5, .int 0)]) rfl
  refine lv_aload_n hx hb dX6_crowds_8 rfl (lv_at hl 0 rfl) ?_
  refine lv_iconst (v := 0) hx hb dX6_crowds_9 (by decide) ?_
  refine g_put hx hb hts hiX6 tyX6 tyX6_ok nmX6 hown hG gw_Model rfl 33 (by decide) (index := 241) tw_fl_RX6_241 rfl rfl rfl (Nat.le_of_ble_eq_true rfl) gs_Model_f33 dX6_crowds_10 (fun H locs hG => ?_)
  refine lv_aload_n hx hb dX6_crowds_13 rfl (lv_at hl 0 rfl) ?_
  refine g_cv (g_runV (n := 0) (rest := []) hx hb hml hown hts hG (c_X6_keeps) tw_ml_RX6_199 tw_im_X6_keeps tw_se_X6_keeps tw_in_RX6 tw_cd_X6_keeps (by decide +kernel) ⟨rfl, rfl, Nat.le_of_ble_eq_true rfl, Nat.le_of_ble_eq_true rfl⟩ gw_Model rfl rfl hl.1 rfl (Nat.le_of_ble_eq_true rfl) dX6_crowds_14 ⟨Nat.le_refl _, Nat.le_refl _⟩) hG hA (fun u H locs hp hG => ?_)
  obtain ⟨mo_14, rfl⟩ : ∃ z, z = u := ⟨u, rfl⟩
  replace hG : gS g A s H locs (gW g bb tx rw sb dy tn mo_14 jk) := by simpa only [up_up] using hG
  have hp_14 := hp
  rw [hp] at hE
  unfold F_X6_crowds_c14 at hE
  try dsimp only at hE
  have hv14 : mEv mo_14 := (keeps_hR hp_14).mEv (mEv_of hv rfl rfl rfl rfl)
  refine lv_iconst (v := 0) hx hb dX6_crowds_17 (by decide) ?_
  refine lv_istore (lv' := [(6, .int 0), (0, .ref (gA g 58)), (1, .int p1), (2, .int p2), (3, .long ((Int32.toInt64 p1) + 1)), (5, .int 0)]) hx hb dX6_crowds_18 hl (by decide) rfl (fun ls hl => ?_)
  replace hl := lv_sub hl [1, 2, 3, 4, 5, 0] (l' := [(0, .ref (gA g 58)), (1, .int p1), (2, .int p2), (3, .long ((Int32.toInt64 p1) + 1)), (5, .int 0), (6, .int 0)]) rfl
  have L20 : ∀ (n20 : Nat) (y3_20 : Int64) (x5_20 : Int32) (x6_20 : Int32) (mo_20 : Ob) (jk : (Nat → Nat → Int32)) (H : Heap) (locs : List Loc), gS g A s H locs (gW g bb tx rw sb dy tn mo_20 jk) → ∀ ls : Array Slot, lv_has ls 8 [(0, .ref (gA g 58)), (2, .int p2), (3, .long y3_20), (5, .int x5_20), (6, .int x6_20)] → 0 ≤ x6_20.toInt → x6_20.toInt ≤ 48 → 48 < x6_20.toInt + n20 → mEv mo_20 → lotOK y3_20 → F_X6_crowds_l20 n20  mo_20 p2 y3_20 x5_20 x6_20 = EE → W p l e (rmL (7)) s m [.ref (gA g 58), .int p1, .int p2].toArray below meth c H locs 0 0 Q (F0 m 20 ls []) := by
    intro n20
    induction n20 with
    | zero =>
      intro y3_20 x5_20 x6_20 mo_20 jk H locs hG ls hl h0_20 h1_20 hm_20 hv20 hl20 hE
      clear hE; omega
    | succ n20 ih20 =>
      intro y3_20 x5_20 x6_20 mo_20 jk H locs hG ls hl h0_20 h1_20 hm_20 hv20 hl20 hE
      unfold F_X6_crowds_l20 at hE
      refine lv_iload hx hb dX6_crowds_20 (lv_at hl 4 rfl) ?_
      refine lv_iload_n hx hb dX6_crowds_22 rfl (lv_at hl 1 rfl) ?_
      have hpo20 := hv20.1
      have hlt20 := lot_next hl20
      have hl8 := lot_8 hlt20
      refine lv_icmp_ge (tgt := 108) hx hb dX6_crowds_23 (by decide) (fun c_23 => ?_) (fun c_23 => ?_)
      · replace hE := (if_pos c_23).symm.trans hE
        have i_23 : p2.toInt ≤ x6_20.toInt := i_le.mp c_23
        refine lv_aload_n hx hb dX6_crowds_108 rfl (lv_at hl 0 rfl) ?_
        refine g_cv (g_runV (n := 0) (rest := []) hx hb hml hown hts hG (c_X6_lays) tw_ml_RX6_205 tw_im_X6_lays tw_se_X6_lays tw_in_RX6 tw_cd_X6_lays (by decide +kernel) ⟨rfl, rfl, Nat.le_of_ble_eq_true rfl, Nat.le_of_ble_eq_true rfl⟩ gw_Model rfl rfl hl.1 rfl (Nat.le_of_ble_eq_true rfl) dX6_crowds_109 ⟨Nat.le_refl _, Nat.le_refl _⟩) hG hA (fun u H locs hp hG => ?_)
        obtain ⟨mo_109, rfl⟩ : ∃ z, z = u := ⟨u, rfl⟩
        replace hG : gS g A s H locs (gW g bb tx rw sb dy tn mo_109 jk) := by simpa only [up_up] using hG
        have hp_109 := hp
        rw [hp] at hE
        unfold F_X6_crowds_c109 at hE
        try dsimp only at hE
        refine lv_iload hx hb dX6_crowds_112 (lv_at hl 3 rfl) ?_
        subst hQ
        exact g_iret hx hb hr hlocks hG ((mo_109, jk) : Ob × (Nat → Nat → Int32)) rfl hE.symm dX6_crowds_114
      replace hE := (if_neg c_23).symm.trans hE
      have i_23 : x6_20.toInt < p2.toInt := i_nle c_23
      refine lv_lload_n hx hb dX6_crowds_26 rfl (lv_at hl 2 rfl) ?_
      refine lv_ldc2 (v := 48271) hx hb hown (hts _ tw_cg_RX6_244) dX6_crowds_27 ?_
      refine lv_lmul hx hb dX6_crowds_30 ?_
      refine lv_ldc2 (v := 2147483647) hx hb hown (hts _ tw_cg_RX6_246) dX6_crowds_31 ?_
      refine lv_lrem hx hb dX6_crowds_34 (by decide) ?_
      refine lv_lstore_n (lv' := [(3, .long ((y3_20 * 48271) - (y3_20 * 48271) / 2147483647 * 2147483647)), (0, .ref (gA g 58)), (2, .int p2), (5, .int x5_20), (6, .int x6_20)]) hx hb dX6_crowds_35 rfl hl (by decide) rfl (fun ls hl => ?_)
      replace hl := lv_sub hl [1, 2, 0, 3, 4] (l' := [(0, .ref (gA g 58)), (2, .int p2), (3, .long ((y3_20 * 48271) - (y3_20 * 48271) / 2147483647 * 2147483647)), (5, .int x5_20), (6, .int x6_20)]) rfl
      refine lv_lload_n hx hb dX6_crowds_36 rfl (lv_at hl 2 rfl) ?_
      refine lv_ldc2 (v := 8) hx hb hown (hts _ tw_cg_RX6_248) dX6_crowds_37 ?_
      refine lv_lrem hx hb dX6_crowds_40 (by decide) ?_
      refine lv_l2i (v := (Int64.toInt32 (((y3_20 * 48271) - (y3_20 * 48271) / 2147483647 * 2147483647) - ((y3_20 * 48271) - (y3_20 * 48271) / 2147483647 * 2147483647) / 8 * 8))) hx hb dX6_crowds_41 rfl ?_
      refine lv_istore (lv' := [(7, .int (Int64.toInt32 (((y3_20 * 48271) - (y3_20 * 48271) / 2147483647 * 2147483647) - ((y3_20 * 48271) - (y3_20 * 48271) / 2147483647 * 2147483647) / 8 * 8))), (0, .ref (gA g 58)), (2, .int p2), (3, .long ((y3_20 * 48271) - (y3_20 * 48271) / 2147483647 * 2147483647)), (5, .int x5_20), (6, .int x6_20)]) hx hb dX6_crowds_42 hl (by decide) rfl (fun ls hl => ?_)
      replace hl := lv_sub hl [1, 2, 3, 4, 5, 0] (l' := [(0, .ref (gA g 58)), (2, .int p2), (3, .long ((y3_20 * 48271) - (y3_20 * 48271) / 2147483647 * 2147483647)), (5, .int x5_20), (6, .int x6_20), (7, .int (Int64.toInt32 (((y3_20 * 48271) - (y3_20 * 48271) / 2147483647 * 2147483647) - ((y3_20 * 48271) - (y3_20 * 48271) / 2147483647 * 2147483647) / 8 * 8)))]) rfl
      refine lv_iload hx hb dX6_crowds_44 (lv_at hl 5 rfl) ?_
      refine lv_aload_n hx hb dX6_crowds_46 rfl (lv_at hl 0 rfl) ?_
      refine g_get hx hb hts hiX6 hown hG gw_Model rfl 0 (by decide) (index := 78) tw_fl_RX6_78 (v := .int (mo_20.1 0)) rfl dX6_crowds_47 ?_
      have J77 : ∀ (mo_77 : Ob) (jk : (Nat → Nat → Int32)) (H : Heap) (locs : List Loc), gS g A s H locs (gW g bb tx rw sb dy tn mo_77 jk) → ∀ ls : Array Slot, lv_has ls 8 [(0, .ref (gA g 58)), (2, .int p2), (3, .long ((y3_20 * 48271) - (y3_20 * 48271) / 2147483647 * 2147483647)), (5, .int x5_20), (6, .int x6_20)] → mEv mo_77 → F_X6_crowds_b77  (F_X6_crowds_l20 n20 ) mo_77 p2 ((y3_20 * 48271) - (y3_20 * 48271) / 2147483647 * 2147483647) x5_20 x6_20 = EE → W p l e (rmL (7)) s m [.ref (gA g 58), .int p1, .int p2].toArray below meth c H locs 0 0 Q (F0 m 77 ls []) := by
        intro mo_77 jk H locs hG ls hl hv77 hE
        unfold F_X6_crowds_b77 at hE
        refine lv_iload hx hb dX6_crowds_77 (lv_at hl 3 rfl) ?_
        refine lv_aload_n hx hb dX6_crowds_79 rfl (lv_at hl 0 rfl) ?_
        refine g_ci (g_runV (n := 0) (rest := [.int x5_20]) hx hb hml hown hts hG (c_X6_hourOf hv77) tw_ml_RX6_196 tw_im_X6_hourOf tw_se_X6_hourOf tw_in_RX6 tw_cd_X6_hourOf (by decide +kernel) ⟨rfl, rfl, Nat.le_of_ble_eq_true rfl, Nat.le_of_ble_eq_true rfl⟩ gw_Model rfl rfl hl.1 rfl (Nat.le_of_ble_eq_true rfl) dX6_crowds_80 ⟨Nat.le_refl _, Nat.le_refl _⟩) hG hA (fun r_80 u H locs hp hG => ?_)
        obtain ⟨mo_80, jk⟩ := u
        replace hG : gS g A s H locs (gW g bb tx rw sb dy tn mo_80 jk) := by simpa only [up_up] using hG
        have hp_80 := hp
        rw [hp] at hE
        unfold F_X6_crowds_c80 at hE
        try dsimp only at hE
        have hv80 : mEv mo_80 := hR.mEv (hourOf_hR hp_80) hv77
        refine lv_iadd hx hb dX6_crowds_83 ?_
        refine lv_istore (lv' := [(5, .int (x5_20 + r_80)), (0, .ref (gA g 58)), (2, .int p2), (3, .long ((y3_20 * 48271) - (y3_20 * 48271) / 2147483647 * 2147483647)), (6, .int x6_20)]) hx hb dX6_crowds_84 hl (by decide) rfl (fun ls hl => ?_)
        replace hl := lv_sub hl [1, 2, 3, 0, 4] (l' := [(0, .ref (gA g 58)), (2, .int p2), (3, .long ((y3_20 * 48271) - (y3_20 * 48271) / 2147483647 * 2147483647)), (5, .int (x5_20 + r_80)), (6, .int x6_20)]) rfl
        refine lv_aload_n hx hb dX6_crowds_86 rfl (lv_at hl 0 rfl) ?_
        refine lv_dup hx hb dX6_crowds_87 rfl ?_
        refine g_get hx hb hts hiX6 hown hG gw_Model rfl 33 (by decide) (index := 241) tw_fl_RX6_241 (v := .int (mo_80.1 33)) rfl dX6_crowds_88 ?_
        refine lv_aload_n hx hb dX6_crowds_91 rfl (lv_at hl 0 rfl) ?_
        refine g_get hx hb hts hiX6 hown hG gw_Model rfl 29 (by decide) (index := 193) tw_fl_RX6_193 (v := .int (mo_80.1 29)) rfl dX6_crowds_92 ?_
        refine g_si (g_runS (n := 1) (rest := [.int (mo_80.1 33), .ref (gA g 58)]) hx hb hml hown hts hG (c_X6_onesOf (mo_80.1 29)) tw_ml_RX6_226 tw_st_X6_onesOf tw_in_RX6 tw_cd_X6_onesOf (by decide +kernel) ⟨rfl, rfl, Nat.le_of_ble_eq_true rfl, Nat.le_of_ble_eq_true rfl⟩ rfl hl.1 rfl (Nat.le_of_ble_eq_true rfl) dX6_crowds_95 ⟨Nat.le_refl _, Nat.le_refl _⟩) hG hA (fun H locs hG => ?_)
        refine lv_iadd hx hb dX6_crowds_98 ?_
        refine g_put hx hb hts hiX6 tyX6 tyX6_ok nmX6 hown hG gw_Model rfl 33 (by decide) (index := 241) tw_fl_RX6_241 rfl rfl rfl (Nat.le_of_ble_eq_true rfl) gs_Model_f33 dX6_crowds_99 (fun H locs hG => ?_)
        refine lv_iinc (v := (x6_20 + 1)) (lv' := [(6, .int (x6_20 + 1)), (0, .ref (gA g 58)), (2, .int p2), (3, .long ((y3_20 * 48271) - (y3_20 * 48271) / 2147483647 * 2147483647)), (5, .int (x5_20 + r_80))]) hx hb dX6_crowds_102 hl (k := 4) rfl rfl (by decide) rfl (fun ls hl => ?_)
        replace hl := lv_sub hl [1, 2, 3, 4, 0] (l' := [(0, .ref (gA g 58)), (2, .int p2), (3, .long ((y3_20 * 48271) - (y3_20 * 48271) / 2147483647 * 2147483647)), (5, .int (x5_20 + r_80)), (6, .int (x6_20 + 1))]) rfl
        refine lv_goto (tgt := 20) hx hb dX6_crowds_105 (by decide) ?_
        have e1 : (x6_20 + 1).toInt = x6_20.toInt + 1 := addL (k := 1) (by decide +kernel) (by clear hE; omega) (by clear hE; omega)
        exact ih20 ((y3_20 * 48271) - (y3_20 * 48271) / 2147483647 * 2147483647) (x5_20 + r_80) (x6_20 + 1) (setS mo_80 33 ((mo_80.1 33) + (F_X6_onesOf (mo_80.1 29)))) _ _ _ hG _ (lv_sub hl [0, 1, 2, 3, 4] rfl) (by clear hE; omega) (by clear hE; omega) (by clear hE; omega) (mEv_of hv80 rfl rfl rfl rfl) hlt20 hE
      refine lv_icmp_ge (tgt := 77) hx hb dX6_crowds_50 (by decide) (fun c_50 => ?_) (fun c_50 => ?_)
      · replace hE := (if_pos c_50).symm.trans hE
        have i_50 : (mo_20.1 0).toInt ≤ (Int64.toInt32 (((y3_20 * 48271) - (y3_20 * 48271) / 2147483647 * 2147483647) - ((y3_20 * 48271) - (y3_20 * 48271) / 2147483647 * 2147483647) / 8 * 8)).toInt := i_le.mp c_50
        exact J77 mo_20 _ _ _ hG _ (lv_sub hl [0, 1, 2, 3, 4] rfl) (by first | exact hv20 | exact (mEv_of hv20 rfl rfl rfl rfl)) hE
      replace hE := (if_neg c_50).symm.trans hE
      have i_50 : (Int64.toInt32 (((y3_20 * 48271) - (y3_20 * 48271) / 2147483647 * 2147483647) - ((y3_20 * 48271) - (y3_20 * 48271) / 2147483647 * 2147483647) / 8 * 8)).toInt < (mo_20.1 0).toInt := i_nle c_50
      refine lv_aload_n hx hb dX6_crowds_53 rfl (lv_at hl 0 rfl) ?_
      refine g_get hx hb hts hiX6 hown hG gw_Model rfl 3 (by decide) (index := 16) tw_fl_RX6_16 (v := .ref (gA g 61)) rfl dX6_crowds_54 ?_
      refine lv_iconst (v := 4) hx hb dX6_crowds_57 (by decide) ?_
      refine lv_iload hx hb dX6_crowds_58 (lv_at hl 5 rfl) ?_
      refine lv_imul hx hb dX6_crowds_60 ?_
      refine lv_iconst (v := 3) hx hb dX6_crowds_61 (by decide) ?_
      refine lv_iadd hx hb dX6_crowds_62 ?_
      refine lv_iconst (v := 1) hx hb dX6_crowds_63 (by decide) ?_
      refine lv_aload_n hx hb dX6_crowds_64 rfl (lv_at hl 0 rfl) ?_
      refine g_get hx hb hts hiX6 hown hG gw_Model rfl 3 (by decide) (index := 16) tw_fl_RX6_16 (v := .ref (gA g 61)) rfl dX6_crowds_65 ?_
      refine lv_iconst (v := 4) hx hb dX6_crowds_68 (by decide) ?_
      refine lv_iload hx hb dX6_crowds_69 (lv_at hl 5 rfl) ?_
      refine lv_imul hx hb dX6_crowds_71 ?_
      refine lv_iconst (v := 3) hx hb dX6_crowds_72 (by decide) ?_
      refine lv_iadd hx hb dX6_crowds_73 ?_
      refine g_ild (f := (mo_20.2 3)) hx hb hG gw_Model_a3 (show vp_in ((4 * (Int64.toInt32 (((y3_20 * 48271) - (y3_20 * 48271) / 2147483647 * 2147483647) - ((y3_20 * 48271) - (y3_20 * 48271) / 2147483647 * 2147483647) / 8 * 8))) + 3) 24 from (vrow hl8 i_50 hpo20)) dX6_crowds_74 ?_
      refine lv_isub hx hb dX6_crowds_75 ?_
      refine g_ist hx hb hG gw_Model_a3 (show vp_in ((4 * (Int64.toInt32 (((y3_20 * 48271) - (y3_20 * 48271) / 2147483647 * 2147483647) - ((y3_20 * 48271) - (y3_20 * 48271) / 2147483647 * 2147483647) / 8 * 8))) + 3) 24 from (vrow hl8 i_50 hpo20)) gs_Model_a3 dX6_crowds_76 (fun H locs hG => ?_)
      exact J77 (stA mo_20 3 ((4 * (Int64.toInt32 (((y3_20 * 48271) - (y3_20 * 48271) / 2147483647 * 2147483647) - ((y3_20 * 48271) - (y3_20 * 48271) / 2147483647 * 2147483647) / 8 * 8))) + 3) (1 - ((mo_20.2 3) (Int32.toNatClampNeg ((4 * (Int64.toInt32 (((y3_20 * 48271) - (y3_20 * 48271) / 2147483647 * 2147483647) - ((y3_20 * 48271) - (y3_20 * 48271) / 2147483647 * 2147483647) / 8 * 8))) + 3))))) _ _ _ hG _ (lv_sub hl [0, 1, 2, 3, 4] rfl) (by first | exact hv20 | exact (mEv_of hv20 rfl rfl rfl rfl)) hE
  exact L20 49 ((Int32.toInt64 p1) + 1) 0 0 mo_14 _ _ _ hG _ (lv_sub hl [0, 2, 3, 4, 5] rfl) (by decide) (by decide) (by decide) hv14 (lot_0 hsd) hE
theorem crowds_mEv {m r : Ob} {v p q : Int32} (hp : F_X6_crowds m p q = (v, r)) (h : mEv m) : mEv r := by
  have k : ∀ (n : Nat) (r : Ob) (x2 : Int32) (y3 : Int64) (x5 x6 : Int32), mEv r → mEv (F_X6_crowds_l20 n r x2 y3 x5 x6).2 := by
    intro n
    induction n with
    | zero => intro r x2 y3 x5 x6 h; exact h
    | succ n ih =>
      intro r x2 y3 x5 x6 h
      have k77 : ∀ (r : Ob) (y3 : Int64), mEv r → mEv (F_X6_crowds_b77 (F_X6_crowds_l20 n) r x2 y3 x5 x6).2 := fun r y3 h => by
        unfold F_X6_crowds_b77 F_X6_crowds_c80
        exact ih _ _ _ _ _ (mEv_of ((hourOf_hR (v := (F_X6_hourOf r).1) rfl).mEv h) rfl rfl rfl rfl)
      unfold F_X6_crowds_l20
      split
      · exact (lays_hR rfl).mEv h
      · split
        · exact k77 _ _ h
        · exact k77 _ _ (mEv_of h rfl rfl rfl rfl)
  have e : r = (F_X6_crowds m p q).2 := by rw [hp]
  rw [e]
  unfold F_X6_crowds F_X6_crowds_c14
  exact k 49 _ _ _ _ _ ((keeps_hR rfl).mEv (mEv_of h rfl rfl rfl rfl))

def F_X6_drawn_c35 (u : Int32 × Ob) (x3 : Int32) : Int32 × Ob :=
  (if x3 = 0 then (u.1, u.2) else ((u.2.1 33), u.2))
def F_X6_drawn (mo : Ob) (p1 : Int32) (p2 : Int32) (p3 : Int32) : Int32 × Ob :=
  (if (F_X6_in p1 0 99999) = 0 then ((-2), mo) else (if (F_X6_in p2 0 48) = 0 then ((-2), mo) else (if (F_X6_in p3 0 1) = 0 then ((-2), mo) else (F_X6_drawn_c35 (F_X6_crowds mo p1 p2) p3))))
set_option maxHeartbeats 4000000 in
set_option maxRecDepth 100000 in
theorem c_X6_drawn {l : Launch} {g : GG} {sz : Nat} {bb : Ob} {tx rw : Nat → Ob} {sb dy : Ob} {tn : Nat → Ob} {mo : Ob} {jk : Nat → Nat → Int32}  (p1 : Int32) (p2 : Int32) (p3 : Int32) (hv : mEv mo) : Met l yX6_drawn (Cond.code yX6_drawn cX6_drawn 5 (some .int) :: TT) (rmL (8)) (va_Pc [.ref (gA g 58), .int p1, .int p2, .int p3] (gB g sz (gW g bb tx rw sb dy tn mo jk))) (va_Qi (fun r (u : Ob × (Nat → Nat → Int32)) => (F_X6_drawn mo p1 p2 p3) = (r, u.1)) (fun u t => gC g (va_A (gW g bb tx rw sb dy tn mo jk) sz) (gW g bb tx rw sb dy tn u.1 u.2) t) (va_A (gW g bb tx rw sb dy tn mo jk) sz)) 0 0 (va_A (gW g bb tx rw sb dy tn mo jk) sz) := by
  generalize hE : F_X6_drawn mo p1 p2 p3 = EE
  refine g_of (Qf := fun A => (va_Qi (fun r (u : Ob × (Nat → Nat → Int32)) => EE = (r, u.1)) (fun u t => gC g A (gW g bb tx rw sb dy tn u.1 u.2) t) A)) (cc := cX6_drawn) (maxL := 5) (ret := (some .int)) (by decide) (Nat.le_of_ble_eq_true rfl) ?_
  intro p e s m below meth c A ls hx hb hml hr hlocks hts hown hA hG hl
  replace hown : s.vm.findClass RX6 = some m.cls := hown
  replace hl : lv_has ls 5 [(0, .ref (gA g 58)), (1, .int p1), (2, .int p2), (3, .int p3)] := hl
  show W p l e (rmL (8)) s m [.ref (gA g 58), .int p1, .int p2, .int p3].toArray below meth c s.heap [] 0 0 (MQ below (va_Qi (fun r (u : Ob × (Nat → Nat → Int32)) => EE = (r, u.1)) (fun u t => gC g A (gW g bb tx rw sb dy tn u.1 u.2) t) A) [.ref (gA g 58), .int p1, .int p2, .int p3].toArray s 0 0 A) (F0 m 0 ls [])
  generalize hQ : MQ below (va_Qi (fun r (u : Ob × (Nat → Nat → Int32)) => EE = (r, u.1)) (fun u t => gC g A (gW g bb tx rw sb dy tn u.1 u.2) t) A) [.ref (gA g 58), .int p1, .int p2, .int p3].toArray s 0 0 A = Q
  unfold F_X6_drawn at hE
  refine lv_iload_n hx hb dX6_drawn_0 rfl (lv_at hl 1 rfl) ?_
  refine lv_iconst (v := 0) hx hb dX6_drawn_1 (by decide) ?_
  refine lv_ldc (v := 99999) hx hb hown (hts _ tw_co_RX6_250) dX6_drawn_2 ?_
  refine g_si (g_runS (n := 3) (rest := []) hx hb hml hown hts hG (c_X6_in p1 0 99999) tw_ml_RX6_81 tw_st_X6_in tw_in_RX6 tw_cd_X6_in (by decide +kernel) ⟨rfl, rfl, Nat.le_of_ble_eq_true rfl, Nat.le_of_ble_eq_true rfl⟩ rfl hl.1 rfl (Nat.le_of_ble_eq_true rfl) dX6_drawn_4 ⟨Nat.le_refl _, Nat.le_refl _⟩) hG hA (fun H locs hG => ?_)
  refine lv_if_eq (tgt := 29) hx hb dX6_drawn_7 (by decide) (fun c_7 => ?_) (fun c_7 => ?_)
  · replace hE := (if_pos c_7).symm.trans hE
    refine lv_bipush (v := (-2)) hx hb dX6_drawn_29 (by decide) ?_
    subst hQ
    exact g_iret hx hb hr hlocks hG ((mo, jk) : Ob × (Nat → Nat → Int32)) rfl hE.symm dX6_drawn_31
  replace hE := (if_neg c_7).symm.trans hE
  have i_7 : 0 ≤ p1.toInt ∧ p1.toInt ≤ 99999 := in_f c_7
  refine lv_iload_n hx hb dX6_drawn_10 rfl (lv_at hl 2 rfl) ?_
  refine lv_iconst (v := 0) hx hb dX6_drawn_11 (by decide) ?_
  refine lv_bipush (v := 48) hx hb dX6_drawn_12 (by decide) ?_
  refine g_si (g_runS (n := 3) (rest := []) hx hb hml hown hts hG (c_X6_in p2 0 48) tw_ml_RX6_81 tw_st_X6_in tw_in_RX6 tw_cd_X6_in (by decide +kernel) ⟨rfl, rfl, Nat.le_of_ble_eq_true rfl, Nat.le_of_ble_eq_true rfl⟩ rfl hl.1 rfl (Nat.le_of_ble_eq_true rfl) dX6_drawn_14 ⟨Nat.le_refl _, Nat.le_refl _⟩) hG hA (fun H locs hG => ?_)
  refine lv_if_eq (tgt := 29) hx hb dX6_drawn_17 (by decide) (fun c_17 => ?_) (fun c_17 => ?_)
  · replace hE := (if_pos c_17).symm.trans hE
    refine lv_bipush (v := (-2)) hx hb dX6_drawn_29 (by decide) ?_
    subst hQ
    exact g_iret hx hb hr hlocks hG ((mo, jk) : Ob × (Nat → Nat → Int32)) rfl hE.symm dX6_drawn_31
  replace hE := (if_neg c_17).symm.trans hE
  have i_17 : 0 ≤ p2.toInt ∧ p2.toInt ≤ 48 := in_f c_17
  refine lv_iload_n hx hb dX6_drawn_20 rfl (lv_at hl 3 rfl) ?_
  refine lv_iconst (v := 0) hx hb dX6_drawn_21 (by decide) ?_
  refine lv_iconst (v := 1) hx hb dX6_drawn_22 (by decide) ?_
  refine g_si (g_runS (n := 3) (rest := []) hx hb hml hown hts hG (c_X6_in p3 0 1) tw_ml_RX6_81 tw_st_X6_in tw_in_RX6 tw_cd_X6_in (by decide +kernel) ⟨rfl, rfl, Nat.le_of_ble_eq_true rfl, Nat.le_of_ble_eq_true rfl⟩ rfl hl.1 rfl (Nat.le_of_ble_eq_true rfl) dX6_drawn_23 ⟨Nat.le_refl _, Nat.le_refl _⟩) hG hA (fun H locs hG => ?_)
  refine lv_if_ne (tgt := 32) hx hb dX6_drawn_26 (by decide) (fun c_26 => ?_) (fun c_26 => ?_)
  · replace hE := (if_neg c_26).symm.trans hE
    have i_26 : 0 ≤ p3.toInt ∧ p3.toInt ≤ 1 := in_f c_26
    refine lv_aload_n hx hb dX6_drawn_32 rfl (lv_at hl 0 rfl) ?_
    refine lv_iload_n hx hb dX6_drawn_33 rfl (lv_at hl 1 rfl) ?_
    refine lv_iload_n hx hb dX6_drawn_34 rfl (lv_at hl 2 rfl) ?_
    refine g_ci (g_runV (n := 2) (rest := []) hx hb hml hown hts hG (c_X6_crowds p1 p2 hv (by clear hE; omega) (by clear hE; omega)) tw_ml_RX6_251 tw_im_X6_crowds tw_se_X6_crowds tw_in_RX6 tw_cd_X6_crowds (by decide +kernel) ⟨rfl, rfl, Nat.le_of_ble_eq_true rfl, Nat.le_of_ble_eq_true rfl⟩ gw_Model rfl rfl hl.1 rfl (Nat.le_of_ble_eq_true rfl) dX6_drawn_35 ⟨Nat.le_refl _, Nat.le_refl _⟩) hG hA (fun r_35 u H locs hp hG => ?_)
    obtain ⟨mo_35, jk⟩ := u
    replace hG : gS g A s H locs (gW g bb tx rw sb dy tn mo_35 jk) := by simpa only [up_up] using hG
    have hp_35 := hp
    rw [hp] at hE
    unfold F_X6_drawn_c35 at hE
    try dsimp only at hE
    refine lv_istore (lv' := [(4, .int r_35), (0, .ref (gA g 58)), (1, .int p1), (2, .int p2), (3, .int p3)]) hx hb dX6_drawn_38 hl (by decide) rfl (fun ls hl => ?_)
    replace hl := lv_sub hl [1, 2, 3, 4, 0] (l' := [(0, .ref (gA g 58)), (1, .int p1), (2, .int p2), (3, .int p3), (4, .int r_35)]) rfl
    refine lv_iload_n hx hb dX6_drawn_40 rfl (lv_at hl 3 rfl) ?_
    refine lv_if_ne (tgt := 49) hx hb dX6_drawn_41 (by decide) (fun c_41 => ?_) (fun c_41 => ?_)
    · replace hE := (if_neg c_41).symm.trans hE
      have i_41 : p3.toInt ≠ 0 := fun h => c_41 (Int32.toInt_inj.mp h)
      refine lv_aload_n hx hb dX6_drawn_49 rfl (lv_at hl 0 rfl) ?_
      refine g_get hx hb hts hiX6 hown hG gw_Model rfl 33 (by decide) (index := 241) tw_fl_RX6_241 (v := .int (mo_35.1 33)) rfl dX6_drawn_50 ?_
      subst hQ
      exact g_iret hx hb hr hlocks hG ((mo_35, jk) : Ob × (Nat → Nat → Int32)) rfl hE.symm dX6_drawn_53
    replace hE := (if_pos c_41).symm.trans hE
    have i_41 : p3.toInt = 0 := congrArg Int32.toInt c_41
    refine lv_iload hx hb dX6_drawn_44 (lv_at hl 4 rfl) ?_
    refine lv_goto (tgt := 53) hx hb dX6_drawn_46 (by decide) ?_
    subst hQ
    exact g_iret hx hb hr hlocks hG ((mo_35, jk) : Ob × (Nat → Nat → Int32)) rfl hE.symm dX6_drawn_53
  replace hE := (if_pos c_26).symm.trans hE
  refine lv_bipush (v := (-2)) hx hb dX6_drawn_29 (by decide) ?_
  subst hQ
  exact g_iret hx hb hr hlocks hG ((mo, jk) : Ob × (Nat → Nat → Int32)) rfl hE.symm dX6_drawn_31
def F_X6_odds_b78 (K51 : Ob → Int32 → Int32 → Int32 → Int32 → Int64 → Int32 → Int64 × Ob) (mo : Ob) (x1 : Int32) (x2 : Int32) (x3 : Int32) (x4 : Int32) (x7 : Int32) (z0 : Int64) (z1 : Int64) : Int64 × Ob :=
  (K51 mo x1 x2 x3 x4 (z0 + z1) (x7 + 1))
def F_X6_odds_c66 (K51 : Ob → Int32 → Int32 → Int32 → Int32 → Int64 → Int32 → Int64 × Ob) (u : Int32 × Ob) (x1 : Int32) (x2 : Int32) (x3 : Int32) (x4 : Int32) (x7 : Int32) (z0 : Int64) : Int64 × Ob :=
  (if u.1 < x3 then (F_X6_odds_b78 K51 u.2 x1 x2 x3 x4 x7 z0 0) else (F_X6_odds_b78 K51 u.2 x1 x2 x3 x4 x7 z0 1))
def F_X6_odds_l51 : Nat → Ob → Int32 → Int32 → Int32 → Int32 → Int64 → Int32 → Int64 × Ob
  | 0, mo, _, _, _, _, _, _ => (0, mo)
  | n + 1, mo, x1, x2, x3, x4, y5, x7 =>
    (if x2 ≤ x7 then ((F_X6_lowest y5 (Int32.toInt64 x2) x4), mo) else (F_X6_odds_c66 (F_X6_odds_l51 n ) (F_X6_crowds mo (x1 + x7) 12) x1 x2 x3 x4 x7 y5))
def F_X6_odds (mo : Ob) (p1 : Int32) (p2 : Int32) (p3 : Int32) (p4 : Int32) : Int64 × Ob :=
  (if (F_X6_in p1 0 99999) = 0 then ((-4611686018427387904), mo) else (if (F_X6_in p2 1 40) = 0 then ((-4611686018427387904), mo) else (if (F_X6_in p3 0 9999) = 0 then ((-4611686018427387904), mo) else (if (F_X6_in p4 0 1) = 0 then ((-4611686018427387904), mo) else (F_X6_odds_l51 41  mo p1 p2 p3 p4 0 0)))))
set_option maxHeartbeats 4000000 in
set_option maxRecDepth 100000 in
theorem c_X6_odds {l : Launch} {g : GG} {sz : Nat} {bb : Ob} {tx rw : Nat → Ob} {sb dy : Ob} {tn : Nat → Ob} {mo : Ob} {jk : Nat → Nat → Int32}  (p1 : Int32) (p2 : Int32) (p3 : Int32) (p4 : Int32) (hv : mEv mo) : Met l yX6_odds (Cond.code yX6_odds cX6_odds 8 (some .long) :: TT) (rmL (8)) (va_Pc [.ref (gA g 58), .int p1, .int p2, .int p3, .int p4] (gB g sz (gW g bb tx rw sb dy tn mo jk))) (va_Ql (fun r (u : Ob × (Nat → Nat → Int32)) => (F_X6_odds mo p1 p2 p3 p4) = (r, u.1)) (fun u t => gC g (va_A (gW g bb tx rw sb dy tn mo jk) sz) (gW g bb tx rw sb dy tn u.1 u.2) t) (va_A (gW g bb tx rw sb dy tn mo jk) sz)) 0 0 (va_A (gW g bb tx rw sb dy tn mo jk) sz) := by
  generalize hE : F_X6_odds mo p1 p2 p3 p4 = EE
  refine g_of (Qf := fun A => (va_Ql (fun r (u : Ob × (Nat → Nat → Int32)) => EE = (r, u.1)) (fun u t => gC g A (gW g bb tx rw sb dy tn u.1 u.2) t) A)) (cc := cX6_odds) (maxL := 8) (ret := (some .long)) (by decide) (Nat.le_of_ble_eq_true rfl) ?_
  intro p e s m below meth c A ls hx hb hml hr hlocks hts hown hA hG hl
  replace hown : s.vm.findClass RX6 = some m.cls := hown
  replace hl : lv_has ls 8 [(0, .ref (gA g 58)), (1, .int p1), (2, .int p2), (3, .int p3), (4, .int p4)] := hl
  show W p l e (rmL (8)) s m [.ref (gA g 58), .int p1, .int p2, .int p3, .int p4].toArray below meth c s.heap [] 0 0 (MQ below (va_Ql (fun r (u : Ob × (Nat → Nat → Int32)) => EE = (r, u.1)) (fun u t => gC g A (gW g bb tx rw sb dy tn u.1 u.2) t) A) [.ref (gA g 58), .int p1, .int p2, .int p3, .int p4].toArray s 0 0 A) (F0 m 0 ls [])
  generalize hQ : MQ below (va_Ql (fun r (u : Ob × (Nat → Nat → Int32)) => EE = (r, u.1)) (fun u t => gC g A (gW g bb tx rw sb dy tn u.1 u.2) t) A) [.ref (gA g 58), .int p1, .int p2, .int p3, .int p4].toArray s 0 0 A = Q
  unfold F_X6_odds at hE
  refine lv_iload_n hx hb dX6_odds_0 rfl (lv_at hl 1 rfl) ?_
  refine lv_iconst (v := 0) hx hb dX6_odds_1 (by decide) ?_
  refine lv_ldc (v := 99999) hx hb hown (hts _ tw_co_RX6_250) dX6_odds_2 ?_
  refine g_si (g_runS (n := 3) (rest := []) hx hb hml hown hts hG (c_X6_in p1 0 99999) tw_ml_RX6_81 tw_st_X6_in tw_in_RX6 tw_cd_X6_in (by decide +kernel) ⟨rfl, rfl, Nat.le_of_ble_eq_true rfl, Nat.le_of_ble_eq_true rfl⟩ rfl hl.1 rfl (Nat.le_of_ble_eq_true rfl) dX6_odds_4 ⟨Nat.le_refl _, Nat.le_refl _⟩) hG hA (fun H locs hG => ?_)
  refine lv_if_eq (tgt := 41) hx hb dX6_odds_7 (by decide) (fun c_7 => ?_) (fun c_7 => ?_)
  · replace hE := (if_pos c_7).symm.trans hE
    refine lv_ldc2 (v := (-4611686018427387904)) hx hb hown (hts _ tw_cg_RX6_229) dX6_odds_41 ?_
    subst hQ
    exact g_lret hx hb hr hlocks hG ((mo, jk) : Ob × (Nat → Nat → Int32)) rfl hE.symm dX6_odds_44
  replace hE := (if_neg c_7).symm.trans hE
  have i_7 : 0 ≤ p1.toInt ∧ p1.toInt ≤ 99999 := in_f c_7
  refine lv_iload_n hx hb dX6_odds_10 rfl (lv_at hl 2 rfl) ?_
  refine lv_iconst (v := 1) hx hb dX6_odds_11 (by decide) ?_
  refine lv_bipush (v := 40) hx hb dX6_odds_12 (by decide) ?_
  refine g_si (g_runS (n := 3) (rest := []) hx hb hml hown hts hG (c_X6_in p2 1 40) tw_ml_RX6_81 tw_st_X6_in tw_in_RX6 tw_cd_X6_in (by decide +kernel) ⟨rfl, rfl, Nat.le_of_ble_eq_true rfl, Nat.le_of_ble_eq_true rfl⟩ rfl hl.1 rfl (Nat.le_of_ble_eq_true rfl) dX6_odds_14 ⟨Nat.le_refl _, Nat.le_refl _⟩) hG hA (fun H locs hG => ?_)
  refine lv_if_eq (tgt := 41) hx hb dX6_odds_17 (by decide) (fun c_17 => ?_) (fun c_17 => ?_)
  · replace hE := (if_pos c_17).symm.trans hE
    refine lv_ldc2 (v := (-4611686018427387904)) hx hb hown (hts _ tw_cg_RX6_229) dX6_odds_41 ?_
    subst hQ
    exact g_lret hx hb hr hlocks hG ((mo, jk) : Ob × (Nat → Nat → Int32)) rfl hE.symm dX6_odds_44
  replace hE := (if_neg c_17).symm.trans hE
  have i_17 : 1 ≤ p2.toInt ∧ p2.toInt ≤ 40 := in_f c_17
  refine lv_iload_n hx hb dX6_odds_20 rfl (lv_at hl 3 rfl) ?_
  refine lv_iconst (v := 0) hx hb dX6_odds_21 (by decide) ?_
  refine lv_sipush (v := 9999) hx hb dX6_odds_22 (by decide) ?_
  refine g_si (g_runS (n := 3) (rest := []) hx hb hml hown hts hG (c_X6_in p3 0 9999) tw_ml_RX6_81 tw_st_X6_in tw_in_RX6 tw_cd_X6_in (by decide +kernel) ⟨rfl, rfl, Nat.le_of_ble_eq_true rfl, Nat.le_of_ble_eq_true rfl⟩ rfl hl.1 rfl (Nat.le_of_ble_eq_true rfl) dX6_odds_25 ⟨Nat.le_refl _, Nat.le_refl _⟩) hG hA (fun H locs hG => ?_)
  refine lv_if_eq (tgt := 41) hx hb dX6_odds_28 (by decide) (fun c_28 => ?_) (fun c_28 => ?_)
  · replace hE := (if_pos c_28).symm.trans hE
    refine lv_ldc2 (v := (-4611686018427387904)) hx hb hown (hts _ tw_cg_RX6_229) dX6_odds_41 ?_
    subst hQ
    exact g_lret hx hb hr hlocks hG ((mo, jk) : Ob × (Nat → Nat → Int32)) rfl hE.symm dX6_odds_44
  replace hE := (if_neg c_28).symm.trans hE
  have i_28 : 0 ≤ p3.toInt ∧ p3.toInt ≤ 9999 := in_f c_28
  refine lv_iload hx hb dX6_odds_31 (lv_at hl 4 rfl) ?_
  refine lv_iconst (v := 0) hx hb dX6_odds_33 (by decide) ?_
  refine lv_iconst (v := 1) hx hb dX6_odds_34 (by decide) ?_
  refine g_si (g_runS (n := 3) (rest := []) hx hb hml hown hts hG (c_X6_in p4 0 1) tw_ml_RX6_81 tw_st_X6_in tw_in_RX6 tw_cd_X6_in (by decide +kernel) ⟨rfl, rfl, Nat.le_of_ble_eq_true rfl, Nat.le_of_ble_eq_true rfl⟩ rfl hl.1 rfl (Nat.le_of_ble_eq_true rfl) dX6_odds_35 ⟨Nat.le_refl _, Nat.le_refl _⟩) hG hA (fun H locs hG => ?_)
  refine lv_if_ne (tgt := 45) hx hb dX6_odds_38 (by decide) (fun c_38 => ?_) (fun c_38 => ?_)
  · replace hE := (if_neg c_38).symm.trans hE
    have i_38 : 0 ≤ p4.toInt ∧ p4.toInt ≤ 1 := in_f c_38
    refine lv_lconst (v := 0) hx hb dX6_odds_45 (by decide) ?_
    refine lv_lstore (lv' := [(5, .long 0), (0, .ref (gA g 58)), (1, .int p1), (2, .int p2), (3, .int p3), (4, .int p4)]) hx hb dX6_odds_46 hl (by decide) rfl (fun ls hl => ?_)
    replace hl := lv_sub hl [1, 2, 3, 4, 5, 0] (l' := [(0, .ref (gA g 58)), (1, .int p1), (2, .int p2), (3, .int p3), (4, .int p4), (5, .long 0)]) rfl
    refine lv_iconst (v := 0) hx hb dX6_odds_48 (by decide) ?_
    refine lv_istore (lv' := [(7, .int 0), (0, .ref (gA g 58)), (1, .int p1), (2, .int p2), (3, .int p3), (4, .int p4), (5, .long 0)]) hx hb dX6_odds_49 hl (by decide) rfl (fun ls hl => ?_)
    replace hl := lv_sub hl [1, 2, 3, 4, 5, 6, 0] (l' := [(0, .ref (gA g 58)), (1, .int p1), (2, .int p2), (3, .int p3), (4, .int p4), (5, .long 0), (7, .int 0)]) rfl
    have L51 : ∀ (n51 : Nat) (y5_51 : Int64) (x7_51 : Int32) (mo_51 : Ob) (jk : (Nat → Nat → Int32)) (H : Heap) (locs : List Loc), gS g A s H locs (gW g bb tx rw sb dy tn mo_51 jk) → ∀ ls : Array Slot, lv_has ls 8 [(0, .ref (gA g 58)), (1, .int p1), (2, .int p2), (3, .int p3), (4, .int p4), (5, .long y5_51), (7, .int x7_51)] → 0 ≤ x7_51.toInt → x7_51.toInt ≤ 40 → 40 < x7_51.toInt + n51 → mEv mo_51 → 0 ≤ y5_51.toInt ∧ y5_51.toInt ≤ x7_51.toInt → F_X6_odds_l51 n51  mo_51 p1 p2 p3 p4 y5_51 x7_51 = EE → W p l e (rmL (8)) s m [.ref (gA g 58), .int p1, .int p2, .int p3, .int p4].toArray below meth c H locs 0 0 Q (F0 m 51 ls []) := by
      intro n51
      induction n51 with
      | zero =>
        intro y5_51 x7_51 mo_51 jk H locs hG ls hl h0_51 h1_51 hm_51 hv51 hy51 hE
        clear hE; omega
      | succ n51 ih51 =>
        intro y5_51 x7_51 mo_51 jk H locs hG ls hl h0_51 h1_51 hm_51 hv51 hy51 hE
        unfold F_X6_odds_l51 at hE
        refine lv_iload hx hb dX6_odds_51 (lv_at hl 6 rfl) ?_
        refine lv_iload_n hx hb dX6_odds_53 rfl (lv_at hl 2 rfl) ?_
        refine lv_icmp_ge (tgt := 87) hx hb dX6_odds_54 (by decide) (fun c_54 => ?_) (fun c_54 => ?_)
        · replace hE := (if_pos c_54).symm.trans hE
          have i_54 : p2.toInt ≤ x7_51.toInt := i_le.mp c_54
          refine lv_lload hx hb dX6_odds_87 (lv_at hl 5 rfl) ?_
          refine lv_iload_n hx hb dX6_odds_89 rfl (lv_at hl 2 rfl) ?_
          refine lv_i2l (v := (Int32.toInt64 p2)) hx hb dX6_odds_90 rfl ?_
          refine lv_iload hx hb dX6_odds_91 (lv_at hl 4 rfl) ?_
          refine g_sl (g_runS (n := 3) (rest := []) hx hb hml hown hts hG (c_X6_lowest y5_51 (Int32.toInt64 p2) p4 ⟨(by clear hE; omega), i2l_abs _⟩) tw_ml_RX6_231 tw_st_X6_lowest tw_in_RX6 tw_cd_X6_lowest (by decide +kernel) ⟨rfl, rfl, Nat.le_of_ble_eq_true rfl, Nat.le_of_ble_eq_true rfl⟩ rfl hl.1 rfl (Nat.le_of_ble_eq_true rfl) dX6_odds_93 ⟨Nat.le_refl _, Nat.le_refl _⟩) hG hA (fun H locs hG => ?_)
          subst hQ
          exact g_lret hx hb hr hlocks hG ((mo_51, jk) : Ob × (Nat → Nat → Int32)) rfl hE.symm dX6_odds_96
        replace hE := (if_neg c_54).symm.trans hE
        have i_54 : x7_51.toInt < p2.toInt := i_nle c_54
        refine lv_lload hx hb dX6_odds_57 (lv_at hl 5 rfl) ?_
        refine lv_aload_n hx hb dX6_odds_59 rfl (lv_at hl 0 rfl) ?_
        refine lv_iload_n hx hb dX6_odds_60 rfl (lv_at hl 1 rfl) ?_
        refine lv_iload hx hb dX6_odds_61 (lv_at hl 6 rfl) ?_
        refine lv_iadd hx hb dX6_odds_63 ?_
        refine lv_bipush (v := 12) hx hb dX6_odds_64 (by decide) ?_
        have e66 : (p1 + x7_51).toInt = p1.toInt + x7_51.toInt := fb_addI (by clear hE; omega) (by clear hE; omega)
        refine g_ci (g_runV (n := 2) (rest := [.long y5_51]) hx hb hml hown hts hG (c_X6_crowds (p1 + x7_51) 12 hv51 (show 0 ≤ (p1 + x7_51).toInt ∧ (p1 + x7_51).toInt ≤ 1000000 from by clear hE; omega) (by decide)) tw_ml_RX6_251 tw_im_X6_crowds tw_se_X6_crowds tw_in_RX6 tw_cd_X6_crowds (by decide +kernel) ⟨rfl, rfl, Nat.le_of_ble_eq_true rfl, Nat.le_of_ble_eq_true rfl⟩ gw_Model rfl rfl hl.1 rfl (Nat.le_of_ble_eq_true rfl) dX6_odds_66 ⟨Nat.le_refl _, Nat.le_refl _⟩) hG hA (fun r_66 u H locs hp hG => ?_)
        obtain ⟨mo_66, jk⟩ := u
        replace hG : gS g A s H locs (gW g bb tx rw sb dy tn mo_66 jk) := by simpa only [up_up] using hG
        have hp_66 := hp
        rw [hp] at hE
        unfold F_X6_odds_c66 at hE
        try dsimp only at hE
        have hv66 : mEv mo_66 := crowds_mEv hp_66 hv51
        refine lv_iload_n hx hb dX6_odds_69 rfl (lv_at hl 3 rfl) ?_
        have J78 : ∀ (z1_78 : Int64) (jk : (Nat → Nat → Int32)) (H : Heap) (locs : List Loc), gS g A s H locs (gW g bb tx rw sb dy tn mo_66 jk) → ∀ ls : Array Slot, lv_has ls 8 [(0, .ref (gA g 58)), (1, .int p1), (2, .int p2), (3, .int p3), (4, .int p4), (7, .int x7_51)] → 0 ≤ z1_78.toInt ∧ z1_78.toInt ≤ 1 → F_X6_odds_b78  (F_X6_odds_l51 n51 ) mo_66 p1 p2 p3 p4 x7_51 y5_51 z1_78 = EE → W p l e (rmL (8)) s m [.ref (gA g 58), .int p1, .int p2, .int p3, .int p4].toArray below meth c H locs 0 0 Q (F0 m 78 ls [.long z1_78, .long y5_51]) := by
          intro z1_78 jk H locs hG ls hl hj78 hE
          unfold F_X6_odds_b78 at hE
          have e64 := addL64 (x := y5_51) (y := z1_78) (by clear hE; omega)
          refine lv_ladd hx hb dX6_odds_78 ?_
          refine lv_lstore (lv' := [(5, .long (y5_51 + z1_78)), (0, .ref (gA g 58)), (1, .int p1), (2, .int p2), (3, .int p3), (4, .int p4), (7, .int x7_51)]) hx hb dX6_odds_79 hl (by decide) rfl (fun ls hl => ?_)
          replace hl := lv_sub hl [1, 2, 3, 4, 5, 0, 6] (l' := [(0, .ref (gA g 58)), (1, .int p1), (2, .int p2), (3, .int p3), (4, .int p4), (5, .long (y5_51 + z1_78)), (7, .int x7_51)]) rfl
          refine lv_iinc (v := (x7_51 + 1)) (lv' := [(7, .int (x7_51 + 1)), (0, .ref (gA g 58)), (1, .int p1), (2, .int p2), (3, .int p3), (4, .int p4), (5, .long (y5_51 + z1_78))]) hx hb dX6_odds_81 hl (k := 6) rfl rfl (by decide) rfl (fun ls hl => ?_)
          replace hl := lv_sub hl [1, 2, 3, 4, 5, 6, 0] (l' := [(0, .ref (gA g 58)), (1, .int p1), (2, .int p2), (3, .int p3), (4, .int p4), (5, .long (y5_51 + z1_78)), (7, .int (x7_51 + 1))]) rfl
          refine lv_goto (tgt := 51) hx hb dX6_odds_84 (by decide) ?_
          have e1 : (x7_51 + 1).toInt = x7_51.toInt + 1 := addL (k := 1) (by decide +kernel) (by clear hE; omega) (by clear hE; omega)
          exact ih51 (y5_51 + z1_78) (x7_51 + 1) mo_66 _ _ _ hG _ (lv_sub hl [0, 1, 2, 3, 4, 5, 6] rfl) (by clear hE; omega) (by clear hE; omega) (by clear hE; omega) hv66 (by rw [e64]; clear hE; omega) hE
        refine lv_icmp_lt (tgt := 77) hx hb dX6_odds_70 (by decide) (fun c_70 => ?_) (fun c_70 => ?_)
        · replace hE := (if_pos c_70).symm.trans hE
          have i_70 : r_66.toInt < p3.toInt := i_lt.mp c_70
          refine lv_lconst (v := 0) hx hb dX6_odds_77 (by decide) ?_
          exact J78 0 _ _ _ hG _ (lv_sub hl [0, 1, 2, 3, 4, 6] rfl) (by decide) hE
        replace hE := (if_neg c_70).symm.trans hE
        have i_70 : p3.toInt ≤ r_66.toInt := i_nlt c_70
        refine lv_lconst (v := 1) hx hb dX6_odds_73 (by decide) ?_
        refine lv_goto (tgt := 78) hx hb dX6_odds_74 (by decide) ?_
        exact J78 1 _ _ _ hG _ (lv_sub hl [0, 1, 2, 3, 4, 6] rfl) (by decide) hE
    exact L51 41 0 0 mo _ _ _ hG _ (lv_sub hl [0, 1, 2, 3, 4, 5, 6] rfl) (by decide) (by decide) (by decide) hv (by decide) hE
  replace hE := (if_pos c_38).symm.trans hE
  refine lv_ldc2 (v := (-4611686018427387904)) hx hb hown (hts _ tw_cg_RX6_229) dX6_odds_41 ?_
  subst hQ
  exact g_lret hx hb hr hlocks hG ((mo, jk) : Ob × (Nat → Nat → Int32)) rfl hE.symm dX6_odds_44
def F_X6_image_l33 : Nat → Ob → Int32 → Int32 × Ob
  | 0, mo, _ => (0, mo)
  | n + 1, mo, x1 =>
    (if 3 ≤ x1 then ((mo.1 0), (stA (stA mo 13 0 (mo.1 0)) 13 1 (mo.1 10))) else ((F_X6_image_l33 n ) (stA mo 12 (24 + x1) ((mo.2 4) (Int32.toNatClampNeg x1))) (x1 + 1)))
def F_X6_image_l7 : Nat → Ob → Int32 → Int32 × Ob
  | 0, mo, _ => (0, mo)
  | n + 1, mo, x1 =>
    (if 24 ≤ x1 then (F_X6_image_l33 4  mo 0) else ((F_X6_image_l7 n ) (stA mo 12 x1 ((mo.2 3) (Int32.toNatClampNeg x1))) (x1 + 1)))
def F_X6_image (mo : Ob) : Int32 × Ob :=
  (F_X6_image_l7 25  (setS mo 11 1) 0)
set_option maxHeartbeats 4000000 in
set_option maxRecDepth 100000 in
theorem c_X6_image {l : Launch} {g : GG} {sz : Nat} {bb : Ob} {tx rw : Nat → Ob} {sb dy : Ob} {tn : Nat → Ob} {mo : Ob} {jk : Nat → Nat → Int32}    : Met l yX6_image (Cond.code yX6_image cX6_image 2 (some .int) :: TT) (rmL (1)) (va_Pc [.ref (gA g 58)] (gB g sz (gW g bb tx rw sb dy tn mo jk))) (va_Qi (fun r (u : Ob) => (F_X6_image mo) = (r, u)) (fun u t => gC g (va_A (gW g bb tx rw sb dy tn mo jk) sz) (gW g bb tx rw sb dy tn u jk) t) (va_A (gW g bb tx rw sb dy tn mo jk) sz)) 0 0 (va_A (gW g bb tx rw sb dy tn mo jk) sz) := by
  generalize hE : F_X6_image mo = EE
  refine g_of (Qf := fun A => (va_Qi (fun r (u : Ob) => EE = (r, u)) (fun u t => gC g A (gW g bb tx rw sb dy tn u jk) t) A)) (cc := cX6_image) (maxL := 2) (ret := (some .int)) (by decide) (Nat.le_of_ble_eq_true rfl) ?_
  intro p e s m below meth c A ls hx hb hml hr hlocks hts hown hA hG hl
  replace hown : s.vm.findClass RX6 = some m.cls := hown
  replace hl : lv_has ls 2 [(0, .ref (gA g 58))] := hl
  show W p l e (rmL (1)) s m [.ref (gA g 58)].toArray below meth c s.heap [] 0 0 (MQ below (va_Qi (fun r (u : Ob) => EE = (r, u)) (fun u t => gC g A (gW g bb tx rw sb dy tn u jk) t) A) [.ref (gA g 58)].toArray s 0 0 A) (F0 m 0 ls [])
  generalize hQ : MQ below (va_Qi (fun r (u : Ob) => EE = (r, u)) (fun u t => gC g A (gW g bb tx rw sb dy tn u jk) t) A) [.ref (gA g 58)].toArray s 0 0 A = Q
  unfold F_X6_image at hE
  refine lv_aload_n hx hb dX6_image_0 rfl (lv_at hl 0 rfl) ?_
  refine lv_iconst (v := 1) hx hb dX6_image_1 (by decide) ?_
  refine g_put hx hb hts hiX6 tyX6 tyX6_ok nmX6 hown hG gw_Model rfl 11 (by decide) (index := 254) tw_fl_RX6_254 rfl rfl rfl (Nat.le_of_ble_eq_true rfl) gs_Model_f11 dX6_image_2 (fun H locs hG => ?_)
  refine lv_iconst (v := 0) hx hb dX6_image_5 (by decide) ?_
  refine lv_istore_n (lv' := [(1, .int 0), (0, .ref (gA g 58))]) hx hb dX6_image_6 rfl hl (by decide) rfl (fun ls hl => ?_)
  replace hl := lv_sub hl [1, 0] (l' := [(0, .ref (gA g 58)), (1, .int 0)]) rfl
  have L7 : ∀ (n7 : Nat) (x1_7 : Int32) (mo_7 : Ob) (H : Heap) (locs : List Loc), gS g A s H locs (gW g bb tx rw sb dy tn mo_7 jk) → ∀ ls : Array Slot, lv_has ls 2 [(0, .ref (gA g 58)), (1, .int x1_7)] → 0 ≤ x1_7.toInt → x1_7.toInt ≤ 24 → 24 < x1_7.toInt + n7 → F_X6_image_l7 n7  mo_7 x1_7 = EE → W p l e (rmL (1)) s m [.ref (gA g 58)].toArray below meth c H locs 0 0 Q (F0 m 7 ls []) := by
    intro n7
    induction n7 with
    | zero =>
      intro x1_7 mo_7 H locs hG ls hl h0_7 h1_7 hm_7 hE
      clear hE; omega
    | succ n7 ih7 =>
      intro x1_7 mo_7 H locs hG ls hl h0_7 h1_7 hm_7 hE
      unfold F_X6_image_l7 at hE
      refine lv_iload_n hx hb dX6_image_7 rfl (lv_at hl 1 rfl) ?_
      refine lv_bipush (v := 24) hx hb dX6_image_8 (by decide) ?_
      refine lv_icmp_ge (tgt := 31) hx hb dX6_image_10 (by decide) (fun c_10 => ?_) (fun c_10 => ?_)
      · replace hE := (if_pos c_10).symm.trans hE
        have i_10 : 24 ≤ x1_7.toInt := i_le.mp c_10
        refine lv_iconst (v := 0) hx hb dX6_image_31 (by decide) ?_
        refine lv_istore_n (lv' := [(1, .int 0), (0, .ref (gA g 58))]) hx hb dX6_image_32 rfl hl (by decide) rfl (fun ls hl => ?_)
        replace hl := lv_sub hl [1, 0] (l' := [(0, .ref (gA g 58)), (1, .int 0)]) rfl
        have L33 : ∀ (n33 : Nat) (x1_33 : Int32) (mo_33 : Ob) (H : Heap) (locs : List Loc), gS g A s H locs (gW g bb tx rw sb dy tn mo_33 jk) → ∀ ls : Array Slot, lv_has ls 2 [(0, .ref (gA g 58)), (1, .int x1_33)] → 0 ≤ x1_33.toInt → x1_33.toInt ≤ 3 → 3 < x1_33.toInt + n33 → F_X6_image_l33 n33  mo_33 x1_33 = EE → W p l e (rmL (1)) s m [.ref (gA g 58)].toArray below meth c H locs 0 0 Q (F0 m 33 ls []) := by
          intro n33
          induction n33 with
          | zero =>
            intro x1_33 mo_33 H locs hG ls hl h0_33 h1_33 hm_33 hE
            clear hE; omega
          | succ n33 ih33 =>
            intro x1_33 mo_33 H locs hG ls hl h0_33 h1_33 hm_33 hE
            unfold F_X6_image_l33 at hE
            refine lv_iload_n hx hb dX6_image_33 rfl (lv_at hl 1 rfl) ?_
            refine lv_iconst (v := 3) hx hb dX6_image_34 (by decide) ?_
            refine lv_icmp_ge (tgt := 59) hx hb dX6_image_35 (by decide) (fun c_35 => ?_) (fun c_35 => ?_)
            · replace hE := (if_pos c_35).symm.trans hE
              have i_35 : 3 ≤ x1_33.toInt := i_le.mp c_35
              refine lv_aload_n hx hb dX6_image_59 rfl (lv_at hl 0 rfl) ?_
              refine g_get hx hb hts hiX6 hown hG gw_Model rfl 13 (by decide) (index := 34) tw_fl_RX6_34 (v := .ref (gA g 67)) rfl dX6_image_60 ?_
              refine lv_iconst (v := 0) hx hb dX6_image_63 (by decide) ?_
              refine lv_aload_n hx hb dX6_image_64 rfl (lv_at hl 0 rfl) ?_
              refine g_get hx hb hts hiX6 hown hG gw_Model rfl 0 (by decide) (index := 78) tw_fl_RX6_78 (v := .int (mo_33.1 0)) rfl dX6_image_65 ?_
              refine g_ist hx hb hG gw_Model_a13 (show vp_in 0 2 from (by unfold vp_in; decide)) gs_Model_a13 dX6_image_68 (fun H locs hG => ?_)
              refine lv_aload_n hx hb dX6_image_69 rfl (lv_at hl 0 rfl) ?_
              refine g_get hx hb hts hiX6 hown hG gw_Model rfl 13 (by decide) (index := 34) tw_fl_RX6_34 (v := .ref (gA g 67)) rfl dX6_image_70 ?_
              refine lv_iconst (v := 1) hx hb dX6_image_73 (by decide) ?_
              refine lv_aload_n hx hb dX6_image_74 rfl (lv_at hl 0 rfl) ?_
              refine g_get hx hb hts hiX6 hown hG gw_Model rfl 10 (by decide) (index := 88) tw_fl_RX6_88 (v := .int (mo_33.1 10)) rfl dX6_image_75 ?_
              refine g_ist hx hb hG gw_Model_a13 (show vp_in 1 2 from (by unfold vp_in; decide)) gs_Model_a13 dX6_image_78 (fun H locs hG => ?_)
              refine lv_aload_n hx hb dX6_image_79 rfl (lv_at hl 0 rfl) ?_
              refine g_get hx hb hts hiX6 hown hG gw_Model rfl 0 (by decide) (index := 78) tw_fl_RX6_78 (v := .int (mo_33.1 0)) rfl dX6_image_80 ?_
              subst hQ
              exact g_iret hx hb hr hlocks hG (((stA (stA mo_33 13 0 (mo_33.1 0)) 13 1 (mo_33.1 10))) : Ob) rfl hE.symm dX6_image_83
            replace hE := (if_neg c_35).symm.trans hE
            have i_35 : x1_33.toInt < 3 := i_nle c_35
            refine lv_aload_n hx hb dX6_image_38 rfl (lv_at hl 0 rfl) ?_
            refine g_get hx hb hts hiX6 hown hG gw_Model rfl 12 (by decide) (index := 31) tw_fl_RX6_31 (v := .ref (gA g 66)) rfl dX6_image_39 ?_
            refine lv_bipush (v := 24) hx hb dX6_image_42 (by decide) ?_
            refine lv_iload_n hx hb dX6_image_44 rfl (lv_at hl 1 rfl) ?_
            refine lv_iadd hx hb dX6_image_45 ?_
            refine lv_aload_n hx hb dX6_image_46 rfl (lv_at hl 0 rfl) ?_
            refine g_get hx hb hts hiX6 hown hG gw_Model rfl 4 (by decide) (index := 19) tw_fl_RX6_19 (v := .ref (gA g 62)) rfl dX6_image_47 ?_
            refine lv_iload_n hx hb dX6_image_50 rfl (lv_at hl 1 rfl) ?_
            refine g_ild (f := (mo_33.2 4)) hx hb hG gw_Model_a4 (show vp_in x1_33 3 from (vp_i (by clear hE; omega) (by clear hE; omega))) dX6_image_51 ?_
            have e1 : (24 + x1_33).toInt = 24 + x1_33.toInt := addLl (k := 24) (by decide +kernel) (by clear hE; omega) (by clear hE; omega)
            refine g_ist hx hb hG gw_Model_a12 (show vp_in (24 + x1_33) 27 from (vp_i (by clear hE; omega) (by clear hE; omega))) gs_Model_a12 dX6_image_52 (fun H locs hG => ?_)
            refine lv_iinc (v := (x1_33 + 1)) (lv' := [(1, .int (x1_33 + 1)), (0, .ref (gA g 58))]) hx hb dX6_image_53 hl (k := 1) rfl rfl (by decide) rfl (fun ls hl => ?_)
            replace hl := lv_sub hl [1, 0] (l' := [(0, .ref (gA g 58)), (1, .int (x1_33 + 1))]) rfl
            refine lv_goto (tgt := 33) hx hb dX6_image_56 (by decide) ?_
            have e2 : (x1_33 + 1).toInt = x1_33.toInt + 1 := addL (k := 1) (by decide +kernel) (by clear hE; omega) (by clear hE; omega)
            exact ih33 (x1_33 + 1) (stA mo_33 12 (24 + x1_33) ((mo_33.2 4) (Int32.toNatClampNeg x1_33))) _ _ hG _ (lv_sub hl [0, 1] rfl) (by clear hE; omega) (by clear hE; omega) (by clear hE; omega) hE
        exact L33 4 0 mo_7 _ _ hG _ (lv_sub hl [0, 1] rfl) (by decide) (by decide) (by decide) hE
      replace hE := (if_neg c_10).symm.trans hE
      have i_10 : x1_7.toInt < 24 := i_nle c_10
      refine lv_aload_n hx hb dX6_image_13 rfl (lv_at hl 0 rfl) ?_
      refine g_get hx hb hts hiX6 hown hG gw_Model rfl 12 (by decide) (index := 31) tw_fl_RX6_31 (v := .ref (gA g 66)) rfl dX6_image_14 ?_
      refine lv_iload_n hx hb dX6_image_17 rfl (lv_at hl 1 rfl) ?_
      refine lv_aload_n hx hb dX6_image_18 rfl (lv_at hl 0 rfl) ?_
      refine g_get hx hb hts hiX6 hown hG gw_Model rfl 3 (by decide) (index := 16) tw_fl_RX6_16 (v := .ref (gA g 61)) rfl dX6_image_19 ?_
      refine lv_iload_n hx hb dX6_image_22 rfl (lv_at hl 1 rfl) ?_
      refine g_ild (f := (mo_7.2 3)) hx hb hG gw_Model_a3 (show vp_in x1_7 24 from (vp_i (by clear hE; omega) (by clear hE; omega))) dX6_image_23 ?_
      refine g_ist hx hb hG gw_Model_a12 (show vp_in x1_7 27 from (vp_i (by clear hE; omega) (by clear hE; omega))) gs_Model_a12 dX6_image_24 (fun H locs hG => ?_)
      refine lv_iinc (v := (x1_7 + 1)) (lv' := [(1, .int (x1_7 + 1)), (0, .ref (gA g 58))]) hx hb dX6_image_25 hl (k := 1) rfl rfl (by decide) rfl (fun ls hl => ?_)
      replace hl := lv_sub hl [1, 0] (l' := [(0, .ref (gA g 58)), (1, .int (x1_7 + 1))]) rfl
      refine lv_goto (tgt := 7) hx hb dX6_image_28 (by decide) ?_
      have e3 : (x1_7 + 1).toInt = x1_7.toInt + 1 := addL (k := 1) (by decide +kernel) (by clear hE; omega) (by clear hE; omega)
      exact ih7 (x1_7 + 1) (stA mo_7 12 x1_7 ((mo_7.2 3) (Int32.toNatClampNeg x1_7))) _ _ hG _ (lv_sub hl [0, 1] rfl) (by clear hE; omega) (by clear hE; omega) (by clear hE; omega) hE
  exact L7 25 0 (setS mo 11 1) _ _ hG _ (lv_sub hl [0, 1] rfl) (by decide) (by decide) (by decide) hE
def F_X6_back_l38 : Nat → Ob → Int32 → Int32 × Ob
  | 0, mo, _ => (0, mo)
  | n + 1, mo, x1 =>
    (if 3 ≤ x1 then (((mo.2 13) (Int32.toNatClampNeg 0)), (setS (setS mo 0 ((mo.2 13) (Int32.toNatClampNeg 0))) 10 ((mo.2 13) (Int32.toNatClampNeg 1)))) else ((F_X6_back_l38 n ) (stA mo 4 x1 ((mo.2 12) (Int32.toNatClampNeg (24 + x1)))) (x1 + 1)))
def F_X6_back_l12 : Nat → Ob → Int32 → Int32 × Ob
  | 0, mo, _ => (0, mo)
  | n + 1, mo, x1 =>
    (if 24 ≤ x1 then (F_X6_back_l38 4  mo 0) else ((F_X6_back_l12 n ) (stA mo 3 x1 ((mo.2 12) (Int32.toNatClampNeg x1))) (x1 + 1)))
def F_X6_back (mo : Ob) : Int32 × Ob :=
  (if (mo.1 11) = 0 then ((-3), mo) else (F_X6_back_l12 25  mo 0))
set_option maxHeartbeats 4000000 in
set_option maxRecDepth 100000 in
theorem c_X6_back {l : Launch} {g : GG} {sz : Nat} {bb : Ob} {tx rw : Nat → Ob} {sb dy : Ob} {tn : Nat → Ob} {mo : Ob} {jk : Nat → Nat → Int32}    : Met l yX6_back (Cond.code yX6_back cX6_back 2 (some .int) :: TT) (rmL (1)) (va_Pc [.ref (gA g 58)] (gB g sz (gW g bb tx rw sb dy tn mo jk))) (va_Qi (fun r (u : Ob) => (F_X6_back mo) = (r, u)) (fun u t => gC g (va_A (gW g bb tx rw sb dy tn mo jk) sz) (gW g bb tx rw sb dy tn u jk) t) (va_A (gW g bb tx rw sb dy tn mo jk) sz)) 0 0 (va_A (gW g bb tx rw sb dy tn mo jk) sz) := by
  generalize hE : F_X6_back mo = EE
  refine g_of (Qf := fun A => (va_Qi (fun r (u : Ob) => EE = (r, u)) (fun u t => gC g A (gW g bb tx rw sb dy tn u jk) t) A)) (cc := cX6_back) (maxL := 2) (ret := (some .int)) (by decide) (Nat.le_of_ble_eq_true rfl) ?_
  intro p e s m below meth c A ls hx hb hml hr hlocks hts hown hA hG hl
  replace hown : s.vm.findClass RX6 = some m.cls := hown
  replace hl : lv_has ls 2 [(0, .ref (gA g 58))] := hl
  show W p l e (rmL (1)) s m [.ref (gA g 58)].toArray below meth c s.heap [] 0 0 (MQ below (va_Qi (fun r (u : Ob) => EE = (r, u)) (fun u t => gC g A (gW g bb tx rw sb dy tn u jk) t) A) [.ref (gA g 58)].toArray s 0 0 A) (F0 m 0 ls [])
  generalize hQ : MQ below (va_Qi (fun r (u : Ob) => EE = (r, u)) (fun u t => gC g A (gW g bb tx rw sb dy tn u jk) t) A) [.ref (gA g 58)].toArray s 0 0 A = Q
  unfold F_X6_back at hE
  refine lv_aload_n hx hb dX6_back_0 rfl (lv_at hl 0 rfl) ?_
  refine g_get hx hb hts hiX6 hown hG gw_Model rfl 11 (by decide) (index := 254) tw_fl_RX6_254 (v := .int (mo.1 11)) rfl dX6_back_1 ?_
  refine lv_if_ne (tgt := 10) hx hb dX6_back_4 (by decide) (fun c_4 => ?_) (fun c_4 => ?_)
  · replace hE := (if_neg c_4).symm.trans hE
    have i_4 : (mo.1 11).toInt ≠ 0 := fun h => c_4 (Int32.toInt_inj.mp h)
    refine lv_iconst (v := 0) hx hb dX6_back_10 (by decide) ?_
    refine lv_istore_n (lv' := [(1, .int 0), (0, .ref (gA g 58))]) hx hb dX6_back_11 rfl hl (by decide) rfl (fun ls hl => ?_)
    replace hl := lv_sub hl [1, 0] (l' := [(0, .ref (gA g 58)), (1, .int 0)]) rfl
    have L12 : ∀ (n12 : Nat) (x1_12 : Int32) (mo_12 : Ob) (H : Heap) (locs : List Loc), gS g A s H locs (gW g bb tx rw sb dy tn mo_12 jk) → ∀ ls : Array Slot, lv_has ls 2 [(0, .ref (gA g 58)), (1, .int x1_12)] → 0 ≤ x1_12.toInt → x1_12.toInt ≤ 24 → 24 < x1_12.toInt + n12 → F_X6_back_l12 n12  mo_12 x1_12 = EE → W p l e (rmL (1)) s m [.ref (gA g 58)].toArray below meth c H locs 0 0 Q (F0 m 12 ls []) := by
      intro n12
      induction n12 with
      | zero =>
        intro x1_12 mo_12 H locs hG ls hl h0_12 h1_12 hm_12 hE
        clear hE; omega
      | succ n12 ih12 =>
        intro x1_12 mo_12 H locs hG ls hl h0_12 h1_12 hm_12 hE
        unfold F_X6_back_l12 at hE
        refine lv_iload_n hx hb dX6_back_12 rfl (lv_at hl 1 rfl) ?_
        refine lv_bipush (v := 24) hx hb dX6_back_13 (by decide) ?_
        refine lv_icmp_ge (tgt := 36) hx hb dX6_back_15 (by decide) (fun c_15 => ?_) (fun c_15 => ?_)
        · replace hE := (if_pos c_15).symm.trans hE
          have i_15 : 24 ≤ x1_12.toInt := i_le.mp c_15
          refine lv_iconst (v := 0) hx hb dX6_back_36 (by decide) ?_
          refine lv_istore_n (lv' := [(1, .int 0), (0, .ref (gA g 58))]) hx hb dX6_back_37 rfl hl (by decide) rfl (fun ls hl => ?_)
          replace hl := lv_sub hl [1, 0] (l' := [(0, .ref (gA g 58)), (1, .int 0)]) rfl
          have L38 : ∀ (n38 : Nat) (x1_38 : Int32) (mo_38 : Ob) (H : Heap) (locs : List Loc), gS g A s H locs (gW g bb tx rw sb dy tn mo_38 jk) → ∀ ls : Array Slot, lv_has ls 2 [(0, .ref (gA g 58)), (1, .int x1_38)] → 0 ≤ x1_38.toInt → x1_38.toInt ≤ 3 → 3 < x1_38.toInt + n38 → F_X6_back_l38 n38  mo_38 x1_38 = EE → W p l e (rmL (1)) s m [.ref (gA g 58)].toArray below meth c H locs 0 0 Q (F0 m 38 ls []) := by
            intro n38
            induction n38 with
            | zero =>
              intro x1_38 mo_38 H locs hG ls hl h0_38 h1_38 hm_38 hE
              clear hE; omega
            | succ n38 ih38 =>
              intro x1_38 mo_38 H locs hG ls hl h0_38 h1_38 hm_38 hE
              unfold F_X6_back_l38 at hE
              refine lv_iload_n hx hb dX6_back_38 rfl (lv_at hl 1 rfl) ?_
              refine lv_iconst (v := 3) hx hb dX6_back_39 (by decide) ?_
              refine lv_icmp_ge (tgt := 64) hx hb dX6_back_40 (by decide) (fun c_40 => ?_) (fun c_40 => ?_)
              · replace hE := (if_pos c_40).symm.trans hE
                have i_40 : 3 ≤ x1_38.toInt := i_le.mp c_40
                refine lv_aload_n hx hb dX6_back_64 rfl (lv_at hl 0 rfl) ?_
                refine lv_aload_n hx hb dX6_back_65 rfl (lv_at hl 0 rfl) ?_
                refine g_get hx hb hts hiX6 hown hG gw_Model rfl 13 (by decide) (index := 34) tw_fl_RX6_34 (v := .ref (gA g 67)) rfl dX6_back_66 ?_
                refine lv_iconst (v := 0) hx hb dX6_back_69 (by decide) ?_
                refine g_ild (f := (mo_38.2 13)) hx hb hG gw_Model_a13 (show vp_in 0 2 from (by unfold vp_in; decide)) dX6_back_70 ?_
                refine g_put hx hb hts hiX6 tyX6 tyX6_ok nmX6 hown hG gw_Model rfl 0 (by decide) (index := 78) tw_fl_RX6_78 rfl rfl rfl (Nat.le_of_ble_eq_true rfl) gs_Model_f0 dX6_back_71 (fun H locs hG => ?_)
                refine lv_aload_n hx hb dX6_back_74 rfl (lv_at hl 0 rfl) ?_
                refine lv_aload_n hx hb dX6_back_75 rfl (lv_at hl 0 rfl) ?_
                refine g_get hx hb hts hiX6 hown hG gw_Model rfl 13 (by decide) (index := 34) tw_fl_RX6_34 (v := .ref (gA g 67)) rfl dX6_back_76 ?_
                refine lv_iconst (v := 1) hx hb dX6_back_79 (by decide) ?_
                refine g_ild (f := (mo_38.2 13)) hx hb hG gw_Model_a13 (show vp_in 1 2 from (by unfold vp_in; decide)) dX6_back_80 ?_
                refine g_put hx hb hts hiX6 tyX6 tyX6_ok nmX6 hown hG gw_Model rfl 10 (by decide) (index := 88) tw_fl_RX6_88 rfl rfl rfl (Nat.le_of_ble_eq_true rfl) gs_Model_f10 dX6_back_81 (fun H locs hG => ?_)
                refine lv_aload_n hx hb dX6_back_84 rfl (lv_at hl 0 rfl) ?_
                refine g_get hx hb hts hiX6 hown hG gw_Model rfl 0 (by decide) (index := 78) tw_fl_RX6_78 (v := .int ((mo_38.2 13) (Int32.toNatClampNeg 0))) rfl dX6_back_85 ?_
                subst hQ
                exact g_iret hx hb hr hlocks hG (((setS (setS mo_38 0 ((mo_38.2 13) (Int32.toNatClampNeg 0))) 10 ((mo_38.2 13) (Int32.toNatClampNeg 1)))) : Ob) rfl hE.symm dX6_back_88
              replace hE := (if_neg c_40).symm.trans hE
              have i_40 : x1_38.toInt < 3 := i_nle c_40
              refine lv_aload_n hx hb dX6_back_43 rfl (lv_at hl 0 rfl) ?_
              refine g_get hx hb hts hiX6 hown hG gw_Model rfl 4 (by decide) (index := 19) tw_fl_RX6_19 (v := .ref (gA g 62)) rfl dX6_back_44 ?_
              refine lv_iload_n hx hb dX6_back_47 rfl (lv_at hl 1 rfl) ?_
              refine lv_aload_n hx hb dX6_back_48 rfl (lv_at hl 0 rfl) ?_
              refine g_get hx hb hts hiX6 hown hG gw_Model rfl 12 (by decide) (index := 31) tw_fl_RX6_31 (v := .ref (gA g 66)) rfl dX6_back_49 ?_
              refine lv_bipush (v := 24) hx hb dX6_back_52 (by decide) ?_
              refine lv_iload_n hx hb dX6_back_54 rfl (lv_at hl 1 rfl) ?_
              refine lv_iadd hx hb dX6_back_55 ?_
              have e1 : (24 + x1_38).toInt = 24 + x1_38.toInt := addLl (k := 24) (by decide +kernel) (by clear hE; omega) (by clear hE; omega)
              refine g_ild (f := (mo_38.2 12)) hx hb hG gw_Model_a12 (show vp_in (24 + x1_38) 27 from (vp_i (by clear hE; omega) (by clear hE; omega))) dX6_back_56 ?_
              refine g_ist hx hb hG gw_Model_a4 (show vp_in x1_38 3 from (vp_i (by clear hE; omega) (by clear hE; omega))) gs_Model_a4 dX6_back_57 (fun H locs hG => ?_)
              refine lv_iinc (v := (x1_38 + 1)) (lv' := [(1, .int (x1_38 + 1)), (0, .ref (gA g 58))]) hx hb dX6_back_58 hl (k := 1) rfl rfl (by decide) rfl (fun ls hl => ?_)
              replace hl := lv_sub hl [1, 0] (l' := [(0, .ref (gA g 58)), (1, .int (x1_38 + 1))]) rfl
              refine lv_goto (tgt := 38) hx hb dX6_back_61 (by decide) ?_
              have e2 : (x1_38 + 1).toInt = x1_38.toInt + 1 := addL (k := 1) (by decide +kernel) (by clear hE; omega) (by clear hE; omega)
              exact ih38 (x1_38 + 1) (stA mo_38 4 x1_38 ((mo_38.2 12) (Int32.toNatClampNeg (24 + x1_38)))) _ _ hG _ (lv_sub hl [0, 1] rfl) (by clear hE; omega) (by clear hE; omega) (by clear hE; omega) hE
          exact L38 4 0 mo_12 _ _ hG _ (lv_sub hl [0, 1] rfl) (by decide) (by decide) (by decide) hE
        replace hE := (if_neg c_15).symm.trans hE
        have i_15 : x1_12.toInt < 24 := i_nle c_15
        refine lv_aload_n hx hb dX6_back_18 rfl (lv_at hl 0 rfl) ?_
        refine g_get hx hb hts hiX6 hown hG gw_Model rfl 3 (by decide) (index := 16) tw_fl_RX6_16 (v := .ref (gA g 61)) rfl dX6_back_19 ?_
        refine lv_iload_n hx hb dX6_back_22 rfl (lv_at hl 1 rfl) ?_
        refine lv_aload_n hx hb dX6_back_23 rfl (lv_at hl 0 rfl) ?_
        refine g_get hx hb hts hiX6 hown hG gw_Model rfl 12 (by decide) (index := 31) tw_fl_RX6_31 (v := .ref (gA g 66)) rfl dX6_back_24 ?_
        refine lv_iload_n hx hb dX6_back_27 rfl (lv_at hl 1 rfl) ?_
        refine g_ild (f := (mo_12.2 12)) hx hb hG gw_Model_a12 (show vp_in x1_12 27 from (vp_i (by clear hE; omega) (by clear hE; omega))) dX6_back_28 ?_
        refine g_ist hx hb hG gw_Model_a3 (show vp_in x1_12 24 from (vp_i (by clear hE; omega) (by clear hE; omega))) gs_Model_a3 dX6_back_29 (fun H locs hG => ?_)
        refine lv_iinc (v := (x1_12 + 1)) (lv' := [(1, .int (x1_12 + 1)), (0, .ref (gA g 58))]) hx hb dX6_back_30 hl (k := 1) rfl rfl (by decide) rfl (fun ls hl => ?_)
        replace hl := lv_sub hl [1, 0] (l' := [(0, .ref (gA g 58)), (1, .int (x1_12 + 1))]) rfl
        refine lv_goto (tgt := 12) hx hb dX6_back_33 (by decide) ?_
        have e3 : (x1_12 + 1).toInt = x1_12.toInt + 1 := addL (k := 1) (by decide +kernel) (by clear hE; omega) (by clear hE; omega)
        exact ih12 (x1_12 + 1) (stA mo_12 3 x1_12 ((mo_12.2 12) (Int32.toNatClampNeg x1_12))) _ _ hG _ (lv_sub hl [0, 1] rfl) (by clear hE; omega) (by clear hE; omega) (by clear hE; omega) hE
    exact L12 25 0 mo _ _ hG _ (lv_sub hl [0, 1] rfl) (by decide) (by decide) (by decide) hE
  replace hE := (if_pos c_4).symm.trans hE
  have i_4 : (mo.1 11).toInt = 0 := congrArg Int32.toInt c_4
  refine lv_bipush (v := (-3)) hx hb dX6_back_7 (by decide) ?_
  subst hQ
  exact g_iret hx hb hr hlocks hG ((mo) : Ob) rfl hE.symm dX6_back_9
def F_X6_sheet_l70 : Nat → Ob → Int32 → Int32 → Int32 × Ob
  | 0, mo, _, _ => (0, mo)
  | n + 1, mo, x1, x4 =>
    (if 40 ≤ x4 then (1, mo) else ((F_X6_sheet_l70 n ) (stA mo 16 ((40 * x1) + x4) 0) x1 (x4 + 1)))
def F_X6_sheet_b66 (mo : Ob) (x1 : Int32) (z1 : Int32) (z2 : Int32) : Int32 × Ob :=
  (F_X6_sheet_l70 41  (stA mo 15 z1 z2) x1 0)
def F_X6_sheet_b44 (mo : Ob) (x1 : Int32) (x2 : Int32) (x3 : Int32) : Int32 × Ob :=
  (if x2 = (-1) then (F_X6_sheet_b66  (stA mo 14 x1 x2) x1 x1 0) else (F_X6_sheet_b66  (stA mo 14 x1 x2) x1 x1 x3))
def F_X6_sheet_b32 (mo : Ob) (x1 : Int32) (x2 : Int32) (x3 : Int32) : Int32 × Ob :=
  (if x2 = (-1) then (F_X6_sheet_b44  mo x1 x2 x3) else (if 0 ≤ x3 then (F_X6_sheet_b44  mo x1 x2 x3) else ((-14), mo)))
def F_X6_sheet (mo : Ob) (p1 : Int32) (p2 : Int32) (p3 : Int32) : Int32 × Ob :=
  (if (F_X6_in p1 0 3) = 0 then ((-2), mo) else (if (F_X6_in p2 (-1) 2) = 0 then ((-2), mo) else (if p2 = (-1) then (F_X6_sheet_b32  mo p1 p2 p3) else (if p3 ≤ 40 then (F_X6_sheet_b32  mo p1 p2 p3) else ((-2), mo)))))
set_option maxHeartbeats 4000000 in
set_option maxRecDepth 100000 in
theorem c_X6_sheet {l : Launch} {g : GG} {sz : Nat} {bb : Ob} {tx rw : Nat → Ob} {sb dy : Ob} {tn : Nat → Ob} {mo : Ob} {jk : Nat → Nat → Int32}  (p1 : Int32) (p2 : Int32) (p3 : Int32)  : Met l yX6_sheet (Cond.code yX6_sheet cX6_sheet 5 (some .int) :: TT) (rmL (2)) (va_Pc [.ref (gA g 58), .int p1, .int p2, .int p3] (gB g sz (gW g bb tx rw sb dy tn mo jk))) (va_Qi (fun r (u : Ob) => (F_X6_sheet mo p1 p2 p3) = (r, u)) (fun u t => gC g (va_A (gW g bb tx rw sb dy tn mo jk) sz) (gW g bb tx rw sb dy tn u jk) t) (va_A (gW g bb tx rw sb dy tn mo jk) sz)) 0 0 (va_A (gW g bb tx rw sb dy tn mo jk) sz) := by
  generalize hE : F_X6_sheet mo p1 p2 p3 = EE
  refine g_of (Qf := fun A => (va_Qi (fun r (u : Ob) => EE = (r, u)) (fun u t => gC g A (gW g bb tx rw sb dy tn u jk) t) A)) (cc := cX6_sheet) (maxL := 5) (ret := (some .int)) (by decide) (Nat.le_of_ble_eq_true rfl) ?_
  intro p e s m below meth c A ls hx hb hml hr hlocks hts hown hA hG hl
  replace hown : s.vm.findClass RX6 = some m.cls := hown
  replace hl : lv_has ls 5 [(0, .ref (gA g 58)), (1, .int p1), (2, .int p2), (3, .int p3)] := hl
  show W p l e (rmL (2)) s m [.ref (gA g 58), .int p1, .int p2, .int p3].toArray below meth c s.heap [] 0 0 (MQ below (va_Qi (fun r (u : Ob) => EE = (r, u)) (fun u t => gC g A (gW g bb tx rw sb dy tn u jk) t) A) [.ref (gA g 58), .int p1, .int p2, .int p3].toArray s 0 0 A) (F0 m 0 ls [])
  generalize hQ : MQ below (va_Qi (fun r (u : Ob) => EE = (r, u)) (fun u t => gC g A (gW g bb tx rw sb dy tn u jk) t) A) [.ref (gA g 58), .int p1, .int p2, .int p3].toArray s 0 0 A = Q
  unfold F_X6_sheet at hE
  refine lv_iload_n hx hb dX6_sheet_0 rfl (lv_at hl 1 rfl) ?_
  refine lv_iconst (v := 0) hx hb dX6_sheet_1 (by decide) ?_
  refine lv_iconst (v := 3) hx hb dX6_sheet_2 (by decide) ?_
  refine g_si (g_runS (n := 3) (rest := []) hx hb hml hown hts hG (c_X6_in p1 0 3) tw_ml_RX6_81 tw_st_X6_in tw_in_RX6 tw_cd_X6_in (by decide +kernel) ⟨rfl, rfl, Nat.le_of_ble_eq_true rfl, Nat.le_of_ble_eq_true rfl⟩ rfl hl.1 rfl (Nat.le_of_ble_eq_true rfl) dX6_sheet_3 ⟨Nat.le_refl _, Nat.le_refl _⟩) hG hA (fun H locs hG => ?_)
  refine lv_if_eq (tgt := 29) hx hb dX6_sheet_6 (by decide) (fun c_6 => ?_) (fun c_6 => ?_)
  · replace hE := (if_pos c_6).symm.trans hE
    refine lv_bipush (v := (-2)) hx hb dX6_sheet_29 (by decide) ?_
    subst hQ
    exact g_iret hx hb hr hlocks hG ((mo) : Ob) rfl hE.symm dX6_sheet_31
  replace hE := (if_neg c_6).symm.trans hE
  have i_6 : 0 ≤ p1.toInt ∧ p1.toInt ≤ 3 := in_f c_6
  refine lv_iload_n hx hb dX6_sheet_9 rfl (lv_at hl 2 rfl) ?_
  refine lv_iconst (v := (-1)) hx hb dX6_sheet_10 (by decide) ?_
  refine lv_iconst (v := 2) hx hb dX6_sheet_11 (by decide) ?_
  refine g_si (g_runS (n := 3) (rest := []) hx hb hml hown hts hG (c_X6_in p2 (-1) 2) tw_ml_RX6_81 tw_st_X6_in tw_in_RX6 tw_cd_X6_in (by decide +kernel) ⟨rfl, rfl, Nat.le_of_ble_eq_true rfl, Nat.le_of_ble_eq_true rfl⟩ rfl hl.1 rfl (Nat.le_of_ble_eq_true rfl) dX6_sheet_12 ⟨Nat.le_refl _, Nat.le_refl _⟩) hG hA (fun H locs hG => ?_)
  refine lv_if_eq (tgt := 29) hx hb dX6_sheet_15 (by decide) (fun c_15 => ?_) (fun c_15 => ?_)
  · replace hE := (if_pos c_15).symm.trans hE
    refine lv_bipush (v := (-2)) hx hb dX6_sheet_29 (by decide) ?_
    subst hQ
    exact g_iret hx hb hr hlocks hG ((mo) : Ob) rfl hE.symm dX6_sheet_31
  replace hE := (if_neg c_15).symm.trans hE
  have i_15 : (-1) ≤ p2.toInt ∧ p2.toInt ≤ 2 := in_f c_15
  refine lv_iload_n hx hb dX6_sheet_18 rfl (lv_at hl 2 rfl) ?_
  refine lv_iconst (v := (-1)) hx hb dX6_sheet_19 (by decide) ?_
  have J32 : ∀  (H : Heap) (locs : List Loc), gS g A s H locs (gW g bb tx rw sb dy tn mo jk) → ∀ ls : Array Slot, lv_has ls 5 [(0, .ref (gA g 58)), (1, .int p1), (2, .int p2), (3, .int p3)] → F_X6_sheet_b32   mo p1 p2 p3 = EE → W p l e (rmL (2)) s m [.ref (gA g 58), .int p1, .int p2, .int p3].toArray below meth c H locs 0 0 Q (F0 m 32 ls []) := by
    intro  H locs hG ls hl  hE
    unfold F_X6_sheet_b32 at hE
    refine lv_iload_n hx hb dX6_sheet_32 rfl (lv_at hl 2 rfl) ?_
    refine lv_iconst (v := (-1)) hx hb dX6_sheet_33 (by decide) ?_
    have J44 : ∀  (H : Heap) (locs : List Loc), gS g A s H locs (gW g bb tx rw sb dy tn mo jk) → ∀ ls : Array Slot, lv_has ls 5 [(0, .ref (gA g 58)), (1, .int p1), (2, .int p2), (3, .int p3)] → F_X6_sheet_b44   mo p1 p2 p3 = EE → W p l e (rmL (2)) s m [.ref (gA g 58), .int p1, .int p2, .int p3].toArray below meth c H locs 0 0 Q (F0 m 44 ls []) := by
      intro  H locs hG ls hl  hE
      unfold F_X6_sheet_b44 at hE
      refine lv_aload_n hx hb dX6_sheet_44 rfl (lv_at hl 0 rfl) ?_
      refine g_get hx hb hts hiX6 hown hG gw_Model rfl 14 (by decide) (index := 37) tw_fl_RX6_37 (v := .ref (gA g 68)) rfl dX6_sheet_45 ?_
      refine lv_iload_n hx hb dX6_sheet_48 rfl (lv_at hl 1 rfl) ?_
      refine lv_iload_n hx hb dX6_sheet_49 rfl (lv_at hl 2 rfl) ?_
      refine g_ist hx hb hG gw_Model_a14 (show vp_in p1 4 from (vp_i (by clear hE; omega) (by clear hE; omega))) gs_Model_a14 dX6_sheet_50 (fun H locs hG => ?_)
      refine lv_aload_n hx hb dX6_sheet_51 rfl (lv_at hl 0 rfl) ?_
      refine g_get hx hb hts hiX6 hown hG gw_Model rfl 15 (by decide) (index := 40) tw_fl_RX6_40 (v := .ref (gA g 69)) rfl dX6_sheet_52 ?_
      refine lv_iload_n hx hb dX6_sheet_55 rfl (lv_at hl 1 rfl) ?_
      refine lv_iload_n hx hb dX6_sheet_56 rfl (lv_at hl 2 rfl) ?_
      refine lv_iconst (v := (-1)) hx hb dX6_sheet_57 (by decide) ?_
      have J66 : ∀ (z2_66 : Int32) (H : Heap) (locs : List Loc), gS g A s H locs (gW g bb tx rw sb dy tn (stA mo 14 p1 p2) jk) → ∀ ls : Array Slot, lv_has ls 5 [(0, .ref (gA g 58)), (1, .int p1)] → F_X6_sheet_b66   (stA mo 14 p1 p2) p1 p1 z2_66 = EE → W p l e (rmL (2)) s m [.ref (gA g 58), .int p1, .int p2, .int p3].toArray below meth c H locs 0 0 Q (F0 m 66 ls [.int z2_66, .int p1, .ref (gA g 69)]) := by
        intro z2_66 H locs hG ls hl  hE
        unfold F_X6_sheet_b66 at hE
        refine g_ist hx hb hG gw_Model_a15 (show vp_in p1 4 from (vp_i (by clear hE; omega) (by clear hE; omega))) gs_Model_a15 dX6_sheet_66 (fun H locs hG => ?_)
        refine lv_iconst (v := 0) hx hb dX6_sheet_67 (by decide) ?_
        refine lv_istore (lv' := [(4, .int 0), (0, .ref (gA g 58)), (1, .int p1)]) hx hb dX6_sheet_68 hl (by decide) rfl (fun ls hl => ?_)
        replace hl := lv_sub hl [1, 2, 0] (l' := [(0, .ref (gA g 58)), (1, .int p1), (4, .int 0)]) rfl
        have L70 : ∀ (n70 : Nat) (x4_70 : Int32) (mo_70 : Ob) (H : Heap) (locs : List Loc), gS g A s H locs (gW g bb tx rw sb dy tn mo_70 jk) → ∀ ls : Array Slot, lv_has ls 5 [(0, .ref (gA g 58)), (1, .int p1), (4, .int x4_70)] → 0 ≤ x4_70.toInt → x4_70.toInt ≤ 40 → 40 < x4_70.toInt + n70 → F_X6_sheet_l70 n70  mo_70 p1 x4_70 = EE → W p l e (rmL (2)) s m [.ref (gA g 58), .int p1, .int p2, .int p3].toArray below meth c H locs 0 0 Q (F0 m 70 ls []) := by
          intro n70
          induction n70 with
          | zero =>
            intro x4_70 mo_70 H locs hG ls hl h0_70 h1_70 hm_70 hE
            clear hE; omega
          | succ n70 ih70 =>
            intro x4_70 mo_70 H locs hG ls hl h0_70 h1_70 hm_70 hE
            unfold F_X6_sheet_l70 at hE
            refine lv_iload hx hb dX6_sheet_70 (lv_at hl 2 rfl) ?_
            refine lv_bipush (v := 40) hx hb dX6_sheet_72 (by decide) ?_
            refine lv_icmp_ge (tgt := 96) hx hb dX6_sheet_74 (by decide) (fun c_74 => ?_) (fun c_74 => ?_)
            · replace hE := (if_pos c_74).symm.trans hE
              have i_74 : 40 ≤ x4_70.toInt := i_le.mp c_74
              refine lv_iconst (v := 1) hx hb dX6_sheet_96 (by decide) ?_
              subst hQ
              exact g_iret hx hb hr hlocks hG ((mo_70) : Ob) rfl hE.symm dX6_sheet_97
            replace hE := (if_neg c_74).symm.trans hE
            have i_74 : x4_70.toInt < 40 := i_nle c_74
            refine lv_aload_n hx hb dX6_sheet_77 rfl (lv_at hl 0 rfl) ?_
            refine g_get hx hb hts hiX6 hown hG gw_Model rfl 16 (by decide) (index := 43) tw_fl_RX6_43 (v := .ref (gA g 70)) rfl dX6_sheet_78 ?_
            refine lv_bipush (v := 40) hx hb dX6_sheet_81 (by decide) ?_
            refine lv_iload_n hx hb dX6_sheet_83 rfl (lv_at hl 1 rfl) ?_
            refine lv_imul hx hb dX6_sheet_84 ?_
            refine lv_iload hx hb dX6_sheet_85 (lv_at hl 2 rfl) ?_
            refine lv_iadd hx hb dX6_sheet_87 ?_
            refine lv_iconst (v := 0) hx hb dX6_sheet_88 (by decide) ?_
            have e1 : (40 * p1).toInt = 40 * p1.toInt := mulL (k := 40) (by decide +kernel) (by clear hE; omega) (by clear hE; omega)
            have e2 : ((40 * p1) + x4_70).toInt = (40 * p1).toInt + x4_70.toInt := fb_addI (by clear hE; omega) (by clear hE; omega)
            refine g_ist hx hb hG gw_Model_a16 (show vp_in ((40 * p1) + x4_70) 160 from (vp_i (by clear hE; omega) (by clear hE; omega))) gs_Model_a16 dX6_sheet_89 (fun H locs hG => ?_)
            refine lv_iinc (v := (x4_70 + 1)) (lv' := [(4, .int (x4_70 + 1)), (0, .ref (gA g 58)), (1, .int p1)]) hx hb dX6_sheet_90 hl (k := 2) rfl rfl (by decide) rfl (fun ls hl => ?_)
            replace hl := lv_sub hl [1, 2, 0] (l' := [(0, .ref (gA g 58)), (1, .int p1), (4, .int (x4_70 + 1))]) rfl
            refine lv_goto (tgt := 70) hx hb dX6_sheet_93 (by decide) ?_
            have e3 : (x4_70 + 1).toInt = x4_70.toInt + 1 := addL (k := 1) (by decide +kernel) (by clear hE; omega) (by clear hE; omega)
            exact ih70 (x4_70 + 1) (stA mo_70 16 ((40 * p1) + x4_70) 0) _ _ hG _ (lv_sub hl [0, 1, 2] rfl) (by clear hE; omega) (by clear hE; omega) (by clear hE; omega) hE
        exact L70 41 0 (stA (stA mo 14 p1 p2) 15 p1 z2_66) _ _ hG _ (lv_sub hl [0, 1, 2] rfl) (by decide) (by decide) (by decide) hE
      refine lv_icmp_ne (tgt := 65) hx hb dX6_sheet_58 (by decide) (fun c_58 => ?_) (fun c_58 => ?_)
      · replace hE := (if_neg c_58).symm.trans hE
        have i_58 : p2.toInt ≠ (-1) := fun h => c_58 (Int32.toInt_inj.mp h)
        refine lv_iload_n hx hb dX6_sheet_65 rfl (lv_at hl 3 rfl) ?_
        exact J66 p3 _ _ hG _ (lv_sub hl [0, 1] rfl) hE
      replace hE := (if_pos c_58).symm.trans hE
      have i_58 : p2.toInt = (-1) := congrArg Int32.toInt c_58
      refine lv_iconst (v := 0) hx hb dX6_sheet_61 (by decide) ?_
      refine lv_goto (tgt := 66) hx hb dX6_sheet_62 (by decide) ?_
      exact J66 0 _ _ hG _ (lv_sub hl [0, 1] rfl) hE
    refine lv_icmp_eq (tgt := 44) hx hb dX6_sheet_34 (by decide) (fun c_34 => ?_) (fun c_34 => ?_)
    · replace hE := (if_pos c_34).symm.trans hE
      have i_34 : p2.toInt = (-1) := congrArg Int32.toInt c_34
      exact J44 _ _ hG _ (lv_sub hl [0, 1, 2, 3] rfl) hE
    replace hE := (if_neg c_34).symm.trans hE
    have i_34 : p2.toInt ≠ (-1) := fun h => c_34 (Int32.toInt_inj.mp h)
    refine lv_iload_n hx hb dX6_sheet_37 rfl (lv_at hl 3 rfl) ?_
    refine lv_if_ge (tgt := 44) hx hb dX6_sheet_38 (by decide) (fun c_38 => ?_) (fun c_38 => ?_)
    · replace hE := (if_pos c_38).symm.trans hE
      have i_38 : 0 ≤ p3.toInt := i_le.mp c_38
      exact J44 _ _ hG _ (lv_sub hl [0, 1, 2, 3] rfl) hE
    replace hE := (if_neg c_38).symm.trans hE
    have i_38 : p3.toInt < 0 := i_nle c_38
    refine lv_bipush (v := (-14)) hx hb dX6_sheet_41 (by decide) ?_
    subst hQ
    exact g_iret hx hb hr hlocks hG ((mo) : Ob) rfl hE.symm dX6_sheet_43
  refine lv_icmp_eq (tgt := 32) hx hb dX6_sheet_20 (by decide) (fun c_20 => ?_) (fun c_20 => ?_)
  · replace hE := (if_pos c_20).symm.trans hE
    have i_20 : p2.toInt = (-1) := congrArg Int32.toInt c_20
    exact J32 _ _ hG _ (lv_sub hl [0, 1, 2, 3] rfl) hE
  replace hE := (if_neg c_20).symm.trans hE
  have i_20 : p2.toInt ≠ (-1) := fun h => c_20 (Int32.toInt_inj.mp h)
  refine lv_iload_n hx hb dX6_sheet_23 rfl (lv_at hl 3 rfl) ?_
  refine lv_bipush (v := 40) hx hb dX6_sheet_24 (by decide) ?_
  refine lv_icmp_le (tgt := 32) hx hb dX6_sheet_26 (by decide) (fun c_26 => ?_) (fun c_26 => ?_)
  · replace hE := (if_pos c_26).symm.trans hE
    have i_26 : p3.toInt ≤ 40 := i_le.mp c_26
    exact J32 _ _ hG _ (lv_sub hl [0, 1, 2, 3] rfl) hE
  replace hE := (if_neg c_26).symm.trans hE
  have i_26 : 40 < p3.toInt := i_nle c_26
  refine lv_bipush (v := (-2)) hx hb dX6_sheet_29 (by decide) ?_
  subst hQ
  exact g_iret hx hb hr hlocks hG ((mo) : Ob) rfl hE.symm dX6_sheet_31
