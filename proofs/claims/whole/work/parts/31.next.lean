def F_X6_next_b390 (mo : Ob) (z1 : Int32) : Ob :=
  (setS (setS mo 20 z1) 18 ((mo.1 18) + 1))
def F_X6_next_b379 (mo : Ob) (x1 : Int32) (z0 : Int32) : Ob :=
  (if z0 = 0 then (F_X6_next_b390  mo (-1)) else (F_X6_next_b390  mo x1))
def F_X6_next_b374 (mo : Ob) (x1 : Int32) : Ob :=
  (F_X6_next_b379  mo x1 1)
def F_X6_next_b320 (mo : Ob) (z1 : Int32) : Ob :=
  (setS mo 20 z1)
def F_X6_next_b309 (mo : Ob) (x2 : Int32) : Ob :=
  (if x2 ≤ 4 then (F_X6_next_b320  mo 1) else (F_X6_next_b320  mo (-1)))
def F_X6_next_b290 (K230 : Ob → Int32 → Ob) (mo : Ob) (x2 : Int32) (z1 : Int32) : Ob :=
  (K230 (setS (setS mo 21 z1) 18 ((mo.1 18) + 1)) (x2 + 1))
def F_X6_next_l230 : Nat → Ob → Int32 → Ob
  | 0, mo, _ => mo
  | n + 1, mo, x2 =>
    (if (mo.1 6) ≤ (mo.1 18) then (F_X6_next_b309  mo x2) else (if (F_X6_in ((mo.2 5) (Int32.toNatClampNeg (mo.1 18))) 48 57) = 0 then (F_X6_next_b309  mo x2) else (if 4 ≤ x2 then (F_X6_next_b290 (F_X6_next_l230 n ) mo x2 0) else (F_X6_next_b290 (F_X6_next_l230 n ) mo x2 (((10 * (mo.1 21)) + ((mo.2 5) (Int32.toNatClampNeg (mo.1 18)))) - 48)))))
def F_X6_next_b211 (mo : Ob) (z1 : Int32) : Ob :=
  (setS mo 21 z1)
def F_X6_next_b195 (mo : Ob) (x2 : Int32) (z1 : Int32) : Ob :=
  (if 3 ≤ x2 then (F_X6_next_b211  (setS mo 20 z1) (x2 - 3)) else (F_X6_next_b211  (setS mo 20 z1) x2))
def F_X6_next_b146 (mo : Ob) : Ob :=
  (if 3 ≤ (F_X6_wordFrom mo (mo.1 19) (mo.1 18)) then (if 9 ≤ (F_X6_wordFrom mo (mo.1 19) (mo.1 18)) then (if (F_X6_wordFrom mo (mo.1 19) (mo.1 18)) = 12 then (F_X6_next_b195  mo (F_X6_wordFrom mo (mo.1 19) (mo.1 18)) (-1)) else (F_X6_next_b195  mo (F_X6_wordFrom mo (mo.1 19) (mo.1 18)) ((4 + (F_X6_wordFrom mo (mo.1 19) (mo.1 18))) - 9))) else (F_X6_next_b195  mo (F_X6_wordFrom mo (mo.1 19) (mo.1 18)) 2)) else (F_X6_next_b195  mo (F_X6_wordFrom mo (mo.1 19) (mo.1 18)) 3))
def F_X6_next_l103 : Nat → Ob → Ob
  | 0, mo => mo
  | n + 1, mo =>
    (if (mo.1 6) ≤ (mo.1 18) then (F_X6_next_b146  mo) else (if (F_X6_in ((mo.2 5) (Int32.toNatClampNeg (mo.1 18))) 97 122) = 0 then (F_X6_next_b146  mo) else ((F_X6_next_l103 n ) (setS mo 18 ((mo.1 18) + 1)))))
def F_X6_next_b52 (mo : Ob) : Ob :=
  (if (mo.1 18) = (mo.1 6) then (setS (setS (setS mo 19 (mo.1 18)) 20 0) 21 0) else (if (F_X6_in ((mo.2 5) (Int32.toNatClampNeg (mo.1 18))) 97 122) = 0 then (if (F_X6_in ((mo.2 5) (Int32.toNatClampNeg (mo.1 18))) 48 57) = 0 then (if ((mo.2 5) (Int32.toNatClampNeg (mo.1 18))) = 40 then (F_X6_next_b374  (setS (setS (setS mo 19 (mo.1 18)) 20 0) 21 0) ((mo.2 5) (Int32.toNatClampNeg (mo.1 18)))) else (if ((mo.2 5) (Int32.toNatClampNeg (mo.1 18))) = 41 then (F_X6_next_b374  (setS (setS (setS mo 19 (mo.1 18)) 20 0) 21 0) ((mo.2 5) (Int32.toNatClampNeg (mo.1 18)))) else (if ((mo.2 5) (Int32.toNatClampNeg (mo.1 18))) = 59 then (F_X6_next_b374  (setS (setS (setS mo 19 (mo.1 18)) 20 0) 21 0) ((mo.2 5) (Int32.toNatClampNeg (mo.1 18)))) else (if ((mo.2 5) (Int32.toNatClampNeg (mo.1 18))) = 43 then (F_X6_next_b374  (setS (setS (setS mo 19 (mo.1 18)) 20 0) 21 0) ((mo.2 5) (Int32.toNatClampNeg (mo.1 18)))) else (if ((mo.2 5) (Int32.toNatClampNeg (mo.1 18))) = 45 then (F_X6_next_b374  (setS (setS (setS mo 19 (mo.1 18)) 20 0) 21 0) ((mo.2 5) (Int32.toNatClampNeg (mo.1 18)))) else (if ((mo.2 5) (Int32.toNatClampNeg (mo.1 18))) = 42 then (F_X6_next_b374  (setS (setS (setS mo 19 (mo.1 18)) 20 0) 21 0) ((mo.2 5) (Int32.toNatClampNeg (mo.1 18)))) else (if ((mo.2 5) (Int32.toNatClampNeg (mo.1 18))) = 60 then (F_X6_next_b374  (setS (setS (setS mo 19 (mo.1 18)) 20 0) 21 0) ((mo.2 5) (Int32.toNatClampNeg (mo.1 18)))) else (if ((mo.2 5) (Int32.toNatClampNeg (mo.1 18))) = 61 then (F_X6_next_b374  (setS (setS (setS mo 19 (mo.1 18)) 20 0) 21 0) ((mo.2 5) (Int32.toNatClampNeg (mo.1 18)))) else (F_X6_next_b379  (setS (setS (setS mo 19 (mo.1 18)) 20 0) 21 0) ((mo.2 5) (Int32.toNatClampNeg (mo.1 18))) 0))))))))) else (F_X6_next_l230 161  (setS (setS (setS mo 19 (mo.1 18)) 20 0) 21 0) 0)) else (F_X6_next_l103 161  (setS (setS (setS mo 19 (mo.1 18)) 20 0) 21 0))))
def F_X6_next_b39 (K0 : Ob → Ob) (mo : Ob) : Ob :=
  (K0 (setS mo 18 ((mo.1 18) + 1)))
def F_X6_next_l0 : Nat → Ob → Ob
  | 0, mo => mo
  | n + 1, mo =>
    (if (mo.1 6) ≤ (mo.1 18) then (F_X6_next_b52  mo) else (if ((mo.2 5) (Int32.toNatClampNeg (mo.1 18))) = 32 then (F_X6_next_b39 (F_X6_next_l0 n ) mo) else (if ((mo.2 5) (Int32.toNatClampNeg (mo.1 18))) = 10 then (F_X6_next_b39 (F_X6_next_l0 n ) mo) else (F_X6_next_b52  mo))))
def F_X6_next (mo : Ob) : Ob :=
  (F_X6_next_l0 161  mo)
set_option maxHeartbeats 4000000 in
set_option maxRecDepth 100000 in
theorem c_X6_next {l : Launch} {g : GG} {sz : Nat} {bb : Ob} {tx rw : Nat → Ob} {sb dy : Ob} {tn : Nat → Ob} {mo : Ob} {jk : Nat → Nat → Int32}   (hn : nOK mo) : Met l yX6_next (Cond.code yX6_next cX6_next 3 none :: TT) (rmL (2)) (va_Pc [.ref (gA g 58)] (gB g sz (gW g bb tx rw sb dy tn mo jk))) (va_Qv (fun (u : Ob) => (F_X6_next mo) = (u)) (fun u t => gC g (va_A (gW g bb tx rw sb dy tn mo jk) sz) (gW g bb tx rw sb dy tn u jk) t) (va_A (gW g bb tx rw sb dy tn mo jk) sz)) 0 0 (va_A (gW g bb tx rw sb dy tn mo jk) sz) := by
  generalize hE : F_X6_next mo = EE
  refine g_of (Qf := fun A => (va_Qv (fun (u : Ob) => EE = (u)) (fun u t => gC g A (gW g bb tx rw sb dy tn u jk) t) A)) (cc := cX6_next) (maxL := 3) (ret := none) (by decide) (Nat.le_of_ble_eq_true rfl) ?_
  intro p e s m below meth c A ls hx hb hml hr hlocks hts hown hA hG hl
  replace hown : s.vm.findClass RX6 = some m.cls := hown
  replace hl : lv_has ls 3 [(0, .ref (gA g 58))] := hl
  show W p l e (rmL (2)) s m [.ref (gA g 58)].toArray below meth c s.heap [] 0 0 (MQ below (va_Qv (fun (u : Ob) => EE = (u)) (fun u t => gC g A (gW g bb tx rw sb dy tn u jk) t) A) [.ref (gA g 58)].toArray s 0 0 A) (F0 m 0 ls [])
  generalize hQ : MQ below (va_Qv (fun (u : Ob) => EE = (u)) (fun u t => gC g A (gW g bb tx rw sb dy tn u jk) t) A) [.ref (gA g 58)].toArray s 0 0 A = Q
  obtain ⟨hn0, hn1, hn2⟩ := hn
  unfold F_X6_next at hE
  have L0 : ∀ (n0 : Nat) (mo_0 : Ob) (H : Heap) (locs : List Loc), gS g A s H locs (gW g bb tx rw sb dy tn mo_0 jk) → ∀ ls : Array Slot, lv_has ls 3 [(0, .ref (gA g 58))] → 0 ≤ (mo_0.1 18).toInt → (mo_0.1 18).toInt ≤ (mo_0.1 6).toInt → (mo_0.1 6).toInt ≤ 160 → 160 < (mo_0.1 18).toInt + n0 → F_X6_next_l0 n0  mo_0 = EE → W p l e (rmL (2)) s m [.ref (gA g 58)].toArray below meth c H locs 0 0 Q (F0 m 0 ls []) := by
    intro n0
    induction n0 with
    | zero =>
      intro mo_0 H locs hG ls hl h0_0 h1_0 h2_0 hm_0 hE
      clear hE; omega
    | succ n0 ih0 =>
      intro mo_0 H locs hG ls hl h0_0 h1_0 h2_0 hm_0 hE
      unfold F_X6_next_l0 at hE
      refine lv_aload_n hx hb dX6_next_0 rfl (lv_at hl 0 rfl) ?_
      refine g_get hx hb hts hiX6 hown hG gw_Model rfl 18 (by decide) (index := 95) tw_fl_RX6_95 (v := .int (mo_0.1 18)) rfl dX6_next_1 ?_
      refine lv_aload_n hx hb dX6_next_4 rfl (lv_at hl 0 rfl) ?_
      refine g_get hx hb hts hiX6 hown hG gw_Model rfl 6 (by decide) (index := 70) tw_fl_RX6_70 (v := .int (mo_0.1 6)) rfl dX6_next_5 ?_
      have J52 : ∀  (H : Heap) (locs : List Loc), gS g A s H locs (gW g bb tx rw sb dy tn mo_0 jk) → ∀ ls : Array Slot, lv_has ls 3 [(0, .ref (gA g 58))] → F_X6_next_b52   mo_0 = EE → W p l e (rmL (2)) s m [.ref (gA g 58)].toArray below meth c H locs 0 0 Q (F0 m 52 ls []) := by
        intro  H locs hG ls hl  hE
        unfold F_X6_next_b52 at hE
        refine lv_aload_n hx hb dX6_next_52 rfl (lv_at hl 0 rfl) ?_
        refine lv_aload_n hx hb dX6_next_53 rfl (lv_at hl 0 rfl) ?_
        refine g_get hx hb hts hiX6 hown hG gw_Model rfl 18 (by decide) (index := 95) tw_fl_RX6_95 (v := .int (mo_0.1 18)) rfl dX6_next_54 ?_
        refine g_put hx hb hts hiX6 tyX6 tyX6_ok nmX6 hown hG gw_Model rfl 19 (by decide) (index := 98) tw_fl_RX6_98 rfl rfl rfl (Nat.le_of_ble_eq_true rfl) gs_Model_f19 dX6_next_57 (fun H locs hG => ?_)
        refine lv_aload_n hx hb dX6_next_60 rfl (lv_at hl 0 rfl) ?_
        refine lv_iconst (v := 0) hx hb dX6_next_61 (by decide) ?_
        refine g_put hx hb hts hiX6 tyX6 tyX6_ok nmX6 hown hG gw_Model rfl 20 (by decide) (index := 101) tw_fl_RX6_101 rfl rfl rfl (Nat.le_of_ble_eq_true rfl) gs_Model_f20 dX6_next_62 (fun H locs hG => ?_)
        refine lv_aload_n hx hb dX6_next_65 rfl (lv_at hl 0 rfl) ?_
        refine lv_iconst (v := 0) hx hb dX6_next_66 (by decide) ?_
        refine g_put hx hb hts hiX6 tyX6 tyX6_ok nmX6 hown hG gw_Model rfl 21 (by decide) (index := 104) tw_fl_RX6_104 rfl rfl rfl (Nat.le_of_ble_eq_true rfl) gs_Model_f21 dX6_next_67 (fun H locs hG => ?_)
        refine lv_aload_n hx hb dX6_next_70 rfl (lv_at hl 0 rfl) ?_
        refine g_get hx hb hts hiX6 hown hG gw_Model rfl 18 (by decide) (index := 95) tw_fl_RX6_95 (v := .int (mo_0.1 18)) rfl dX6_next_71 ?_
        refine lv_aload_n hx hb dX6_next_74 rfl (lv_at hl 0 rfl) ?_
        refine g_get hx hb hts hiX6 hown hG gw_Model rfl 6 (by decide) (index := 70) tw_fl_RX6_70 (v := .int (mo_0.1 6)) rfl dX6_next_75 ?_
        refine lv_icmp_ne (tgt := 82) hx hb dX6_next_78 (by decide) (fun c_78 => ?_) (fun c_78 => ?_)
        · replace hE := (if_neg c_78).symm.trans hE
          have i_78 : (mo_0.1 18).toInt ≠ (mo_0.1 6).toInt := fun h => c_78 (Int32.toInt_inj.mp h)
          refine lv_aload_n hx hb dX6_next_82 rfl (lv_at hl 0 rfl) ?_
          refine g_get hx hb hts hiX6 hown hG gw_Model rfl 5 (by decide) (index := 22) tw_fl_RX6_22 (v := .ref (gA g 63)) rfl dX6_next_83 ?_
          refine lv_aload_n hx hb dX6_next_86 rfl (lv_at hl 0 rfl) ?_
          refine g_get hx hb hts hiX6 hown hG gw_Model rfl 18 (by decide) (index := 95) tw_fl_RX6_95 (v := .int (mo_0.1 18)) rfl dX6_next_87 ?_
          refine g_ild (f := (mo_0.2 5)) hx hb hG gw_Model_a5 (show vp_in (mo_0.1 18) 160 from (vp_i (by clear hE; omega) (by clear hE; omega))) dX6_next_90 ?_
          refine lv_istore_n (lv' := [(1, .int ((mo_0.2 5) (Int32.toNatClampNeg (mo_0.1 18)))), (0, .ref (gA g 58))]) hx hb dX6_next_91 rfl hl (by decide) rfl (fun ls hl => ?_)
          replace hl := lv_sub hl [1, 0] (l' := [(0, .ref (gA g 58)), (1, .int ((mo_0.2 5) (Int32.toNatClampNeg (mo_0.1 18))))]) rfl
          refine lv_iload_n hx hb dX6_next_92 rfl (lv_at hl 1 rfl) ?_
          refine lv_bipush (v := 97) hx hb dX6_next_93 (by decide) ?_
          refine lv_bipush (v := 122) hx hb dX6_next_95 (by decide) ?_
          refine g_si (g_runS (n := 3) (rest := []) hx hb hml hown hts hG (c_X6_in ((mo_0.2 5) (Int32.toNatClampNeg (mo_0.1 18))) 97 122) tw_ml_RX6_81 tw_st_X6_in tw_in_RX6 tw_cd_X6_in (by decide +kernel) ⟨rfl, rfl, Nat.le_of_ble_eq_true rfl, Nat.le_of_ble_eq_true rfl⟩ rfl hl.1 rfl (Nat.le_of_ble_eq_true rfl) dX6_next_97 ⟨Nat.le_refl _, Nat.le_refl _⟩) hG hA (fun H locs hG => ?_)
          have L103 : ∀ (n103 : Nat) (mo_103 : Ob) (H : Heap) (locs : List Loc), gS g A s H locs (gW g bb tx rw sb dy tn mo_103 jk) → ∀ ls : Array Slot, lv_has ls 3 [(0, .ref (gA g 58))] → 0 ≤ (mo_103.1 18).toInt → (mo_103.1 18).toInt ≤ (mo_103.1 6).toInt → (mo_103.1 6).toInt ≤ 160 → 160 < (mo_103.1 18).toInt + n103 → 0 ≤ (mo_103.1 19).toInt → (mo_103.1 19).toInt ≤ (mo_103.1 18).toInt → F_X6_next_l103 n103  mo_103 = EE → W p l e (rmL (2)) s m [.ref (gA g 58)].toArray below meth c H locs 0 0 Q (F0 m 103 ls []) := by
            intro n103
            induction n103 with
            | zero =>
              intro mo_103 H locs hG ls hl h0_103 h1_103 h2_103 hm_103 hb0 hb1 hE
              clear hE; omega
            | succ n103 ih103 =>
              intro mo_103 H locs hG ls hl h0_103 h1_103 h2_103 hm_103 hb0 hb1 hE
              unfold F_X6_next_l103 at hE
              refine lv_aload_n hx hb dX6_next_103 rfl (lv_at hl 0 rfl) ?_
              refine g_get hx hb hts hiX6 hown hG gw_Model rfl 18 (by decide) (index := 95) tw_fl_RX6_95 (v := .int (mo_103.1 18)) rfl dX6_next_104 ?_
              refine lv_aload_n hx hb dX6_next_107 rfl (lv_at hl 0 rfl) ?_
              refine g_get hx hb hts hiX6 hown hG gw_Model rfl 6 (by decide) (index := 70) tw_fl_RX6_70 (v := .int (mo_103.1 6)) rfl dX6_next_108 ?_
              have J146 : ∀  (H : Heap) (locs : List Loc), gS g A s H locs (gW g bb tx rw sb dy tn mo_103 jk) → ∀ ls : Array Slot, lv_has ls 3 [(0, .ref (gA g 58))] → F_X6_next_b146   mo_103 = EE → W p l e (rmL (2)) s m [.ref (gA g 58)].toArray below meth c H locs 0 0 Q (F0 m 146 ls []) := by
                intro  H locs hG ls hl  hE
                unfold F_X6_next_b146 at hE
                refine lv_aload_n hx hb dX6_next_146 rfl (lv_at hl 0 rfl) ?_
                refine lv_aload_n hx hb dX6_next_147 rfl (lv_at hl 0 rfl) ?_
                refine g_get hx hb hts hiX6 hown hG gw_Model rfl 19 (by decide) (index := 98) tw_fl_RX6_98 (v := .int (mo_103.1 19)) rfl dX6_next_148 ?_
                refine lv_aload_n hx hb dX6_next_151 rfl (lv_at hl 0 rfl) ?_
                refine g_get hx hb hts hiX6 hown hG gw_Model rfl 18 (by decide) (index := 95) tw_fl_RX6_95 (v := .int (mo_103.1 18)) rfl dX6_next_152 ?_
                refine g_ci (g_runV (n := 2) (rest := []) hx hb hml hown hts hG (c_X6_wordFrom (mo_103.1 19) (mo_103.1 18) (by clear hE; omega)) tw_ml_RX6_107 tw_im_X6_wordFrom tw_se_X6_wordFrom tw_in_RX6 tw_cd_X6_wordFrom (by decide +kernel) ⟨rfl, rfl, Nat.le_of_ble_eq_true rfl, Nat.le_of_ble_eq_true rfl⟩ gw_Model rfl rfl hl.1 rfl (Nat.le_of_ble_eq_true rfl) dX6_next_155 ⟨Nat.le_refl _, Nat.le_refl _⟩) hG hA (fun r _ H locs hp hG => ?_)
                subst hp
                replace hG : gS g A s H locs (gW g bb tx rw sb dy tn mo_103 jk) := hG
                refine lv_istore_n (lv' := [(2, .int (F_X6_wordFrom mo_103 (mo_103.1 19) (mo_103.1 18))), (0, .ref (gA g 58))]) hx hb dX6_next_158 rfl hl (by decide) rfl (fun ls hl => ?_)
                replace hl := lv_sub hl [1, 0] (l' := [(0, .ref (gA g 58)), (2, .int (F_X6_wordFrom mo_103 (mo_103.1 19) (mo_103.1 18)))]) rfl
                refine lv_aload_n hx hb dX6_next_159 rfl (lv_at hl 0 rfl) ?_
                refine lv_iload_n hx hb dX6_next_160 rfl (lv_at hl 1 rfl) ?_
                refine lv_iconst (v := 3) hx hb dX6_next_161 (by decide) ?_
                have J195 : ∀ (z1_195 : Int32) (H : Heap) (locs : List Loc), gS g A s H locs (gW g bb tx rw sb dy tn mo_103 jk) → ∀ ls : Array Slot, lv_has ls 3 [(0, .ref (gA g 58)), (2, .int (F_X6_wordFrom mo_103 (mo_103.1 19) (mo_103.1 18)))] → F_X6_next_b195   mo_103 (F_X6_wordFrom mo_103 (mo_103.1 19) (mo_103.1 18)) z1_195 = EE → W p l e (rmL (2)) s m [.ref (gA g 58)].toArray below meth c H locs 0 0 Q (F0 m 195 ls [.int z1_195, .ref (gA g 58)]) := by
                  intro z1_195 H locs hG ls hl  hE
                  unfold F_X6_next_b195 at hE
                  refine g_put hx hb hts hiX6 tyX6 tyX6_ok nmX6 hown hG gw_Model rfl 20 (by decide) (index := 101) tw_fl_RX6_101 rfl rfl rfl (Nat.le_of_ble_eq_true rfl) gs_Model_f20 dX6_next_195 (fun H locs hG => ?_)
                  refine lv_aload_n hx hb dX6_next_198 rfl (lv_at hl 0 rfl) ?_
                  refine lv_iload_n hx hb dX6_next_199 rfl (lv_at hl 1 rfl) ?_
                  refine lv_iconst (v := 3) hx hb dX6_next_200 (by decide) ?_
                  have J211 : ∀ (z1_211 : Int32) (H : Heap) (locs : List Loc), gS g A s H locs (gW g bb tx rw sb dy tn (setS mo_103 20 z1_195) jk) → ∀ ls : Array Slot, lv_has ls 3 [] → F_X6_next_b211   (setS mo_103 20 z1_195) z1_211 = EE → W p l e (rmL (2)) s m [.ref (gA g 58)].toArray below meth c H locs 0 0 Q (F0 m 211 ls [.int z1_211, .ref (gA g 58)]) := by
                    intro z1_211 H locs hG ls hl  hE
                    unfold F_X6_next_b211 at hE
                    refine g_put hx hb hts hiX6 tyX6 tyX6_ok nmX6 hown hG gw_Model rfl 21 (by decide) (index := 104) tw_fl_RX6_104 rfl rfl rfl (Nat.le_of_ble_eq_true rfl) gs_Model_f21 dX6_next_211 (fun H locs hG => ?_)
                    refine lv_goto (tgt := 403) hx hb dX6_next_214 (by decide) ?_
                    subst hQ
                    exact g_vret hx hb hr hlocks hG (((setS (setS mo_103 20 z1_195) 21 z1_211)) : Ob) rfl hE.symm dX6_next_403
                  refine lv_icmp_ge (tgt := 208) hx hb dX6_next_201 (by decide) (fun c_201 => ?_) (fun c_201 => ?_)
                  · replace hE := (if_pos c_201).symm.trans hE
                    refine lv_iload_n hx hb dX6_next_208 rfl (lv_at hl 1 rfl) ?_
                    refine lv_iconst (v := 3) hx hb dX6_next_209 (by decide) ?_
                    refine lv_isub hx hb dX6_next_210 ?_
                    exact J211 ((F_X6_wordFrom mo_103 (mo_103.1 19) (mo_103.1 18)) - 3) _ _ hG _ (lv_sub hl [] rfl) hE
                  replace hE := (if_neg c_201).symm.trans hE
                  refine lv_iload_n hx hb dX6_next_204 rfl (lv_at hl 1 rfl) ?_
                  refine lv_goto (tgt := 211) hx hb dX6_next_205 (by decide) ?_
                  exact J211 (F_X6_wordFrom mo_103 (mo_103.1 19) (mo_103.1 18)) _ _ hG _ (lv_sub hl [] rfl) hE
                refine lv_icmp_ge (tgt := 169) hx hb dX6_next_162 (by decide) (fun c_162 => ?_) (fun c_162 => ?_)
                · replace hE := (if_pos c_162).symm.trans hE
                  refine lv_iload_n hx hb dX6_next_169 rfl (lv_at hl 1 rfl) ?_
                  refine lv_bipush (v := 9) hx hb dX6_next_170 (by decide) ?_
                  refine lv_icmp_ge (tgt := 179) hx hb dX6_next_172 (by decide) (fun c_172 => ?_) (fun c_172 => ?_)
                  · replace hE := (if_pos c_172).symm.trans hE
                    refine lv_iload_n hx hb dX6_next_179 rfl (lv_at hl 1 rfl) ?_
                    refine lv_bipush (v := 12) hx hb dX6_next_180 (by decide) ?_
                    refine lv_icmp_ne (tgt := 189) hx hb dX6_next_182 (by decide) (fun c_182 => ?_) (fun c_182 => ?_)
                    · replace hE := (if_neg c_182).symm.trans hE
                      refine lv_iconst (v := 4) hx hb dX6_next_189 (by decide) ?_
                      refine lv_iload_n hx hb dX6_next_190 rfl (lv_at hl 1 rfl) ?_
                      refine lv_iadd hx hb dX6_next_191 ?_
                      refine lv_bipush (v := 9) hx hb dX6_next_192 (by decide) ?_
                      refine lv_isub hx hb dX6_next_194 ?_
                      exact J195 ((4 + (F_X6_wordFrom mo_103 (mo_103.1 19) (mo_103.1 18))) - 9) _ _ hG _ (lv_sub hl [0, 1] rfl) hE
                    replace hE := (if_pos c_182).symm.trans hE
                    refine lv_iconst (v := (-1)) hx hb dX6_next_185 (by decide) ?_
                    refine lv_goto (tgt := 195) hx hb dX6_next_186 (by decide) ?_
                    exact J195 (-1) _ _ hG _ (lv_sub hl [0, 1] rfl) hE
                  replace hE := (if_neg c_172).symm.trans hE
                  refine lv_iconst (v := 2) hx hb dX6_next_175 (by decide) ?_
                  refine lv_goto (tgt := 195) hx hb dX6_next_176 (by decide) ?_
                  exact J195 2 _ _ hG _ (lv_sub hl [0, 1] rfl) hE
                replace hE := (if_neg c_162).symm.trans hE
                refine lv_iconst (v := 3) hx hb dX6_next_165 (by decide) ?_
                refine lv_goto (tgt := 195) hx hb dX6_next_166 (by decide) ?_
                exact J195 3 _ _ hG _ (lv_sub hl [0, 1] rfl) hE
              refine lv_icmp_ge (tgt := 146) hx hb dX6_next_111 (by decide) (fun c_111 => ?_) (fun c_111 => ?_)
              · replace hE := (if_pos c_111).symm.trans hE
                have i_111 : (mo_103.1 6).toInt ≤ (mo_103.1 18).toInt := i_le.mp c_111
                exact J146 _ _ hG _ (lv_sub hl [0] rfl) hE
              replace hE := (if_neg c_111).symm.trans hE
              have i_111 : (mo_103.1 18).toInt < (mo_103.1 6).toInt := i_nle c_111
              refine lv_aload_n hx hb dX6_next_114 rfl (lv_at hl 0 rfl) ?_
              refine g_get hx hb hts hiX6 hown hG gw_Model rfl 5 (by decide) (index := 22) tw_fl_RX6_22 (v := .ref (gA g 63)) rfl dX6_next_115 ?_
              refine lv_aload_n hx hb dX6_next_118 rfl (lv_at hl 0 rfl) ?_
              refine g_get hx hb hts hiX6 hown hG gw_Model rfl 18 (by decide) (index := 95) tw_fl_RX6_95 (v := .int (mo_103.1 18)) rfl dX6_next_119 ?_
              refine g_ild (f := (mo_103.2 5)) hx hb hG gw_Model_a5 (show vp_in (mo_103.1 18) 160 from (vp_i (by clear hE; omega) (by clear hE; omega))) dX6_next_122 ?_
              refine lv_bipush (v := 97) hx hb dX6_next_123 (by decide) ?_
              refine lv_bipush (v := 122) hx hb dX6_next_125 (by decide) ?_
              refine g_si (g_runS (n := 3) (rest := []) hx hb hml hown hts hG (c_X6_in ((mo_103.2 5) (Int32.toNatClampNeg (mo_103.1 18))) 97 122) tw_ml_RX6_81 tw_st_X6_in tw_in_RX6 tw_cd_X6_in (by decide +kernel) ⟨rfl, rfl, Nat.le_of_ble_eq_true rfl, Nat.le_of_ble_eq_true rfl⟩ rfl hl.1 rfl (Nat.le_of_ble_eq_true rfl) dX6_next_127 ⟨Nat.le_refl _, Nat.le_refl _⟩) hG hA (fun H locs hG => ?_)
              refine lv_if_eq (tgt := 146) hx hb dX6_next_130 (by decide) (fun c_130 => ?_) (fun c_130 => ?_)
              · replace hE := (if_pos c_130).symm.trans hE
                exact J146 _ _ hG _ (lv_sub hl [0] rfl) hE
              replace hE := (if_neg c_130).symm.trans hE
              have i_130 : 97 ≤ ((mo_103.2 5) (Int32.toNatClampNeg (mo_103.1 18))).toInt ∧ ((mo_103.2 5) (Int32.toNatClampNeg (mo_103.1 18))).toInt ≤ 122 := in_f c_130
              refine lv_aload_n hx hb dX6_next_133 rfl (lv_at hl 0 rfl) ?_
              refine lv_dup hx hb dX6_next_134 rfl ?_
              refine g_get hx hb hts hiX6 hown hG gw_Model rfl 18 (by decide) (index := 95) tw_fl_RX6_95 (v := .int (mo_103.1 18)) rfl dX6_next_135 ?_
              refine lv_iconst (v := 1) hx hb dX6_next_138 (by decide) ?_
              refine lv_iadd hx hb dX6_next_139 ?_
              refine g_put hx hb hts hiX6 tyX6 tyX6_ok nmX6 hown hG gw_Model rfl 18 (by decide) (index := 95) tw_fl_RX6_95 rfl rfl rfl (Nat.le_of_ble_eq_true rfl) gs_Model_f18 dX6_next_140 (fun H locs hG => ?_)
              refine lv_goto (tgt := 103) hx hb dX6_next_143 (by decide) ?_
              have e1 : ((mo_103.1 18) + 1).toInt = (mo_103.1 18).toInt + 1 := addL (k := 1) (by decide +kernel) (by clear hE; omega) (by clear hE; omega)
              have e2 : ((mo_103.1 18) + 1).toInt = (mo_103.1 18).toInt + 1 := addL (k := 1) (by decide +kernel) (by clear hE; omega) (by clear hE; omega)
              have e3 : ((mo_103.1 18) + 1).toInt = (mo_103.1 18).toInt + 1 := addL (k := 1) (by decide +kernel) (by clear hE; omega) (by clear hE; omega)
              have e4 : ((mo_103.1 18) + 1).toInt = (mo_103.1 18).toInt + 1 := addL (k := 1) (by decide +kernel) (by clear hE; omega) (by clear hE; omega)
              exact ih103 (setS mo_103 18 ((mo_103.1 18) + 1)) _ _ hG _ (lv_sub hl [0] rfl) (show 0 ≤ ((mo_103.1 18) + 1).toInt from by clear hE; omega) (show ((mo_103.1 18) + 1).toInt ≤ (mo_103.1 6).toInt from by clear hE; omega) (show (mo_103.1 6).toInt ≤ 160 from by clear hE; omega) (show 160 < ((mo_103.1 18) + 1).toInt + n103 from by clear hE; omega) (show 0 ≤ (mo_103.1 19).toInt from by clear hE; omega) (show (mo_103.1 19).toInt ≤ ((mo_103.1 18) + 1).toInt from by clear hE; omega) hE
          refine lv_if_eq (tgt := 217) hx hb dX6_next_100 (by decide) (fun c_100 => ?_) (fun c_100 => ?_)
          · replace hE := (if_pos c_100).symm.trans hE
            refine lv_iload_n hx hb dX6_next_217 rfl (lv_at hl 1 rfl) ?_
            refine lv_bipush (v := 48) hx hb dX6_next_218 (by decide) ?_
            refine lv_bipush (v := 57) hx hb dX6_next_220 (by decide) ?_
            refine g_si (g_runS (n := 3) (rest := []) hx hb hml hown hts hG (c_X6_in ((mo_0.2 5) (Int32.toNatClampNeg (mo_0.1 18))) 48 57) tw_ml_RX6_81 tw_st_X6_in tw_in_RX6 tw_cd_X6_in (by decide +kernel) ⟨rfl, rfl, Nat.le_of_ble_eq_true rfl, Nat.le_of_ble_eq_true rfl⟩ rfl hl.1 rfl (Nat.le_of_ble_eq_true rfl) dX6_next_222 ⟨Nat.le_refl _, Nat.le_refl _⟩) hG hA (fun H locs hG => ?_)
            refine lv_if_eq (tgt := 326) hx hb dX6_next_225 (by decide) (fun c_225 => ?_) (fun c_225 => ?_)
            · replace hE := (if_pos c_225).symm.trans hE
              refine lv_iload_n hx hb dX6_next_326 rfl (lv_at hl 1 rfl) ?_
              refine lv_bipush (v := 40) hx hb dX6_next_327 (by decide) ?_
              have J379 : ∀ (z0_379 : Int32) (H : Heap) (locs : List Loc), gS g A s H locs (gW g bb tx rw sb dy tn (setS (setS (setS mo_0 19 (mo_0.1 18)) 20 0) 21 0) jk) → ∀ ls : Array Slot, lv_has ls 3 [(0, .ref (gA g 58)), (1, .int ((mo_0.2 5) (Int32.toNatClampNeg (mo_0.1 18))))] → F_X6_next_b379   (setS (setS (setS mo_0 19 (mo_0.1 18)) 20 0) 21 0) ((mo_0.2 5) (Int32.toNatClampNeg (mo_0.1 18))) z0_379 = EE → W p l e (rmL (2)) s m [.ref (gA g 58)].toArray below meth c H locs 0 0 Q (F0 m 379 ls [.int z0_379]) := by
                intro z0_379 H locs hG ls hl  hE
                unfold F_X6_next_b379 at hE
                refine lv_istore_n (lv' := [(2, .int z0_379), (0, .ref (gA g 58)), (1, .int ((mo_0.2 5) (Int32.toNatClampNeg (mo_0.1 18))))]) hx hb dX6_next_379 rfl hl (by decide) rfl (fun ls hl => ?_)
                replace hl := lv_sub hl [1, 2, 0] (l' := [(0, .ref (gA g 58)), (1, .int ((mo_0.2 5) (Int32.toNatClampNeg (mo_0.1 18)))), (2, .int z0_379)]) rfl
                refine lv_aload_n hx hb dX6_next_380 rfl (lv_at hl 0 rfl) ?_
                refine lv_iload_n hx hb dX6_next_381 rfl (lv_at hl 2 rfl) ?_
                have J390 : ∀ (z1_390 : Int32) (H : Heap) (locs : List Loc), gS g A s H locs (gW g bb tx rw sb dy tn (setS (setS (setS mo_0 19 (mo_0.1 18)) 20 0) 21 0) jk) → ∀ ls : Array Slot, lv_has ls 3 [(0, .ref (gA g 58))] → F_X6_next_b390   (setS (setS (setS mo_0 19 (mo_0.1 18)) 20 0) 21 0) z1_390 = EE → W p l e (rmL (2)) s m [.ref (gA g 58)].toArray below meth c H locs 0 0 Q (F0 m 390 ls [.int z1_390, .ref (gA g 58)]) := by
                  intro z1_390 H locs hG ls hl  hE
                  unfold F_X6_next_b390 at hE
                  refine g_put hx hb hts hiX6 tyX6 tyX6_ok nmX6 hown hG gw_Model rfl 20 (by decide) (index := 101) tw_fl_RX6_101 rfl rfl rfl (Nat.le_of_ble_eq_true rfl) gs_Model_f20 dX6_next_390 (fun H locs hG => ?_)
                  refine lv_aload_n hx hb dX6_next_393 rfl (lv_at hl 0 rfl) ?_
                  refine lv_dup hx hb dX6_next_394 rfl ?_
                  refine g_get hx hb hts hiX6 hown hG gw_Model rfl 18 (by decide) (index := 95) tw_fl_RX6_95 (v := .int (mo_0.1 18)) rfl dX6_next_395 ?_
                  refine lv_iconst (v := 1) hx hb dX6_next_398 (by decide) ?_
                  refine lv_iadd hx hb dX6_next_399 ?_
                  refine g_put hx hb hts hiX6 tyX6 tyX6_ok nmX6 hown hG gw_Model rfl 18 (by decide) (index := 95) tw_fl_RX6_95 rfl rfl rfl (Nat.le_of_ble_eq_true rfl) gs_Model_f18 dX6_next_400 (fun H locs hG => ?_)
                  subst hQ
                  exact g_vret hx hb hr hlocks hG (((setS (setS (setS (setS (setS mo_0 19 (mo_0.1 18)) 20 0) 21 0) 20 z1_390) 18 ((mo_0.1 18) + 1))) : Ob) rfl hE.symm dX6_next_403
                refine lv_if_eq (tgt := 389) hx hb dX6_next_382 (by decide) (fun c_382 => ?_) (fun c_382 => ?_)
                · replace hE := (if_pos c_382).symm.trans hE
                  have i_382 : z0_379.toInt = 0 := congrArg Int32.toInt c_382
                  refine lv_iconst (v := (-1)) hx hb dX6_next_389 (by decide) ?_
                  exact J390 (-1) _ _ hG _ (lv_sub hl [0] rfl) hE
                replace hE := (if_neg c_382).symm.trans hE
                have i_382 : z0_379.toInt ≠ 0 := fun h => c_382 (Int32.toInt_inj.mp h)
                refine lv_iload_n hx hb dX6_next_385 rfl (lv_at hl 1 rfl) ?_
                refine lv_goto (tgt := 390) hx hb dX6_next_386 (by decide) ?_
                exact J390 ((mo_0.2 5) (Int32.toNatClampNeg (mo_0.1 18))) _ _ hG _ (lv_sub hl [0] rfl) hE
              have J374 : ∀  (H : Heap) (locs : List Loc), gS g A s H locs (gW g bb tx rw sb dy tn (setS (setS (setS mo_0 19 (mo_0.1 18)) 20 0) 21 0) jk) → ∀ ls : Array Slot, lv_has ls 3 [(0, .ref (gA g 58)), (1, .int ((mo_0.2 5) (Int32.toNatClampNeg (mo_0.1 18))))] → F_X6_next_b374   (setS (setS (setS mo_0 19 (mo_0.1 18)) 20 0) 21 0) ((mo_0.2 5) (Int32.toNatClampNeg (mo_0.1 18))) = EE → W p l e (rmL (2)) s m [.ref (gA g 58)].toArray below meth c H locs 0 0 Q (F0 m 374 ls []) := by
                intro  H locs hG ls hl  hE
                unfold F_X6_next_b374 at hE
                refine lv_iconst (v := 1) hx hb dX6_next_374 (by decide) ?_
                refine lv_goto (tgt := 379) hx hb dX6_next_375 (by decide) ?_
                exact J379 1 _ _ hG _ (lv_sub hl [0, 1] rfl) hE
              refine lv_icmp_eq (tgt := 374) hx hb dX6_next_329 (by decide) (fun c_329 => ?_) (fun c_329 => ?_)
              · replace hE := (if_pos c_329).symm.trans hE
                have i_329 : ((mo_0.2 5) (Int32.toNatClampNeg (mo_0.1 18))).toInt = 40 := congrArg Int32.toInt c_329
                exact J374 _ _ hG _ (lv_sub hl [0, 1] rfl) hE
              replace hE := (if_neg c_329).symm.trans hE
              have i_329 : ((mo_0.2 5) (Int32.toNatClampNeg (mo_0.1 18))).toInt ≠ 40 := fun h => c_329 (Int32.toInt_inj.mp h)
              refine lv_iload_n hx hb dX6_next_332 rfl (lv_at hl 1 rfl) ?_
              refine lv_bipush (v := 41) hx hb dX6_next_333 (by decide) ?_
              refine lv_icmp_eq (tgt := 374) hx hb dX6_next_335 (by decide) (fun c_335 => ?_) (fun c_335 => ?_)
              · replace hE := (if_pos c_335).symm.trans hE
                have i_335 : ((mo_0.2 5) (Int32.toNatClampNeg (mo_0.1 18))).toInt = 41 := congrArg Int32.toInt c_335
                exact J374 _ _ hG _ (lv_sub hl [0, 1] rfl) hE
              replace hE := (if_neg c_335).symm.trans hE
              have i_335 : ((mo_0.2 5) (Int32.toNatClampNeg (mo_0.1 18))).toInt ≠ 41 := fun h => c_335 (Int32.toInt_inj.mp h)
              refine lv_iload_n hx hb dX6_next_338 rfl (lv_at hl 1 rfl) ?_
              refine lv_bipush (v := 59) hx hb dX6_next_339 (by decide) ?_
              refine lv_icmp_eq (tgt := 374) hx hb dX6_next_341 (by decide) (fun c_341 => ?_) (fun c_341 => ?_)
              · replace hE := (if_pos c_341).symm.trans hE
                have i_341 : ((mo_0.2 5) (Int32.toNatClampNeg (mo_0.1 18))).toInt = 59 := congrArg Int32.toInt c_341
                exact J374 _ _ hG _ (lv_sub hl [0, 1] rfl) hE
              replace hE := (if_neg c_341).symm.trans hE
              have i_341 : ((mo_0.2 5) (Int32.toNatClampNeg (mo_0.1 18))).toInt ≠ 59 := fun h => c_341 (Int32.toInt_inj.mp h)
              refine lv_iload_n hx hb dX6_next_344 rfl (lv_at hl 1 rfl) ?_
              refine lv_bipush (v := 43) hx hb dX6_next_345 (by decide) ?_
              refine lv_icmp_eq (tgt := 374) hx hb dX6_next_347 (by decide) (fun c_347 => ?_) (fun c_347 => ?_)
              · replace hE := (if_pos c_347).symm.trans hE
                have i_347 : ((mo_0.2 5) (Int32.toNatClampNeg (mo_0.1 18))).toInt = 43 := congrArg Int32.toInt c_347
                exact J374 _ _ hG _ (lv_sub hl [0, 1] rfl) hE
              replace hE := (if_neg c_347).symm.trans hE
              have i_347 : ((mo_0.2 5) (Int32.toNatClampNeg (mo_0.1 18))).toInt ≠ 43 := fun h => c_347 (Int32.toInt_inj.mp h)
              refine lv_iload_n hx hb dX6_next_350 rfl (lv_at hl 1 rfl) ?_
              refine lv_bipush (v := 45) hx hb dX6_next_351 (by decide) ?_
              refine lv_icmp_eq (tgt := 374) hx hb dX6_next_353 (by decide) (fun c_353 => ?_) (fun c_353 => ?_)
              · replace hE := (if_pos c_353).symm.trans hE
                have i_353 : ((mo_0.2 5) (Int32.toNatClampNeg (mo_0.1 18))).toInt = 45 := congrArg Int32.toInt c_353
                exact J374 _ _ hG _ (lv_sub hl [0, 1] rfl) hE
              replace hE := (if_neg c_353).symm.trans hE
              have i_353 : ((mo_0.2 5) (Int32.toNatClampNeg (mo_0.1 18))).toInt ≠ 45 := fun h => c_353 (Int32.toInt_inj.mp h)
              refine lv_iload_n hx hb dX6_next_356 rfl (lv_at hl 1 rfl) ?_
              refine lv_bipush (v := 42) hx hb dX6_next_357 (by decide) ?_
              refine lv_icmp_eq (tgt := 374) hx hb dX6_next_359 (by decide) (fun c_359 => ?_) (fun c_359 => ?_)
              · replace hE := (if_pos c_359).symm.trans hE
                have i_359 : ((mo_0.2 5) (Int32.toNatClampNeg (mo_0.1 18))).toInt = 42 := congrArg Int32.toInt c_359
                exact J374 _ _ hG _ (lv_sub hl [0, 1] rfl) hE
              replace hE := (if_neg c_359).symm.trans hE
              have i_359 : ((mo_0.2 5) (Int32.toNatClampNeg (mo_0.1 18))).toInt ≠ 42 := fun h => c_359 (Int32.toInt_inj.mp h)
              refine lv_iload_n hx hb dX6_next_362 rfl (lv_at hl 1 rfl) ?_
              refine lv_bipush (v := 60) hx hb dX6_next_363 (by decide) ?_
              refine lv_icmp_eq (tgt := 374) hx hb dX6_next_365 (by decide) (fun c_365 => ?_) (fun c_365 => ?_)
              · replace hE := (if_pos c_365).symm.trans hE
                have i_365 : ((mo_0.2 5) (Int32.toNatClampNeg (mo_0.1 18))).toInt = 60 := congrArg Int32.toInt c_365
                exact J374 _ _ hG _ (lv_sub hl [0, 1] rfl) hE
              replace hE := (if_neg c_365).symm.trans hE
              have i_365 : ((mo_0.2 5) (Int32.toNatClampNeg (mo_0.1 18))).toInt ≠ 60 := fun h => c_365 (Int32.toInt_inj.mp h)
              refine lv_iload_n hx hb dX6_next_368 rfl (lv_at hl 1 rfl) ?_
              refine lv_bipush (v := 61) hx hb dX6_next_369 (by decide) ?_
              refine lv_icmp_ne (tgt := 378) hx hb dX6_next_371 (by decide) (fun c_371 => ?_) (fun c_371 => ?_)
              · replace hE := (if_neg c_371).symm.trans hE
                have i_371 : ((mo_0.2 5) (Int32.toNatClampNeg (mo_0.1 18))).toInt ≠ 61 := fun h => c_371 (Int32.toInt_inj.mp h)
                refine lv_iconst (v := 0) hx hb dX6_next_378 (by decide) ?_
                exact J379 0 _ _ hG _ (lv_sub hl [0, 1] rfl) hE
              replace hE := (if_pos c_371).symm.trans hE
              have i_371 : ((mo_0.2 5) (Int32.toNatClampNeg (mo_0.1 18))).toInt = 61 := congrArg Int32.toInt c_371
              exact J374 _ _ hG _ (lv_sub hl [0, 1] rfl) hE
            replace hE := (if_neg c_225).symm.trans hE
            have i_225 : 48 ≤ ((mo_0.2 5) (Int32.toNatClampNeg (mo_0.1 18))).toInt ∧ ((mo_0.2 5) (Int32.toNatClampNeg (mo_0.1 18))).toInt ≤ 57 := in_f c_225
            refine lv_iconst (v := 0) hx hb dX6_next_228 (by decide) ?_
            refine lv_istore_n (lv' := [(2, .int 0), (0, .ref (gA g 58)), (1, .int ((mo_0.2 5) (Int32.toNatClampNeg (mo_0.1 18))))]) hx hb dX6_next_229 rfl hl (by decide) rfl (fun ls hl => ?_)
            replace hl := lv_sub hl [1, 2, 0] (l' := [(0, .ref (gA g 58)), (1, .int ((mo_0.2 5) (Int32.toNatClampNeg (mo_0.1 18)))), (2, .int 0)]) rfl
            have L230 : ∀ (n230 : Nat) (x2_230 : Int32) (mo_230 : Ob) (H : Heap) (locs : List Loc), gS g A s H locs (gW g bb tx rw sb dy tn mo_230 jk) → ∀ ls : Array Slot, lv_has ls 3 [(0, .ref (gA g 58)), (2, .int x2_230)] → 0 ≤ (mo_230.1 18).toInt → (mo_230.1 18).toInt ≤ (mo_230.1 6).toInt → (mo_230.1 6).toInt ≤ 160 → 160 < (mo_230.1 18).toInt + n230 → F_X6_next_l230 n230  mo_230 x2_230 = EE → W p l e (rmL (2)) s m [.ref (gA g 58)].toArray below meth c H locs 0 0 Q (F0 m 230 ls []) := by
              intro n230
              induction n230 with
              | zero =>
                intro x2_230 mo_230 H locs hG ls hl h0_230 h1_230 h2_230 hm_230 hE
                clear hE; omega
              | succ n230 ih230 =>
                intro x2_230 mo_230 H locs hG ls hl h0_230 h1_230 h2_230 hm_230 hE
                unfold F_X6_next_l230 at hE
                refine lv_aload_n hx hb dX6_next_230 rfl (lv_at hl 0 rfl) ?_
                refine g_get hx hb hts hiX6 hown hG gw_Model rfl 18 (by decide) (index := 95) tw_fl_RX6_95 (v := .int (mo_230.1 18)) rfl dX6_next_231 ?_
                refine lv_aload_n hx hb dX6_next_234 rfl (lv_at hl 0 rfl) ?_
                refine g_get hx hb hts hiX6 hown hG gw_Model rfl 6 (by decide) (index := 70) tw_fl_RX6_70 (v := .int (mo_230.1 6)) rfl dX6_next_235 ?_
                have J309 : ∀  (H : Heap) (locs : List Loc), gS g A s H locs (gW g bb tx rw sb dy tn mo_230 jk) → ∀ ls : Array Slot, lv_has ls 3 [(0, .ref (gA g 58)), (2, .int x2_230)] → F_X6_next_b309   mo_230 x2_230 = EE → W p l e (rmL (2)) s m [.ref (gA g 58)].toArray below meth c H locs 0 0 Q (F0 m 309 ls []) := by
                  intro  H locs hG ls hl  hE
                  unfold F_X6_next_b309 at hE
                  refine lv_aload_n hx hb dX6_next_309 rfl (lv_at hl 0 rfl) ?_
                  refine lv_iload_n hx hb dX6_next_310 rfl (lv_at hl 1 rfl) ?_
                  refine lv_iconst (v := 4) hx hb dX6_next_311 (by decide) ?_
                  have J320 : ∀ (z1_320 : Int32) (H : Heap) (locs : List Loc), gS g A s H locs (gW g bb tx rw sb dy tn mo_230 jk) → ∀ ls : Array Slot, lv_has ls 3 [] → F_X6_next_b320   mo_230 z1_320 = EE → W p l e (rmL (2)) s m [.ref (gA g 58)].toArray below meth c H locs 0 0 Q (F0 m 320 ls [.int z1_320, .ref (gA g 58)]) := by
                    intro z1_320 H locs hG ls hl  hE
                    unfold F_X6_next_b320 at hE
                    refine g_put hx hb hts hiX6 tyX6 tyX6_ok nmX6 hown hG gw_Model rfl 20 (by decide) (index := 101) tw_fl_RX6_101 rfl rfl rfl (Nat.le_of_ble_eq_true rfl) gs_Model_f20 dX6_next_320 (fun H locs hG => ?_)
                    refine lv_goto (tgt := 403) hx hb dX6_next_323 (by decide) ?_
                    subst hQ
                    exact g_vret hx hb hr hlocks hG (((setS mo_230 20 z1_320)) : Ob) rfl hE.symm dX6_next_403
                  refine lv_icmp_le (tgt := 319) hx hb dX6_next_312 (by decide) (fun c_312 => ?_) (fun c_312 => ?_)
                  · replace hE := (if_pos c_312).symm.trans hE
                    have i_312 : x2_230.toInt ≤ 4 := i_le.mp c_312
                    refine lv_iconst (v := 1) hx hb dX6_next_319 (by decide) ?_
                    exact J320 1 _ _ hG _ (lv_sub hl [] rfl) hE
                  replace hE := (if_neg c_312).symm.trans hE
                  have i_312 : 4 < x2_230.toInt := i_nle c_312
                  refine lv_iconst (v := (-1)) hx hb dX6_next_315 (by decide) ?_
                  refine lv_goto (tgt := 320) hx hb dX6_next_316 (by decide) ?_
                  exact J320 (-1) _ _ hG _ (lv_sub hl [] rfl) hE
                refine lv_icmp_ge (tgt := 309) hx hb dX6_next_238 (by decide) (fun c_238 => ?_) (fun c_238 => ?_)
                · replace hE := (if_pos c_238).symm.trans hE
                  have i_238 : (mo_230.1 6).toInt ≤ (mo_230.1 18).toInt := i_le.mp c_238
                  exact J309 _ _ hG _ (lv_sub hl [0, 1] rfl) hE
                replace hE := (if_neg c_238).symm.trans hE
                have i_238 : (mo_230.1 18).toInt < (mo_230.1 6).toInt := i_nle c_238
                refine lv_aload_n hx hb dX6_next_241 rfl (lv_at hl 0 rfl) ?_
                refine g_get hx hb hts hiX6 hown hG gw_Model rfl 5 (by decide) (index := 22) tw_fl_RX6_22 (v := .ref (gA g 63)) rfl dX6_next_242 ?_
                refine lv_aload_n hx hb dX6_next_245 rfl (lv_at hl 0 rfl) ?_
                refine g_get hx hb hts hiX6 hown hG gw_Model rfl 18 (by decide) (index := 95) tw_fl_RX6_95 (v := .int (mo_230.1 18)) rfl dX6_next_246 ?_
                refine g_ild (f := (mo_230.2 5)) hx hb hG gw_Model_a5 (show vp_in (mo_230.1 18) 160 from (vp_i (by clear hE; omega) (by clear hE; omega))) dX6_next_249 ?_
                refine lv_bipush (v := 48) hx hb dX6_next_250 (by decide) ?_
                refine lv_bipush (v := 57) hx hb dX6_next_252 (by decide) ?_
                refine g_si (g_runS (n := 3) (rest := []) hx hb hml hown hts hG (c_X6_in ((mo_230.2 5) (Int32.toNatClampNeg (mo_230.1 18))) 48 57) tw_ml_RX6_81 tw_st_X6_in tw_in_RX6 tw_cd_X6_in (by decide +kernel) ⟨rfl, rfl, Nat.le_of_ble_eq_true rfl, Nat.le_of_ble_eq_true rfl⟩ rfl hl.1 rfl (Nat.le_of_ble_eq_true rfl) dX6_next_254 ⟨Nat.le_refl _, Nat.le_refl _⟩) hG hA (fun H locs hG => ?_)
                refine lv_if_eq (tgt := 309) hx hb dX6_next_257 (by decide) (fun c_257 => ?_) (fun c_257 => ?_)
                · replace hE := (if_pos c_257).symm.trans hE
                  exact J309 _ _ hG _ (lv_sub hl [0, 1] rfl) hE
                replace hE := (if_neg c_257).symm.trans hE
                have i_257 : 48 ≤ ((mo_230.2 5) (Int32.toNatClampNeg (mo_230.1 18))).toInt ∧ ((mo_230.2 5) (Int32.toNatClampNeg (mo_230.1 18))).toInt ≤ 57 := in_f c_257
                refine lv_aload_n hx hb dX6_next_260 rfl (lv_at hl 0 rfl) ?_
                refine lv_iload_n hx hb dX6_next_261 rfl (lv_at hl 1 rfl) ?_
                refine lv_iconst (v := 4) hx hb dX6_next_262 (by decide) ?_
                have J290 : ∀ (z1_290 : Int32) (H : Heap) (locs : List Loc), gS g A s H locs (gW g bb tx rw sb dy tn mo_230 jk) → ∀ ls : Array Slot, lv_has ls 3 [(0, .ref (gA g 58)), (2, .int x2_230)] → F_X6_next_b290  (F_X6_next_l230 n230 ) mo_230 x2_230 z1_290 = EE → W p l e (rmL (2)) s m [.ref (gA g 58)].toArray below meth c H locs 0 0 Q (F0 m 290 ls [.int z1_290, .ref (gA g 58)]) := by
                  intro z1_290 H locs hG ls hl  hE
                  unfold F_X6_next_b290 at hE
                  refine g_put hx hb hts hiX6 tyX6 tyX6_ok nmX6 hown hG gw_Model rfl 21 (by decide) (index := 104) tw_fl_RX6_104 rfl rfl rfl (Nat.le_of_ble_eq_true rfl) gs_Model_f21 dX6_next_290 (fun H locs hG => ?_)
                  refine lv_iinc (v := (x2_230 + 1)) (lv' := [(2, .int (x2_230 + 1)), (0, .ref (gA g 58))]) hx hb dX6_next_293 hl (k := 1) rfl rfl (by decide) rfl (fun ls hl => ?_)
                  replace hl := lv_sub hl [1, 0] (l' := [(0, .ref (gA g 58)), (2, .int (x2_230 + 1))]) rfl
                  refine lv_aload_n hx hb dX6_next_296 rfl (lv_at hl 0 rfl) ?_
                  refine lv_dup hx hb dX6_next_297 rfl ?_
                  refine g_get hx hb hts hiX6 hown hG gw_Model rfl 18 (by decide) (index := 95) tw_fl_RX6_95 (v := .int (mo_230.1 18)) rfl dX6_next_298 ?_
                  refine lv_iconst (v := 1) hx hb dX6_next_301 (by decide) ?_
                  refine lv_iadd hx hb dX6_next_302 ?_
                  refine g_put hx hb hts hiX6 tyX6 tyX6_ok nmX6 hown hG gw_Model rfl 18 (by decide) (index := 95) tw_fl_RX6_95 rfl rfl rfl (Nat.le_of_ble_eq_true rfl) gs_Model_f18 dX6_next_303 (fun H locs hG => ?_)
                  refine lv_goto (tgt := 230) hx hb dX6_next_306 (by decide) ?_
                  have e5 : ((mo_230.1 18) + 1).toInt = (mo_230.1 18).toInt + 1 := addL (k := 1) (by decide +kernel) (by clear hE; omega) (by clear hE; omega)
                  have e6 : ((mo_230.1 18) + 1).toInt = (mo_230.1 18).toInt + 1 := addL (k := 1) (by decide +kernel) (by clear hE; omega) (by clear hE; omega)
                  have e7 : ((mo_230.1 18) + 1).toInt = (mo_230.1 18).toInt + 1 := addL (k := 1) (by decide +kernel) (by clear hE; omega) (by clear hE; omega)
                  exact ih230 (x2_230 + 1) (setS (setS mo_230 21 z1_290) 18 ((mo_230.1 18) + 1)) _ _ hG _ (lv_sub hl [0, 1] rfl) (show 0 ≤ ((mo_230.1 18) + 1).toInt from by clear hE; omega) (show ((mo_230.1 18) + 1).toInt ≤ (mo_230.1 6).toInt from by clear hE; omega) (show (mo_230.1 6).toInt ≤ 160 from by clear hE; omega) (show 160 < ((mo_230.1 18) + 1).toInt + n230 from by clear hE; omega) hE
                refine lv_icmp_ge (tgt := 289) hx hb dX6_next_263 (by decide) (fun c_263 => ?_) (fun c_263 => ?_)
                · replace hE := (if_pos c_263).symm.trans hE
                  have i_263 : 4 ≤ x2_230.toInt := i_le.mp c_263
                  refine lv_iconst (v := 0) hx hb dX6_next_289 (by decide) ?_
                  exact J290 0 _ _ hG _ (lv_sub hl [0, 1] rfl) hE
                replace hE := (if_neg c_263).symm.trans hE
                have i_263 : x2_230.toInt < 4 := i_nle c_263
                refine lv_bipush (v := 10) hx hb dX6_next_266 (by decide) ?_
                refine lv_aload_n hx hb dX6_next_268 rfl (lv_at hl 0 rfl) ?_
                refine g_get hx hb hts hiX6 hown hG gw_Model rfl 21 (by decide) (index := 104) tw_fl_RX6_104 (v := .int (mo_230.1 21)) rfl dX6_next_269 ?_
                refine lv_imul hx hb dX6_next_272 ?_
                refine lv_aload_n hx hb dX6_next_273 rfl (lv_at hl 0 rfl) ?_
                refine g_get hx hb hts hiX6 hown hG gw_Model rfl 5 (by decide) (index := 22) tw_fl_RX6_22 (v := .ref (gA g 63)) rfl dX6_next_274 ?_
                refine lv_aload_n hx hb dX6_next_277 rfl (lv_at hl 0 rfl) ?_
                refine g_get hx hb hts hiX6 hown hG gw_Model rfl 18 (by decide) (index := 95) tw_fl_RX6_95 (v := .int (mo_230.1 18)) rfl dX6_next_278 ?_
                refine g_ild (f := (mo_230.2 5)) hx hb hG gw_Model_a5 (show vp_in (mo_230.1 18) 160 from (vp_i (by clear hE; omega) (by clear hE; omega))) dX6_next_281 ?_
                refine lv_iadd hx hb dX6_next_282 ?_
                refine lv_bipush (v := 48) hx hb dX6_next_283 (by decide) ?_
                refine lv_isub hx hb dX6_next_285 ?_
                refine lv_goto (tgt := 290) hx hb dX6_next_286 (by decide) ?_
                exact J290 (((10 * (mo_230.1 21)) + ((mo_230.2 5) (Int32.toNatClampNeg (mo_230.1 18)))) - 48) _ _ hG _ (lv_sub hl [0, 1] rfl) hE
            exact L230 161 0 (setS (setS (setS mo_0 19 (mo_0.1 18)) 20 0) 21 0) _ _ hG _ (lv_sub hl [0, 2] rfl) (show 0 ≤ (mo_0.1 18).toInt from by clear hE; omega) (show (mo_0.1 18).toInt ≤ (mo_0.1 6).toInt from by clear hE; omega) (show (mo_0.1 6).toInt ≤ 160 from by clear hE; omega) (show 160 < (mo_0.1 18).toInt + ((161 : Nat) : Int) from by clear hE; omega) hE
          replace hE := (if_neg c_100).symm.trans hE
          have i_100 : 97 ≤ ((mo_0.2 5) (Int32.toNatClampNeg (mo_0.1 18))).toInt ∧ ((mo_0.2 5) (Int32.toNatClampNeg (mo_0.1 18))).toInt ≤ 122 := in_f c_100
          exact L103 161 (setS (setS (setS mo_0 19 (mo_0.1 18)) 20 0) 21 0) _ _ hG _ (lv_sub hl [0] rfl) (show 0 ≤ (mo_0.1 18).toInt from by clear hE; omega) (show (mo_0.1 18).toInt ≤ (mo_0.1 6).toInt from by clear hE; omega) (show (mo_0.1 6).toInt ≤ 160 from by clear hE; omega) (show 160 < (mo_0.1 18).toInt + ((161 : Nat) : Int) from by clear hE; omega) (show 0 ≤ (mo_0.1 18).toInt from by clear hE; omega) (show (mo_0.1 18).toInt ≤ (mo_0.1 18).toInt from by clear hE; omega) hE
        replace hE := (if_pos c_78).symm.trans hE
        have i_78 : (mo_0.1 18).toInt = (mo_0.1 6).toInt := congrArg Int32.toInt c_78
        subst hQ
        exact g_vret hx hb hr hlocks hG (((setS (setS (setS mo_0 19 (mo_0.1 18)) 20 0) 21 0)) : Ob) rfl hE.symm dX6_next_81
      refine lv_icmp_ge (tgt := 52) hx hb dX6_next_8 (by decide) (fun c_8 => ?_) (fun c_8 => ?_)
      · replace hE := (if_pos c_8).symm.trans hE
        have i_8 : (mo_0.1 6).toInt ≤ (mo_0.1 18).toInt := i_le.mp c_8
        exact J52 _ _ hG _ (lv_sub hl [0] rfl) hE
      replace hE := (if_neg c_8).symm.trans hE
      have i_8 : (mo_0.1 18).toInt < (mo_0.1 6).toInt := i_nle c_8
      refine lv_aload_n hx hb dX6_next_11 rfl (lv_at hl 0 rfl) ?_
      refine g_get hx hb hts hiX6 hown hG gw_Model rfl 5 (by decide) (index := 22) tw_fl_RX6_22 (v := .ref (gA g 63)) rfl dX6_next_12 ?_
      refine lv_aload_n hx hb dX6_next_15 rfl (lv_at hl 0 rfl) ?_
      refine g_get hx hb hts hiX6 hown hG gw_Model rfl 18 (by decide) (index := 95) tw_fl_RX6_95 (v := .int (mo_0.1 18)) rfl dX6_next_16 ?_
      refine g_ild (f := (mo_0.2 5)) hx hb hG gw_Model_a5 (show vp_in (mo_0.1 18) 160 from (vp_i (by clear hE; omega) (by clear hE; omega))) dX6_next_19 ?_
      refine lv_bipush (v := 32) hx hb dX6_next_20 (by decide) ?_
      have J39 : ∀  (H : Heap) (locs : List Loc), gS g A s H locs (gW g bb tx rw sb dy tn mo_0 jk) → ∀ ls : Array Slot, lv_has ls 3 [(0, .ref (gA g 58))] → F_X6_next_b39  (F_X6_next_l0 n0 ) mo_0 = EE → W p l e (rmL (2)) s m [.ref (gA g 58)].toArray below meth c H locs 0 0 Q (F0 m 39 ls []) := by
        intro  H locs hG ls hl  hE
        unfold F_X6_next_b39 at hE
        refine lv_aload_n hx hb dX6_next_39 rfl (lv_at hl 0 rfl) ?_
        refine lv_dup hx hb dX6_next_40 rfl ?_
        refine g_get hx hb hts hiX6 hown hG gw_Model rfl 18 (by decide) (index := 95) tw_fl_RX6_95 (v := .int (mo_0.1 18)) rfl dX6_next_41 ?_
        refine lv_iconst (v := 1) hx hb dX6_next_44 (by decide) ?_
        refine lv_iadd hx hb dX6_next_45 ?_
        refine g_put hx hb hts hiX6 tyX6 tyX6_ok nmX6 hown hG gw_Model rfl 18 (by decide) (index := 95) tw_fl_RX6_95 rfl rfl rfl (Nat.le_of_ble_eq_true rfl) gs_Model_f18 dX6_next_46 (fun H locs hG => ?_)
        refine lv_goto (tgt := 0) hx hb dX6_next_49 (by decide) ?_
        have e8 : ((mo_0.1 18) + 1).toInt = (mo_0.1 18).toInt + 1 := addL (k := 1) (by decide +kernel) (by clear hE; omega) (by clear hE; omega)
        have e9 : ((mo_0.1 18) + 1).toInt = (mo_0.1 18).toInt + 1 := addL (k := 1) (by decide +kernel) (by clear hE; omega) (by clear hE; omega)
        have e10 : ((mo_0.1 18) + 1).toInt = (mo_0.1 18).toInt + 1 := addL (k := 1) (by decide +kernel) (by clear hE; omega) (by clear hE; omega)
        exact ih0 (setS mo_0 18 ((mo_0.1 18) + 1)) _ _ hG _ (lv_sub hl [0] rfl) (show 0 ≤ ((mo_0.1 18) + 1).toInt from by clear hE; omega) (show ((mo_0.1 18) + 1).toInt ≤ (mo_0.1 6).toInt from by clear hE; omega) (show (mo_0.1 6).toInt ≤ 160 from by clear hE; omega) (show 160 < ((mo_0.1 18) + 1).toInt + n0 from by clear hE; omega) hE
      refine lv_icmp_eq (tgt := 39) hx hb dX6_next_22 (by decide) (fun c_22 => ?_) (fun c_22 => ?_)
      · replace hE := (if_pos c_22).symm.trans hE
        have i_22 : ((mo_0.2 5) (Int32.toNatClampNeg (mo_0.1 18))).toInt = 32 := congrArg Int32.toInt c_22
        exact J39 _ _ hG _ (lv_sub hl [0] rfl) hE
      replace hE := (if_neg c_22).symm.trans hE
      have i_22 : ((mo_0.2 5) (Int32.toNatClampNeg (mo_0.1 18))).toInt ≠ 32 := fun h => c_22 (Int32.toInt_inj.mp h)
      refine lv_aload_n hx hb dX6_next_25 rfl (lv_at hl 0 rfl) ?_
      refine g_get hx hb hts hiX6 hown hG gw_Model rfl 5 (by decide) (index := 22) tw_fl_RX6_22 (v := .ref (gA g 63)) rfl dX6_next_26 ?_
      refine lv_aload_n hx hb dX6_next_29 rfl (lv_at hl 0 rfl) ?_
      refine g_get hx hb hts hiX6 hown hG gw_Model rfl 18 (by decide) (index := 95) tw_fl_RX6_95 (v := .int (mo_0.1 18)) rfl dX6_next_30 ?_
      refine g_ild (f := (mo_0.2 5)) hx hb hG gw_Model_a5 (show vp_in (mo_0.1 18) 160 from (vp_i (by clear hE; omega) (by clear hE; omega))) dX6_next_33 ?_
      refine lv_bipush (v := 10) hx hb dX6_next_34 (by decide) ?_
      refine lv_icmp_ne (tgt := 52) hx hb dX6_next_36 (by decide) (fun c_36 => ?_) (fun c_36 => ?_)
      · replace hE := (if_neg c_36).symm.trans hE
        have i_36 : ((mo_0.2 5) (Int32.toNatClampNeg (mo_0.1 18))).toInt ≠ 10 := fun h => c_36 (Int32.toInt_inj.mp h)
        exact J52 _ _ hG _ (lv_sub hl [0] rfl) hE
      replace hE := (if_pos c_36).symm.trans hE
      have i_36 : ((mo_0.2 5) (Int32.toNatClampNeg (mo_0.1 18))).toInt = 10 := congrArg Int32.toInt c_36
      exact J39 _ _ hG _ (lv_sub hl [0] rfl) hE
  exact L0 161 mo _ _ hG _ (lv_sub hl [0] rfl) (show 0 ≤ (mo.1 18).toInt from by clear hE; omega) (show (mo.1 18).toInt ≤ (mo.1 6).toInt from by clear hE; omega) (show (mo.1 6).toInt ≤ 160 from by clear hE; omega) (show 160 < (mo.1 18).toInt + ((161 : Nat) : Int) from by clear hE; omega) hE
