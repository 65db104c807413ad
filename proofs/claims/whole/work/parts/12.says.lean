/-- a text that was read: its parts' ends -/
def xOK (X : Ob) : Prop := 0 < (X.2 2 0).toInt ∧ (X.2 2 0).toInt < (X.2 2 1).toInt ∧ (X.2 2 1).toInt < (X.2 2 2).toInt ∧ (X.2 2 2).toInt ≤ 160
def tEv (tx : Nat → Ob) (T : Ob) : Prop := (0 ≤ (T.1 6).toInt ∧ (T.1 6).toInt ≤ 6) ∧ (T.1 11).toNatClampNeg < 6 ∧ xOK (tx (T.1 11).toNatClampNeg)
theorem ends_f {X : Ob} (h : xOK X) {i : Int32} (h0 : 0 ≤ i.toInt) (h1 : i.toInt ≤ 1) : 0 < (X.2 2 i.toNatClampNeg).toInt ∧ (X.2 2 i.toNatClampNeg).toInt ≤ 160 := by
  obtain ⟨a, b, c, d⟩ := h
  have e : i.toNatClampNeg = i.toInt.toNat := rfl
  rcases (show i.toInt = 0 ∨ i.toInt = 1 by omega) with q | q <;> rw [e, q]
  · exact ⟨a, by show (X.2 2 0).toInt ≤ 160; omega⟩
  · exact ⟨by show 0 < (X.2 2 1).toInt; omega, by show (X.2 2 1).toInt ≤ 160; omega⟩
def F_X3_saysR_b241 (T : Ob) (S : (Nat → Int32)) (T2 : Ob) (z0 : Int32) : Int32 × (Nat → Int32) :=
  ((jmax z0 (jmin 99 (S (Int32.toNatClampNeg 0)))), S)
def F_X3_saysR_b230 (T : Ob) (S : (Nat → Int32)) (T2 : Ob) (x1 : Int32) : Int32 × (Nat → Int32) :=
  (if x1 = 1 then (F_X3_saysR_b241  T S T2 (-99)) else (F_X3_saysR_b241  T S T2 0))
def F_X3_saysR_b224 (K40 : Ob → ((Nat → Int32)) → Ob → Int32 → Int32 → Int32 → Int32 → Int32 × (Nat → Int32)) (T : Ob) (S : (Nat → Int32)) (T2 : Ob) (x1 : Int32) (x3 : Int32) (x4 : Int32) (x5 : Int32) : Int32 × (Nat → Int32) :=
  (K40 T S T2 x1 x3 x4 (x5 + 1))
def F_X3_saysR_b179 (K40 : Ob → ((Nat → Int32)) → Ob → Int32 → Int32 → Int32 → Int32 → Int32 × (Nat → Int32)) (T : Ob) (S : (Nat → Int32)) (T2 : Ob) (x1 : Int32) (x3 : Int32) (x4 : Int32) (x5 : Int32) (z1 : Int32) (z2 : Int32) : Int32 × (Nat → Int32) :=
  (F_X3_saysR_b224 K40 T (upd S (Int32.toNatClampNeg z1) z2) T2 x1 x3 x4 x5)
def F_X3_saysR_b129 (K40 : Ob → ((Nat → Int32)) → Ob → Int32 → Int32 → Int32 → Int32 → Int32 × (Nat → Int32)) (T : Ob) (S : (Nat → Int32)) (T2 : Ob) (x1 : Int32) (x3 : Int32) (x4 : Int32) (x5 : Int32) (x6 : Int32) : Int32 × (Nat → Int32) :=
  (if 1 ≤ x4 then (if x6 = (-15) then (F_X3_saysR_b179 K40 T S T2 x1 x3 x4 x5 (x4 - 1) (-(S (Int32.toNatClampNeg (x4 - 1))))) else (if (S (Int32.toNatClampNeg (x4 - 1))) = 0 then (F_X3_saysR_b179 K40 T S T2 x1 x3 x4 x5 (x4 - 1) 1) else (F_X3_saysR_b179 K40 T S T2 x1 x3 x4 x5 (x4 - 1) 0))) else (0, S))
def F_X3_saysR_b108 (K40 : Ob → ((Nat → Int32)) → Ob → Int32 → Int32 → Int32 → Int32 → Int32 × (Nat → Int32)) (T : Ob) (S : (Nat → Int32)) (T2 : Ob) (x1 : Int32) (x3 : Int32) (x4 : Int32) (x5 : Int32) (z1 : Int32) (z2 : Int32) : Int32 × (Nat → Int32) :=
  (F_X3_saysR_b224 K40 T (upd S (Int32.toNatClampNeg z1) z2) T2 x1 x3 (x4 + 1) x5)
def F_X3_saysR_l40 : Nat → Ob → ((Nat → Int32)) → Ob → Int32 → Int32 → Int32 → Int32 → Int32 × (Nat → Int32)
  | 0, _, S, _, _, _, _, _ => (0, S)
  | n + 1, T, S, T2, x1, x3, x4, x5 =>
    (if ((T.2 2) (Int32.toNatClampNeg x1)) ≤ x5 then (F_X3_saysR_b230  T S T2 x1) else (if 160 ≤ x5 then (F_X3_saysR_b230  T S T2 x1) else (if ((T.2 0) (Int32.toNatClampNeg x5)) < (-6) then (if ((T.2 0) (Int32.toNatClampNeg x5)) = (-9) then (F_X3_saysR_b129 (F_X3_saysR_l40 n ) T S T2 x1 x3 x4 x5 ((T.2 0) (Int32.toNatClampNeg x5))) else (if ((T.2 0) (Int32.toNatClampNeg x5)) = (-15) then (F_X3_saysR_b129 (F_X3_saysR_l40 n ) T S T2 x1 x3 x4 x5 ((T.2 0) (Int32.toNatClampNeg x5))) else (if 2 ≤ x4 then (F_X3_saysR_b224 (F_X3_saysR_l40 n ) T (upd S (Int32.toNatClampNeg ((x4 - 1) - 1)) (F_X3_joined ((T.2 0) (Int32.toNatClampNeg x5)) (S (Int32.toNatClampNeg ((x4 - 1) - 1))) (S (Int32.toNatClampNeg (x4 - 1))))) T2 x1 x3 (x4 - 1) x5) else (0, S)))) else (if x4 < 160 then (if ((T.2 0) (Int32.toNatClampNeg x5)) < 0 then (F_X3_saysR_b108 (F_X3_saysR_l40 n ) T S T2 x1 x3 x4 x5 x4 (F_X4_named T2 ((T.2 0) (Int32.toNatClampNeg x5)) x3)) else (F_X3_saysR_b108 (F_X3_saysR_l40 n ) T S T2 x1 x3 x4 x5 x4 ((T.2 0) (Int32.toNatClampNeg x5)))) else (0, S)))))
def F_X3_saysR_b38 (T : Ob) (S : (Nat → Int32)) (T2 : Ob) (x1 : Int32) (x3 : Int32) (x4 : Int32) (z0 : Int32) : Int32 × (Nat → Int32) :=
  (F_X3_saysR_l40 161  T S T2 x1 x3 x4 z0)
def F_X3_saysR (T : Ob) (S : (Nat → Int32)) (T2 : Ob) (p1 : Int32) (p3 : Int32) : Int32 × (Nat → Int32) :=
  (if p1 < 0 then (0, S) else (if 2 < p1 then (0, S) else (if (F_X4_has T2 p3) = 0 then (0, S) else (if p1 = 0 then (F_X3_saysR_b38  T S T2 p1 p3 0 0) else (F_X3_saysR_b38  T S T2 p1 p3 0 ((T.2 2) (Int32.toNatClampNeg (p1 - 1))))))))
set_option maxHeartbeats 4000000 in
set_option maxRecDepth 100000 in
theorem c_X3_saysR {l : Launch} {g : GG} {sz : Nat} {bb : Ob} {tx rw : Nat → Ob} {sb dy : Ob} {tn : Nat → Ob} {mo : Ob} {jk : Nat → Nat → Int32} {o : Nat} (ho : o < 6) {T : Ob} (hT : tx o = T) {S : Nat → Int32} (hS : jk o = S) {o2 : Nat} (ho2 : o2 < 3) {T2 : Ob} (hT2 : tn o2 = T2) (p1 : Int32) (p3 : Int32) (hxo : xOK T) : Met l yX3_says (Cond.code yX3_says cX3_says 8 (some .int) :: TT) (rmL 4) (va_Pc [.ref (gA g (3 + 4 * o)), .int p1, .ref (gA g (40 + 6 * o2)), .int p3] (gB g sz (gW g bb tx rw sb dy tn mo jk))) (va_Qi (fun r (u : (Nat → Int32)) => (F_X3_saysR T S T2 p1 p3) = (r, u)) (fun u t => gC g (va_A (gW g bb tx rw sb dy tn mo jk) sz) (gW g bb tx rw sb dy tn mo (va_up jk o u)) t) (va_A (gW g bb tx rw sb dy tn mo jk) sz)) 0 0 (va_A (gW g bb tx rw sb dy tn mo jk) sz) := by
  generalize hE : F_X3_saysR T S T2 p1 p3 = EE
  refine g_of (Qf := fun A => (va_Qi (fun r (u : (Nat → Int32)) => EE = (r, u)) (fun u t => gC g A (gW g bb tx rw sb dy tn mo (va_up jk o u)) t) A)) (cc := cX3_says) (maxL := 8) (ret := (some .int)) (by decide) (Nat.le_of_ble_eq_true rfl) ?_
  intro p e s m below meth c A ls hx hb hml hr hlocks hts hown hA hG hl
  replace hown : s.vm.findClass RX3 = some m.cls := hown
  replace hl : lv_has ls 8 [(0, .ref (gA g (3 + 4 * o))), (1, .int p1), (2, .ref (gA g (40 + 6 * o2))), (3, .int p3)] := hl
  show W p l e (rmL 4) s m [.ref (gA g (3 + 4 * o)), .int p1, .ref (gA g (40 + 6 * o2)), .int p3].toArray below meth c s.heap [] 0 0 (MQ below (va_Qi (fun r (u : (Nat → Int32)) => EE = (r, u)) (fun u t => gC g A (gW g bb tx rw sb dy tn mo (va_up jk o u)) t) A) [.ref (gA g (3 + 4 * o)), .int p1, .ref (gA g (40 + 6 * o2)), .int p3].toArray s 0 0 A) (F0 m 0 ls [])
  generalize hQ : MQ below (va_Qi (fun r (u : (Nat → Int32)) => EE = (r, u)) (fun u t => gC g A (gW g bb tx rw sb dy tn mo (va_up jk o u)) t) A) [.ref (gA g (3 + 4 * o)), .int p1, .ref (gA g (40 + 6 * o2)), .int p3].toArray s 0 0 A = Q
  replace hG : gS g A s s.heap [] (gW g bb tx rw sb dy tn mo (va_up jk o S)) := by simpa only [← hS, up_self] using hG
  unfold F_X3_saysR at hE
  refine lv_iload_n hx hb dX3_says_0 rfl (lv_at hl 1 rfl) ?_
  refine lv_if_lt (tgt := 17) hx hb dX3_says_1 (by decide) (fun c_1 => ?_) (fun c_1 => ?_)
  · replace hE := (if_pos c_1).symm.trans hE
    have i_1 : p1.toInt < 0 := i_lt.mp c_1
    refine lv_iconst (v := 0) hx hb dX3_says_17 (by decide) ?_
    subst hQ
    exact g_iret hx hb hr hlocks hG ((S) : (Nat → Int32)) rfl hE.symm dX3_says_18
  replace hE := (if_neg c_1).symm.trans hE
  have i_1 : 0 ≤ p1.toInt := i_nlt c_1
  refine lv_iload_n hx hb dX3_says_4 rfl (lv_at hl 1 rfl) ?_
  refine lv_iconst (v := 2) hx hb dX3_says_5 (by decide) ?_
  refine lv_icmp_gt (tgt := 17) hx hb dX3_says_6 (by decide) (fun c_6 => ?_) (fun c_6 => ?_)
  · replace hE := (if_pos c_6).symm.trans hE
    have i_6 : 2 < p1.toInt := i_lt.mp c_6
    refine lv_iconst (v := 0) hx hb dX3_says_17 (by decide) ?_
    subst hQ
    exact g_iret hx hb hr hlocks hG ((S) : (Nat → Int32)) rfl hE.symm dX3_says_18
  replace hE := (if_neg c_6).symm.trans hE
  have i_6 : p1.toInt ≤ 2 := i_nlt c_6
  refine lv_aload_n hx hb dX3_says_9 rfl (lv_at hl 2 rfl) ?_
  refine lv_iload_n hx hb dX3_says_10 rfl (lv_at hl 3 rfl) ?_
  refine g_ci (g_runV (n := 1) (rest := []) hx hb hml hown hts hG (c_X4_has ho2 hT2 p3) tw_ml_RX3_35 tw_im_X4_has tw_se_X4_has tw_in_RX4 tw_cd_X4_has (by decide +kernel) ⟨rfl, rfl, Nat.le_of_ble_eq_true rfl, Nat.le_of_ble_eq_true rfl⟩ (gw_Town ho2 hT2) rfl rfl hl.1 rfl (Nat.le_of_ble_eq_true rfl) dX3_says_11 ⟨Nat.le_refl _, Nat.le_refl _⟩) hG hA (fun r _ H locs hp hG => ?_)
  subst hp
  replace hG : gS g A s H locs (gW g bb tx rw sb dy tn mo (va_up jk o S)) := hG
  refine lv_if_ne (tgt := 19) hx hb dX3_says_14 (by decide) (fun c_14 => ?_) (fun c_14 => ?_)
  · replace hE := (if_neg c_14).symm.trans hE
    have i_14 := has_f c_14
    refine lv_iconst (v := 0) hx hb dX3_says_19 (by decide) ?_
    refine lv_istore (lv' := [(4, .int 0), (0, .ref (gA g (3 + 4 * o))), (1, .int p1), (2, .ref (gA g (40 + 6 * o2))), (3, .int p3)]) hx hb dX3_says_20 hl (by decide) rfl (fun ls hl => ?_)
    replace hl := lv_sub hl [1, 2, 3, 4, 0] (l' := [(0, .ref (gA g (3 + 4 * o))), (1, .int p1), (2, .ref (gA g (40 + 6 * o2))), (3, .int p3), (4, .int 0)]) rfl
    refine lv_iload_n hx hb dX3_says_22 rfl (lv_at hl 1 rfl) ?_
    have J38 : ∀ (z0_38 : Int32) (H : Heap) (locs : List Loc), gS g A s H locs (gW g bb tx rw sb dy tn mo (va_up jk o S)) → ∀ ls : Array Slot, lv_has ls 8 [(0, .ref (gA g (3 + 4 * o))), (1, .int p1), (2, .ref (gA g (40 + 6 * o2))), (3, .int p3), (4, .int 0)] → 0 ≤ z0_38.toInt ∧ z0_38.toInt ≤ 160 → F_X3_saysR_b38   T S T2 p1 p3 0 z0_38 = EE → W p l e (rmL 4) s m [.ref (gA g (3 + 4 * o)), .int p1, .ref (gA g (40 + 6 * o2)), .int p3].toArray below meth c H locs 0 0 Q (F0 m 38 ls [.int z0_38]) := by
      intro z0_38 H locs hG ls hl hz hE
      unfold F_X3_saysR_b38 at hE
      refine lv_istore (lv' := [(5, .int z0_38), (0, .ref (gA g (3 + 4 * o))), (1, .int p1), (2, .ref (gA g (40 + 6 * o2))), (3, .int p3), (4, .int 0)]) hx hb dX3_says_38 hl (by decide) rfl (fun ls hl => ?_)
      replace hl := lv_sub hl [1, 2, 3, 4, 5, 0] (l' := [(0, .ref (gA g (3 + 4 * o))), (1, .int p1), (2, .ref (gA g (40 + 6 * o2))), (3, .int p3), (4, .int 0), (5, .int z0_38)]) rfl
      have L40 : ∀ (n : Nat) (x4_40 : Int32) (x5_40 : Int32) (S_40 : (Nat → Int32)) (H : Heap) (locs : List Loc), gS g A s H locs (gW g bb tx rw sb dy tn mo (va_up jk o S_40)) → ∀ ls : Array Slot, lv_has ls 8 [(0, .ref (gA g (3 + 4 * o))), (1, .int p1), (2, .ref (gA g (40 + 6 * o2))), (3, .int p3), (4, .int x4_40), (5, .int x5_40)] → 0 ≤ x5_40.toInt → x5_40.toInt ≤ 160 → 160 < x5_40.toInt + n → 0 ≤ x4_40.toInt → x4_40.toInt ≤ 160 → F_X3_saysR_l40 n  T S_40 T2 p1 p3 x4_40 x5_40 = EE → W p l e (rmL 4) s m [.ref (gA g (3 + 4 * o)), .int p1, .ref (gA g (40 + 6 * o2)), .int p3].toArray below meth c H locs 0 0 Q (F0 m 40 ls []) := by
        intro n
        induction n with
        | zero =>
          intro x4_40 x5_40 S_40 H locs hG ls hl h0_40 h1_40 hm_40 ht0 ht1 hE
          omega
        | succ n ih40 =>
          intro x4_40 x5_40 S_40 H locs hG ls hl h0_40 h1_40 hm_40 ht0 ht1 hE
          unfold F_X3_saysR_l40 at hE
          refine lv_iload hx hb dX3_says_40 (lv_at hl 5 rfl) ?_
          refine lv_aload_n hx hb dX3_says_42 rfl (lv_at hl 0 rfl) ?_
          refine g_get hx hb hts hiX3 hown hG (gw_Text ho hT) rfl 2 (by decide) (index := 18) tw_fl_RX3_18 (v := .ref (gA g (3 + 4 * o + 3))) rfl dX3_says_43 ?_
          refine lv_iload_n hx hb dX3_says_46 rfl (lv_at hl 1 rfl) ?_
          refine g_ild hx hb hG (gw_Text_a2 ho hT) (vp_i (by clear hE; omega) (by clear hE; omega)) dX3_says_47 ?_
          have J230 : ∀  (H : Heap) (locs : List Loc), gS g A s H locs (gW g bb tx rw sb dy tn mo (va_up jk o S_40)) → ∀ ls : Array Slot, lv_has ls 8 [(0, .ref (gA g (3 + 4 * o))), (1, .int p1)] → F_X3_saysR_b230   T S_40 T2 p1 = EE → W p l e (rmL 4) s m [.ref (gA g (3 + 4 * o)), .int p1, .ref (gA g (40 + 6 * o2)), .int p3].toArray below meth c H locs 0 0 Q (F0 m 230 ls []) := by
            intro  H locs hG ls hl  hE
            unfold F_X3_saysR_b230 at hE
            refine lv_iload_n hx hb dX3_says_230 rfl (lv_at hl 1 rfl) ?_
            refine lv_iconst (v := 1) hx hb dX3_says_231 (by decide) ?_
            have J241 : ∀ (z0_241 : Int32) (H : Heap) (locs : List Loc), gS g A s H locs (gW g bb tx rw sb dy tn mo (va_up jk o S_40)) → ∀ ls : Array Slot, lv_has ls 8 [(0, .ref (gA g (3 + 4 * o)))] → F_X3_saysR_b241   T S_40 T2 z0_241 = EE → W p l e (rmL 4) s m [.ref (gA g (3 + 4 * o)), .int p1, .ref (gA g (40 + 6 * o2)), .int p3].toArray below meth c H locs 0 0 Q (F0 m 241 ls [.int z0_241]) := by
              intro z0_241 H locs hG ls hl  hE
              unfold F_X3_saysR_b241 at hE
              refine lv_bipush (v := 99) hx hb dX3_says_241 (by decide) ?_
              refine lv_aload_n hx hb dX3_says_243 rfl (lv_at hl 0 rfl) ?_
              refine g_get hx hb hts hiX3 hown hG (gw_Text ho hT) rfl 1 (by decide) (index := 15) tw_fl_RX3_15 (v := .ref (gA g (3 + 4 * o + 2))) rfl dX3_says_244 ?_
              refine lv_iconst (v := 0) hx hb dX3_says_247 (by decide) ?_
              refine g_ild hx hb hG (gw_Text_j1 ho) (by unfold vp_in; decide) dX3_says_248 ?_
              refine g_min hx hb hml hl.1 hts hown tw_ml_RX3_49 tw_st_Mmin tw_in_RJ9 tw_cd_Mmin (Nat.le_of_ble_eq_true rfl) (Nat.le_of_ble_eq_true rfl) dX3_says_249 (kk := ?_)
              refine g_max hx hb hml hl.1 hts hown tw_ml_RX3_54 tw_st_Mmax tw_in_RJ9 tw_cd_Mmax (Nat.le_of_ble_eq_true rfl) (Nat.le_of_ble_eq_true rfl) dX3_says_252 (kk := ?_)
              subst hQ
              exact g_iret hx hb hr hlocks hG ((S_40) : (Nat → Int32)) rfl hE.symm dX3_says_255
            refine lv_icmp_ne (tgt := 240) hx hb dX3_says_232 (by decide) (fun c_232 => ?_) (fun c_232 => ?_)
            · replace hE := (if_neg c_232).symm.trans hE
              have i_232 : p1.toInt ≠ 1 := fun h => c_232 (Int32.toInt_inj.mp h)
              refine lv_iconst (v := 0) hx hb dX3_says_240 (by decide) ?_
              exact J241 0 _ _ hG _ (lv_sub hl [0] rfl) hE
            replace hE := (if_pos c_232).symm.trans hE
            have i_232 : p1.toInt = 1 := congrArg Int32.toInt c_232
            refine lv_bipush (v := (-99)) hx hb dX3_says_235 (by decide) ?_
            refine lv_goto (tgt := 241) hx hb dX3_says_237 (by decide) ?_
            exact J241 (-99) _ _ hG _ (lv_sub hl [0] rfl) hE
          refine lv_icmp_ge (tgt := 230) hx hb dX3_says_48 (by decide) (fun c_48 => ?_) (fun c_48 => ?_)
          · replace hE := (if_pos c_48).symm.trans hE
            have i_48 : ((T.2 2) (Int32.toNatClampNeg p1)).toInt ≤ x5_40.toInt := i_le.mp c_48
            exact J230 _ _ hG _ (lv_sub hl [0, 1] rfl) hE
          replace hE := (if_neg c_48).symm.trans hE
          have i_48 : x5_40.toInt < ((T.2 2) (Int32.toNatClampNeg p1)).toInt := i_nle c_48
          refine lv_iload hx hb dX3_says_51 (lv_at hl 5 rfl) ?_
          refine lv_sipush (v := 160) hx hb dX3_says_53 (by decide) ?_
          refine lv_icmp_ge (tgt := 230) hx hb dX3_says_56 (by decide) (fun c_56 => ?_) (fun c_56 => ?_)
          · replace hE := (if_pos c_56).symm.trans hE
            have i_56 : 160 ≤ x5_40.toInt := i_le.mp c_56
            exact J230 _ _ hG _ (lv_sub hl [0, 1] rfl) hE
          replace hE := (if_neg c_56).symm.trans hE
          have i_56 : x5_40.toInt < 160 := i_nle c_56
          refine lv_aload_n hx hb dX3_says_59 rfl (lv_at hl 0 rfl) ?_
          refine g_get hx hb hts hiX3 hown hG (gw_Text ho hT) rfl 0 (by decide) (index := 9) tw_fl_RX3_9 (v := .ref (gA g (3 + 4 * o + 1))) rfl dX3_says_60 ?_
          refine lv_iload hx hb dX3_says_63 (lv_at hl 5 rfl) ?_
          refine g_ild hx hb hG (gw_Text_a0 ho hT) (vp_i (by clear hE; omega) (by clear hE; omega)) dX3_says_65 ?_
          refine lv_istore (lv' := [(6, .int ((T.2 0) (Int32.toNatClampNeg x5_40))), (0, .ref (gA g (3 + 4 * o))), (1, .int p1), (2, .ref (gA g (40 + 6 * o2))), (3, .int p3), (4, .int x4_40), (5, .int x5_40)]) hx hb dX3_says_66 hl (by decide) rfl (fun ls hl => ?_)
          replace hl := lv_sub hl [1, 2, 3, 4, 5, 6, 0] (l' := [(0, .ref (gA g (3 + 4 * o))), (1, .int p1), (2, .ref (gA g (40 + 6 * o2))), (3, .int p3), (4, .int x4_40), (5, .int x5_40), (6, .int ((T.2 0) (Int32.toNatClampNeg x5_40)))]) rfl
          refine lv_iload hx hb dX3_says_68 (lv_at hl 6 rfl) ?_
          refine lv_bipush (v := (-6)) hx hb dX3_says_70 (by decide) ?_
          have J224 : ∀ (x4_224 : Int32) (S_224 : (Nat → Int32)) (H : Heap) (locs : List Loc), gS g A s H locs (gW g bb tx rw sb dy tn mo (va_up jk o S_224)) → ∀ ls : Array Slot, lv_has ls 8 [(0, .ref (gA g (3 + 4 * o))), (1, .int p1), (2, .ref (gA g (40 + 6 * o2))), (3, .int p3), (4, .int x4_224), (5, .int x5_40)] → 0 ≤ x4_224.toInt ∧ x4_224.toInt ≤ 160 → F_X3_saysR_b224  (F_X3_saysR_l40 n ) T S_224 T2 p1 p3 x4_224 x5_40 = EE → W p l e (rmL 4) s m [.ref (gA g (3 + 4 * o)), .int p1, .ref (gA g (40 + 6 * o2)), .int p3].toArray below meth c H locs 0 0 Q (F0 m 224 ls []) := by
            intro x4_224 S_224 H locs hG ls hl ht2 hE
            unfold F_X3_saysR_b224 at hE
            refine lv_iinc (v := (x5_40 + 1)) (lv' := [(5, .int (x5_40 + 1)), (0, .ref (gA g (3 + 4 * o))), (1, .int p1), (2, .ref (gA g (40 + 6 * o2))), (3, .int p3), (4, .int x4_224)]) hx hb dX3_says_224 hl (k := 5) rfl rfl (by decide) rfl (fun ls hl => ?_)
            replace hl := lv_sub hl [1, 2, 3, 4, 5, 0] (l' := [(0, .ref (gA g (3 + 4 * o))), (1, .int p1), (2, .ref (gA g (40 + 6 * o2))), (3, .int p3), (4, .int x4_224), (5, .int (x5_40 + 1))]) rfl
            refine lv_goto (tgt := 40) hx hb dX3_says_227 (by decide) ?_
            have e1 : (x5_40 + 1).toInt = x5_40.toInt + 1 := addL (k := 1) (by decide +kernel) (by clear hE; omega) (by clear hE; omega)
            exact ih40 x4_224 (x5_40 + 1) S_224 _ _ hG _ (lv_sub hl [0, 1, 2, 3, 4, 5] rfl) (by clear hE; omega) (by clear hE; omega) (by clear hE; omega) (by clear hE; omega) (by clear hE; omega) hE
          refine lv_icmp_lt (tgt := 115) hx hb dX3_says_72 (by decide) (fun c_72 => ?_) (fun c_72 => ?_)
          · replace hE := (if_pos c_72).symm.trans hE
            have i_72 : ((T.2 0) (Int32.toNatClampNeg x5_40)).toInt < (-6) := i_lt.mp c_72
            refine lv_iload hx hb dX3_says_115 (lv_at hl 6 rfl) ?_
            refine lv_bipush (v := (-9)) hx hb dX3_says_117 (by decide) ?_
            have J129 : ∀  (H : Heap) (locs : List Loc), gS g A s H locs (gW g bb tx rw sb dy tn mo (va_up jk o S_40)) → ∀ ls : Array Slot, lv_has ls 8 [(0, .ref (gA g (3 + 4 * o))), (1, .int p1), (2, .ref (gA g (40 + 6 * o2))), (3, .int p3), (4, .int x4_40), (5, .int x5_40), (6, .int ((T.2 0) (Int32.toNatClampNeg x5_40)))] → F_X3_saysR_b129  (F_X3_saysR_l40 n ) T S_40 T2 p1 p3 x4_40 x5_40 ((T.2 0) (Int32.toNatClampNeg x5_40)) = EE → W p l e (rmL 4) s m [.ref (gA g (3 + 4 * o)), .int p1, .ref (gA g (40 + 6 * o2)), .int p3].toArray below meth c H locs 0 0 Q (F0 m 129 ls []) := by
              intro  H locs hG ls hl  hE
              unfold F_X3_saysR_b129 at hE
              refine lv_iload hx hb dX3_says_129 (lv_at hl 4 rfl) ?_
              refine lv_iconst (v := 1) hx hb dX3_says_131 (by decide) ?_
              refine lv_icmp_ge (tgt := 137) hx hb dX3_says_132 (by decide) (fun c_132 => ?_) (fun c_132 => ?_)
              · replace hE := (if_pos c_132).symm.trans hE
                have i_132 : 1 ≤ x4_40.toInt := i_le.mp c_132
                refine lv_aload_n hx hb dX3_says_137 rfl (lv_at hl 0 rfl) ?_
                refine g_get hx hb hts hiX3 hown hG (gw_Text ho hT) rfl 1 (by decide) (index := 15) tw_fl_RX3_15 (v := .ref (gA g (3 + 4 * o + 2))) rfl dX3_says_138 ?_
                refine lv_iload hx hb dX3_says_141 (lv_at hl 4 rfl) ?_
                refine lv_iconst (v := 1) hx hb dX3_says_143 (by decide) ?_
                refine lv_isub hx hb dX3_says_144 ?_
                have e2 : (x4_40 - 1).toInt = x4_40.toInt - 1 := subL (k := 1) (by decide +kernel) (by clear hE; omega) (by clear hE; omega)
                refine g_ild hx hb hG (gw_Text_j1 ho) (vp_i (by clear hE; omega) (by clear hE; omega)) dX3_says_145 ?_
                refine lv_istore (lv' := [(7, .int (S_40 (Int32.toNatClampNeg (x4_40 - 1)))), (0, .ref (gA g (3 + 4 * o))), (1, .int p1), (2, .ref (gA g (40 + 6 * o2))), (3, .int p3), (4, .int x4_40), (5, .int x5_40), (6, .int ((T.2 0) (Int32.toNatClampNeg x5_40)))]) hx hb dX3_says_146 hl (by decide) rfl (fun ls hl => ?_)
                replace hl := lv_sub hl [1, 2, 3, 4, 5, 6, 7, 0] (l' := [(0, .ref (gA g (3 + 4 * o))), (1, .int p1), (2, .ref (gA g (40 + 6 * o2))), (3, .int p3), (4, .int x4_40), (5, .int x5_40), (6, .int ((T.2 0) (Int32.toNatClampNeg x5_40))), (7, .int (S_40 (Int32.toNatClampNeg (x4_40 - 1))))]) rfl
                refine lv_aload_n hx hb dX3_says_148 rfl (lv_at hl 0 rfl) ?_
                refine g_get hx hb hts hiX3 hown hG (gw_Text ho hT) rfl 1 (by decide) (index := 15) tw_fl_RX3_15 (v := .ref (gA g (3 + 4 * o + 2))) rfl dX3_says_149 ?_
                refine lv_iload hx hb dX3_says_152 (lv_at hl 4 rfl) ?_
                refine lv_iconst (v := 1) hx hb dX3_says_154 (by decide) ?_
                refine lv_isub hx hb dX3_says_155 ?_
                refine lv_iload hx hb dX3_says_156 (lv_at hl 6 rfl) ?_
                refine lv_bipush (v := (-15)) hx hb dX3_says_158 (by decide) ?_
                have J179 : ∀ (z2_179 : Int32) (H : Heap) (locs : List Loc), gS g A s H locs (gW g bb tx rw sb dy tn mo (va_up jk o S_40)) → ∀ ls : Array Slot, lv_has ls 8 [(0, .ref (gA g (3 + 4 * o))), (1, .int p1), (2, .ref (gA g (40 + 6 * o2))), (3, .int p3), (4, .int x4_40), (5, .int x5_40)] → F_X3_saysR_b179  (F_X3_saysR_l40 n ) T S_40 T2 p1 p3 x4_40 x5_40 (x4_40 - 1) z2_179 = EE → W p l e (rmL 4) s m [.ref (gA g (3 + 4 * o)), .int p1, .ref (gA g (40 + 6 * o2)), .int p3].toArray below meth c H locs 0 0 Q (F0 m 179 ls [.int z2_179, .int (x4_40 - 1), .ref (gA g (3 + 4 * o + 2))]) := by
                  intro z2_179 H locs hG ls hl  hE
                  unfold F_X3_saysR_b179 at hE
                  have e3 : (x4_40 - 1).toInt = x4_40.toInt - 1 := subL (k := 1) (by decide +kernel) (by clear hE; omega) (by clear hE; omega)
                  refine g_ist hx hb hG (gw_Text_j1 ho) (vp_i (by clear hE; omega) (by clear hE; omega)) (gt_Text_j1 ho) dX3_says_179 (fun H locs hG => ?_)
                  refine lv_goto (tgt := 224) hx hb dX3_says_180 (by decide) ?_
                  exact J224 x4_40 (upd S_40 (Int32.toNatClampNeg (x4_40 - 1)) z2_179) _ _ hG _ (lv_sub hl [0, 1, 2, 3, 4, 5] rfl) (by clear hE; omega) hE
                refine lv_icmp_ne (tgt := 169) hx hb dX3_says_160 (by decide) (fun c_160 => ?_) (fun c_160 => ?_)
                · replace hE := (if_neg c_160).symm.trans hE
                  have i_160 : ((T.2 0) (Int32.toNatClampNeg x5_40)).toInt ≠ (-15) := fun h => c_160 (Int32.toInt_inj.mp h)
                  refine lv_iload hx hb dX3_says_169 (lv_at hl 7 rfl) ?_
                  refine lv_if_ne (tgt := 178) hx hb dX3_says_171 (by decide) (fun c_171 => ?_) (fun c_171 => ?_)
                  · replace hE := (if_neg c_171).symm.trans hE
                    have i_171 : (S_40 (Int32.toNatClampNeg (x4_40 - 1))).toInt ≠ 0 := fun h => c_171 (Int32.toInt_inj.mp h)
                    refine lv_iconst (v := 0) hx hb dX3_says_178 (by decide) ?_
                    exact J179 0 _ _ hG _ (lv_sub hl [0, 1, 2, 3, 4, 5] rfl) hE
                  replace hE := (if_pos c_171).symm.trans hE
                  have i_171 : (S_40 (Int32.toNatClampNeg (x4_40 - 1))).toInt = 0 := congrArg Int32.toInt c_171
                  refine lv_iconst (v := 1) hx hb dX3_says_174 (by decide) ?_
                  refine lv_goto (tgt := 179) hx hb dX3_says_175 (by decide) ?_
                  exact J179 1 _ _ hG _ (lv_sub hl [0, 1, 2, 3, 4, 5] rfl) hE
                replace hE := (if_pos c_160).symm.trans hE
                have i_160 : ((T.2 0) (Int32.toNatClampNeg x5_40)).toInt = (-15) := congrArg Int32.toInt c_160
                refine lv_iload hx hb dX3_says_163 (lv_at hl 7 rfl) ?_
                refine lv_ineg hx hb dX3_says_165 ?_
                refine lv_goto (tgt := 179) hx hb dX3_says_166 (by decide) ?_
                exact J179 (-(S_40 (Int32.toNatClampNeg (x4_40 - 1)))) _ _ hG _ (lv_sub hl [0, 1, 2, 3, 4, 5] rfl) hE
              replace hE := (if_neg c_132).symm.trans hE
              have i_132 : x4_40.toInt < 1 := i_nle c_132
              refine lv_iconst (v := 0) hx hb dX3_says_135 (by decide) ?_
              subst hQ
              exact g_iret hx hb hr hlocks hG ((S_40) : (Nat → Int32)) rfl hE.symm dX3_says_136
            refine lv_icmp_eq (tgt := 129) hx hb dX3_says_119 (by decide) (fun c_119 => ?_) (fun c_119 => ?_)
            · replace hE := (if_pos c_119).symm.trans hE
              have i_119 : ((T.2 0) (Int32.toNatClampNeg x5_40)).toInt = (-9) := congrArg Int32.toInt c_119
              exact J129 _ _ hG _ (lv_sub hl [0, 1, 2, 3, 4, 5, 6] rfl) hE
            replace hE := (if_neg c_119).symm.trans hE
            have i_119 : ((T.2 0) (Int32.toNatClampNeg x5_40)).toInt ≠ (-9) := fun h => c_119 (Int32.toInt_inj.mp h)
            refine lv_iload hx hb dX3_says_122 (lv_at hl 6 rfl) ?_
            refine lv_bipush (v := (-15)) hx hb dX3_says_124 (by decide) ?_
            refine lv_icmp_ne (tgt := 183) hx hb dX3_says_126 (by decide) (fun c_126 => ?_) (fun c_126 => ?_)
            · replace hE := (if_neg c_126).symm.trans hE
              have i_126 : ((T.2 0) (Int32.toNatClampNeg x5_40)).toInt ≠ (-15) := fun h => c_126 (Int32.toInt_inj.mp h)
              refine lv_iload hx hb dX3_says_183 (lv_at hl 4 rfl) ?_
              refine lv_iconst (v := 2) hx hb dX3_says_185 (by decide) ?_
              refine lv_icmp_ge (tgt := 191) hx hb dX3_says_186 (by decide) (fun c_186 => ?_) (fun c_186 => ?_)
              · replace hE := (if_pos c_186).symm.trans hE
                have i_186 : 2 ≤ x4_40.toInt := i_le.mp c_186
                refine lv_iinc (v := (x4_40 - 1)) (lv' := [(4, .int (x4_40 - 1)), (0, .ref (gA g (3 + 4 * o))), (1, .int p1), (2, .ref (gA g (40 + 6 * o2))), (3, .int p3), (5, .int x5_40), (6, .int ((T.2 0) (Int32.toNatClampNeg x5_40)))]) hx hb dX3_says_191 hl (k := 4) rfl (i_dec _) (by decide) rfl (fun ls hl => ?_)
                replace hl := lv_sub hl [1, 2, 3, 4, 0, 5, 6] (l' := [(0, .ref (gA g (3 + 4 * o))), (1, .int p1), (2, .ref (gA g (40 + 6 * o2))), (3, .int p3), (4, .int (x4_40 - 1)), (5, .int x5_40), (6, .int ((T.2 0) (Int32.toNatClampNeg x5_40)))]) rfl
                refine lv_aload_n hx hb dX3_says_194 rfl (lv_at hl 0 rfl) ?_
                refine g_get hx hb hts hiX3 hown hG (gw_Text ho hT) rfl 1 (by decide) (index := 15) tw_fl_RX3_15 (v := .ref (gA g (3 + 4 * o + 2))) rfl dX3_says_195 ?_
                refine lv_iload hx hb dX3_says_198 (lv_at hl 4 rfl) ?_
                refine lv_iconst (v := 1) hx hb dX3_says_200 (by decide) ?_
                refine lv_isub hx hb dX3_says_201 ?_
                refine lv_iload hx hb dX3_says_202 (lv_at hl 6 rfl) ?_
                refine lv_aload_n hx hb dX3_says_204 rfl (lv_at hl 0 rfl) ?_
                refine g_get hx hb hts hiX3 hown hG (gw_Text ho hT) rfl 1 (by decide) (index := 15) tw_fl_RX3_15 (v := .ref (gA g (3 + 4 * o + 2))) rfl dX3_says_205 ?_
                refine lv_iload hx hb dX3_says_208 (lv_at hl 4 rfl) ?_
                refine lv_iconst (v := 1) hx hb dX3_says_210 (by decide) ?_
                refine lv_isub hx hb dX3_says_211 ?_
                have e4 : (x4_40 - 1).toInt = x4_40.toInt - 1 := subL (k := 1) (by decide +kernel) (by clear hE; omega) (by clear hE; omega)
                have e5 : ((x4_40 - 1) - 1).toInt = (x4_40 - 1).toInt - 1 := subL (k := 1) (by decide +kernel) (by clear hE; omega) (by clear hE; omega)
                refine g_ild hx hb hG (gw_Text_j1 ho) (vp_i (by clear hE; omega) (by clear hE; omega)) dX3_says_212 ?_
                refine lv_aload_n hx hb dX3_says_213 rfl (lv_at hl 0 rfl) ?_
                refine g_get hx hb hts hiX3 hown hG (gw_Text ho hT) rfl 1 (by decide) (index := 15) tw_fl_RX3_15 (v := .ref (gA g (3 + 4 * o + 2))) rfl dX3_says_214 ?_
                refine lv_iload hx hb dX3_says_217 (lv_at hl 4 rfl) ?_
                have e6 : (x4_40 - 1).toInt = x4_40.toInt - 1 := subL (k := 1) (by decide +kernel) (by clear hE; omega) (by clear hE; omega)
                refine g_ild hx hb hG (gw_Text_j1 ho) (vp_i (by clear hE; omega) (by clear hE; omega)) dX3_says_219 ?_
                refine g_si (g_runS (n := 3) (rest := [.int ((x4_40 - 1) - 1), .ref (gA g (3 + 4 * o + 2))]) hx hb hml hown hts hG (c_X3_joined ((T.2 0) (Int32.toNatClampNeg x5_40)) (S_40 (Int32.toNatClampNeg ((x4_40 - 1) - 1))) (S_40 (Int32.toNatClampNeg (x4_40 - 1)))) tw_ml_RX3_45 tw_st_X3_joined tw_in_RX3 tw_cd_X3_joined (by decide +kernel) ⟨rfl, rfl, Nat.le_of_ble_eq_true rfl, Nat.le_of_ble_eq_true rfl⟩ rfl hl.1 rfl (Nat.le_of_ble_eq_true rfl) dX3_says_220 ⟨Nat.le_refl _, Nat.le_refl _⟩) hG hA (fun H locs hG => ?_)
                have e7 : (x4_40 - 1).toInt = x4_40.toInt - 1 := subL (k := 1) (by decide +kernel) (by clear hE; omega) (by clear hE; omega)
                have e8 : ((x4_40 - 1) - 1).toInt = (x4_40 - 1).toInt - 1 := subL (k := 1) (by decide +kernel) (by clear hE; omega) (by clear hE; omega)
                refine g_ist hx hb hG (gw_Text_j1 ho) (vp_i (by clear hE; omega) (by clear hE; omega)) (gt_Text_j1 ho) dX3_says_223 (fun H locs hG => ?_)
                have e9 : (x4_40 - 1).toInt = x4_40.toInt - 1 := subL (k := 1) (by decide +kernel) (by clear hE; omega) (by clear hE; omega)
                exact J224 (x4_40 - 1) (upd S_40 (Int32.toNatClampNeg ((x4_40 - 1) - 1)) (F_X3_joined ((T.2 0) (Int32.toNatClampNeg x5_40)) (S_40 (Int32.toNatClampNeg ((x4_40 - 1) - 1))) (S_40 (Int32.toNatClampNeg (x4_40 - 1))))) _ _ hG _ (lv_sub hl [0, 1, 2, 3, 4, 5] rfl) (by clear hE; omega) hE
              replace hE := (if_neg c_186).symm.trans hE
              have i_186 : x4_40.toInt < 2 := i_nle c_186
              refine lv_iconst (v := 0) hx hb dX3_says_189 (by decide) ?_
              subst hQ
              exact g_iret hx hb hr hlocks hG ((S_40) : (Nat → Int32)) rfl hE.symm dX3_says_190
            replace hE := (if_pos c_126).symm.trans hE
            have i_126 : ((T.2 0) (Int32.toNatClampNeg x5_40)).toInt = (-15) := congrArg Int32.toInt c_126
            exact J129 _ _ hG _ (lv_sub hl [0, 1, 2, 3, 4, 5, 6] rfl) hE
          replace hE := (if_neg c_72).symm.trans hE
          have i_72 : (-6) ≤ ((T.2 0) (Int32.toNatClampNeg x5_40)).toInt := i_nlt c_72
          refine lv_iload hx hb dX3_says_75 (lv_at hl 4 rfl) ?_
          refine lv_sipush (v := 160) hx hb dX3_says_77 (by decide) ?_
          refine lv_icmp_lt (tgt := 85) hx hb dX3_says_80 (by decide) (fun c_80 => ?_) (fun c_80 => ?_)
          · replace hE := (if_pos c_80).symm.trans hE
            have i_80 : x4_40.toInt < 160 := i_lt.mp c_80
            refine lv_aload_n hx hb dX3_says_85 rfl (lv_at hl 0 rfl) ?_
            refine g_get hx hb hts hiX3 hown hG (gw_Text ho hT) rfl 1 (by decide) (index := 15) tw_fl_RX3_15 (v := .ref (gA g (3 + 4 * o + 2))) rfl dX3_says_86 ?_
            refine lv_iload hx hb dX3_says_89 (lv_at hl 4 rfl) ?_
            refine lv_iload hx hb dX3_says_91 (lv_at hl 6 rfl) ?_
            have J108 : ∀ (z2_108 : Int32) (H : Heap) (locs : List Loc), gS g A s H locs (gW g bb tx rw sb dy tn mo (va_up jk o S_40)) → ∀ ls : Array Slot, lv_has ls 8 [(0, .ref (gA g (3 + 4 * o))), (1, .int p1), (2, .ref (gA g (40 + 6 * o2))), (3, .int p3), (4, .int x4_40), (5, .int x5_40)] → F_X3_saysR_b108  (F_X3_saysR_l40 n ) T S_40 T2 p1 p3 x4_40 x5_40 x4_40 z2_108 = EE → W p l e (rmL 4) s m [.ref (gA g (3 + 4 * o)), .int p1, .ref (gA g (40 + 6 * o2)), .int p3].toArray below meth c H locs 0 0 Q (F0 m 108 ls [.int z2_108, .int x4_40, .ref (gA g (3 + 4 * o + 2))]) := by
              intro z2_108 H locs hG ls hl  hE
              unfold F_X3_saysR_b108 at hE
              refine g_ist hx hb hG (gw_Text_j1 ho) (vp_i (by clear hE; omega) (by clear hE; omega)) (gt_Text_j1 ho) dX3_says_108 (fun H locs hG => ?_)
              refine lv_iinc (v := (x4_40 + 1)) (lv' := [(4, .int (x4_40 + 1)), (0, .ref (gA g (3 + 4 * o))), (1, .int p1), (2, .ref (gA g (40 + 6 * o2))), (3, .int p3), (5, .int x5_40)]) hx hb dX3_says_109 hl (k := 4) rfl rfl (by decide) rfl (fun ls hl => ?_)
              replace hl := lv_sub hl [1, 2, 3, 4, 0, 5] (l' := [(0, .ref (gA g (3 + 4 * o))), (1, .int p1), (2, .ref (gA g (40 + 6 * o2))), (3, .int p3), (4, .int (x4_40 + 1)), (5, .int x5_40)]) rfl
              refine lv_goto (tgt := 224) hx hb dX3_says_112 (by decide) ?_
              have e10 : (x4_40 + 1).toInt = x4_40.toInt + 1 := addL (k := 1) (by decide +kernel) (by clear hE; omega) (by clear hE; omega)
              exact J224 (x4_40 + 1) (upd S_40 (Int32.toNatClampNeg x4_40) z2_108) _ _ hG _ (lv_sub hl [0, 1, 2, 3, 4, 5] rfl) (by clear hE; omega) hE
            refine lv_if_lt (tgt := 101) hx hb dX3_says_93 (by decide) (fun c_93 => ?_) (fun c_93 => ?_)
            · replace hE := (if_pos c_93).symm.trans hE
              have i_93 : ((T.2 0) (Int32.toNatClampNeg x5_40)).toInt < 0 := i_lt.mp c_93
              refine lv_aload_n hx hb dX3_says_101 rfl (lv_at hl 2 rfl) ?_
              refine lv_iload hx hb dX3_says_102 (lv_at hl 6 rfl) ?_
              refine lv_iload_n hx hb dX3_says_104 rfl (lv_at hl 3 rfl) ?_
              refine g_ci (g_runV (n := 2) (rest := [.int x4_40, .ref (gA g (3 + 4 * o + 2))]) hx hb hml hown hts hG (c_X4_named ho2 hT2 ((T.2 0) (Int32.toNatClampNeg x5_40)) p3) tw_ml_RX3_41 tw_im_X4_named tw_se_X4_named tw_in_RX4 tw_cd_X4_named (by decide +kernel) ⟨rfl, rfl, Nat.le_of_ble_eq_true rfl, Nat.le_of_ble_eq_true rfl⟩ (gw_Town ho2 hT2) rfl rfl hl.1 rfl (Nat.le_of_ble_eq_true rfl) dX3_says_105 ⟨Nat.le_refl _, Nat.le_refl _⟩) hG hA (fun r _ H locs hp hG => ?_)
              subst hp
              replace hG : gS g A s H locs (gW g bb tx rw sb dy tn mo (va_up jk o S_40)) := hG
              exact J108 (F_X4_named T2 ((T.2 0) (Int32.toNatClampNeg x5_40)) p3) _ _ hG _ (lv_sub hl [0, 1, 2, 3, 4, 5] rfl) hE
            replace hE := (if_neg c_93).symm.trans hE
            have i_93 : 0 ≤ ((T.2 0) (Int32.toNatClampNeg x5_40)).toInt := i_nlt c_93
            refine lv_iload hx hb dX3_says_96 (lv_at hl 6 rfl) ?_
            refine lv_goto (tgt := 108) hx hb dX3_says_98 (by decide) ?_
            exact J108 ((T.2 0) (Int32.toNatClampNeg x5_40)) _ _ hG _ (lv_sub hl [0, 1, 2, 3, 4, 5] rfl) hE
          replace hE := (if_neg c_80).symm.trans hE
          have i_80 : 160 ≤ x4_40.toInt := i_nlt c_80
          refine lv_iconst (v := 0) hx hb dX3_says_83 (by decide) ?_
          subst hQ
          exact g_iret hx hb hr hlocks hG ((S_40) : (Nat → Int32)) rfl hE.symm dX3_says_84
      exact L40 161 0 z0_38 S _ _ hG _ (lv_sub hl [0, 1, 2, 3, 4, 5] rfl) (by clear hE; omega) (by clear hE; omega) (by clear hE; omega) (by decide) (by decide) hE
    refine lv_if_ne (tgt := 30) hx hb dX3_says_23 (by decide) (fun c_23 => ?_) (fun c_23 => ?_)
    · replace hE := (if_neg c_23).symm.trans hE
      have i_23 : p1.toInt ≠ 0 := fun h => c_23 (Int32.toInt_inj.mp h)
      refine lv_aload_n hx hb dX3_says_30 rfl (lv_at hl 0 rfl) ?_
      refine g_get hx hb hts hiX3 hown hG (gw_Text ho hT) rfl 2 (by decide) (index := 18) tw_fl_RX3_18 (v := .ref (gA g (3 + 4 * o + 3))) rfl dX3_says_31 ?_
      refine lv_iload_n hx hb dX3_says_34 rfl (lv_at hl 1 rfl) ?_
      refine lv_iconst (v := 1) hx hb dX3_says_35 (by decide) ?_
      refine lv_isub hx hb dX3_says_36 ?_
      have e11 : (p1 - 1).toInt = p1.toInt - 1 := subL (k := 1) (by decide +kernel) (by clear hE; omega) (by clear hE; omega)
      refine g_ild hx hb hG (gw_Text_a2 ho hT) (vp_i (by clear hE; omega) (by clear hE; omega)) dX3_says_37 ?_
      exact J38 ((T.2 2) (Int32.toNatClampNeg (p1 - 1))) _ _ hG _ (lv_sub hl [0, 1, 2, 3, 4] rfl) (by have := ends_f hxo (i := p1 - 1) (by clear hE; omega) (by clear hE; omega); omega) hE
    replace hE := (if_pos c_23).symm.trans hE
    have i_23 : p1.toInt = 0 := congrArg Int32.toInt c_23
    refine lv_iconst (v := 0) hx hb dX3_says_26 (by decide) ?_
    refine lv_goto (tgt := 38) hx hb dX3_says_27 (by decide) ?_
    exact J38 0 _ _ hG _ (lv_sub hl [0, 1, 2, 3, 4] rfl) (by decide) hE
  replace hE := (if_pos c_14).symm.trans hE
  refine lv_iconst (v := 0) hx hb dX3_says_17 (by decide) ?_
  subst hQ
  exact g_iret hx hb hr hlocks hG ((S) : (Nat → Int32)) rfl hE.symm dX3_says_18
