theorem addLl {x y : Int32} {k : Int} (hk : x.toInt = k) (h1 : -2147483648 ≤ k + y.toInt) (h2 : k + y.toInt < 2147483648) : (x + y).toInt = k + y.toInt := by subst hk; exact fb_addI h1 h2
theorem subLl {x y : Int32} {k : Int} (hk : x.toInt = k) (h1 : -2147483648 ≤ k - y.toInt) (h2 : k - y.toInt < 2147483648) : (x - y).toInt = k - y.toInt := by subst hk; exact fb_subI h1 h2
-- what hours change in the reference
def hR (m r : Ob) : Prop := (∀ k : Nat, k ≠ 29 → r.1 k = m.1 k) ∧ ∀ k : Nat, k ≠ 3 → k ≠ 4 → k ≠ 30 → r.2 k = m.2 k
theorem hR.refl {m : Ob} : hR m m := ⟨fun _ _ => rfl, fun _ _ _ _ => rfl⟩
theorem hR.trans {m r t : Ob} (h : hR m r) (k : hR r t) : hR m t := ⟨fun q h1 => (k.1 q h1).trans (h.1 q h1), fun q h1 h2 h3 => (k.2 q h1 h2 h3).trans (h.2 q h1 h2 h3)⟩
theorem hR.a3 {m r : Ob} (h : hR m r) (i v : Int32) : hR m (stA r 3 i v) := ⟨h.1, fun k k1 k2 k3 => (sA_ne _ _ k1).trans (h.2 k k1 k2 k3)⟩
theorem hR.a4 {m r : Ob} (h : hR m r) (i v : Int32) : hR m (stA r 4 i v) := ⟨h.1, fun k k1 k2 k3 => (sA_ne _ _ k2).trans (h.2 k k1 k2 k3)⟩
theorem hR.a30 {m r : Ob} (h : hR m r) (i v : Int32) : hR m (stA r 30 i v) := ⟨h.1, fun k k1 k2 k3 => (sA_ne _ _ k3).trans (h.2 k k1 k2 k3)⟩
theorem hR.s29 {m r : Ob} (h : hR m r) (v : Int32) : hR m (setS r 29 v) := ⟨fun k k1 => (s_ne _ k1).trans (h.1 k k1), h.2⟩
theorem mEv_of {m r : Ob} (h : mEv m) (h0 : r.1 0 = m.1 0) (h10 : r.1 10 = m.1 10) (h7 : r.2 7 = m.2 7) (h8 : r.2 8 = m.2 8) : mEv r := by
  unfold mEv wfM
  rw [h0, h10, h7, h8]
  exact h
theorem hR.mEv {m r : Ob} (k : hR m r) (h : mEv m) : mEv r := mEv_of h (k.1 0 (by decide)) (k.1 10 (by decide)) (k.2 7 (by decide) (by decide) (by decide)) (k.2 8 (by decide) (by decide) (by decide))

def F_X6_keeps_l28 : Nat → Ob → Int32 → Ob
  | 0, mo, _ => mo
  | n + 1, mo, x1 =>
    (if 3 ≤ x1 then mo else ((F_X6_keeps_l28 n ) (stA mo 30 (24 + x1) ((mo.2 4) (Int32.toNatClampNeg x1))) (x1 + 1)))
def F_X6_keeps_l2 : Nat → Ob → Int32 → Ob
  | 0, mo, _ => mo
  | n + 1, mo, x1 =>
    (if 24 ≤ x1 then (F_X6_keeps_l28 4  mo 0) else ((F_X6_keeps_l2 n ) (stA mo 30 x1 ((mo.2 3) (Int32.toNatClampNeg x1))) (x1 + 1)))
def F_X6_keeps (mo : Ob) : Ob :=
  (F_X6_keeps_l2 25  mo 0)
set_option maxHeartbeats 4000000 in
set_option maxRecDepth 100000 in
theorem c_X6_keeps {l : Launch} {g : GG} {sz : Nat} {bb : Ob} {tx rw : Nat → Ob} {sb dy : Ob} {tn : Nat → Ob} {mo : Ob} {jk : Nat → Nat → Int32}    : Met l yX6_keeps (Cond.code yX6_keeps cX6_keeps 2 none :: TT) (rmL (1)) (va_Pc [.ref (gA g 58)] (gB g sz (gW g bb tx rw sb dy tn mo jk))) (va_Qv (fun (u : Ob) => (F_X6_keeps mo) = (u)) (fun u t => gC g (va_A (gW g bb tx rw sb dy tn mo jk) sz) (gW g bb tx rw sb dy tn u jk) t) (va_A (gW g bb tx rw sb dy tn mo jk) sz)) 0 0 (va_A (gW g bb tx rw sb dy tn mo jk) sz) := by
  generalize hE : F_X6_keeps mo = EE
  refine g_of (Qf := fun A => (va_Qv (fun (u : Ob) => EE = (u)) (fun u t => gC g A (gW g bb tx rw sb dy tn u jk) t) A)) (cc := cX6_keeps) (maxL := 2) (ret := none) (by decide) (Nat.le_of_ble_eq_true rfl) ?_
  intro p e s m below meth c A ls hx hb hml hr hlocks hts hown hA hG hl
  replace hown : s.vm.findClass RX6 = some m.cls := hown
  replace hl : lv_has ls 2 [(0, .ref (gA g 58))] := hl
  show W p l e (rmL (1)) s m [.ref (gA g 58)].toArray below meth c s.heap [] 0 0 (MQ below (va_Qv (fun (u : Ob) => EE = (u)) (fun u t => gC g A (gW g bb tx rw sb dy tn u jk) t) A) [.ref (gA g 58)].toArray s 0 0 A) (F0 m 0 ls [])
  generalize hQ : MQ below (va_Qv (fun (u : Ob) => EE = (u)) (fun u t => gC g A (gW g bb tx rw sb dy tn u jk) t) A) [.ref (gA g 58)].toArray s 0 0 A = Q
  unfold F_X6_keeps at hE
  refine lv_iconst (v := 0) hx hb dX6_keeps_0 (by decide) ?_
  refine lv_istore_n (lv' := [(1, .int 0), (0, .ref (gA g 58))]) hx hb dX6_keeps_1 rfl hl (by decide) rfl (fun ls hl => ?_)
  replace hl := lv_sub hl [1, 0] (l' := [(0, .ref (gA g 58)), (1, .int 0)]) rfl
  have L2 : ∀ (n2 : Nat) (x1_2 : Int32) (mo_2 : Ob) (H : Heap) (locs : List Loc), gS g A s H locs (gW g bb tx rw sb dy tn mo_2 jk) → ∀ ls : Array Slot, lv_has ls 2 [(0, .ref (gA g 58)), (1, .int x1_2)] → 0 ≤ x1_2.toInt → x1_2.toInt ≤ 24 → 24 < x1_2.toInt + n2 → F_X6_keeps_l2 n2  mo_2 x1_2 = EE → W p l e (rmL (1)) s m [.ref (gA g 58)].toArray below meth c H locs 0 0 Q (F0 m 2 ls []) := by
    intro n2
    induction n2 with
    | zero =>
      intro x1_2 mo_2 H locs hG ls hl h0_2 h1_2 hm_2 hE
      clear hE; omega
    | succ n2 ih2 =>
      intro x1_2 mo_2 H locs hG ls hl h0_2 h1_2 hm_2 hE
      unfold F_X6_keeps_l2 at hE
      refine lv_iload_n hx hb dX6_keeps_2 rfl (lv_at hl 1 rfl) ?_
      refine lv_bipush (v := 24) hx hb dX6_keeps_3 (by decide) ?_
      refine lv_icmp_ge (tgt := 26) hx hb dX6_keeps_5 (by decide) (fun c_5 => ?_) (fun c_5 => ?_)
      · replace hE := (if_pos c_5).symm.trans hE
        have i_5 : 24 ≤ x1_2.toInt := i_le.mp c_5
        refine lv_iconst (v := 0) hx hb dX6_keeps_26 (by decide) ?_
        refine lv_istore_n (lv' := [(1, .int 0), (0, .ref (gA g 58))]) hx hb dX6_keeps_27 rfl hl (by decide) rfl (fun ls hl => ?_)
        replace hl := lv_sub hl [1, 0] (l' := [(0, .ref (gA g 58)), (1, .int 0)]) rfl
        have L28 : ∀ (n28 : Nat) (x1_28 : Int32) (mo_28 : Ob) (H : Heap) (locs : List Loc), gS g A s H locs (gW g bb tx rw sb dy tn mo_28 jk) → ∀ ls : Array Slot, lv_has ls 2 [(0, .ref (gA g 58)), (1, .int x1_28)] → 0 ≤ x1_28.toInt → x1_28.toInt ≤ 3 → 3 < x1_28.toInt + n28 → F_X6_keeps_l28 n28  mo_28 x1_28 = EE → W p l e (rmL (1)) s m [.ref (gA g 58)].toArray below meth c H locs 0 0 Q (F0 m 28 ls []) := by
          intro n28
          induction n28 with
          | zero =>
            intro x1_28 mo_28 H locs hG ls hl h0_28 h1_28 hm_28 hE
            clear hE; omega
          | succ n28 ih28 =>
            intro x1_28 mo_28 H locs hG ls hl h0_28 h1_28 hm_28 hE
            unfold F_X6_keeps_l28 at hE
            refine lv_iload_n hx hb dX6_keeps_28 rfl (lv_at hl 1 rfl) ?_
            refine lv_iconst (v := 3) hx hb dX6_keeps_29 (by decide) ?_
            refine lv_icmp_ge (tgt := 54) hx hb dX6_keeps_30 (by decide) (fun c_30 => ?_) (fun c_30 => ?_)
            · replace hE := (if_pos c_30).symm.trans hE
              have i_30 : 3 ≤ x1_28.toInt := i_le.mp c_30
              subst hQ
              exact g_vret hx hb hr hlocks hG ((mo_28) : Ob) rfl hE.symm dX6_keeps_54
            replace hE := (if_neg c_30).symm.trans hE
            have i_30 : x1_28.toInt < 3 := i_nle c_30
            refine lv_aload_n hx hb dX6_keeps_33 rfl (lv_at hl 0 rfl) ?_
            refine g_get hx hb hts hiX6 hown hG gw_Model rfl 30 (by decide) (index := 61) tw_fl_RX6_61 (v := .ref (gA g 76)) rfl dX6_keeps_34 ?_
            refine lv_bipush (v := 24) hx hb dX6_keeps_37 (by decide) ?_
            refine lv_iload_n hx hb dX6_keeps_39 rfl (lv_at hl 1 rfl) ?_
            refine lv_iadd hx hb dX6_keeps_40 ?_
            refine lv_aload_n hx hb dX6_keeps_41 rfl (lv_at hl 0 rfl) ?_
            refine g_get hx hb hts hiX6 hown hG gw_Model rfl 4 (by decide) (index := 19) tw_fl_RX6_19 (v := .ref (gA g 62)) rfl dX6_keeps_42 ?_
            refine lv_iload_n hx hb dX6_keeps_45 rfl (lv_at hl 1 rfl) ?_
            refine g_ild (f := (mo_28.2 4)) hx hb hG gw_Model_a4 (show vp_in x1_28 3 from (vp_i (by clear hE; omega) (by clear hE; omega))) dX6_keeps_46 ?_
            have e1 : (24 + x1_28).toInt = 24 + x1_28.toInt := addLl (k := 24) (by decide +kernel) (by clear hE; omega) (by clear hE; omega)
            refine g_ist hx hb hG gw_Model_a30 (show vp_in (24 + x1_28) 27 from (vp_i (by clear hE; omega) (by clear hE; omega))) gs_Model_a30 dX6_keeps_47 (fun H locs hG => ?_)
            refine lv_iinc (v := (x1_28 + 1)) (lv' := [(1, .int (x1_28 + 1)), (0, .ref (gA g 58))]) hx hb dX6_keeps_48 hl (k := 1) rfl rfl (by decide) rfl (fun ls hl => ?_)
            replace hl := lv_sub hl [1, 0] (l' := [(0, .ref (gA g 58)), (1, .int (x1_28 + 1))]) rfl
            refine lv_goto (tgt := 28) hx hb dX6_keeps_51 (by decide) ?_
            have e2 : (x1_28 + 1).toInt = x1_28.toInt + 1 := addL (k := 1) (by decide +kernel) (by clear hE; omega) (by clear hE; omega)
            exact ih28 (x1_28 + 1) (stA mo_28 30 (24 + x1_28) ((mo_28.2 4) (Int32.toNatClampNeg x1_28))) _ _ hG _ (lv_sub hl [0, 1] rfl) (by clear hE; omega) (by clear hE; omega) (by clear hE; omega) hE
        exact L28 4 0 mo_2 _ _ hG _ (lv_sub hl [0, 1] rfl) (by decide) (by decide) (by decide) hE
      replace hE := (if_neg c_5).symm.trans hE
      have i_5 : x1_2.toInt < 24 := i_nle c_5
      refine lv_aload_n hx hb dX6_keeps_8 rfl (lv_at hl 0 rfl) ?_
      refine g_get hx hb hts hiX6 hown hG gw_Model rfl 30 (by decide) (index := 61) tw_fl_RX6_61 (v := .ref (gA g 76)) rfl dX6_keeps_9 ?_
      refine lv_iload_n hx hb dX6_keeps_12 rfl (lv_at hl 1 rfl) ?_
      refine lv_aload_n hx hb dX6_keeps_13 rfl (lv_at hl 0 rfl) ?_
      refine g_get hx hb hts hiX6 hown hG gw_Model rfl 3 (by decide) (index := 16) tw_fl_RX6_16 (v := .ref (gA g 61)) rfl dX6_keeps_14 ?_
      refine lv_iload_n hx hb dX6_keeps_17 rfl (lv_at hl 1 rfl) ?_
      refine g_ild (f := (mo_2.2 3)) hx hb hG gw_Model_a3 (show vp_in x1_2 24 from (vp_i (by clear hE; omega) (by clear hE; omega))) dX6_keeps_18 ?_
      refine g_ist hx hb hG gw_Model_a30 (show vp_in x1_2 27 from (vp_i (by clear hE; omega) (by clear hE; omega))) gs_Model_a30 dX6_keeps_19 (fun H locs hG => ?_)
      refine lv_iinc (v := (x1_2 + 1)) (lv' := [(1, .int (x1_2 + 1)), (0, .ref (gA g 58))]) hx hb dX6_keeps_20 hl (k := 1) rfl rfl (by decide) rfl (fun ls hl => ?_)
      replace hl := lv_sub hl [1, 0] (l' := [(0, .ref (gA g 58)), (1, .int (x1_2 + 1))]) rfl
      refine lv_goto (tgt := 2) hx hb dX6_keeps_23 (by decide) ?_
      have e3 : (x1_2 + 1).toInt = x1_2.toInt + 1 := addL (k := 1) (by decide +kernel) (by clear hE; omega) (by clear hE; omega)
      exact ih2 (x1_2 + 1) (stA mo_2 30 x1_2 ((mo_2.2 3) (Int32.toNatClampNeg x1_2))) _ _ hG _ (lv_sub hl [0, 1] rfl) (by clear hE; omega) (by clear hE; omega) (by clear hE; omega) hE
  exact L2 25 0 mo _ _ hG _ (lv_sub hl [0, 1] rfl) (by decide) (by decide) (by decide) hE
def F_X6_lays_l28 : Nat → Ob → Int32 → Ob
  | 0, mo, _ => mo
  | n + 1, mo, x1 =>
    (if 3 ≤ x1 then mo else ((F_X6_lays_l28 n ) (stA mo 4 x1 ((mo.2 30) (Int32.toNatClampNeg (24 + x1)))) (x1 + 1)))
def F_X6_lays_l2 : Nat → Ob → Int32 → Ob
  | 0, mo, _ => mo
  | n + 1, mo, x1 =>
    (if 24 ≤ x1 then (F_X6_lays_l28 4  mo 0) else ((F_X6_lays_l2 n ) (stA mo 3 x1 ((mo.2 30) (Int32.toNatClampNeg x1))) (x1 + 1)))
def F_X6_lays (mo : Ob) : Ob :=
  (F_X6_lays_l2 25  mo 0)
set_option maxHeartbeats 4000000 in
set_option maxRecDepth 100000 in
theorem c_X6_lays {l : Launch} {g : GG} {sz : Nat} {bb : Ob} {tx rw : Nat → Ob} {sb dy : Ob} {tn : Nat → Ob} {mo : Ob} {jk : Nat → Nat → Int32}    : Met l yX6_lays (Cond.code yX6_lays cX6_lays 2 none :: TT) (rmL (1)) (va_Pc [.ref (gA g 58)] (gB g sz (gW g bb tx rw sb dy tn mo jk))) (va_Qv (fun (u : Ob) => (F_X6_lays mo) = (u)) (fun u t => gC g (va_A (gW g bb tx rw sb dy tn mo jk) sz) (gW g bb tx rw sb dy tn u jk) t) (va_A (gW g bb tx rw sb dy tn mo jk) sz)) 0 0 (va_A (gW g bb tx rw sb dy tn mo jk) sz) := by
  generalize hE : F_X6_lays mo = EE
  refine g_of (Qf := fun A => (va_Qv (fun (u : Ob) => EE = (u)) (fun u t => gC g A (gW g bb tx rw sb dy tn u jk) t) A)) (cc := cX6_lays) (maxL := 2) (ret := none) (by decide) (Nat.le_of_ble_eq_true rfl) ?_
  intro p e s m below meth c A ls hx hb hml hr hlocks hts hown hA hG hl
  replace hown : s.vm.findClass RX6 = some m.cls := hown
  replace hl : lv_has ls 2 [(0, .ref (gA g 58))] := hl
  show W p l e (rmL (1)) s m [.ref (gA g 58)].toArray below meth c s.heap [] 0 0 (MQ below (va_Qv (fun (u : Ob) => EE = (u)) (fun u t => gC g A (gW g bb tx rw sb dy tn u jk) t) A) [.ref (gA g 58)].toArray s 0 0 A) (F0 m 0 ls [])
  generalize hQ : MQ below (va_Qv (fun (u : Ob) => EE = (u)) (fun u t => gC g A (gW g bb tx rw sb dy tn u jk) t) A) [.ref (gA g 58)].toArray s 0 0 A = Q
  unfold F_X6_lays at hE
  refine lv_iconst (v := 0) hx hb dX6_lays_0 (by decide) ?_
  refine lv_istore_n (lv' := [(1, .int 0), (0, .ref (gA g 58))]) hx hb dX6_lays_1 rfl hl (by decide) rfl (fun ls hl => ?_)
  replace hl := lv_sub hl [1, 0] (l' := [(0, .ref (gA g 58)), (1, .int 0)]) rfl
  have L2 : ∀ (n2 : Nat) (x1_2 : Int32) (mo_2 : Ob) (H : Heap) (locs : List Loc), gS g A s H locs (gW g bb tx rw sb dy tn mo_2 jk) → ∀ ls : Array Slot, lv_has ls 2 [(0, .ref (gA g 58)), (1, .int x1_2)] → 0 ≤ x1_2.toInt → x1_2.toInt ≤ 24 → 24 < x1_2.toInt + n2 → F_X6_lays_l2 n2  mo_2 x1_2 = EE → W p l e (rmL (1)) s m [.ref (gA g 58)].toArray below meth c H locs 0 0 Q (F0 m 2 ls []) := by
    intro n2
    induction n2 with
    | zero =>
      intro x1_2 mo_2 H locs hG ls hl h0_2 h1_2 hm_2 hE
      clear hE; omega
    | succ n2 ih2 =>
      intro x1_2 mo_2 H locs hG ls hl h0_2 h1_2 hm_2 hE
      unfold F_X6_lays_l2 at hE
      refine lv_iload_n hx hb dX6_lays_2 rfl (lv_at hl 1 rfl) ?_
      refine lv_bipush (v := 24) hx hb dX6_lays_3 (by decide) ?_
      refine lv_icmp_ge (tgt := 26) hx hb dX6_lays_5 (by decide) (fun c_5 => ?_) (fun c_5 => ?_)
      · replace hE := (if_pos c_5).symm.trans hE
        have i_5 : 24 ≤ x1_2.toInt := i_le.mp c_5
        refine lv_iconst (v := 0) hx hb dX6_lays_26 (by decide) ?_
        refine lv_istore_n (lv' := [(1, .int 0), (0, .ref (gA g 58))]) hx hb dX6_lays_27 rfl hl (by decide) rfl (fun ls hl => ?_)
        replace hl := lv_sub hl [1, 0] (l' := [(0, .ref (gA g 58)), (1, .int 0)]) rfl
        have L28 : ∀ (n28 : Nat) (x1_28 : Int32) (mo_28 : Ob) (H : Heap) (locs : List Loc), gS g A s H locs (gW g bb tx rw sb dy tn mo_28 jk) → ∀ ls : Array Slot, lv_has ls 2 [(0, .ref (gA g 58)), (1, .int x1_28)] → 0 ≤ x1_28.toInt → x1_28.toInt ≤ 3 → 3 < x1_28.toInt + n28 → F_X6_lays_l28 n28  mo_28 x1_28 = EE → W p l e (rmL (1)) s m [.ref (gA g 58)].toArray below meth c H locs 0 0 Q (F0 m 28 ls []) := by
          intro n28
          induction n28 with
          | zero =>
            intro x1_28 mo_28 H locs hG ls hl h0_28 h1_28 hm_28 hE
            clear hE; omega
          | succ n28 ih28 =>
            intro x1_28 mo_28 H locs hG ls hl h0_28 h1_28 hm_28 hE
            unfold F_X6_lays_l28 at hE
            refine lv_iload_n hx hb dX6_lays_28 rfl (lv_at hl 1 rfl) ?_
            refine lv_iconst (v := 3) hx hb dX6_lays_29 (by decide) ?_
            refine lv_icmp_ge (tgt := 54) hx hb dX6_lays_30 (by decide) (fun c_30 => ?_) (fun c_30 => ?_)
            · replace hE := (if_pos c_30).symm.trans hE
              have i_30 : 3 ≤ x1_28.toInt := i_le.mp c_30
              subst hQ
              exact g_vret hx hb hr hlocks hG ((mo_28) : Ob) rfl hE.symm dX6_lays_54
            replace hE := (if_neg c_30).symm.trans hE
            have i_30 : x1_28.toInt < 3 := i_nle c_30
            refine lv_aload_n hx hb dX6_lays_33 rfl (lv_at hl 0 rfl) ?_
            refine g_get hx hb hts hiX6 hown hG gw_Model rfl 4 (by decide) (index := 19) tw_fl_RX6_19 (v := .ref (gA g 62)) rfl dX6_lays_34 ?_
            refine lv_iload_n hx hb dX6_lays_37 rfl (lv_at hl 1 rfl) ?_
            refine lv_aload_n hx hb dX6_lays_38 rfl (lv_at hl 0 rfl) ?_
            refine g_get hx hb hts hiX6 hown hG gw_Model rfl 30 (by decide) (index := 61) tw_fl_RX6_61 (v := .ref (gA g 76)) rfl dX6_lays_39 ?_
            refine lv_bipush (v := 24) hx hb dX6_lays_42 (by decide) ?_
            refine lv_iload_n hx hb dX6_lays_44 rfl (lv_at hl 1 rfl) ?_
            refine lv_iadd hx hb dX6_lays_45 ?_
            have e1 : (24 + x1_28).toInt = 24 + x1_28.toInt := addLl (k := 24) (by decide +kernel) (by clear hE; omega) (by clear hE; omega)
            refine g_ild (f := (mo_28.2 30)) hx hb hG gw_Model_a30 (show vp_in (24 + x1_28) 27 from (vp_i (by clear hE; omega) (by clear hE; omega))) dX6_lays_46 ?_
            refine g_ist hx hb hG gw_Model_a4 (show vp_in x1_28 3 from (vp_i (by clear hE; omega) (by clear hE; omega))) gs_Model_a4 dX6_lays_47 (fun H locs hG => ?_)
            refine lv_iinc (v := (x1_28 + 1)) (lv' := [(1, .int (x1_28 + 1)), (0, .ref (gA g 58))]) hx hb dX6_lays_48 hl (k := 1) rfl rfl (by decide) rfl (fun ls hl => ?_)
            replace hl := lv_sub hl [1, 0] (l' := [(0, .ref (gA g 58)), (1, .int (x1_28 + 1))]) rfl
            refine lv_goto (tgt := 28) hx hb dX6_lays_51 (by decide) ?_
            have e2 : (x1_28 + 1).toInt = x1_28.toInt + 1 := addL (k := 1) (by decide +kernel) (by clear hE; omega) (by clear hE; omega)
            exact ih28 (x1_28 + 1) (stA mo_28 4 x1_28 ((mo_28.2 30) (Int32.toNatClampNeg (24 + x1_28)))) _ _ hG _ (lv_sub hl [0, 1] rfl) (by clear hE; omega) (by clear hE; omega) (by clear hE; omega) hE
        exact L28 4 0 mo_2 _ _ hG _ (lv_sub hl [0, 1] rfl) (by decide) (by decide) (by decide) hE
      replace hE := (if_neg c_5).symm.trans hE
      have i_5 : x1_2.toInt < 24 := i_nle c_5
      refine lv_aload_n hx hb dX6_lays_8 rfl (lv_at hl 0 rfl) ?_
      refine g_get hx hb hts hiX6 hown hG gw_Model rfl 3 (by decide) (index := 16) tw_fl_RX6_16 (v := .ref (gA g 61)) rfl dX6_lays_9 ?_
      refine lv_iload_n hx hb dX6_lays_12 rfl (lv_at hl 1 rfl) ?_
      refine lv_aload_n hx hb dX6_lays_13 rfl (lv_at hl 0 rfl) ?_
      refine g_get hx hb hts hiX6 hown hG gw_Model rfl 30 (by decide) (index := 61) tw_fl_RX6_61 (v := .ref (gA g 76)) rfl dX6_lays_14 ?_
      refine lv_iload_n hx hb dX6_lays_17 rfl (lv_at hl 1 rfl) ?_
      refine g_ild (f := (mo_2.2 30)) hx hb hG gw_Model_a30 (show vp_in x1_2 27 from (vp_i (by clear hE; omega) (by clear hE; omega))) dX6_lays_18 ?_
      refine g_ist hx hb hG gw_Model_a3 (show vp_in x1_2 24 from (vp_i (by clear hE; omega) (by clear hE; omega))) gs_Model_a3 dX6_lays_19 (fun H locs hG => ?_)
      refine lv_iinc (v := (x1_2 + 1)) (lv' := [(1, .int (x1_2 + 1)), (0, .ref (gA g 58))]) hx hb dX6_lays_20 hl (k := 1) rfl rfl (by decide) rfl (fun ls hl => ?_)
      replace hl := lv_sub hl [1, 0] (l' := [(0, .ref (gA g 58)), (1, .int (x1_2 + 1))]) rfl
      refine lv_goto (tgt := 2) hx hb dX6_lays_23 (by decide) ?_
      have e3 : (x1_2 + 1).toInt = x1_2.toInt + 1 := addL (k := 1) (by decide +kernel) (by clear hE; omega) (by clear hE; omega)
      exact ih2 (x1_2 + 1) (stA mo_2 3 x1_2 ((mo_2.2 30) (Int32.toNatClampNeg x1_2))) _ _ hG _ (lv_sub hl [0, 1] rfl) (by clear hE; omega) (by clear hE; omega) (by clear hE; omega) hE
  exact L2 25 0 mo _ _ hG _ (lv_sub hl [0, 1] rfl) (by decide) (by decide) (by decide) hE
def F_X6_hourOf_b87 (K13 : Ob → Int32 → Int32 → Int32 → Int32 × Ob) (mo : Ob) (x1 : Int32) (x2 : Int32) (x3 : Int32) : Int32 × Ob :=
  (K13 mo x1 x2 (x3 + 1))
def F_X6_hourOf_l13 : Nat → Ob → Int32 → Int32 → Int32 → Int32 × Ob
  | 0, mo, _, _, _ => (0, mo)
  | n + 1, mo, x1, x2, x3 =>
    (if (mo.1 0) ≤ x3 then (x2, (setS (stA (stA (stA mo 4 2 (F_X6_within x2 0 99)) 4 1 (F_X6_within ((((stA mo 4 2 (F_X6_within x2 0 99)).2 4) (Int32.toNatClampNeg 1)) + x2) 0 999999)) 4 0 ((((stA (stA mo 4 2 (F_X6_within x2 0 99)) 4 1 (F_X6_within ((((stA mo 4 2 (F_X6_within x2 0 99)).2 4) (Int32.toNatClampNeg 1)) + x2) 0 999999)).2 4) (Int32.toNatClampNeg 0)) + 1)) 29 x1)) else (if ((x1 >>> (x3 &&& 31)) &&& 1) = 1 then (F_X6_hourOf_b87 (F_X6_hourOf_l13 n ) (stA (stA mo 3 (4 * x3) (F_X6_within (((mo.2 3) (Int32.toNatClampNeg (4 * x3))) - (F_X6_costsOf mo x3)) 0 99)) 3 ((4 * x3) + 1) (F_X6_within ((((stA mo 3 (4 * x3) (F_X6_within (((mo.2 3) (Int32.toNatClampNeg (4 * x3))) - (F_X6_costsOf mo x3)) 0 99)).2 3) (Int32.toNatClampNeg ((4 * x3) + 1))) + 1) 0 9999)) x1 x2 x3) else (F_X6_hourOf_b87 (F_X6_hourOf_l13 n ) mo x1 x2 x3)))
def F_X6_hourOf (mo : Ob) : Int32 × Ob :=
  (F_X6_hourOf_l13 7  mo (F_X6_liars mo) (F_X6_strikesBy mo (F_X6_liars mo)) 0)
set_option maxHeartbeats 4000000 in
set_option maxRecDepth 100000 in
theorem c_X6_hourOf {l : Launch} {g : GG} {sz : Nat} {bb : Ob} {tx rw : Nat → Ob} {sb dy : Ob} {tn : Nat → Ob} {mo : Ob} {jk : Nat → Nat → Int32}   (hv : mEv mo) : Met l yX6_hourOf (Cond.code yX6_hourOf cX6_hourOf 4 (some .int) :: TT) (rmL (6)) (va_Pc [.ref (gA g 58)] (gB g sz (gW g bb tx rw sb dy tn mo jk))) (va_Qi (fun r (u : Ob × (Nat → Nat → Int32)) => (F_X6_hourOf mo) = (r, u.1)) (fun u t => gC g (va_A (gW g bb tx rw sb dy tn mo jk) sz) (gW g bb tx rw sb dy tn u.1 u.2) t) (va_A (gW g bb tx rw sb dy tn mo jk) sz)) 0 0 (va_A (gW g bb tx rw sb dy tn mo jk) sz) := by
  generalize hE : F_X6_hourOf mo = EE
  refine g_of (Qf := fun A => (va_Qi (fun r (u : Ob × (Nat → Nat → Int32)) => EE = (r, u.1)) (fun u t => gC g A (gW g bb tx rw sb dy tn u.1 u.2) t) A)) (cc := cX6_hourOf) (maxL := 4) (ret := (some .int)) (by decide) (Nat.le_of_ble_eq_true rfl) ?_
  intro p e s m below meth c A ls hx hb hml hr hlocks hts hown hA hG hl
  replace hown : s.vm.findClass RX6 = some m.cls := hown
  replace hl : lv_has ls 4 [(0, .ref (gA g 58))] := hl
  show W p l e (rmL (6)) s m [.ref (gA g 58)].toArray below meth c s.heap [] 0 0 (MQ below (va_Qi (fun r (u : Ob × (Nat → Nat → Int32)) => EE = (r, u.1)) (fun u t => gC g A (gW g bb tx rw sb dy tn u.1 u.2) t) A) [.ref (gA g 58)].toArray s 0 0 A) (F0 m 0 ls [])
  generalize hQ : MQ below (va_Qi (fun r (u : Ob × (Nat → Nat → Int32)) => EE = (r, u.1)) (fun u t => gC g A (gW g bb tx rw sb dy tn u.1 u.2) t) A) [.ref (gA g 58)].toArray s 0 0 A = Q
  have hpo := hv.1
  unfold F_X6_hourOf at hE
  refine lv_aload_n hx hb dX6_hourOf_0 rfl (lv_at hl 0 rfl) ?_
  refine g_ci (g_runV (n := 0) (rest := []) hx hb hml hown hts hG (c_X6_liars hv) tw_ml_RX6_183 tw_im_X6_liars tw_se_X6_liars tw_in_RX6 tw_cd_X6_liars (by decide +kernel) ⟨rfl, rfl, Nat.le_of_ble_eq_true rfl, Nat.le_of_ble_eq_true rfl⟩ gw_Model rfl rfl hl.1 rfl (Nat.le_of_ble_eq_true rfl) dX6_hourOf_1 ⟨Nat.le_refl _, Nat.le_refl _⟩) hG hA (fun r jk H locs hp hG => ?_)
  subst hp
  replace hG : gS g A s H locs (gW g bb tx rw sb dy tn mo jk) := hG
  refine lv_istore_n (lv' := [(1, .int (F_X6_liars mo)), (0, .ref (gA g 58))]) hx hb dX6_hourOf_4 rfl hl (by decide) rfl (fun ls hl => ?_)
  replace hl := lv_sub hl [1, 0] (l' := [(0, .ref (gA g 58)), (1, .int (F_X6_liars mo))]) rfl
  refine lv_aload_n hx hb dX6_hourOf_5 rfl (lv_at hl 0 rfl) ?_
  refine lv_iload_n hx hb dX6_hourOf_6 rfl (lv_at hl 1 rfl) ?_
  refine g_ci (g_runV (n := 1) (rest := []) hx hb hml hown hts hG (c_X6_strikesBy (F_X6_liars mo) hv) tw_ml_RX6_186 tw_im_X6_strikesBy tw_se_X6_strikesBy tw_in_RX6 tw_cd_X6_strikesBy (by decide +kernel) ⟨rfl, rfl, Nat.le_of_ble_eq_true rfl, Nat.le_of_ble_eq_true rfl⟩ gw_Model rfl rfl hl.1 rfl (Nat.le_of_ble_eq_true rfl) dX6_hourOf_7 ⟨Nat.le_refl _, Nat.le_refl _⟩) hG hA (fun r jk H locs hp hG => ?_)
  subst hp
  replace hG : gS g A s H locs (gW g bb tx rw sb dy tn mo jk) := hG
  refine lv_istore_n (lv' := [(2, .int (F_X6_strikesBy mo (F_X6_liars mo))), (0, .ref (gA g 58)), (1, .int (F_X6_liars mo))]) hx hb dX6_hourOf_10 rfl hl (by decide) rfl (fun ls hl => ?_)
  replace hl := lv_sub hl [1, 2, 0] (l' := [(0, .ref (gA g 58)), (1, .int (F_X6_liars mo)), (2, .int (F_X6_strikesBy mo (F_X6_liars mo)))]) rfl
  refine lv_iconst (v := 0) hx hb dX6_hourOf_11 (by decide) ?_
  refine lv_istore_n (lv' := [(3, .int 0), (0, .ref (gA g 58)), (1, .int (F_X6_liars mo)), (2, .int (F_X6_strikesBy mo (F_X6_liars mo)))]) hx hb dX6_hourOf_12 rfl hl (by decide) rfl (fun ls hl => ?_)
  replace hl := lv_sub hl [1, 2, 3, 0] (l' := [(0, .ref (gA g 58)), (1, .int (F_X6_liars mo)), (2, .int (F_X6_strikesBy mo (F_X6_liars mo))), (3, .int 0)]) rfl
  have L13 : ∀ (n13 : Nat) (x3_13 : Int32) (mo_13 : Ob) (jk : (Nat → Nat → Int32)) (H : Heap) (locs : List Loc), gS g A s H locs (gW g bb tx rw sb dy tn mo_13 jk) → ∀ ls : Array Slot, lv_has ls 4 [(0, .ref (gA g 58)), (1, .int (F_X6_liars mo)), (2, .int (F_X6_strikesBy mo (F_X6_liars mo))), (3, .int x3_13)] → 0 ≤ x3_13.toInt → x3_13.toInt ≤ 6 → 6 < x3_13.toInt + n13 → mEv mo_13 → F_X6_hourOf_l13 n13  mo_13 (F_X6_liars mo) (F_X6_strikesBy mo (F_X6_liars mo)) x3_13 = EE → W p l e (rmL (6)) s m [.ref (gA g 58)].toArray below meth c H locs 0 0 Q (F0 m 13 ls []) := by
    intro n13
    induction n13 with
    | zero =>
      intro x3_13 mo_13 jk H locs hG ls hl h0_13 h1_13 hm_13 hv13 hE
      clear hE; omega
    | succ n13 ih13 =>
      intro x3_13 mo_13 jk H locs hG ls hl h0_13 h1_13 hm_13 hv13 hE
      unfold F_X6_hourOf_l13 at hE
      have hpo13 := hv13.1
      refine lv_iload_n hx hb dX6_hourOf_13 rfl (lv_at hl 3 rfl) ?_
      refine lv_aload_n hx hb dX6_hourOf_14 rfl (lv_at hl 0 rfl) ?_
      refine g_get hx hb hts hiX6 hown hG gw_Model rfl 0 (by decide) (index := 78) tw_fl_RX6_78 (v := .int (mo_13.1 0)) rfl dX6_hourOf_15 ?_
      refine lv_icmp_ge (tgt := 93) hx hb dX6_hourOf_18 (by decide) (fun c_18 => ?_) (fun c_18 => ?_)
      · replace hE := (if_pos c_18).symm.trans hE
        have i_18 : (mo_13.1 0).toInt ≤ x3_13.toInt := i_le.mp c_18
        refine lv_aload_n hx hb dX6_hourOf_93 rfl (lv_at hl 0 rfl) ?_
        refine g_get hx hb hts hiX6 hown hG gw_Model rfl 4 (by decide) (index := 19) tw_fl_RX6_19 (v := .ref (gA g 62)) rfl dX6_hourOf_94 ?_
        refine lv_iconst (v := 2) hx hb dX6_hourOf_97 (by decide) ?_
        refine lv_iload_n hx hb dX6_hourOf_98 rfl (lv_at hl 2 rfl) ?_
        refine lv_iconst (v := 0) hx hb dX6_hourOf_99 (by decide) ?_
        refine lv_bipush (v := 99) hx hb dX6_hourOf_100 (by decide) ?_
        refine g_si (g_runS (n := 3) (rest := [.int 2, .ref (gA g 62)]) hx hb hml hown hts hG (c_X6_within (F_X6_strikesBy mo (F_X6_liars mo)) 0 99) tw_ml_RX6_155 tw_st_X6_within tw_in_RX6 tw_cd_X6_within (by decide +kernel) ⟨rfl, rfl, Nat.le_of_ble_eq_true rfl, Nat.le_of_ble_eq_true rfl⟩ rfl hl.1 rfl (Nat.le_of_ble_eq_true rfl) dX6_hourOf_102 ⟨Nat.le_refl _, Nat.le_refl _⟩) hG hA (fun H locs hG => ?_)
        refine g_ist hx hb hG gw_Model_a4 (show vp_in 2 3 from (by unfold vp_in; decide)) gs_Model_a4 dX6_hourOf_105 (fun H locs hG => ?_)
        refine lv_aload_n hx hb dX6_hourOf_106 rfl (lv_at hl 0 rfl) ?_
        refine g_get hx hb hts hiX6 hown hG gw_Model rfl 4 (by decide) (index := 19) tw_fl_RX6_19 (v := .ref (gA g 62)) rfl dX6_hourOf_107 ?_
        refine lv_iconst (v := 1) hx hb dX6_hourOf_110 (by decide) ?_
        refine lv_aload_n hx hb dX6_hourOf_111 rfl (lv_at hl 0 rfl) ?_
        refine g_get hx hb hts hiX6 hown hG gw_Model rfl 4 (by decide) (index := 19) tw_fl_RX6_19 (v := .ref (gA g 62)) rfl dX6_hourOf_112 ?_
        refine lv_iconst (v := 1) hx hb dX6_hourOf_115 (by decide) ?_
        refine g_ild (f := ((stA mo_13 4 2 (F_X6_within (F_X6_strikesBy mo (F_X6_liars mo)) 0 99)).2 4)) hx hb hG gw_Model_a4 (show vp_in 1 3 from (by unfold vp_in; decide)) dX6_hourOf_116 ?_
        refine lv_iload_n hx hb dX6_hourOf_117 rfl (lv_at hl 2 rfl) ?_
        refine lv_iadd hx hb dX6_hourOf_118 ?_
        refine lv_iconst (v := 0) hx hb dX6_hourOf_119 (by decide) ?_
        refine lv_ldc (v := 999999) hx hb hown (hts _ tw_co_RX6_192) dX6_hourOf_120 ?_
        refine g_si (g_runS (n := 3) (rest := [.int 1, .ref (gA g 62)]) hx hb hml hown hts hG (c_X6_within ((((stA mo_13 4 2 (F_X6_within (F_X6_strikesBy mo (F_X6_liars mo)) 0 99)).2 4) (Int32.toNatClampNeg 1)) + (F_X6_strikesBy mo (F_X6_liars mo))) 0 999999) tw_ml_RX6_155 tw_st_X6_within tw_in_RX6 tw_cd_X6_within (by decide +kernel) ⟨rfl, rfl, Nat.le_of_ble_eq_true rfl, Nat.le_of_ble_eq_true rfl⟩ rfl hl.1 rfl (Nat.le_of_ble_eq_true rfl) dX6_hourOf_122 ⟨Nat.le_refl _, Nat.le_refl _⟩) hG hA (fun H locs hG => ?_)
        refine g_ist hx hb hG gw_Model_a4 (show vp_in 1 3 from (by unfold vp_in; decide)) gs_Model_a4 dX6_hourOf_125 (fun H locs hG => ?_)
        refine lv_aload_n hx hb dX6_hourOf_126 rfl (lv_at hl 0 rfl) ?_
        refine g_get hx hb hts hiX6 hown hG gw_Model rfl 4 (by decide) (index := 19) tw_fl_RX6_19 (v := .ref (gA g 62)) rfl dX6_hourOf_127 ?_
        refine lv_iconst (v := 0) hx hb dX6_hourOf_130 (by decide) ?_
        refine lv_dup2_11 hx hb dX6_hourOf_131 rfl rfl ?_
        refine g_ild (f := ((stA (stA mo_13 4 2 (F_X6_within (F_X6_strikesBy mo (F_X6_liars mo)) 0 99)) 4 1 (F_X6_within ((((stA mo_13 4 2 (F_X6_within (F_X6_strikesBy mo (F_X6_liars mo)) 0 99)).2 4) (Int32.toNatClampNeg 1)) + (F_X6_strikesBy mo (F_X6_liars mo))) 0 999999)).2 4)) hx hb hG gw_Model_a4 (show vp_in 0 3 from (by unfold vp_in; decide)) dX6_hourOf_132 ?_
        refine lv_iconst (v := 1) hx hb dX6_hourOf_133 (by decide) ?_
        refine lv_iadd hx hb dX6_hourOf_134 ?_
        refine g_ist hx hb hG gw_Model_a4 (show vp_in 0 3 from (by unfold vp_in; decide)) gs_Model_a4 dX6_hourOf_135 (fun H locs hG => ?_)
        refine lv_aload_n hx hb dX6_hourOf_136 rfl (lv_at hl 0 rfl) ?_
        refine lv_iload_n hx hb dX6_hourOf_137 rfl (lv_at hl 1 rfl) ?_
        refine g_put hx hb hts hiX6 tyX6 tyX6_ok nmX6 hown hG gw_Model rfl 29 (by decide) (index := 193) tw_fl_RX6_193 rfl rfl rfl (Nat.le_of_ble_eq_true rfl) gs_Model_f29 dX6_hourOf_138 (fun H locs hG => ?_)
        refine lv_iload_n hx hb dX6_hourOf_141 rfl (lv_at hl 2 rfl) ?_
        subst hQ
        exact g_iret hx hb hr hlocks hG (((setS (stA (stA (stA mo_13 4 2 (F_X6_within (F_X6_strikesBy mo (F_X6_liars mo)) 0 99)) 4 1 (F_X6_within ((((stA mo_13 4 2 (F_X6_within (F_X6_strikesBy mo (F_X6_liars mo)) 0 99)).2 4) (Int32.toNatClampNeg 1)) + (F_X6_strikesBy mo (F_X6_liars mo))) 0 999999)) 4 0 ((((stA (stA mo_13 4 2 (F_X6_within (F_X6_strikesBy mo (F_X6_liars mo)) 0 99)) 4 1 (F_X6_within ((((stA mo_13 4 2 (F_X6_within (F_X6_strikesBy mo (F_X6_liars mo)) 0 99)).2 4) (Int32.toNatClampNeg 1)) + (F_X6_strikesBy mo (F_X6_liars mo))) 0 999999)).2 4) (Int32.toNatClampNeg 0)) + 1)) 29 (F_X6_liars mo)), jk) : Ob × (Nat → Nat → Int32)) rfl hE.symm dX6_hourOf_142
      replace hE := (if_neg c_18).symm.trans hE
      have i_18 : x3_13.toInt < (mo_13.1 0).toInt := i_nle c_18
      refine lv_iload_n hx hb dX6_hourOf_21 rfl (lv_at hl 1 rfl) ?_
      refine lv_iload_n hx hb dX6_hourOf_22 rfl (lv_at hl 3 rfl) ?_
      refine lv_ishr hx hb dX6_hourOf_23 ?_
      refine lv_iconst (v := 1) hx hb dX6_hourOf_24 (by decide) ?_
      refine lv_iand hx hb dX6_hourOf_25 ?_
      refine lv_iconst (v := 1) hx hb dX6_hourOf_26 (by decide) ?_
      have J87 : ∀ (mo_87 : Ob) (jk : (Nat → Nat → Int32)) (H : Heap) (locs : List Loc), gS g A s H locs (gW g bb tx rw sb dy tn mo_87 jk) → ∀ ls : Array Slot, lv_has ls 4 [(0, .ref (gA g 58)), (1, .int (F_X6_liars mo)), (2, .int (F_X6_strikesBy mo (F_X6_liars mo))), (3, .int x3_13)] → mEv mo_87 → F_X6_hourOf_b87  (F_X6_hourOf_l13 n13 ) mo_87 (F_X6_liars mo) (F_X6_strikesBy mo (F_X6_liars mo)) x3_13 = EE → W p l e (rmL (6)) s m [.ref (gA g 58)].toArray below meth c H locs 0 0 Q (F0 m 87 ls []) := by
        intro mo_87 jk H locs hG ls hl hv87 hE
        unfold F_X6_hourOf_b87 at hE
        refine lv_iinc (v := (x3_13 + 1)) (lv' := [(3, .int (x3_13 + 1)), (0, .ref (gA g 58)), (1, .int (F_X6_liars mo)), (2, .int (F_X6_strikesBy mo (F_X6_liars mo)))]) hx hb dX6_hourOf_87 hl (k := 3) rfl rfl (by decide) rfl (fun ls hl => ?_)
        replace hl := lv_sub hl [1, 2, 3, 0] (l' := [(0, .ref (gA g 58)), (1, .int (F_X6_liars mo)), (2, .int (F_X6_strikesBy mo (F_X6_liars mo))), (3, .int (x3_13 + 1))]) rfl
        refine lv_goto (tgt := 13) hx hb dX6_hourOf_90 (by decide) ?_
        have e1 : (x3_13 + 1).toInt = x3_13.toInt + 1 := addL (k := 1) (by decide +kernel) (by clear hE; omega) (by clear hE; omega)
        exact ih13 (x3_13 + 1) mo_87 _ _ _ hG _ (lv_sub hl [0, 1, 2, 3] rfl) (by clear hE; omega) (by clear hE; omega) (by clear hE; omega) hv87 hE
      refine lv_icmp_ne (tgt := 87) hx hb dX6_hourOf_27 (by decide) (fun c_27 => ?_) (fun c_27 => ?_)
      · replace hE := (if_neg c_27).symm.trans hE
        have i_27 : (((F_X6_liars mo) >>> (x3_13 &&& 31)) &&& 1).toInt ≠ 1 := fun h => c_27 (Int32.toInt_inj.mp h)
        exact J87 mo_13 _ _ _ hG _ (lv_sub hl [0, 1, 2, 3] rfl) hv13 hE
      replace hE := (if_pos c_27).symm.trans hE
      have i_27 : (((F_X6_liars mo) >>> (x3_13 &&& 31)) &&& 1).toInt = 1 := congrArg Int32.toInt c_27
      refine lv_aload_n hx hb dX6_hourOf_30 rfl (lv_at hl 0 rfl) ?_
      refine g_get hx hb hts hiX6 hown hG gw_Model rfl 3 (by decide) (index := 16) tw_fl_RX6_16 (v := .ref (gA g 61)) rfl dX6_hourOf_31 ?_
      refine lv_iconst (v := 4) hx hb dX6_hourOf_34 (by decide) ?_
      refine lv_iload_n hx hb dX6_hourOf_35 rfl (lv_at hl 3 rfl) ?_
      refine lv_imul hx hb dX6_hourOf_36 ?_
      refine lv_aload_n hx hb dX6_hourOf_37 rfl (lv_at hl 0 rfl) ?_
      refine g_get hx hb hts hiX6 hown hG gw_Model rfl 3 (by decide) (index := 16) tw_fl_RX6_16 (v := .ref (gA g 61)) rfl dX6_hourOf_38 ?_
      refine lv_iconst (v := 4) hx hb dX6_hourOf_41 (by decide) ?_
      refine lv_iload_n hx hb dX6_hourOf_42 rfl (lv_at hl 3 rfl) ?_
      refine lv_imul hx hb dX6_hourOf_43 ?_
      have e2 : (4 * x3_13).toInt = 4 * x3_13.toInt := mulL (k := 4) (by decide +kernel) (by clear hE; omega) (by clear hE; omega)
      refine g_ild (f := (mo_13.2 3)) hx hb hG gw_Model_a3 (show vp_in (4 * x3_13) 24 from (vp_i (by clear hE; omega) (by clear hE; omega))) dX6_hourOf_44 ?_
      refine lv_aload_n hx hb dX6_hourOf_45 rfl (lv_at hl 0 rfl) ?_
      refine lv_iload_n hx hb dX6_hourOf_46 rfl (lv_at hl 3 rfl) ?_
      refine g_ci (g_runV (n := 1) (rest := [.int ((mo_13.2 3) (Int32.toNatClampNeg (4 * x3_13))), .int (4 * x3_13), .ref (gA g 61)]) hx hb hml hown hts hG (c_X6_costsOf x3_13 hv13 (show 0 ≤ x3_13.toInt ∧ x3_13.toInt < 6 from by clear hE; omega)) tw_ml_RX6_180 tw_im_X6_costsOf tw_se_X6_costsOf tw_in_RX6 tw_cd_X6_costsOf (by decide +kernel) ⟨rfl, rfl, Nat.le_of_ble_eq_true rfl, Nat.le_of_ble_eq_true rfl⟩ gw_Model rfl rfl hl.1 rfl (Nat.le_of_ble_eq_true rfl) dX6_hourOf_47 ⟨Nat.le_refl _, Nat.le_refl _⟩) hG hA (fun r jk H locs hp hG => ?_)
      subst hp
      replace hG : gS g A s H locs (gW g bb tx rw sb dy tn mo_13 jk) := hG
      refine lv_isub hx hb dX6_hourOf_50 ?_
      refine lv_iconst (v := 0) hx hb dX6_hourOf_51 (by decide) ?_
      refine lv_bipush (v := 99) hx hb dX6_hourOf_52 (by decide) ?_
      refine g_si (g_runS (n := 3) (rest := [.int (4 * x3_13), .ref (gA g 61)]) hx hb hml hown hts hG (c_X6_within (((mo_13.2 3) (Int32.toNatClampNeg (4 * x3_13))) - (F_X6_costsOf mo_13 x3_13)) 0 99) tw_ml_RX6_155 tw_st_X6_within tw_in_RX6 tw_cd_X6_within (by decide +kernel) ⟨rfl, rfl, Nat.le_of_ble_eq_true rfl, Nat.le_of_ble_eq_true rfl⟩ rfl hl.1 rfl (Nat.le_of_ble_eq_true rfl) dX6_hourOf_54 ⟨Nat.le_refl _, Nat.le_refl _⟩) hG hA (fun H locs hG => ?_)
      have e3 : (4 * x3_13).toInt = 4 * x3_13.toInt := mulL (k := 4) (by decide +kernel) (by clear hE; omega) (by clear hE; omega)
      refine g_ist hx hb hG gw_Model_a3 (show vp_in (4 * x3_13) 24 from (vp_i (by clear hE; omega) (by clear hE; omega))) gs_Model_a3 dX6_hourOf_57 (fun H locs hG => ?_)
      refine lv_aload_n hx hb dX6_hourOf_58 rfl (lv_at hl 0 rfl) ?_
      refine g_get hx hb hts hiX6 hown hG gw_Model rfl 3 (by decide) (index := 16) tw_fl_RX6_16 (v := .ref (gA g 61)) rfl dX6_hourOf_59 ?_
      refine lv_iconst (v := 4) hx hb dX6_hourOf_62 (by decide) ?_
      refine lv_iload_n hx hb dX6_hourOf_63 rfl (lv_at hl 3 rfl) ?_
      refine lv_imul hx hb dX6_hourOf_64 ?_
      refine lv_iconst (v := 1) hx hb dX6_hourOf_65 (by decide) ?_
      refine lv_iadd hx hb dX6_hourOf_66 ?_
      refine lv_aload_n hx hb dX6_hourOf_67 rfl (lv_at hl 0 rfl) ?_
      refine g_get hx hb hts hiX6 hown hG gw_Model rfl 3 (by decide) (index := 16) tw_fl_RX6_16 (v := .ref (gA g 61)) rfl dX6_hourOf_68 ?_
      refine lv_iconst (v := 4) hx hb dX6_hourOf_71 (by decide) ?_
      refine lv_iload_n hx hb dX6_hourOf_72 rfl (lv_at hl 3 rfl) ?_
      refine lv_imul hx hb dX6_hourOf_73 ?_
      refine lv_iconst (v := 1) hx hb dX6_hourOf_74 (by decide) ?_
      refine lv_iadd hx hb dX6_hourOf_75 ?_
      have e4 : (4 * x3_13).toInt = 4 * x3_13.toInt := mulL (k := 4) (by decide +kernel) (by clear hE; omega) (by clear hE; omega)
      have e5 : ((4 * x3_13) + 1).toInt = (4 * x3_13).toInt + 1 := addL (k := 1) (by decide +kernel) (by clear hE; omega) (by clear hE; omega)
      refine g_ild (f := ((stA mo_13 3 (4 * x3_13) (F_X6_within (((mo_13.2 3) (Int32.toNatClampNeg (4 * x3_13))) - (F_X6_costsOf mo_13 x3_13)) 0 99)).2 3)) hx hb hG gw_Model_a3 (show vp_in ((4 * x3_13) + 1) 24 from (vp_i (by clear hE; omega) (by clear hE; omega))) dX6_hourOf_76 ?_
      refine lv_iconst (v := 1) hx hb dX6_hourOf_77 (by decide) ?_
      refine lv_iadd hx hb dX6_hourOf_78 ?_
      refine lv_iconst (v := 0) hx hb dX6_hourOf_79 (by decide) ?_
      refine lv_sipush (v := 9999) hx hb dX6_hourOf_80 (by decide) ?_
      refine g_si (g_runS (n := 3) (rest := [.int ((4 * x3_13) + 1), .ref (gA g 61)]) hx hb hml hown hts hG (c_X6_within ((((stA mo_13 3 (4 * x3_13) (F_X6_within (((mo_13.2 3) (Int32.toNatClampNeg (4 * x3_13))) - (F_X6_costsOf mo_13 x3_13)) 0 99)).2 3) (Int32.toNatClampNeg ((4 * x3_13) + 1))) + 1) 0 9999) tw_ml_RX6_155 tw_st_X6_within tw_in_RX6 tw_cd_X6_within (by decide +kernel) ⟨rfl, rfl, Nat.le_of_ble_eq_true rfl, Nat.le_of_ble_eq_true rfl⟩ rfl hl.1 rfl (Nat.le_of_ble_eq_true rfl) dX6_hourOf_83 ⟨Nat.le_refl _, Nat.le_refl _⟩) hG hA (fun H locs hG => ?_)
      have e6 : (4 * x3_13).toInt = 4 * x3_13.toInt := mulL (k := 4) (by decide +kernel) (by clear hE; omega) (by clear hE; omega)
      have e7 : ((4 * x3_13) + 1).toInt = (4 * x3_13).toInt + 1 := addL (k := 1) (by decide +kernel) (by clear hE; omega) (by clear hE; omega)
      refine g_ist hx hb hG gw_Model_a3 (show vp_in ((4 * x3_13) + 1) 24 from (vp_i (by clear hE; omega) (by clear hE; omega))) gs_Model_a3 dX6_hourOf_86 (fun H locs hG => ?_)
      exact J87 (stA (stA mo_13 3 (4 * x3_13) (F_X6_within (((mo_13.2 3) (Int32.toNatClampNeg (4 * x3_13))) - (F_X6_costsOf mo_13 x3_13)) 0 99)) 3 ((4 * x3_13) + 1) (F_X6_within ((((stA mo_13 3 (4 * x3_13) (F_X6_within (((mo_13.2 3) (Int32.toNatClampNeg (4 * x3_13))) - (F_X6_costsOf mo_13 x3_13)) 0 99)).2 3) (Int32.toNatClampNeg ((4 * x3_13) + 1))) + 1) 0 9999)) _ _ _ hG _ (lv_sub hl [0, 1, 2, 3] rfl) hv13 hE
  exact L13 7 0 mo _ _ _ hG _ (lv_sub hl [0, 1, 2, 3] rfl) (by decide) (by decide) (by decide) hv hE
theorem keeps_l28 {m : Ob} : ∀ (n : Nat) (r : Ob) (x : Int32), hR m r → hR m (F_X6_keeps_l28 n r x) := by
  intro n
  induction n with
  | zero => intro r x h; exact h
  | succ n ih =>
    intro r x h
    unfold F_X6_keeps_l28
    split
    · exact h
    · exact ih _ _ (h.a30 _ _)
theorem keeps_hR {m r : Ob} (hp : F_X6_keeps m = r) : hR m r := by
  have k : ∀ (n : Nat) (r : Ob) (x : Int32), hR m r → hR m (F_X6_keeps_l2 n r x) := by
    intro n
    induction n with
    | zero => intro r x h; exact h
    | succ n ih =>
      intro r x h
      unfold F_X6_keeps_l2
      split
      · exact keeps_l28 4 _ _ h
      · exact ih _ _ (h.a30 _ _)
  subst hp
  exact k 25 _ _ hR.refl
theorem lays_l28 {m : Ob} : ∀ (n : Nat) (r : Ob) (x : Int32), hR m r → hR m (F_X6_lays_l28 n r x) := by
  intro n
  induction n with
  | zero => intro r x h; exact h
  | succ n ih =>
    intro r x h
    unfold F_X6_lays_l28
    split
    · exact h
    · exact ih _ _ (h.a4 _ _)
theorem lays_hR {m r : Ob} (hp : F_X6_lays m = r) : hR m r := by
  have k : ∀ (n : Nat) (r : Ob) (x : Int32), hR m r → hR m (F_X6_lays_l2 n r x) := by
    intro n
    induction n with
    | zero => intro r x h; exact h
    | succ n ih =>
      intro r x h
      unfold F_X6_lays_l2
      split
      · exact lays_l28 4 _ _ h
      · exact ih _ _ (h.a3 _ _)
  subst hp
  exact k 25 _ _ hR.refl
theorem hourOf_hR {m r : Ob} {v : Int32} (hp : F_X6_hourOf m = (v, r)) : hR m r := by
  have k : ∀ (n : Nat) (r : Ob) (x1 x2 x3 : Int32), hR m r → hR m (F_X6_hourOf_l13 n r x1 x2 x3).2 := by
    intro n
    induction n with
    | zero => intro r x1 x2 x3 h; exact h
    | succ n ih =>
      intro r x1 x2 x3 h
      unfold F_X6_hourOf_l13
      split
      · exact (((h.a4 _ _).a4 _ _).a4 _ _).s29 _
      · split
        · exact ih _ _ _ _ ((h.a3 _ _).a3 _ _)
        · exact ih _ _ _ _ h
  have e : r = (F_X6_hourOf m).2 := by rw [hp]
  rw [e]
  exact k 7 _ _ _ _ hR.refl

def F_X6_strike_c18 (u : Int32 × Ob) : Int32 × Ob :=
  (u.1, u.2)
def F_X6_strike (mo : Ob) : Int32 × Ob :=
  (if ((mo.2 4) (Int32.toNatClampNeg 0)) = 9999 then ((-3), mo) else (F_X6_strike_c18 (F_X6_hourOf mo)))
set_option maxHeartbeats 4000000 in
set_option maxRecDepth 100000 in
theorem c_X6_strike {l : Launch} {g : GG} {sz : Nat} {bb : Ob} {tx rw : Nat → Ob} {sb dy : Ob} {tn : Nat → Ob} {mo : Ob} {jk : Nat → Nat → Int32}   (hv : mEv mo) : Met l yX6_strike (Cond.code yX6_strike cX6_strike 1 (some .int) :: TT) (rmL (7)) (va_Pc [.ref (gA g 58)] (gB g sz (gW g bb tx rw sb dy tn mo jk))) (va_Qi (fun r (u : Ob × (Nat → Nat → Int32)) => (F_X6_strike mo) = (r, u.1)) (fun u t => gC g (va_A (gW g bb tx rw sb dy tn mo jk) sz) (gW g bb tx rw sb dy tn u.1 u.2) t) (va_A (gW g bb tx rw sb dy tn mo jk) sz)) 0 0 (va_A (gW g bb tx rw sb dy tn mo jk) sz) := by
  generalize hE : F_X6_strike mo = EE
  refine g_of (Qf := fun A => (va_Qi (fun r (u : Ob × (Nat → Nat → Int32)) => EE = (r, u.1)) (fun u t => gC g A (gW g bb tx rw sb dy tn u.1 u.2) t) A)) (cc := cX6_strike) (maxL := 1) (ret := (some .int)) (by decide) (Nat.le_of_ble_eq_true rfl) ?_
  intro p e s m below meth c A ls hx hb hml hr hlocks hts hown hA hG hl
  replace hown : s.vm.findClass RX6 = some m.cls := hown
  replace hl : lv_has ls 1 [(0, .ref (gA g 58))] := hl
  show W p l e (rmL (7)) s m [.ref (gA g 58)].toArray below meth c s.heap [] 0 0 (MQ below (va_Qi (fun r (u : Ob × (Nat → Nat → Int32)) => EE = (r, u.1)) (fun u t => gC g A (gW g bb tx rw sb dy tn u.1 u.2) t) A) [.ref (gA g 58)].toArray s 0 0 A) (F0 m 0 ls [])
  generalize hQ : MQ below (va_Qi (fun r (u : Ob × (Nat → Nat → Int32)) => EE = (r, u.1)) (fun u t => gC g A (gW g bb tx rw sb dy tn u.1 u.2) t) A) [.ref (gA g 58)].toArray s 0 0 A = Q
  unfold F_X6_strike at hE
  refine lv_aload_n hx hb dX6_strike_0 rfl (lv_at hl 0 rfl) ?_
  refine g_get hx hb hts hiX6 hown hG gw_Model rfl 4 (by decide) (index := 19) tw_fl_RX6_19 (v := .ref (gA g 62)) rfl dX6_strike_1 ?_
  refine lv_iconst (v := 0) hx hb dX6_strike_4 (by decide) ?_
  refine g_ild (f := (mo.2 4)) hx hb hG gw_Model_a4 (show vp_in 0 3 from (by unfold vp_in; decide)) dX6_strike_5 ?_
  refine lv_sipush (v := 9999) hx hb dX6_strike_6 (by decide) ?_
  refine lv_icmp_ne (tgt := 17) hx hb dX6_strike_9 (by decide) (fun c_9 => ?_) (fun c_9 => ?_)
  · replace hE := (if_neg c_9).symm.trans hE
    have i_9 : ((mo.2 4) (Int32.toNatClampNeg 0)).toInt ≠ 9999 := fun h => c_9 (Int32.toInt_inj.mp h)
    refine lv_aload_n hx hb dX6_strike_17 rfl (lv_at hl 0 rfl) ?_
    refine g_ci (g_runV (n := 0) (rest := []) hx hb hml hown hts hG (c_X6_hourOf hv) tw_ml_RX6_196 tw_im_X6_hourOf tw_se_X6_hourOf tw_in_RX6 tw_cd_X6_hourOf (by decide +kernel) ⟨rfl, rfl, Nat.le_of_ble_eq_true rfl, Nat.le_of_ble_eq_true rfl⟩ gw_Model rfl rfl hl.1 rfl (Nat.le_of_ble_eq_true rfl) dX6_strike_18 ⟨Nat.le_refl _, Nat.le_refl _⟩) hG hA (fun r_18 u H locs hp hG => ?_)
    obtain ⟨mo_18, jk⟩ := u
    replace hG : gS g A s H locs (gW g bb tx rw sb dy tn mo_18 jk) := by simpa only [up_up] using hG
    have hp_18 := hp
    rw [hp] at hE
    unfold F_X6_strike_c18 at hE
    try dsimp only at hE
    subst hQ
    exact g_iret hx hb hr hlocks hG ((mo_18, jk) : Ob × (Nat → Nat → Int32)) rfl hE.symm dX6_strike_21
  replace hE := (if_pos c_9).symm.trans hE
  have i_9 : ((mo.2 4) (Int32.toNatClampNeg 0)).toInt = 9999 := congrArg Int32.toInt c_9
  refine lv_bipush (v := (-3)) hx hb dX6_strike_12 (by decide) ?_
  refine lv_goto (tgt := 21) hx hb dX6_strike_14 (by decide) ?_
  subst hQ
  exact g_iret hx hb hr hlocks hG ((mo, jk) : Ob × (Nat → Nat → Int32)) rfl hE.symm dX6_strike_21
def F_X6_goes_c11 (K4 : Ob → Int32 → Int32 → Int32 → Int32 × Ob) (u : Int32 × Ob) (x1 : Int32) (x3 : Int32) (z0 : Int32) : Int32 × Ob :=
  (K4 u.2 x1 (z0 + u.1) (x3 + 1))
def F_X6_goes_l4 : Nat → Ob → Int32 → Int32 → Int32 → Int32 × Ob
  | 0, mo, _, _, _ => (0, mo)
  | n + 1, mo, x1, x2, x3 =>
    (if x1 ≤ x3 then (x2, mo) else (F_X6_goes_c11 (F_X6_goes_l4 n ) (F_X6_hourOf mo) x1 x3 x2))
def F_X6_goes (mo : Ob) (p1 : Int32) : Int32 × Ob :=
  (F_X6_goes_l4 49  mo p1 0 0)
set_option maxHeartbeats 4000000 in
set_option maxRecDepth 100000 in
theorem c_X6_goes {l : Launch} {g : GG} {sz : Nat} {bb : Ob} {tx rw : Nat → Ob} {sb dy : Ob} {tn : Nat → Ob} {mo : Ob} {jk : Nat → Nat → Int32}  (p1 : Int32) (hv : mEv mo) (hn : p1.toInt ≤ 48) : Met l yX6_goes (Cond.code yX6_goes cX6_goes 4 (some .int) :: TT) (rmL (7)) (va_Pc [.ref (gA g 58), .int p1] (gB g sz (gW g bb tx rw sb dy tn mo jk))) (va_Qi (fun r (u : Ob × (Nat → Nat → Int32)) => (F_X6_goes mo p1) = (r, u.1)) (fun u t => gC g (va_A (gW g bb tx rw sb dy tn mo jk) sz) (gW g bb tx rw sb dy tn u.1 u.2) t) (va_A (gW g bb tx rw sb dy tn mo jk) sz)) 0 0 (va_A (gW g bb tx rw sb dy tn mo jk) sz) := by
  generalize hE : F_X6_goes mo p1 = EE
  refine g_of (Qf := fun A => (va_Qi (fun r (u : Ob × (Nat → Nat → Int32)) => EE = (r, u.1)) (fun u t => gC g A (gW g bb tx rw sb dy tn u.1 u.2) t) A)) (cc := cX6_goes) (maxL := 4) (ret := (some .int)) (by decide) (Nat.le_of_ble_eq_true rfl) ?_
  intro p e s m below meth c A ls hx hb hml hr hlocks hts hown hA hG hl
  replace hown : s.vm.findClass RX6 = some m.cls := hown
  replace hl : lv_has ls 4 [(0, .ref (gA g 58)), (1, .int p1)] := hl
  show W p l e (rmL (7)) s m [.ref (gA g 58), .int p1].toArray below meth c s.heap [] 0 0 (MQ below (va_Qi (fun r (u : Ob × (Nat → Nat → Int32)) => EE = (r, u.1)) (fun u t => gC g A (gW g bb tx rw sb dy tn u.1 u.2) t) A) [.ref (gA g 58), .int p1].toArray s 0 0 A) (F0 m 0 ls [])
  generalize hQ : MQ below (va_Qi (fun r (u : Ob × (Nat → Nat → Int32)) => EE = (r, u.1)) (fun u t => gC g A (gW g bb tx rw sb dy tn u.1 u.2) t) A) [.ref (gA g 58), .int p1].toArray s 0 0 A = Q
  unfold F_X6_goes at hE
  refine lv_iconst (v := 0) hx hb dX6_goes_0 (by decide) ?_
  refine lv_istore_n (lv' := [(2, .int 0), (0, .ref (gA g 58)), (1, .int p1)]) hx hb dX6_goes_1 rfl hl (by decide) rfl (fun ls hl => ?_)
  replace hl := lv_sub hl [1, 2, 0] (l' := [(0, .ref (gA g 58)), (1, .int p1), (2, .int 0)]) rfl
  refine lv_iconst (v := 0) hx hb dX6_goes_2 (by decide) ?_
  refine lv_istore_n (lv' := [(3, .int 0), (0, .ref (gA g 58)), (1, .int p1), (2, .int 0)]) hx hb dX6_goes_3 rfl hl (by decide) rfl (fun ls hl => ?_)
  replace hl := lv_sub hl [1, 2, 3, 0] (l' := [(0, .ref (gA g 58)), (1, .int p1), (2, .int 0), (3, .int 0)]) rfl
  have L4 : ∀ (n4 : Nat) (x2_4 : Int32) (x3_4 : Int32) (mo_4 : Ob) (jk : (Nat → Nat → Int32)) (H : Heap) (locs : List Loc), gS g A s H locs (gW g bb tx rw sb dy tn mo_4 jk) → ∀ ls : Array Slot, lv_has ls 4 [(0, .ref (gA g 58)), (1, .int p1), (2, .int x2_4), (3, .int x3_4)] → 0 ≤ x3_4.toInt → x3_4.toInt ≤ 48 → 48 < x3_4.toInt + n4 → mEv mo_4 → F_X6_goes_l4 n4  mo_4 p1 x2_4 x3_4 = EE → W p l e (rmL (7)) s m [.ref (gA g 58), .int p1].toArray below meth c H locs 0 0 Q (F0 m 4 ls []) := by
    intro n4
    induction n4 with
    | zero =>
      intro x2_4 x3_4 mo_4 jk H locs hG ls hl h0_4 h1_4 hm_4 hv4 hE
      clear hE; omega
    | succ n4 ih4 =>
      intro x2_4 x3_4 mo_4 jk H locs hG ls hl h0_4 h1_4 hm_4 hv4 hE
      unfold F_X6_goes_l4 at hE
      refine lv_iload_n hx hb dX6_goes_4 rfl (lv_at hl 3 rfl) ?_
      refine lv_iload_n hx hb dX6_goes_5 rfl (lv_at hl 1 rfl) ?_
      refine lv_icmp_ge (tgt := 22) hx hb dX6_goes_6 (by decide) (fun c_6 => ?_) (fun c_6 => ?_)
      · replace hE := (if_pos c_6).symm.trans hE
        have i_6 : p1.toInt ≤ x3_4.toInt := i_le.mp c_6
        refine lv_iload_n hx hb dX6_goes_22 rfl (lv_at hl 2 rfl) ?_
        subst hQ
        exact g_iret hx hb hr hlocks hG ((mo_4, jk) : Ob × (Nat → Nat → Int32)) rfl hE.symm dX6_goes_23
      replace hE := (if_neg c_6).symm.trans hE
      have i_6 : x3_4.toInt < p1.toInt := i_nle c_6
      refine lv_iload_n hx hb dX6_goes_9 rfl (lv_at hl 2 rfl) ?_
      refine lv_aload_n hx hb dX6_goes_10 rfl (lv_at hl 0 rfl) ?_
      refine g_ci (g_runV (n := 0) (rest := [.int x2_4]) hx hb hml hown hts hG (c_X6_hourOf hv4) tw_ml_RX6_196 tw_im_X6_hourOf tw_se_X6_hourOf tw_in_RX6 tw_cd_X6_hourOf (by decide +kernel) ⟨rfl, rfl, Nat.le_of_ble_eq_true rfl, Nat.le_of_ble_eq_true rfl⟩ gw_Model rfl rfl hl.1 rfl (Nat.le_of_ble_eq_true rfl) dX6_goes_11 ⟨Nat.le_refl _, Nat.le_refl _⟩) hG hA (fun r_11 u H locs hp hG => ?_)
      obtain ⟨mo_11, jk⟩ := u
      replace hG : gS g A s H locs (gW g bb tx rw sb dy tn mo_11 jk) := by simpa only [up_up] using hG
      have hp_11 := hp
      rw [hp] at hE
      unfold F_X6_goes_c11 at hE
      try dsimp only at hE
      have hv11 : mEv mo_11 := hR.mEv (hourOf_hR hp_11) hv4
      refine lv_iadd hx hb dX6_goes_14 ?_
      refine lv_istore_n (lv' := [(2, .int (x2_4 + r_11)), (0, .ref (gA g 58)), (1, .int p1), (3, .int x3_4)]) hx hb dX6_goes_15 rfl hl (by decide) rfl (fun ls hl => ?_)
      replace hl := lv_sub hl [1, 2, 0, 3] (l' := [(0, .ref (gA g 58)), (1, .int p1), (2, .int (x2_4 + r_11)), (3, .int x3_4)]) rfl
      refine lv_iinc (v := (x3_4 + 1)) (lv' := [(3, .int (x3_4 + 1)), (0, .ref (gA g 58)), (1, .int p1), (2, .int (x2_4 + r_11))]) hx hb dX6_goes_16 hl (k := 3) rfl rfl (by decide) rfl (fun ls hl => ?_)
      replace hl := lv_sub hl [1, 2, 3, 0] (l' := [(0, .ref (gA g 58)), (1, .int p1), (2, .int (x2_4 + r_11)), (3, .int (x3_4 + 1))]) rfl
      refine lv_goto (tgt := 4) hx hb dX6_goes_19 (by decide) ?_
      have e1 : (x3_4 + 1).toInt = x3_4.toInt + 1 := addL (k := 1) (by decide +kernel) (by clear hE; omega) (by clear hE; omega)
      exact ih4 (x2_4 + r_11) (x3_4 + 1) mo_11 _ _ _ hG _ (lv_sub hl [0, 1, 2, 3] rfl) (by clear hE; omega) (by clear hE; omega) (by clear hE; omega) hv11 hE
  exact L4 49 0 0 mo _ _ _ hG _ (lv_sub hl [0, 1, 2, 3] rfl) (by decide) (by decide) (by decide) hv hE
theorem goes_hR {m r : Ob} {v p : Int32} (hp : F_X6_goes m p = (v, r)) : hR m r := by
  have k : ∀ (n : Nat) (r : Ob) (x1 x2 x3 : Int32), hR m r → hR m (F_X6_goes_l4 n r x1 x2 x3).2 := by
    intro n
    induction n with
    | zero => intro r x1 x2 x3 h; exact h
    | succ n ih =>
      intro r x1 x2 x3 h
      unfold F_X6_goes_l4
      split
      · exact h
      · exact ih _ _ _ _ (h.trans (hourOf_hR (v := (F_X6_hourOf r).1) rfl))
  have e : r = (F_X6_goes m p).2 := by rw [hp]
  rw [e]
  exact k 49 _ _ _ _ hR.refl

