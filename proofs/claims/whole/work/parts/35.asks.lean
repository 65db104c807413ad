-- A TEXT OF THE REFERENCE, WELL FORMED
/-- a code of a text, where a values lie on the stack ahead of it and b behind -/
def okc (c : Int32) (a b : Int) : Prop := ((100000 ≤ c.toInt ∨ (0 ≤ c.toInt ∧ c.toInt < 6)) ∧ b = a + 1) ∨ ((c.toInt = 13 ∨ c.toInt = 19) ∧ 1 ≤ a ∧ b = a) ∨ (11 ≤ c.toInt ∧ c.toInt ≤ 18 ∧ c.toInt ≠ 13 ∧ 2 ≤ a ∧ b + 1 = a)
def wfP (cd : Nat → Int32) (r s e : Int32) : Prop := 0 ≤ s.toInt ∧ s.toInt < e.toInt ∧ e.toInt ≤ 200 ∧ ∃ d : Int32 → Int, d s = 0 ∧ ∀ k : Int32, s.toInt ≤ k.toInt → k.toInt < e.toInt → (0 ≤ d k ∧ d k ≤ 199) ∧ okc (cd (Int32.toNatClampNeg ((200 * r) + k))) (d k) (d (k + 1))
def wfM (m : Ob) (r : Int32) : Prop := ∀ p : Int32, 0 ≤ p.toInt → p.toInt ≤ 2 → wfP (m.2 7) r ((m.2 8) (Int32.toNatClampNeg ((4 * r) + p))) ((m.2 8) (Int32.toNatClampNeg (((4 * r) + p) + 1)))
/-- what the hours ask of the reference -/
def mEv (m : Ob) : Prop := (0 ≤ (m.1 0).toInt ∧ (m.1 0).toInt ≤ 6) ∧ (0 ≤ (m.1 10).toInt ∧ (m.1 10).toInt ≤ 5) ∧ wfM m (m.1 10)
theorem gw_Model_n28 {g : GG} {bb : Ob} {tx rw : Nat → Ob} {sb dy : Ob} {tn : Nat → Ob} {mo : Ob} {jk : Nat → Nat → Int32} {S N : Nat → Int32} (hN : jk 7 = N) : (gW g bb tx rw sb dy tn mo (va_up jk 6 S))[75]? = some (gA g 75, .inl (g.2.1, 6, .inl N)) := by
  subst hN
  rfl
theorem up_67 {jk : Nat → Nat → Int32} {S S' N : Nat → Int32} : va_up (va_up (va_up jk 6 S) 7 N) 6 S' = va_up (va_up jk 6 S') 7 N := by
  funext j
  by_cases h6 : j = 6
  · subst h6; rfl
  · by_cases h7 : j = 7
    · subst h7; rfl
    · simp [va_up, h6, h7]

def F_X6_saysR_b191 (K16 : Ob → ((Nat → Int32)) → ((Nat → Int32)) → Int32 → Int32 → Int32 → Int32 × (Nat → Int32)) (mo : Ob) (S : (Nat → Int32)) (N : (Nat → Int32)) (x1 : Int32) (x2 : Int32) (x3 : Int32) : Int32 × (Nat → Int32) :=
  (K16 mo S N x1 x2 (x3 + 1))
def F_X6_saysR_b93 (K16 : Ob → ((Nat → Int32)) → ((Nat → Int32)) → Int32 → Int32 → Int32 → Int32 × (Nat → Int32)) (mo : Ob) (S : (Nat → Int32)) (N : (Nat → Int32)) (x1 : Int32) (x2 : Int32) (x3 : Int32) (z1 : Int32) (z2 : Int32) : Int32 × (Nat → Int32) :=
  (F_X6_saysR_b191 K16 mo (upd S (Int32.toNatClampNeg z1) z2) N x1 (x2 + 1) x3)
def F_X6_saysR_b66 (K16 : Ob → ((Nat → Int32)) → ((Nat → Int32)) → Int32 → Int32 → Int32 → Int32 × (Nat → Int32)) (mo : Ob) (S : (Nat → Int32)) (N : (Nat → Int32)) (x1 : Int32) (x2 : Int32) (x3 : Int32) (x4 : Int32) : Int32 × (Nat → Int32) :=
  (if 11 ≤ x4 then (F_X6_saysR_b93 K16 mo S N x1 x2 x3 x2 (x4 - 100000)) else (F_X6_saysR_b93 K16 mo S N x1 x2 x3 x2 (N (Int32.toNatClampNeg x4))))
def F_X6_saysR_b130 (K16 : Ob → ((Nat → Int32)) → ((Nat → Int32)) → Int32 → Int32 → Int32 → Int32 × (Nat → Int32)) (mo : Ob) (S : (Nat → Int32)) (N : (Nat → Int32)) (x1 : Int32) (x2 : Int32) (x3 : Int32) (z1 : Int32) (z2 : Int32) : Int32 × (Nat → Int32) :=
  (F_X6_saysR_b191 K16 mo (upd S (Int32.toNatClampNeg z1) z2) N x1 x2 x3)
def F_X6_saysR_l16 : Nat → Ob → ((Nat → Int32)) → ((Nat → Int32)) → Int32 → Int32 → Int32 → Int32 × (Nat → Int32)
  | 0, _, S, _, _, _, _ => (0, S)
  | n + 1, mo, S, N, x1, x2, x3 =>
    (if ((mo.2 8) (Int32.toNatClampNeg (((4 * (mo.1 10)) + x1) + 1))) ≤ x3 then ((S (Int32.toNatClampNeg 0)), S) else (if 100000 ≤ ((mo.2 7) (Int32.toNatClampNeg ((200 * (mo.1 10)) + x3))) then (F_X6_saysR_b66 (F_X6_saysR_l16 n ) mo S N x1 x2 x3 ((mo.2 7) (Int32.toNatClampNeg ((200 * (mo.1 10)) + x3)))) else (if 11 ≤ ((mo.2 7) (Int32.toNatClampNeg ((200 * (mo.1 10)) + x3))) then (if ((mo.2 7) (Int32.toNatClampNeg ((200 * (mo.1 10)) + x3))) = 13 then (if (S (Int32.toNatClampNeg (x2 - 1))) = 0 then (F_X6_saysR_b130 (F_X6_saysR_l16 n ) mo S N x1 x2 x3 (x2 - 1) 1) else (F_X6_saysR_b130 (F_X6_saysR_l16 n ) mo S N x1 x2 x3 (x2 - 1) 0)) else (if ((mo.2 7) (Int32.toNatClampNeg ((200 * (mo.1 10)) + x3))) = 19 then (F_X6_saysR_b191 (F_X6_saysR_l16 n ) mo (upd S (Int32.toNatClampNeg (x2 - 1)) (-(S (Int32.toNatClampNeg (x2 - 1))))) N x1 x2 x3) else (F_X6_saysR_b191 (F_X6_saysR_l16 n ) mo (upd S (Int32.toNatClampNeg ((x2 - 1) - 1)) (F_X6_two ((mo.2 7) (Int32.toNatClampNeg ((200 * (mo.1 10)) + x3))) (S (Int32.toNatClampNeg ((x2 - 1) - 1))) (S (Int32.toNatClampNeg (x2 - 1))))) N x1 (x2 - 1) x3))) else (F_X6_saysR_b66 (F_X6_saysR_l16 n ) mo S N x1 x2 x3 ((mo.2 7) (Int32.toNatClampNeg ((200 * (mo.1 10)) + x3)))))))
def F_X6_saysR (mo : Ob) (S : (Nat → Int32)) (N : (Nat → Int32)) (p1 : Int32) : Int32 × (Nat → Int32) :=
  (F_X6_saysR_l16 201  mo S N p1 0 ((mo.2 8) (Int32.toNatClampNeg ((4 * (mo.1 10)) + p1))))
set_option maxHeartbeats 4000000 in
set_option maxRecDepth 100000 in
theorem c_X6_saysR {l : Launch} {g : GG} {sz : Nat} {bb : Ob} {tx rw : Nat → Ob} {sb dy : Ob} {tn : Nat → Ob} {mo : Ob} {jk : Nat → Nat → Int32} {S : Nat → Int32} (hS : jk 6 = S) {N : Nat → Int32} (hN : jk 7 = N) (p1 : Int32) (hv : mEv mo) (hp : 0 ≤ p1.toInt ∧ p1.toInt ≤ 2) : Met l yX6_says (Cond.code yX6_says cX6_says 5 (some .int) :: TT) (rmL (2)) (va_Pc [.ref (gA g 58), .int p1] (gB g sz (gW g bb tx rw sb dy tn mo jk))) (va_Qi (fun r (u : (Nat → Int32)) => (F_X6_saysR mo S N p1) = (r, u)) (fun u t => gC g (va_A (gW g bb tx rw sb dy tn mo jk) sz) (gW g bb tx rw sb dy tn mo (va_up jk 6 u)) t) (va_A (gW g bb tx rw sb dy tn mo jk) sz)) 0 0 (va_A (gW g bb tx rw sb dy tn mo jk) sz) := by
  generalize hE : F_X6_saysR mo S N p1 = EE
  refine g_of (Qf := fun A => (va_Qi (fun r (u : (Nat → Int32)) => EE = (r, u)) (fun u t => gC g A (gW g bb tx rw sb dy tn mo (va_up jk 6 u)) t) A)) (cc := cX6_says) (maxL := 5) (ret := (some .int)) (by decide) (Nat.le_of_ble_eq_true rfl) ?_
  intro p e s m below meth c A ls hx hb hml hr hlocks hts hown hA hG hl
  replace hown : s.vm.findClass RX6 = some m.cls := hown
  replace hl : lv_has ls 5 [(0, .ref (gA g 58)), (1, .int p1)] := hl
  show W p l e (rmL (2)) s m [.ref (gA g 58), .int p1].toArray below meth c s.heap [] 0 0 (MQ below (va_Qi (fun r (u : (Nat → Int32)) => EE = (r, u)) (fun u t => gC g A (gW g bb tx rw sb dy tn mo (va_up jk 6 u)) t) A) [.ref (gA g 58), .int p1].toArray s 0 0 A) (F0 m 0 ls [])
  generalize hQ : MQ below (va_Qi (fun r (u : (Nat → Int32)) => EE = (r, u)) (fun u t => gC g A (gW g bb tx rw sb dy tn mo (va_up jk 6 u)) t) A) [.ref (gA g 58), .int p1].toArray s 0 0 A = Q
  replace hG : gS g A s s.heap [] (gW g bb tx rw sb dy tn mo (va_up jk 6 S)) := by simpa only [← hS, up_self] using hG
  have hr0 := hv.2.1
  obtain ⟨ws0, ws1, ws2, d, wd0, wd⟩ := hv.2.2 p1 hp.1 hp.2
  unfold F_X6_saysR at hE
  refine lv_iconst (v := 0) hx hb dX6_says_0 (by decide) ?_
  refine lv_istore_n (lv' := [(2, .int 0), (0, .ref (gA g 58)), (1, .int p1)]) hx hb dX6_says_1 rfl hl (by decide) rfl (fun ls hl => ?_)
  replace hl := lv_sub hl [1, 2, 0] (l' := [(0, .ref (gA g 58)), (1, .int p1), (2, .int 0)]) rfl
  refine lv_aload_n hx hb dX6_says_2 rfl (lv_at hl 0 rfl) ?_
  refine g_get hx hb hts hiX6 hown hG gw_Model rfl 8 (by decide) (index := 28) tw_fl_RX6_28 (v := .ref (gA g 65)) rfl dX6_says_3 ?_
  refine lv_iconst (v := 4) hx hb dX6_says_6 (by decide) ?_
  refine lv_aload_n hx hb dX6_says_7 rfl (lv_at hl 0 rfl) ?_
  refine g_get hx hb hts hiX6 hown hG gw_Model rfl 10 (by decide) (index := 88) tw_fl_RX6_88 (v := .int (mo.1 10)) rfl dX6_says_8 ?_
  refine lv_imul hx hb dX6_says_11 ?_
  refine lv_iload_n hx hb dX6_says_12 rfl (lv_at hl 1 rfl) ?_
  refine lv_iadd hx hb dX6_says_13 ?_
  have e1 : (4 * (mo.1 10)).toInt = 4 * (mo.1 10).toInt := mulL (k := 4) (by decide +kernel) (by clear hE; omega) (by clear hE; omega)
  have e2 : ((4 * (mo.1 10)) + p1).toInt = (4 * (mo.1 10)).toInt + p1.toInt := fb_addI (by clear hE; omega) (by clear hE; omega)
  refine g_ild (f := (mo.2 8)) hx hb hG gw_Model_a8 (show vp_in ((4 * (mo.1 10)) + p1) 24 from (vp_i (by clear hE; omega) (by clear hE; omega))) dX6_says_14 ?_
  refine lv_istore_n (lv' := [(3, .int ((mo.2 8) (Int32.toNatClampNeg ((4 * (mo.1 10)) + p1)))), (0, .ref (gA g 58)), (1, .int p1), (2, .int 0)]) hx hb dX6_says_15 rfl hl (by decide) rfl (fun ls hl => ?_)
  replace hl := lv_sub hl [1, 2, 3, 0] (l' := [(0, .ref (gA g 58)), (1, .int p1), (2, .int 0), (3, .int ((mo.2 8) (Int32.toNatClampNeg ((4 * (mo.1 10)) + p1))))]) rfl
  have L16 : ∀ (n16 : Nat) (x2_16 : Int32) (x3_16 : Int32) (S_16 : (Nat → Int32)) (H : Heap) (locs : List Loc), gS g A s H locs (gW g bb tx rw sb dy tn mo (va_up jk 6 S_16)) → ∀ ls : Array Slot, lv_has ls 5 [(0, .ref (gA g 58)), (1, .int p1), (2, .int x2_16), (3, .int x3_16)] → ((mo.2 8) (Int32.toNatClampNeg ((4 * (mo.1 10)) + p1))).toInt ≤ x3_16.toInt → x3_16.toInt ≤ ((mo.2 8) (Int32.toNatClampNeg (((4 * (mo.1 10)) + p1) + 1))).toInt → x2_16.toInt = d x3_16 → 200 < x3_16.toInt + n16 → F_X6_saysR_l16 n16  mo S_16 N p1 x2_16 x3_16 = EE → W p l e (rmL (2)) s m [.ref (gA g 58), .int p1].toArray below meth c H locs 0 0 Q (F0 m 16 ls []) := by
    intro n16
    induction n16 with
    | zero =>
      intro x2_16 x3_16 S_16 H locs hG ls hl hk0 hk1 hd hm_16 hE
      clear hE; omega
    | succ n16 ih16 =>
      intro x2_16 x3_16 S_16 H locs hG ls hl hk0 hk1 hd hm_16 hE
      unfold F_X6_saysR_l16 at hE
      refine lv_iload_n hx hb dX6_says_16 rfl (lv_at hl 3 rfl) ?_
      refine lv_aload_n hx hb dX6_says_17 rfl (lv_at hl 0 rfl) ?_
      refine g_get hx hb hts hiX6 hown hG gw_Model rfl 8 (by decide) (index := 28) tw_fl_RX6_28 (v := .ref (gA g 65)) rfl dX6_says_18 ?_
      refine lv_iconst (v := 4) hx hb dX6_says_21 (by decide) ?_
      refine lv_aload_n hx hb dX6_says_22 rfl (lv_at hl 0 rfl) ?_
      refine g_get hx hb hts hiX6 hown hG gw_Model rfl 10 (by decide) (index := 88) tw_fl_RX6_88 (v := .int (mo.1 10)) rfl dX6_says_23 ?_
      refine lv_imul hx hb dX6_says_26 ?_
      refine lv_iload_n hx hb dX6_says_27 rfl (lv_at hl 1 rfl) ?_
      refine lv_iadd hx hb dX6_says_28 ?_
      refine lv_iconst (v := 1) hx hb dX6_says_29 (by decide) ?_
      refine lv_iadd hx hb dX6_says_30 ?_
      have e3 : (4 * (mo.1 10)).toInt = 4 * (mo.1 10).toInt := mulL (k := 4) (by decide +kernel) (by clear hE; omega) (by clear hE; omega)
      have e4 : ((4 * (mo.1 10)) + p1).toInt = (4 * (mo.1 10)).toInt + p1.toInt := fb_addI (by clear hE; omega) (by clear hE; omega)
      have e5 : (((4 * (mo.1 10)) + p1) + 1).toInt = ((4 * (mo.1 10)) + p1).toInt + 1 := addL (k := 1) (by decide +kernel) (by clear hE; omega) (by clear hE; omega)
      refine g_ild (f := (mo.2 8)) hx hb hG gw_Model_a8 (show vp_in (((4 * (mo.1 10)) + p1) + 1) 24 from (vp_i (by clear hE; omega) (by clear hE; omega))) dX6_says_31 ?_
      refine lv_icmp_ge (tgt := 197) hx hb dX6_says_32 (by decide) (fun c_32 => ?_) (fun c_32 => ?_)
      · replace hE := (if_pos c_32).symm.trans hE
        have i_32 : ((mo.2 8) (Int32.toNatClampNeg (((4 * (mo.1 10)) + p1) + 1))).toInt ≤ x3_16.toInt := i_le.mp c_32
        refine lv_aload_n hx hb dX6_says_197 rfl (lv_at hl 0 rfl) ?_
        refine g_get hx hb hts hiX6 hown hG gw_Model rfl 27 (by decide) (index := 55) tw_fl_RX6_55 (v := .ref (gA g 74)) rfl dX6_says_198 ?_
        refine lv_iconst (v := 0) hx hb dX6_says_201 (by decide) ?_
        refine g_ild (f := S_16) hx hb hG gw_Model_j27 (show vp_in 0 200 from (by unfold vp_in; decide)) dX6_says_202 ?_
        subst hQ
        exact g_iret hx hb hr hlocks hG ((S_16) : (Nat → Int32)) rfl hE.symm dX6_says_203
      replace hE := (if_neg c_32).symm.trans hE
      have i_32 : x3_16.toInt < ((mo.2 8) (Int32.toNatClampNeg (((4 * (mo.1 10)) + p1) + 1))).toInt := i_nle c_32
      have wk := wd x3_16 hk0 (by clear hE; omega)
      have wk1 := wk.1
      have wk2 := wk.2
      unfold okc at wk2
      clear wk
      refine lv_aload_n hx hb dX6_says_35 rfl (lv_at hl 0 rfl) ?_
      refine g_get hx hb hts hiX6 hown hG gw_Model rfl 7 (by decide) (index := 25) tw_fl_RX6_25 (v := .ref (gA g 64)) rfl dX6_says_36 ?_
      refine lv_sipush (v := 200) hx hb dX6_says_39 (by decide) ?_
      refine lv_aload_n hx hb dX6_says_42 rfl (lv_at hl 0 rfl) ?_
      refine g_get hx hb hts hiX6 hown hG gw_Model rfl 10 (by decide) (index := 88) tw_fl_RX6_88 (v := .int (mo.1 10)) rfl dX6_says_43 ?_
      refine lv_imul hx hb dX6_says_46 ?_
      refine lv_iload_n hx hb dX6_says_47 rfl (lv_at hl 3 rfl) ?_
      refine lv_iadd hx hb dX6_says_48 ?_
      have e6 : (200 * (mo.1 10)).toInt = 200 * (mo.1 10).toInt := mulL (k := 200) (by decide +kernel) (by clear hE; omega) (by clear hE; omega)
      have e7 : ((200 * (mo.1 10)) + x3_16).toInt = (200 * (mo.1 10)).toInt + x3_16.toInt := fb_addI (by clear hE; omega) (by clear hE; omega)
      refine g_ild (f := (mo.2 7)) hx hb hG gw_Model_a7 (show vp_in ((200 * (mo.1 10)) + x3_16) 1200 from (vp_i (by clear hE; omega) (by clear hE; omega))) dX6_says_49 ?_
      refine lv_istore (lv' := [(4, .int ((mo.2 7) (Int32.toNatClampNeg ((200 * (mo.1 10)) + x3_16)))), (0, .ref (gA g 58)), (1, .int p1), (2, .int x2_16), (3, .int x3_16)]) hx hb dX6_says_50 hl (by decide) rfl (fun ls hl => ?_)
      replace hl := lv_sub hl [1, 2, 3, 4, 0] (l' := [(0, .ref (gA g 58)), (1, .int p1), (2, .int x2_16), (3, .int x3_16), (4, .int ((mo.2 7) (Int32.toNatClampNeg ((200 * (mo.1 10)) + x3_16))))]) rfl
      refine lv_iload hx hb dX6_says_52 (lv_at hl 4 rfl) ?_
      refine lv_ldc (v := 100000) hx hb hown (hts _ tw_co_RX6_137) dX6_says_54 ?_
      have J191 : ∀ (x2_191 : Int32) (S_191 : (Nat → Int32)) (H : Heap) (locs : List Loc), gS g A s H locs (gW g bb tx rw sb dy tn mo (va_up jk 6 S_191)) → ∀ ls : Array Slot, lv_has ls 5 [(0, .ref (gA g 58)), (1, .int p1), (2, .int x2_191), (3, .int x3_16)] → x2_191.toInt = d (x3_16 + 1) → F_X6_saysR_b191  (F_X6_saysR_l16 n16 ) mo S_191 N p1 x2_191 x3_16 = EE → W p l e (rmL (2)) s m [.ref (gA g 58), .int p1].toArray below meth c H locs 0 0 Q (F0 m 191 ls []) := by
        intro x2_191 S_191 H locs hG ls hl hj191 hE
        unfold F_X6_saysR_b191 at hE
        refine lv_iinc (v := (x3_16 + 1)) (lv' := [(3, .int (x3_16 + 1)), (0, .ref (gA g 58)), (1, .int p1), (2, .int x2_191)]) hx hb dX6_says_191 hl (k := 3) rfl rfl (by decide) rfl (fun ls hl => ?_)
        replace hl := lv_sub hl [1, 2, 3, 0] (l' := [(0, .ref (gA g 58)), (1, .int p1), (2, .int x2_191), (3, .int (x3_16 + 1))]) rfl
        refine lv_goto (tgt := 16) hx hb dX6_says_194 (by decide) ?_
        have e8 : (x3_16 + 1).toInt = x3_16.toInt + 1 := addL (k := 1) (by decide +kernel) (by clear hE; omega) (by clear hE; omega)
        exact ih16 x2_191 (x3_16 + 1) S_191 _ _ hG _ (lv_sub hl [0, 1, 2, 3] rfl) (by clear hE; omega) (by clear hE; omega) (by clear hE; omega) (by clear hE; omega) hE
      have J66 : ∀  (H : Heap) (locs : List Loc), gS g A s H locs (gW g bb tx rw sb dy tn mo (va_up jk 6 S_16)) → ∀ ls : Array Slot, lv_has ls 5 [(0, .ref (gA g 58)), (1, .int p1), (2, .int x2_16), (3, .int x3_16), (4, .int ((mo.2 7) (Int32.toNatClampNeg ((200 * (mo.1 10)) + x3_16))))] → 100000 ≤ ((mo.2 7) (Int32.toNatClampNeg ((200 * (mo.1 10)) + x3_16))).toInt ∨ ((mo.2 7) (Int32.toNatClampNeg ((200 * (mo.1 10)) + x3_16))).toInt < 11 → F_X6_saysR_b66  (F_X6_saysR_l16 n16 ) mo S_16 N p1 x2_16 x3_16 ((mo.2 7) (Int32.toNatClampNeg ((200 * (mo.1 10)) + x3_16))) = EE → W p l e (rmL (2)) s m [.ref (gA g 58), .int p1].toArray below meth c H locs 0 0 Q (F0 m 66 ls []) := by
        intro  H locs hG ls hl hj66 hE
        unfold F_X6_saysR_b66 at hE
        refine lv_aload_n hx hb dX6_says_66 rfl (lv_at hl 0 rfl) ?_
        refine g_get hx hb hts hiX6 hown hG gw_Model rfl 27 (by decide) (index := 55) tw_fl_RX6_55 (v := .ref (gA g 74)) rfl dX6_says_67 ?_
        refine lv_iload_n hx hb dX6_says_70 rfl (lv_at hl 2 rfl) ?_
        refine lv_iload hx hb dX6_says_71 (lv_at hl 4 rfl) ?_
        refine lv_bipush (v := 11) hx hb dX6_says_73 (by decide) ?_
        have J93 : ∀ (z2_93 : Int32) (H : Heap) (locs : List Loc), gS g A s H locs (gW g bb tx rw sb dy tn mo (va_up jk 6 S_16)) → ∀ ls : Array Slot, lv_has ls 5 [(0, .ref (gA g 58)), (1, .int p1), (2, .int x2_16), (3, .int x3_16)] → F_X6_saysR_b93  (F_X6_saysR_l16 n16 ) mo S_16 N p1 x2_16 x3_16 x2_16 z2_93 = EE → W p l e (rmL (2)) s m [.ref (gA g 58), .int p1].toArray below meth c H locs 0 0 Q (F0 m 93 ls [.int z2_93, .int x2_16, .ref (gA g 74)]) := by
          intro z2_93 H locs hG ls hl  hE
          unfold F_X6_saysR_b93 at hE
          refine g_ist hx hb hG gw_Model_j27 (show vp_in x2_16 200 from (vp_i (by clear hE; omega) (by clear hE; omega))) gt_Model_j27 dX6_says_93 (fun H locs hG => ?_)
          refine lv_iinc (v := (x2_16 + 1)) (lv' := [(2, .int (x2_16 + 1)), (0, .ref (gA g 58)), (1, .int p1), (3, .int x3_16)]) hx hb dX6_says_94 hl (k := 2) rfl rfl (by decide) rfl (fun ls hl => ?_)
          replace hl := lv_sub hl [1, 2, 0, 3] (l' := [(0, .ref (gA g 58)), (1, .int p1), (2, .int (x2_16 + 1)), (3, .int x3_16)]) rfl
          refine lv_goto (tgt := 191) hx hb dX6_says_97 (by decide) ?_
          have e9 : (x2_16 + 1).toInt = x2_16.toInt + 1 := addL (k := 1) (by decide +kernel) (by clear hE; omega) (by clear hE; omega)
          exact J191 (x2_16 + 1) (upd S_16 (Int32.toNatClampNeg x2_16) z2_93) _ _ hG _ (lv_sub hl [0, 1, 2, 3] rfl) (by clear hE; omega) hE
        refine lv_icmp_ge (tgt := 88) hx hb dX6_says_75 (by decide) (fun c_75 => ?_) (fun c_75 => ?_)
        · replace hE := (if_pos c_75).symm.trans hE
          have i_75 : 11 ≤ ((mo.2 7) (Int32.toNatClampNeg ((200 * (mo.1 10)) + x3_16))).toInt := i_le.mp c_75
          refine lv_iload hx hb dX6_says_88 (lv_at hl 4 rfl) ?_
          refine lv_ldc (v := 100000) hx hb hown (hts _ tw_co_RX6_137) dX6_says_90 ?_
          refine lv_isub hx hb dX6_says_92 ?_
          exact J93 (((mo.2 7) (Int32.toNatClampNeg ((200 * (mo.1 10)) + x3_16))) - 100000) _ _ hG _ (lv_sub hl [0, 1, 2, 3] rfl) hE
        replace hE := (if_neg c_75).symm.trans hE
        have i_75 : ((mo.2 7) (Int32.toNatClampNeg ((200 * (mo.1 10)) + x3_16))).toInt < 11 := i_nle c_75
        refine lv_aload_n hx hb dX6_says_78 rfl (lv_at hl 0 rfl) ?_
        refine g_get hx hb hts hiX6 hown hG gw_Model rfl 28 (by decide) (index := 58) tw_fl_RX6_58 (v := .ref (gA g 75)) rfl dX6_says_79 ?_
        refine lv_iload hx hb dX6_says_82 (lv_at hl 4 rfl) ?_
        refine g_ild (f := N) hx hb hG (gw_Model_n28 hN) (show vp_in ((mo.2 7) (Int32.toNatClampNeg ((200 * (mo.1 10)) + x3_16))) 6 from (vp_i (by clear hE; omega) (by clear hE; omega))) dX6_says_84 ?_
        refine lv_goto (tgt := 93) hx hb dX6_says_85 (by decide) ?_
        exact J93 (N (Int32.toNatClampNeg ((mo.2 7) (Int32.toNatClampNeg ((200 * (mo.1 10)) + x3_16))))) _ _ hG _ (lv_sub hl [0, 1, 2, 3] rfl) hE
      refine lv_icmp_ge (tgt := 66) hx hb dX6_says_56 (by decide) (fun c_56 => ?_) (fun c_56 => ?_)
      · replace hE := (if_pos c_56).symm.trans hE
        have i_56 : 100000 ≤ ((mo.2 7) (Int32.toNatClampNeg ((200 * (mo.1 10)) + x3_16))).toInt := i_le.mp c_56
        exact J66 _ _ hG _ (lv_sub hl [0, 1, 2, 3, 4] rfl) (by clear hE; omega) hE
      replace hE := (if_neg c_56).symm.trans hE
      have i_56 : ((mo.2 7) (Int32.toNatClampNeg ((200 * (mo.1 10)) + x3_16))).toInt < 100000 := i_nle c_56
      refine lv_iload hx hb dX6_says_59 (lv_at hl 4 rfl) ?_
      refine lv_bipush (v := 11) hx hb dX6_says_61 (by decide) ?_
      refine lv_icmp_ge (tgt := 100) hx hb dX6_says_63 (by decide) (fun c_63 => ?_) (fun c_63 => ?_)
      · replace hE := (if_pos c_63).symm.trans hE
        have i_63 : 11 ≤ ((mo.2 7) (Int32.toNatClampNeg ((200 * (mo.1 10)) + x3_16))).toInt := i_le.mp c_63
        refine lv_iload hx hb dX6_says_100 (lv_at hl 4 rfl) ?_
        refine lv_bipush (v := 13) hx hb dX6_says_102 (by decide) ?_
        refine lv_icmp_ne (tgt := 134) hx hb dX6_says_104 (by decide) (fun c_104 => ?_) (fun c_104 => ?_)
        · replace hE := (if_neg c_104).symm.trans hE
          have i_104 : ((mo.2 7) (Int32.toNatClampNeg ((200 * (mo.1 10)) + x3_16))).toInt ≠ 13 := fun h => c_104 (Int32.toInt_inj.mp h)
          refine lv_iload hx hb dX6_says_134 (lv_at hl 4 rfl) ?_
          refine lv_bipush (v := 19) hx hb dX6_says_136 (by decide) ?_
          refine lv_icmp_ne (tgt := 161) hx hb dX6_says_138 (by decide) (fun c_138 => ?_) (fun c_138 => ?_)
          · replace hE := (if_neg c_138).symm.trans hE
            have i_138 : ((mo.2 7) (Int32.toNatClampNeg ((200 * (mo.1 10)) + x3_16))).toInt ≠ 19 := fun h => c_138 (Int32.toInt_inj.mp h)
            refine lv_iinc (v := (x2_16 - 1)) (lv' := [(2, .int (x2_16 - 1)), (0, .ref (gA g 58)), (1, .int p1), (3, .int x3_16), (4, .int ((mo.2 7) (Int32.toNatClampNeg ((200 * (mo.1 10)) + x3_16))))]) hx hb dX6_says_161 hl (k := 2) rfl (i_dec _) (by decide) rfl (fun ls hl => ?_)
            replace hl := lv_sub hl [1, 2, 0, 3, 4] (l' := [(0, .ref (gA g 58)), (1, .int p1), (2, .int (x2_16 - 1)), (3, .int x3_16), (4, .int ((mo.2 7) (Int32.toNatClampNeg ((200 * (mo.1 10)) + x3_16))))]) rfl
            refine lv_aload_n hx hb dX6_says_164 rfl (lv_at hl 0 rfl) ?_
            refine g_get hx hb hts hiX6 hown hG gw_Model rfl 27 (by decide) (index := 55) tw_fl_RX6_55 (v := .ref (gA g 74)) rfl dX6_says_165 ?_
            refine lv_iload_n hx hb dX6_says_168 rfl (lv_at hl 2 rfl) ?_
            refine lv_iconst (v := 1) hx hb dX6_says_169 (by decide) ?_
            refine lv_isub hx hb dX6_says_170 ?_
            refine lv_iload hx hb dX6_says_171 (lv_at hl 4 rfl) ?_
            refine lv_aload_n hx hb dX6_says_173 rfl (lv_at hl 0 rfl) ?_
            refine g_get hx hb hts hiX6 hown hG gw_Model rfl 27 (by decide) (index := 55) tw_fl_RX6_55 (v := .ref (gA g 74)) rfl dX6_says_174 ?_
            refine lv_iload_n hx hb dX6_says_177 rfl (lv_at hl 2 rfl) ?_
            refine lv_iconst (v := 1) hx hb dX6_says_178 (by decide) ?_
            refine lv_isub hx hb dX6_says_179 ?_
            have e10 : (x2_16 - 1).toInt = x2_16.toInt - 1 := subL (k := 1) (by decide +kernel) (by clear hE; omega) (by clear hE; omega)
            have e11 : ((x2_16 - 1) - 1).toInt = (x2_16 - 1).toInt - 1 := subL (k := 1) (by decide +kernel) (by clear hE; omega) (by clear hE; omega)
            refine g_ild (f := S_16) hx hb hG gw_Model_j27 (show vp_in ((x2_16 - 1) - 1) 200 from (vp_i (by clear hE; omega) (by clear hE; omega))) dX6_says_180 ?_
            refine lv_aload_n hx hb dX6_says_181 rfl (lv_at hl 0 rfl) ?_
            refine g_get hx hb hts hiX6 hown hG gw_Model rfl 27 (by decide) (index := 55) tw_fl_RX6_55 (v := .ref (gA g 74)) rfl dX6_says_182 ?_
            refine lv_iload_n hx hb dX6_says_185 rfl (lv_at hl 2 rfl) ?_
            have e12 : (x2_16 - 1).toInt = x2_16.toInt - 1 := subL (k := 1) (by decide +kernel) (by clear hE; omega) (by clear hE; omega)
            refine g_ild (f := S_16) hx hb hG gw_Model_j27 (show vp_in (x2_16 - 1) 200 from (vp_i (by clear hE; omega) (by clear hE; omega))) dX6_says_186 ?_
            refine g_si (g_runS (n := 3) (rest := [.int ((x2_16 - 1) - 1), .ref (gA g 74)]) hx hb hml hown hts hG (c_X6_two ((mo.2 7) (Int32.toNatClampNeg ((200 * (mo.1 10)) + x3_16))) (S_16 (Int32.toNatClampNeg ((x2_16 - 1) - 1))) (S_16 (Int32.toNatClampNeg (x2_16 - 1)))) tw_ml_RX6_151 tw_st_X6_two tw_in_RX6 tw_cd_X6_two (by decide +kernel) ⟨rfl, rfl, Nat.le_of_ble_eq_true rfl, Nat.le_of_ble_eq_true rfl⟩ rfl hl.1 rfl (Nat.le_of_ble_eq_true rfl) dX6_says_187 ⟨Nat.le_refl _, Nat.le_refl _⟩) hG hA (fun H locs hG => ?_)
            have e13 : (x2_16 - 1).toInt = x2_16.toInt - 1 := subL (k := 1) (by decide +kernel) (by clear hE; omega) (by clear hE; omega)
            have e14 : ((x2_16 - 1) - 1).toInt = (x2_16 - 1).toInt - 1 := subL (k := 1) (by decide +kernel) (by clear hE; omega) (by clear hE; omega)
            refine g_ist hx hb hG gw_Model_j27 (show vp_in ((x2_16 - 1) - 1) 200 from (vp_i (by clear hE; omega) (by clear hE; omega))) gt_Model_j27 dX6_says_190 (fun H locs hG => ?_)
            have e15 : (x2_16 - 1).toInt = x2_16.toInt - 1 := subL (k := 1) (by decide +kernel) (by clear hE; omega) (by clear hE; omega)
            exact J191 (x2_16 - 1) (upd S_16 (Int32.toNatClampNeg ((x2_16 - 1) - 1)) (F_X6_two ((mo.2 7) (Int32.toNatClampNeg ((200 * (mo.1 10)) + x3_16))) (S_16 (Int32.toNatClampNeg ((x2_16 - 1) - 1))) (S_16 (Int32.toNatClampNeg (x2_16 - 1))))) _ _ hG _ (lv_sub hl [0, 1, 2, 3] rfl) (by clear hE; omega) hE
          replace hE := (if_pos c_138).symm.trans hE
          have i_138 : ((mo.2 7) (Int32.toNatClampNeg ((200 * (mo.1 10)) + x3_16))).toInt = 19 := congrArg Int32.toInt c_138
          refine lv_aload_n hx hb dX6_says_141 rfl (lv_at hl 0 rfl) ?_
          refine g_get hx hb hts hiX6 hown hG gw_Model rfl 27 (by decide) (index := 55) tw_fl_RX6_55 (v := .ref (gA g 74)) rfl dX6_says_142 ?_
          refine lv_iload_n hx hb dX6_says_145 rfl (lv_at hl 2 rfl) ?_
          refine lv_iconst (v := 1) hx hb dX6_says_146 (by decide) ?_
          refine lv_isub hx hb dX6_says_147 ?_
          refine lv_aload_n hx hb dX6_says_148 rfl (lv_at hl 0 rfl) ?_
          refine g_get hx hb hts hiX6 hown hG gw_Model rfl 27 (by decide) (index := 55) tw_fl_RX6_55 (v := .ref (gA g 74)) rfl dX6_says_149 ?_
          refine lv_iload_n hx hb dX6_says_152 rfl (lv_at hl 2 rfl) ?_
          refine lv_iconst (v := 1) hx hb dX6_says_153 (by decide) ?_
          refine lv_isub hx hb dX6_says_154 ?_
          have e16 : (x2_16 - 1).toInt = x2_16.toInt - 1 := subL (k := 1) (by decide +kernel) (by clear hE; omega) (by clear hE; omega)
          refine g_ild (f := S_16) hx hb hG gw_Model_j27 (show vp_in (x2_16 - 1) 200 from (vp_i (by clear hE; omega) (by clear hE; omega))) dX6_says_155 ?_
          refine lv_ineg hx hb dX6_says_156 ?_
          have e17 : (x2_16 - 1).toInt = x2_16.toInt - 1 := subL (k := 1) (by decide +kernel) (by clear hE; omega) (by clear hE; omega)
          refine g_ist hx hb hG gw_Model_j27 (show vp_in (x2_16 - 1) 200 from (vp_i (by clear hE; omega) (by clear hE; omega))) gt_Model_j27 dX6_says_157 (fun H locs hG => ?_)
          refine lv_goto (tgt := 191) hx hb dX6_says_158 (by decide) ?_
          exact J191 x2_16 (upd S_16 (Int32.toNatClampNeg (x2_16 - 1)) (-(S_16 (Int32.toNatClampNeg (x2_16 - 1))))) _ _ hG _ (lv_sub hl [0, 1, 2, 3] rfl) (by clear hE; omega) hE
        replace hE := (if_pos c_104).symm.trans hE
        have i_104 : ((mo.2 7) (Int32.toNatClampNeg ((200 * (mo.1 10)) + x3_16))).toInt = 13 := congrArg Int32.toInt c_104
        refine lv_aload_n hx hb dX6_says_107 rfl (lv_at hl 0 rfl) ?_
        refine g_get hx hb hts hiX6 hown hG gw_Model rfl 27 (by decide) (index := 55) tw_fl_RX6_55 (v := .ref (gA g 74)) rfl dX6_says_108 ?_
        refine lv_iload_n hx hb dX6_says_111 rfl (lv_at hl 2 rfl) ?_
        refine lv_iconst (v := 1) hx hb dX6_says_112 (by decide) ?_
        refine lv_isub hx hb dX6_says_113 ?_
        refine lv_aload_n hx hb dX6_says_114 rfl (lv_at hl 0 rfl) ?_
        refine g_get hx hb hts hiX6 hown hG gw_Model rfl 27 (by decide) (index := 55) tw_fl_RX6_55 (v := .ref (gA g 74)) rfl dX6_says_115 ?_
        refine lv_iload_n hx hb dX6_says_118 rfl (lv_at hl 2 rfl) ?_
        refine lv_iconst (v := 1) hx hb dX6_says_119 (by decide) ?_
        refine lv_isub hx hb dX6_says_120 ?_
        have e18 : (x2_16 - 1).toInt = x2_16.toInt - 1 := subL (k := 1) (by decide +kernel) (by clear hE; omega) (by clear hE; omega)
        refine g_ild (f := S_16) hx hb hG gw_Model_j27 (show vp_in (x2_16 - 1) 200 from (vp_i (by clear hE; omega) (by clear hE; omega))) dX6_says_121 ?_
        have J130 : ∀ (z2_130 : Int32) (H : Heap) (locs : List Loc), gS g A s H locs (gW g bb tx rw sb dy tn mo (va_up jk 6 S_16)) → ∀ ls : Array Slot, lv_has ls 5 [(0, .ref (gA g 58)), (1, .int p1), (2, .int x2_16), (3, .int x3_16)] → F_X6_saysR_b130  (F_X6_saysR_l16 n16 ) mo S_16 N p1 x2_16 x3_16 (x2_16 - 1) z2_130 = EE → W p l e (rmL (2)) s m [.ref (gA g 58), .int p1].toArray below meth c H locs 0 0 Q (F0 m 130 ls [.int z2_130, .int (x2_16 - 1), .ref (gA g 74)]) := by
          intro z2_130 H locs hG ls hl  hE
          unfold F_X6_saysR_b130 at hE
          have e19 : (x2_16 - 1).toInt = x2_16.toInt - 1 := subL (k := 1) (by decide +kernel) (by clear hE; omega) (by clear hE; omega)
          refine g_ist hx hb hG gw_Model_j27 (show vp_in (x2_16 - 1) 200 from (vp_i (by clear hE; omega) (by clear hE; omega))) gt_Model_j27 dX6_says_130 (fun H locs hG => ?_)
          refine lv_goto (tgt := 191) hx hb dX6_says_131 (by decide) ?_
          exact J191 x2_16 (upd S_16 (Int32.toNatClampNeg (x2_16 - 1)) z2_130) _ _ hG _ (lv_sub hl [0, 1, 2, 3] rfl) (by clear hE; omega) hE
        refine lv_if_ne (tgt := 129) hx hb dX6_says_122 (by decide) (fun c_122 => ?_) (fun c_122 => ?_)
        · replace hE := (if_neg c_122).symm.trans hE
          have i_122 : (S_16 (Int32.toNatClampNeg (x2_16 - 1))).toInt ≠ 0 := fun h => c_122 (Int32.toInt_inj.mp h)
          refine lv_iconst (v := 0) hx hb dX6_says_129 (by decide) ?_
          exact J130 0 _ _ hG _ (lv_sub hl [0, 1, 2, 3] rfl) hE
        replace hE := (if_pos c_122).symm.trans hE
        have i_122 : (S_16 (Int32.toNatClampNeg (x2_16 - 1))).toInt = 0 := congrArg Int32.toInt c_122
        refine lv_iconst (v := 1) hx hb dX6_says_125 (by decide) ?_
        refine lv_goto (tgt := 130) hx hb dX6_says_126 (by decide) ?_
        exact J130 1 _ _ hG _ (lv_sub hl [0, 1, 2, 3] rfl) hE
      replace hE := (if_neg c_63).symm.trans hE
      have i_63 : ((mo.2 7) (Int32.toNatClampNeg ((200 * (mo.1 10)) + x3_16))).toInt < 11 := i_nle c_63
      exact J66 _ _ hG _ (lv_sub hl [0, 1, 2, 3, 4] rfl) (by clear hE; omega) hE
  exact L16 201 0 ((mo.2 8) (Int32.toNatClampNeg ((4 * (mo.1 10)) + p1))) S _ _ hG _ (lv_sub hl [0, 1, 2, 3] rfl) (Int.le_refl _) (by clear hE; omega) wd0.symm (by show 200 < _ + ((201 : Nat) : Int); clear hE; omega) hE
def F_X6_asksOfR_b96 (mo : Ob) (S : (Nat → Int32)) (N : (Nat → Int32)) (z0 : Int32) (z1 : Int32) : Int32 × (Nat → Int32) × (Nat → Int32) :=
  ((F_X6_within z0 z1 99), S, N)
def F_X6_asksOfR_c82 (u : Int32 × (Nat → Int32)) (mo : Ob) (N : (Nat → Int32)) (x1 : Int32) : Int32 × (Nat → Int32) × (Nat → Int32) :=
  (if x1 = 1 then (F_X6_asksOfR_b96  mo u.2 N u.1 (-99)) else (F_X6_asksOfR_b96  mo u.2 N u.1 0))
def F_X6_asksOfR (mo : Ob) (S : (Nat → Int32)) (N : (Nat → Int32)) (p1 : Int32) (p2 : Int32) : Int32 × (Nat → Int32) × (Nat → Int32) :=
  (F_X6_asksOfR_c82 (F_X6_saysR mo S (upd (upd (upd (upd (upd (upd N (Int32.toNatClampNeg 0) ((mo.2 3) (Int32.toNatClampNeg (4 * p2)))) (Int32.toNatClampNeg 1) (F_X6_within ((mo.2 3) (Int32.toNatClampNeg ((4 * p2) + 1))) 0 99)) (Int32.toNatClampNeg 2) (F_X6_ofDay mo)) (Int32.toNatClampNeg 3) ((mo.2 4) (Int32.toNatClampNeg 2))) (Int32.toNatClampNeg 4) (mo.1 0)) (Int32.toNatClampNeg 5) ((mo.2 2) (Int32.toNatClampNeg p2))) p1) mo (upd (upd (upd (upd (upd (upd N (Int32.toNatClampNeg 0) ((mo.2 3) (Int32.toNatClampNeg (4 * p2)))) (Int32.toNatClampNeg 1) (F_X6_within ((mo.2 3) (Int32.toNatClampNeg ((4 * p2) + 1))) 0 99)) (Int32.toNatClampNeg 2) (F_X6_ofDay mo)) (Int32.toNatClampNeg 3) ((mo.2 4) (Int32.toNatClampNeg 2))) (Int32.toNatClampNeg 4) (mo.1 0)) (Int32.toNatClampNeg 5) ((mo.2 2) (Int32.toNatClampNeg p2))) p1)
set_option maxHeartbeats 4000000 in
set_option maxRecDepth 100000 in
theorem c_X6_asksOfR {l : Launch} {g : GG} {sz : Nat} {bb : Ob} {tx rw : Nat → Ob} {sb dy : Ob} {tn : Nat → Ob} {mo : Ob} {jk : Nat → Nat → Int32} {S : Nat → Int32} (hS : jk 6 = S) {N : Nat → Int32} (hN : jk 7 = N) (p1 : Int32) (p2 : Int32) (hv : mEv mo) (hp : 0 ≤ p1.toInt ∧ p1.toInt ≤ 2) (hp2 : 0 ≤ p2.toInt ∧ p2.toInt < 6) : Met l yX6_asksOf (Cond.code yX6_asksOf cX6_asksOf 3 (some .int) :: TT) (rmL (3)) (va_Pc [.ref (gA g 58), .int p1, .int p2] (gB g sz (gW g bb tx rw sb dy tn mo jk))) (va_Qi (fun r (u : (Nat → Int32) × (Nat → Int32)) => (F_X6_asksOfR mo S N p1 p2) = (r, u.1, u.2)) (fun u t => gC g (va_A (gW g bb tx rw sb dy tn mo jk) sz) (gW g bb tx rw sb dy tn mo (va_up (va_up jk 6 u.1) 7 u.2)) t) (va_A (gW g bb tx rw sb dy tn mo jk) sz)) 0 0 (va_A (gW g bb tx rw sb dy tn mo jk) sz) := by
  generalize hE : F_X6_asksOfR mo S N p1 p2 = EE
  refine g_of (Qf := fun A => (va_Qi (fun r (u : (Nat → Int32) × (Nat → Int32)) => EE = (r, u.1, u.2)) (fun u t => gC g A (gW g bb tx rw sb dy tn mo (va_up (va_up jk 6 u.1) 7 u.2)) t) A)) (cc := cX6_asksOf) (maxL := 3) (ret := (some .int)) (by decide) (Nat.le_of_ble_eq_true rfl) ?_
  intro p e s m below meth c A ls hx hb hml hr hlocks hts hown hA hG hl
  replace hown : s.vm.findClass RX6 = some m.cls := hown
  replace hl : lv_has ls 3 [(0, .ref (gA g 58)), (1, .int p1), (2, .int p2)] := hl
  show W p l e (rmL (3)) s m [.ref (gA g 58), .int p1, .int p2].toArray below meth c s.heap [] 0 0 (MQ below (va_Qi (fun r (u : (Nat → Int32) × (Nat → Int32)) => EE = (r, u.1, u.2)) (fun u t => gC g A (gW g bb tx rw sb dy tn mo (va_up (va_up jk 6 u.1) 7 u.2)) t) A) [.ref (gA g 58), .int p1, .int p2].toArray s 0 0 A) (F0 m 0 ls [])
  generalize hQ : MQ below (va_Qi (fun r (u : (Nat → Int32) × (Nat → Int32)) => EE = (r, u.1, u.2)) (fun u t => gC g A (gW g bb tx rw sb dy tn mo (va_up (va_up jk 6 u.1) 7 u.2)) t) A) [.ref (gA g 58), .int p1, .int p2].toArray s 0 0 A = Q
  replace hG : gS g A s s.heap [] (gW g bb tx rw sb dy tn mo (va_up (va_up jk 6 S) 7 N)) := by simpa only [← hS, ← hN, up_self] using hG
  unfold F_X6_asksOfR at hE
  refine lv_aload_n hx hb dX6_asksOf_0 rfl (lv_at hl 0 rfl) ?_
  refine g_get hx hb hts hiX6 hown hG gw_Model rfl 28 (by decide) (index := 58) tw_fl_RX6_58 (v := .ref (gA g 75)) rfl dX6_asksOf_1 ?_
  refine lv_iconst (v := 0) hx hb dX6_asksOf_4 (by decide) ?_
  refine lv_aload_n hx hb dX6_asksOf_5 rfl (lv_at hl 0 rfl) ?_
  refine g_get hx hb hts hiX6 hown hG gw_Model rfl 3 (by decide) (index := 16) tw_fl_RX6_16 (v := .ref (gA g 61)) rfl dX6_asksOf_6 ?_
  refine lv_iconst (v := 4) hx hb dX6_asksOf_9 (by decide) ?_
  refine lv_iload_n hx hb dX6_asksOf_10 rfl (lv_at hl 2 rfl) ?_
  refine lv_imul hx hb dX6_asksOf_11 ?_
  have e1 : (4 * p2).toInt = 4 * p2.toInt := mulL (k := 4) (by decide +kernel) (by clear hE; omega) (by clear hE; omega)
  refine g_ild (f := (mo.2 3)) hx hb hG gw_Model_a3 (show vp_in (4 * p2) 24 from (vp_i (by clear hE; omega) (by clear hE; omega))) dX6_asksOf_12 ?_
  refine g_ist hx hb hG gw_Model_j28 (show vp_in 0 6 from (by unfold vp_in; decide)) gt_Model_j28 dX6_asksOf_13 (fun H locs hG => ?_)
  refine lv_aload_n hx hb dX6_asksOf_14 rfl (lv_at hl 0 rfl) ?_
  refine g_get hx hb hts hiX6 hown hG gw_Model rfl 28 (by decide) (index := 58) tw_fl_RX6_58 (v := .ref (gA g 75)) rfl dX6_asksOf_15 ?_
  refine lv_iconst (v := 1) hx hb dX6_asksOf_18 (by decide) ?_
  refine lv_aload_n hx hb dX6_asksOf_19 rfl (lv_at hl 0 rfl) ?_
  refine g_get hx hb hts hiX6 hown hG gw_Model rfl 3 (by decide) (index := 16) tw_fl_RX6_16 (v := .ref (gA g 61)) rfl dX6_asksOf_20 ?_
  refine lv_iconst (v := 4) hx hb dX6_asksOf_23 (by decide) ?_
  refine lv_iload_n hx hb dX6_asksOf_24 rfl (lv_at hl 2 rfl) ?_
  refine lv_imul hx hb dX6_asksOf_25 ?_
  refine lv_iconst (v := 1) hx hb dX6_asksOf_26 (by decide) ?_
  refine lv_iadd hx hb dX6_asksOf_27 ?_
  have e2 : (4 * p2).toInt = 4 * p2.toInt := mulL (k := 4) (by decide +kernel) (by clear hE; omega) (by clear hE; omega)
  have e3 : ((4 * p2) + 1).toInt = (4 * p2).toInt + 1 := addL (k := 1) (by decide +kernel) (by clear hE; omega) (by clear hE; omega)
  refine g_ild (f := (mo.2 3)) hx hb hG gw_Model_a3 (show vp_in ((4 * p2) + 1) 24 from (vp_i (by clear hE; omega) (by clear hE; omega))) dX6_asksOf_28 ?_
  refine lv_iconst (v := 0) hx hb dX6_asksOf_29 (by decide) ?_
  refine lv_bipush (v := 99) hx hb dX6_asksOf_30 (by decide) ?_
  refine g_si (g_runS (n := 3) (rest := [.int 1, .ref (gA g 75)]) hx hb hml hown hts hG (c_X6_within ((mo.2 3) (Int32.toNatClampNeg ((4 * p2) + 1))) 0 99) tw_ml_RX6_155 tw_st_X6_within tw_in_RX6 tw_cd_X6_within (by decide +kernel) ⟨rfl, rfl, Nat.le_of_ble_eq_true rfl, Nat.le_of_ble_eq_true rfl⟩ rfl hl.1 rfl (Nat.le_of_ble_eq_true rfl) dX6_asksOf_32 ⟨Nat.le_refl _, Nat.le_refl _⟩) hG hA (fun H locs hG => ?_)
  refine g_ist hx hb hG gw_Model_j28 (show vp_in 1 6 from (by unfold vp_in; decide)) gt_Model_j28 dX6_asksOf_35 (fun H locs hG => ?_)
  refine lv_aload_n hx hb dX6_asksOf_36 rfl (lv_at hl 0 rfl) ?_
  refine g_get hx hb hts hiX6 hown hG gw_Model rfl 28 (by decide) (index := 58) tw_fl_RX6_58 (v := .ref (gA g 75)) rfl dX6_asksOf_37 ?_
  refine lv_iconst (v := 2) hx hb dX6_asksOf_40 (by decide) ?_
  refine lv_aload_n hx hb dX6_asksOf_41 rfl (lv_at hl 0 rfl) ?_
  refine g_ci (g_runV (n := 0) (rest := [.int 2, .ref (gA g 75)]) hx hb hml hown hts hG (c_X6_ofDay) tw_ml_RX6_158 tw_im_X6_ofDay tw_se_X6_ofDay tw_in_RX6 tw_cd_X6_ofDay (by decide +kernel) ⟨rfl, rfl, Nat.le_of_ble_eq_true rfl, Nat.le_of_ble_eq_true rfl⟩ gw_Model rfl rfl hl.1 rfl (Nat.le_of_ble_eq_true rfl) dX6_asksOf_42 ⟨Nat.le_refl _, Nat.le_refl _⟩) hG hA (fun r _ H locs hp hG => ?_)
  subst hp
  replace hG : gS g A s H locs (gW g bb tx rw sb dy tn mo (va_up (va_up jk 6 S) 7 (upd (upd N (Int32.toNatClampNeg 0) ((mo.2 3) (Int32.toNatClampNeg (4 * p2)))) (Int32.toNatClampNeg 1) (F_X6_within ((mo.2 3) (Int32.toNatClampNeg ((4 * p2) + 1))) 0 99)))) := hG
  refine g_ist hx hb hG gw_Model_j28 (show vp_in 2 6 from (by unfold vp_in; decide)) gt_Model_j28 dX6_asksOf_45 (fun H locs hG => ?_)
  refine lv_aload_n hx hb dX6_asksOf_46 rfl (lv_at hl 0 rfl) ?_
  refine g_get hx hb hts hiX6 hown hG gw_Model rfl 28 (by decide) (index := 58) tw_fl_RX6_58 (v := .ref (gA g 75)) rfl dX6_asksOf_47 ?_
  refine lv_iconst (v := 3) hx hb dX6_asksOf_50 (by decide) ?_
  refine lv_aload_n hx hb dX6_asksOf_51 rfl (lv_at hl 0 rfl) ?_
  refine g_get hx hb hts hiX6 hown hG gw_Model rfl 4 (by decide) (index := 19) tw_fl_RX6_19 (v := .ref (gA g 62)) rfl dX6_asksOf_52 ?_
  refine lv_iconst (v := 2) hx hb dX6_asksOf_55 (by decide) ?_
  refine g_ild (f := (mo.2 4)) hx hb hG gw_Model_a4 (show vp_in 2 3 from (by unfold vp_in; decide)) dX6_asksOf_56 ?_
  refine g_ist hx hb hG gw_Model_j28 (show vp_in 3 6 from (by unfold vp_in; decide)) gt_Model_j28 dX6_asksOf_57 (fun H locs hG => ?_)
  refine lv_aload_n hx hb dX6_asksOf_58 rfl (lv_at hl 0 rfl) ?_
  refine g_get hx hb hts hiX6 hown hG gw_Model rfl 28 (by decide) (index := 58) tw_fl_RX6_58 (v := .ref (gA g 75)) rfl dX6_asksOf_59 ?_
  refine lv_iconst (v := 4) hx hb dX6_asksOf_62 (by decide) ?_
  refine lv_aload_n hx hb dX6_asksOf_63 rfl (lv_at hl 0 rfl) ?_
  refine g_get hx hb hts hiX6 hown hG gw_Model rfl 0 (by decide) (index := 78) tw_fl_RX6_78 (v := .int (mo.1 0)) rfl dX6_asksOf_64 ?_
  refine g_ist hx hb hG gw_Model_j28 (show vp_in 4 6 from (by unfold vp_in; decide)) gt_Model_j28 dX6_asksOf_67 (fun H locs hG => ?_)
  refine lv_aload_n hx hb dX6_asksOf_68 rfl (lv_at hl 0 rfl) ?_
  refine g_get hx hb hts hiX6 hown hG gw_Model rfl 28 (by decide) (index := 58) tw_fl_RX6_58 (v := .ref (gA g 75)) rfl dX6_asksOf_69 ?_
  refine lv_iconst (v := 5) hx hb dX6_asksOf_72 (by decide) ?_
  refine lv_aload_n hx hb dX6_asksOf_73 rfl (lv_at hl 0 rfl) ?_
  refine g_get hx hb hts hiX6 hown hG gw_Model rfl 2 (by decide) (index := 13) tw_fl_RX6_13 (v := .ref (gA g 60)) rfl dX6_asksOf_74 ?_
  refine lv_iload_n hx hb dX6_asksOf_77 rfl (lv_at hl 2 rfl) ?_
  refine g_ild (f := (mo.2 2)) hx hb hG gw_Model_a2 (show vp_in p2 6 from (vp_i (by clear hE; omega) (by clear hE; omega))) dX6_asksOf_78 ?_
  refine g_ist hx hb hG gw_Model_j28 (show vp_in 5 6 from (by unfold vp_in; decide)) gt_Model_j28 dX6_asksOf_79 (fun H locs hG => ?_)
  refine lv_aload_n hx hb dX6_asksOf_80 rfl (lv_at hl 0 rfl) ?_
  refine lv_iload_n hx hb dX6_asksOf_81 rfl (lv_at hl 1 rfl) ?_
  refine g_ci (g_runV (n := 1) (rest := []) hx hb hml hown hts hG (c_X6_saysR (show _ = S from rfl) (up_same _ _ _) p1 hv (by clear hE; omega)) tw_ml_RX6_161 tw_im_X6_says tw_se_X6_says tw_in_RX6 tw_cd_X6_says (by decide +kernel) ⟨rfl, rfl, Nat.le_of_ble_eq_true rfl, Nat.le_of_ble_eq_true rfl⟩ gw_Model rfl rfl hl.1 rfl (Nat.le_of_ble_eq_true rfl) dX6_asksOf_82 ⟨Nat.le_refl _, Nat.le_refl _⟩) hG hA (fun r_82 u H locs hp hG => ?_)
  obtain ⟨S_82, rfl⟩ : ∃ z, z = u := ⟨u, rfl⟩
  replace hG : gS g A s H locs (gW g bb tx rw sb dy tn mo (va_up (va_up jk 6 S_82) 7 (upd (upd (upd (upd (upd (upd N (Int32.toNatClampNeg 0) ((mo.2 3) (Int32.toNatClampNeg (4 * p2)))) (Int32.toNatClampNeg 1) (F_X6_within ((mo.2 3) (Int32.toNatClampNeg ((4 * p2) + 1))) 0 99)) (Int32.toNatClampNeg 2) (F_X6_ofDay mo)) (Int32.toNatClampNeg 3) ((mo.2 4) (Int32.toNatClampNeg 2))) (Int32.toNatClampNeg 4) (mo.1 0)) (Int32.toNatClampNeg 5) ((mo.2 2) (Int32.toNatClampNeg p2))))) := by simpa only [up_up, up_67] using hG
  have hp_82 := hp
  rw [hp] at hE
  unfold F_X6_asksOfR_c82 at hE
  try dsimp only at hE
  refine lv_iload_n hx hb dX6_asksOf_85 rfl (lv_at hl 1 rfl) ?_
  refine lv_iconst (v := 1) hx hb dX6_asksOf_86 (by decide) ?_
  have J96 : ∀ (z1_96 : Int32) (H : Heap) (locs : List Loc), gS g A s H locs (gW g bb tx rw sb dy tn mo (va_up (va_up jk 6 S_82) 7 (upd (upd (upd (upd (upd (upd N (Int32.toNatClampNeg 0) ((mo.2 3) (Int32.toNatClampNeg (4 * p2)))) (Int32.toNatClampNeg 1) (F_X6_within ((mo.2 3) (Int32.toNatClampNeg ((4 * p2) + 1))) 0 99)) (Int32.toNatClampNeg 2) (F_X6_ofDay mo)) (Int32.toNatClampNeg 3) ((mo.2 4) (Int32.toNatClampNeg 2))) (Int32.toNatClampNeg 4) (mo.1 0)) (Int32.toNatClampNeg 5) ((mo.2 2) (Int32.toNatClampNeg p2))))) → ∀ ls : Array Slot, lv_has ls 3 [] → F_X6_asksOfR_b96   mo S_82 (upd (upd (upd (upd (upd (upd N (Int32.toNatClampNeg 0) ((mo.2 3) (Int32.toNatClampNeg (4 * p2)))) (Int32.toNatClampNeg 1) (F_X6_within ((mo.2 3) (Int32.toNatClampNeg ((4 * p2) + 1))) 0 99)) (Int32.toNatClampNeg 2) (F_X6_ofDay mo)) (Int32.toNatClampNeg 3) ((mo.2 4) (Int32.toNatClampNeg 2))) (Int32.toNatClampNeg 4) (mo.1 0)) (Int32.toNatClampNeg 5) ((mo.2 2) (Int32.toNatClampNeg p2))) r_82 z1_96 = EE → W p l e (rmL (3)) s m [.ref (gA g 58), .int p1, .int p2].toArray below meth c H locs 0 0 Q (F0 m 96 ls [.int z1_96, .int r_82]) := by
    intro z1_96 H locs hG ls hl  hE
    unfold F_X6_asksOfR_b96 at hE
    refine lv_bipush (v := 99) hx hb dX6_asksOf_96 (by decide) ?_
    refine g_si (g_runS (n := 3) (rest := []) hx hb hml hown hts hG (c_X6_within r_82 z1_96 99) tw_ml_RX6_155 tw_st_X6_within tw_in_RX6 tw_cd_X6_within (by decide +kernel) ⟨rfl, rfl, Nat.le_of_ble_eq_true rfl, Nat.le_of_ble_eq_true rfl⟩ rfl hl.1 rfl (Nat.le_of_ble_eq_true rfl) dX6_asksOf_98 ⟨Nat.le_refl _, Nat.le_refl _⟩) hG hA (fun H locs hG => ?_)
    subst hQ
    exact g_iret hx hb hr hlocks hG ((S_82, (upd (upd (upd (upd (upd (upd N (Int32.toNatClampNeg 0) ((mo.2 3) (Int32.toNatClampNeg (4 * p2)))) (Int32.toNatClampNeg 1) (F_X6_within ((mo.2 3) (Int32.toNatClampNeg ((4 * p2) + 1))) 0 99)) (Int32.toNatClampNeg 2) (F_X6_ofDay mo)) (Int32.toNatClampNeg 3) ((mo.2 4) (Int32.toNatClampNeg 2))) (Int32.toNatClampNeg 4) (mo.1 0)) (Int32.toNatClampNeg 5) ((mo.2 2) (Int32.toNatClampNeg p2)))) : (Nat → Int32) × (Nat → Int32)) rfl hE.symm dX6_asksOf_101
  refine lv_icmp_ne (tgt := 95) hx hb dX6_asksOf_87 (by decide) (fun c_87 => ?_) (fun c_87 => ?_)
  · replace hE := (if_neg c_87).symm.trans hE
    have i_87 : p1.toInt ≠ 1 := fun h => c_87 (Int32.toInt_inj.mp h)
    refine lv_iconst (v := 0) hx hb dX6_asksOf_95 (by decide) ?_
    exact J96 0 _ _ hG _ (lv_sub hl [] rfl) hE
  replace hE := (if_pos c_87).symm.trans hE
  have i_87 : p1.toInt = 1 := congrArg Int32.toInt c_87
  refine lv_bipush (v := (-99)) hx hb dX6_asksOf_90 (by decide) ?_
  refine lv_goto (tgt := 96) hx hb dX6_asksOf_92 (by decide) ?_
  exact J96 (-99) _ _ hG _ (lv_sub hl [] rfl) hE
