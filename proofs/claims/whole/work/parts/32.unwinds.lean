-- what a token's reading keeps
def nR (a : Int) (m r : Ob) : Prop := nOK r ∧ a ≤ (r.1 18).toInt ∧ r.2 = m.2 ∧ ∀ k : Nat, k ≠ 18 → k ≠ 19 → k ≠ 20 → k ≠ 21 → r.1 k = m.1 k
theorem nR.s20 {a : Int} {m r : Ob} (h : nR a m r) (v : Int32) : nR a m (setS r 20 v) := ⟨h.1, h.2.1, h.2.2.1, fun k h1 h2 h3 h4 => by
  show (if k = 20 then v else r.1 k) = m.1 k
  rw [if_neg h3]; exact h.2.2.2 k h1 h2 h3 h4⟩
theorem nR.s21 {a : Int} {m r : Ob} (h : nR a m r) (v : Int32) : nR a m (setS r 21 v) := ⟨h.1, h.2.1, h.2.2.1, fun k h1 h2 h3 h4 => by
  show (if k = 21 then v else r.1 k) = m.1 k
  rw [if_neg h4]; exact h.2.2.2 k h1 h2 h3 h4⟩
theorem nR.s19 {a : Int} {m r : Ob} (h : nR a m r) (v : Int32) : nR a m (setS r 19 v) := ⟨h.1, h.2.1, h.2.2.1, fun k h1 h2 h3 h4 => by
  show (if k = 19 then v else r.1 k) = m.1 k
  rw [if_neg h2]; exact h.2.2.2 k h1 h2 h3 h4⟩
theorem nR.inc {a : Int} {m r : Ob} (h : nR a m r) (c : (r.1 18).toInt < (r.1 6).toInt) : nR (a + 1) m (setS r 18 (r.1 18 + 1)) := by
  have z := h.1
  have w := h.2.1
  have e : (r.1 18 + 1).toInt = (r.1 18).toInt + 1 := addL (k := 1) (by decide +kernel) (by omega) (by omega)
  refine ⟨⟨?_, ?_, z.2.2⟩, ?_, h.2.2.1, fun k h1 h2 h3 h4 => ?_⟩
  · show 0 ≤ (r.1 18 + 1).toInt; omega
  · show (r.1 18 + 1).toInt ≤ (r.1 6).toInt; omega
  · show a + 1 ≤ (r.1 18 + 1).toInt; omega
  · show (if k = 18 then r.1 18 + 1 else r.1 k) = m.1 k
    rw [if_neg h1]; exact h.2.2.2 k h1 h2 h3 h4
theorem nR.le {a b : Int} {m r : Ob} (h : nR a m r) (hb : b ≤ a) : nR b m r := ⟨h.1, Int.le_trans hb h.2.1, h.2.2⟩
theorem next_195 {a : Int} {m r : Ob} (h : nR a m r) (x z : Int32) : nR a m (F_X6_next_b195 r x z) := by
  unfold F_X6_next_b195 F_X6_next_b211
  split
  · exact (h.s20 _).s21 _
  · exact (h.s20 _).s21 _
theorem next_146 {a : Int} {m r : Ob} (h : nR a m r) : nR a m (F_X6_next_b146 r) := by
  unfold F_X6_next_b146
  split
  · split
    · split
      · exact next_195 h _ _
      · exact next_195 h _ _
    · exact next_195 h _ _
  · exact next_195 h _ _
theorem next_103 {m : Ob} : ∀ (n : Nat) (a : Int) (r : Ob), nR a m r → nR a m (F_X6_next_l103 n r) := by
  intro n
  induction n with
  | zero => intro a r h; exact h
  | succ n ih =>
    intro a r h
    unfold F_X6_next_l103
    split
    · exact next_146 h
    · rename_i c
      split
      · exact next_146 h
      · exact (ih _ _ (h.inc (i_nle c))).le (by omega)
theorem next_309 {a : Int} {m r : Ob} (h : nR a m r) (x : Int32) : nR a m (F_X6_next_b309 r x) := by
  unfold F_X6_next_b309 F_X6_next_b320
  split
  · exact h.s20 _
  · exact h.s20 _
theorem next_290 {a : Int} {m r : Ob} {K : Ob → Int32 → Ob} (hK : ∀ (a : Int) (r : Ob) (x : Int32), nR a m r → nR a m (K r x)) (h : nR a m r) (c : (r.1 18).toInt < (r.1 6).toInt) (x z : Int32) : nR (a + 1) m (F_X6_next_b290 K r x z) := by
  unfold F_X6_next_b290
  exact hK _ _ _ ((h.s21 z).inc c)
theorem next_230 {m : Ob} : ∀ (n : Nat) (a : Int) (r : Ob) (x : Int32), nR a m r → nR a m (F_X6_next_l230 n r x) := by
  intro n
  induction n with
  | zero => intro a r x h; exact h
  | succ n ih =>
    intro a r x h
    unfold F_X6_next_l230
    split
    · exact next_309 h _
    · rename_i c
      split
      · exact next_309 h _
      · split
        · exact (next_290 ih h (i_nle c) _ _).le (by omega)
        · exact (next_290 ih h (i_nle c) _ _).le (by omega)
/-- a token was read: nothing but the reading's own numbers is otherwise; what isn't the end takes a byte or more -/
def nX (a : Int) (m r : Ob) : Prop := nR a m r ∧ (¬ r.1 20 = 0 → a + 1 ≤ (r.1 18).toInt)
theorem nX.of {a : Int} {m r : Ob} (h : nR (a + 1) m r) : nX a m r := ⟨h.le (by omega), fun _ => h.2.1⟩
theorem next_52 {a : Int} {m r : Ob} (h : nR a m r) : nX a m (F_X6_next_b52 r) := by
  have h3 : nR a m (setS (setS (setS r 19 (r.1 18)) 20 0) 21 0) := ((h.s19 _).s20 _).s21 _
  by_cases c : r.1 18 = r.1 6
  · unfold F_X6_next_b52
    rw [if_pos c]
    exact ⟨h3, fun z => absurd rfl z⟩
  have hlt : (r.1 18).toInt < (r.1 6).toInt := by
    have z := h.1
    have : (r.1 18).toInt ≠ (r.1 6).toInt := fun q => c (Int32.toInt_inj.mp q)
    omega
  have cn : ¬ r.1 6 ≤ r.1 18 := fun q => by have := i_le.mp q; omega
  have k390 : ∀ v : Int32, nX a m (F_X6_next_b390 (setS (setS (setS r 19 (r.1 18)) 20 0) 21 0) v) := fun v => nX.of ((h3.s20 v).inc hlt)
  have k374 : ∀ v : Int32, nX a m (F_X6_next_b374 (setS (setS (setS r 19 (r.1 18)) 20 0) 21 0) v) := fun v => by
    unfold F_X6_next_b374 F_X6_next_b379
    split
    · exact k390 _
    · exact k390 _
  have k379 : ∀ v w : Int32, nX a m (F_X6_next_b379 (setS (setS (setS r 19 (r.1 18)) 20 0) 21 0) v w) := fun v w => by
    unfold F_X6_next_b379
    split
    · exact k390 _
    · exact k390 _
  have k103 : ¬ F_X6_in ((r.2 5) (Int32.toNatClampNeg (r.1 18))) 97 122 = 0 → nX a m (F_X6_next_l103 161 (setS (setS (setS r 19 (r.1 18)) 20 0) 21 0)) := fun q => by
    have e : F_X6_next_l103 161 (setS (setS (setS r 19 (r.1 18)) 20 0) 21 0) = F_X6_next_l103 160 (setS (setS (setS (setS r 19 (r.1 18)) 20 0) 21 0) 18 (r.1 18 + 1)) := (if_neg cn).trans (if_neg q)
    rw [e]
    exact nX.of (next_103 _ _ _ (h3.inc hlt))
  have k230 : ¬ F_X6_in ((r.2 5) (Int32.toNatClampNeg (r.1 18))) 48 57 = 0 → nX a m (F_X6_next_l230 161 (setS (setS (setS r 19 (r.1 18)) 20 0) 21 0) 0) := fun q => by
    have e : F_X6_next_l230 161 (setS (setS (setS r 19 (r.1 18)) 20 0) 21 0) 0 = F_X6_next_b290 (F_X6_next_l230 160) (setS (setS (setS r 19 (r.1 18)) 20 0) 21 0) 0 (((10 * 0) + ((r.2 5) (Int32.toNatClampNeg (r.1 18)))) - 48) := (if_neg cn).trans ((if_neg q).trans (if_neg (by decide)))
    rw [e]
    exact nX.of (next_290 (fun a r x => next_230 160 a r x) h3 hlt _ _)
  unfold F_X6_next_b52
  rw [if_neg c]
  by_cases c1 : F_X6_in ((r.2 5) (Int32.toNatClampNeg (r.1 18))) 97 122 = 0
  · rw [if_pos c1]
    by_cases c2 : F_X6_in ((r.2 5) (Int32.toNatClampNeg (r.1 18))) 48 57 = 0
    · rw [if_pos c2]
      repeat' split
      all_goals first | exact k374 _ | exact k379 _ _
    · rw [if_neg c2]
      exact k230 c2
  · rw [if_neg c1]
    exact k103 c1
theorem next_0 {m : Ob} : ∀ (n : Nat) (a : Int) (r : Ob), nR a m r → 160 < (r.1 18).toInt + n → nX a m (F_X6_next_l0 n r) := by
  intro n
  induction n with
  | zero => intro a r h hn; have z := h.1; omega
  | succ n ih =>
    intro a r h hn
    have k : ∀ (c : ¬ r.1 6 ≤ r.1 18), nX a m (F_X6_next_b39 (F_X6_next_l0 n) r) := fun c => by
      unfold F_X6_next_b39
      have z := h.1
      have hc := i_nle c
      have e : (r.1 18 + 1).toInt = (r.1 18).toInt + 1 := addL (k := 1) (by decide +kernel) (by omega) (by omega)
      exact ih _ _ ((h.inc hc).le (by omega)) (by show 160 < (r.1 18 + 1).toInt + n; omega)
    unfold F_X6_next_l0
    split
    · exact next_52 h
    · rename_i c
      split
      · exact k c
      · split
        · exact k c
        · exact next_52 h
theorem next_ok {m r : Ob} (hp : F_X6_next m = r) (h : nOK m) : nX (m.1 18).toInt m r := by
  subst hp
  exact next_0 161 _ _ ⟨h, Int.le_refl _, rfl, fun k _ _ _ _ => rfl⟩ (by have z := h.1; show 160 < (m.1 18).toInt + ((161 : Nat) : Int); omega)

def F_X6_unwinds_c73 (K0 : Ob → Int32 → Ob) (u : Ob) (x1 : Int32) : Ob :=
  (K0 u x1)
def F_X6_unwinds_b67 (K0 : Ob → Int32 → Ob) (mo : Ob) (x1 : Int32) (x2 : Int32) (z1 : Int32) (z2 : Int32) : Ob :=
  (F_X6_unwinds_c73 K0 (F_X6_puts (setS mo 25 (z1 - z2)) x2) x1)
def F_X6_unwinds_b62 (K0 : Ob → Int32 → Ob) (mo : Ob) (x1 : Int32) (x2 : Int32) (z1 : Int32) : Ob :=
  (F_X6_unwinds_b67 K0 mo x1 x2 z1 1)
def F_X6_unwinds_l0 : Nat → Ob → Int32 → Ob
  | 0, mo, _ => mo
  | n + 1, mo, x1 =>
    (if (mo.1 24) ≤ 0 then mo else (if (F_X6_rank ((mo.2 23) (Int32.toNatClampNeg ((mo.1 24) - 1)))) < x1 then mo else (if ((mo.2 23) (Int32.toNatClampNeg ((mo.1 24) - 1))) = 13 then (F_X6_unwinds_b62 (F_X6_unwinds_l0 n ) (setS mo 24 ((mo.1 24) - 1)) x1 ((mo.2 23) (Int32.toNatClampNeg ((mo.1 24) - 1))) (mo.1 25)) else (if ((mo.2 23) (Int32.toNatClampNeg ((mo.1 24) - 1))) = 19 then (F_X6_unwinds_b62 (F_X6_unwinds_l0 n ) (setS mo 24 ((mo.1 24) - 1)) x1 ((mo.2 23) (Int32.toNatClampNeg ((mo.1 24) - 1))) (mo.1 25)) else (F_X6_unwinds_b67 (F_X6_unwinds_l0 n ) (setS mo 24 ((mo.1 24) - 1)) x1 ((mo.2 23) (Int32.toNatClampNeg ((mo.1 24) - 1))) (mo.1 25) 0)))))
def F_X6_unwinds (mo : Ob) (p1 : Int32) : Ob :=
  (F_X6_unwinds_l0 161  mo p1)
set_option maxHeartbeats 4000000 in
set_option maxRecDepth 100000 in
theorem c_X6_unwinds {l : Launch} {g : GG} {sz : Nat} {bb : Ob} {tx rw : Nat → Ob} {sb dy : Ob} {tn : Nat → Ob} {mo : Ob} {jk : Nat → Nat → Int32}  (p1 : Int32) (hu : 0 ≤ (mo.1 9).toInt ∧ (mo.1 9).toInt ≤ 5 ∧ 0 ≤ (mo.1 24).toInt ∧ 0 ≤ (mo.1 26).toInt ∧ (mo.1 24).toInt + (mo.1 26).toInt ≤ 160) : Met l yX6_unwinds (Cond.code yX6_unwinds cX6_unwinds 3 none :: TT) (rmL (2)) (va_Pc [.ref (gA g 58), .int p1] (gB g sz (gW g bb tx rw sb dy tn mo jk))) (va_Qv (fun (u : Ob) => (F_X6_unwinds mo p1) = (u)) (fun u t => gC g (va_A (gW g bb tx rw sb dy tn mo jk) sz) (gW g bb tx rw sb dy tn u jk) t) (va_A (gW g bb tx rw sb dy tn mo jk) sz)) 0 0 (va_A (gW g bb tx rw sb dy tn mo jk) sz) := by
  generalize hE : F_X6_unwinds mo p1 = EE
  refine g_of (Qf := fun A => (va_Qv (fun (u : Ob) => EE = (u)) (fun u t => gC g A (gW g bb tx rw sb dy tn u jk) t) A)) (cc := cX6_unwinds) (maxL := 3) (ret := none) (by decide) (Nat.le_of_ble_eq_true rfl) ?_
  intro p e s m below meth c A ls hx hb hml hr hlocks hts hown hA hG hl
  replace hown : s.vm.findClass RX6 = some m.cls := hown
  replace hl : lv_has ls 3 [(0, .ref (gA g 58)), (1, .int p1)] := hl
  show W p l e (rmL (2)) s m [.ref (gA g 58), .int p1].toArray below meth c s.heap [] 0 0 (MQ below (va_Qv (fun (u : Ob) => EE = (u)) (fun u t => gC g A (gW g bb tx rw sb dy tn u jk) t) A) [.ref (gA g 58), .int p1].toArray s 0 0 A) (F0 m 0 ls [])
  generalize hQ : MQ below (va_Qv (fun (u : Ob) => EE = (u)) (fun u t => gC g A (gW g bb tx rw sb dy tn u jk) t) A) [.ref (gA g 58), .int p1].toArray s 0 0 A = Q
  unfold F_X6_unwinds at hE
  have L0 : ∀ (n0 : Nat) (mo_0 : Ob) (H : Heap) (locs : List Loc), gS g A s H locs (gW g bb tx rw sb dy tn mo_0 jk) → ∀ ls : Array Slot, lv_has ls 3 [(0, .ref (gA g 58)), (1, .int p1)] → 0 ≤ (mo_0.1 9).toInt → (mo_0.1 9).toInt ≤ 5 → 0 ≤ (mo_0.1 24).toInt → 0 ≤ (mo_0.1 26).toInt → (mo_0.1 24).toInt + (mo_0.1 26).toInt ≤ 160 → (mo_0.1 24).toInt < n0 → F_X6_unwinds_l0 n0  mo_0 p1 = EE → W p l e (rmL (2)) s m [.ref (gA g 58), .int p1].toArray below meth c H locs 0 0 Q (F0 m 0 ls []) := by
    intro n0
    induction n0 with
    | zero =>
      intro mo_0 H locs hG ls hl hu0 hu1 hu2 hu3 hu4 hm_0 hE
      clear hE; omega
    | succ n0 ih0 =>
      intro mo_0 H locs hG ls hl hu0 hu1 hu2 hu3 hu4 hm_0 hE
      unfold F_X6_unwinds_l0 at hE
      refine lv_aload_n hx hb dX6_unwinds_0 rfl (lv_at hl 0 rfl) ?_
      refine g_get hx hb hts hiX6 hown hG gw_Model rfl 24 (by decide) (index := 114) tw_fl_RX6_114 (v := .int (mo_0.1 24)) rfl dX6_unwinds_1 ?_
      refine lv_if_le (tgt := 79) hx hb dX6_unwinds_4 (by decide) (fun c_4 => ?_) (fun c_4 => ?_)
      · replace hE := (if_pos c_4).symm.trans hE
        have i_4 : (mo_0.1 24).toInt ≤ 0 := i_le.mp c_4
        subst hQ
        exact g_vret hx hb hr hlocks hG ((mo_0) : Ob) rfl hE.symm dX6_unwinds_79
      replace hE := (if_neg c_4).symm.trans hE
      have i_4 : 0 < (mo_0.1 24).toInt := i_nle c_4
      refine lv_aload_n hx hb dX6_unwinds_7 rfl (lv_at hl 0 rfl) ?_
      refine g_get hx hb hts hiX6 hown hG gw_Model rfl 23 (by decide) (index := 52) tw_fl_RX6_52 (v := .ref (gA g 73)) rfl dX6_unwinds_8 ?_
      refine lv_aload_n hx hb dX6_unwinds_11 rfl (lv_at hl 0 rfl) ?_
      refine g_get hx hb hts hiX6 hown hG gw_Model rfl 24 (by decide) (index := 114) tw_fl_RX6_114 (v := .int (mo_0.1 24)) rfl dX6_unwinds_12 ?_
      refine lv_iconst (v := 1) hx hb dX6_unwinds_15 (by decide) ?_
      refine lv_isub hx hb dX6_unwinds_16 ?_
      have e1 : ((mo_0.1 24) - 1).toInt = (mo_0.1 24).toInt - 1 := subL (k := 1) (by decide +kernel) (by clear hE; omega) (by clear hE; omega)
      refine g_ild (f := (mo_0.2 23)) hx hb hG gw_Model_a23 (show vp_in ((mo_0.1 24) - 1) 200 from (vp_i (by clear hE; omega) (by clear hE; omega))) dX6_unwinds_17 ?_
      refine g_si (g_runS (n := 1) (rest := []) hx hb hml hown hts hG (c_X6_rank ((mo_0.2 23) (Int32.toNatClampNeg ((mo_0.1 24) - 1)))) tw_ml_RX6_117 tw_st_X6_rank tw_in_RX6 tw_cd_X6_rank (by decide +kernel) ⟨rfl, rfl, Nat.le_of_ble_eq_true rfl, Nat.le_of_ble_eq_true rfl⟩ rfl hl.1 rfl (Nat.le_of_ble_eq_true rfl) dX6_unwinds_18 ⟨Nat.le_refl _, Nat.le_refl _⟩) hG hA (fun H locs hG => ?_)
      refine lv_iload_n hx hb dX6_unwinds_21 rfl (lv_at hl 1 rfl) ?_
      refine lv_icmp_lt (tgt := 79) hx hb dX6_unwinds_22 (by decide) (fun c_22 => ?_) (fun c_22 => ?_)
      · replace hE := (if_pos c_22).symm.trans hE
        subst hQ
        exact g_vret hx hb hr hlocks hG ((mo_0) : Ob) rfl hE.symm dX6_unwinds_79
      replace hE := (if_neg c_22).symm.trans hE
      refine lv_aload_n hx hb dX6_unwinds_25 rfl (lv_at hl 0 rfl) ?_
      refine lv_dup hx hb dX6_unwinds_26 rfl ?_
      refine g_get hx hb hts hiX6 hown hG gw_Model rfl 24 (by decide) (index := 114) tw_fl_RX6_114 (v := .int (mo_0.1 24)) rfl dX6_unwinds_27 ?_
      refine lv_iconst (v := 1) hx hb dX6_unwinds_30 (by decide) ?_
      refine lv_isub hx hb dX6_unwinds_31 ?_
      refine g_put hx hb hts hiX6 tyX6 tyX6_ok nmX6 hown hG gw_Model rfl 24 (by decide) (index := 114) tw_fl_RX6_114 rfl rfl rfl (Nat.le_of_ble_eq_true rfl) gs_Model_f24 dX6_unwinds_32 (fun H locs hG => ?_)
      refine lv_aload_n hx hb dX6_unwinds_35 rfl (lv_at hl 0 rfl) ?_
      refine g_get hx hb hts hiX6 hown hG gw_Model rfl 23 (by decide) (index := 52) tw_fl_RX6_52 (v := .ref (gA g 73)) rfl dX6_unwinds_36 ?_
      refine lv_aload_n hx hb dX6_unwinds_39 rfl (lv_at hl 0 rfl) ?_
      refine g_get hx hb hts hiX6 hown hG gw_Model rfl 24 (by decide) (index := 114) tw_fl_RX6_114 (v := .int ((mo_0.1 24) - 1)) rfl dX6_unwinds_40 ?_
      have e2 : ((mo_0.1 24) - 1).toInt = (mo_0.1 24).toInt - 1 := subL (k := 1) (by decide +kernel) (by clear hE; omega) (by clear hE; omega)
      refine g_ild (f := (mo_0.2 23)) hx hb hG gw_Model_a23 (show vp_in ((mo_0.1 24) - 1) 200 from (vp_i (by clear hE; omega) (by clear hE; omega))) dX6_unwinds_43 ?_
      refine lv_istore_n (lv' := [(2, .int ((mo_0.2 23) (Int32.toNatClampNeg ((mo_0.1 24) - 1)))), (0, .ref (gA g 58)), (1, .int p1)]) hx hb dX6_unwinds_44 rfl hl (by decide) rfl (fun ls hl => ?_)
      replace hl := lv_sub hl [1, 2, 0] (l' := [(0, .ref (gA g 58)), (1, .int p1), (2, .int ((mo_0.2 23) (Int32.toNatClampNeg ((mo_0.1 24) - 1))))]) rfl
      refine lv_aload_n hx hb dX6_unwinds_45 rfl (lv_at hl 0 rfl) ?_
      refine lv_dup hx hb dX6_unwinds_46 rfl ?_
      refine g_get hx hb hts hiX6 hown hG gw_Model rfl 25 (by decide) (index := 121) tw_fl_RX6_121 (v := .int (mo_0.1 25)) rfl dX6_unwinds_47 ?_
      refine lv_iload_n hx hb dX6_unwinds_50 rfl (lv_at hl 2 rfl) ?_
      refine lv_bipush (v := 13) hx hb dX6_unwinds_51 (by decide) ?_
      have J67 : ∀ (z2_67 : Int32) (H : Heap) (locs : List Loc), gS g A s H locs (gW g bb tx rw sb dy tn (setS mo_0 24 ((mo_0.1 24) - 1)) jk) → ∀ ls : Array Slot, lv_has ls 3 [(0, .ref (gA g 58)), (1, .int p1), (2, .int ((mo_0.2 23) (Int32.toNatClampNeg ((mo_0.1 24) - 1))))] → F_X6_unwinds_b67  (F_X6_unwinds_l0 n0 ) (setS mo_0 24 ((mo_0.1 24) - 1)) p1 ((mo_0.2 23) (Int32.toNatClampNeg ((mo_0.1 24) - 1))) (mo_0.1 25) z2_67 = EE → W p l e (rmL (2)) s m [.ref (gA g 58), .int p1].toArray below meth c H locs 0 0 Q (F0 m 67 ls [.int z2_67, .int (mo_0.1 25), .ref (gA g 58)]) := by
        intro z2_67 H locs hG ls hl  hE
        unfold F_X6_unwinds_b67 at hE
        refine lv_isub hx hb dX6_unwinds_67 ?_
        refine g_put hx hb hts hiX6 tyX6 tyX6_ok nmX6 hown hG gw_Model rfl 25 (by decide) (index := 121) tw_fl_RX6_121 rfl rfl rfl (Nat.le_of_ble_eq_true rfl) gs_Model_f25 dX6_unwinds_68 (fun H locs hG => ?_)
        refine lv_aload_n hx hb dX6_unwinds_71 rfl (lv_at hl 0 rfl) ?_
        refine lv_iload_n hx hb dX6_unwinds_72 rfl (lv_at hl 2 rfl) ?_
        refine g_cv (g_runV (n := 1) (rest := []) hx hb hml hown hts hG (c_X6_puts ((mo_0.2 23) (Int32.toNatClampNeg ((mo_0.1 24) - 1))) (show 0 ≤ (mo_0.1 9).toInt ∧ (mo_0.1 9).toInt ≤ 5 ∧ 0 ≤ (mo_0.1 26).toInt ∧ (mo_0.1 26).toInt < 200 from by clear hE; omega)) tw_ml_RX6_124 tw_im_X6_puts tw_se_X6_puts tw_in_RX6 tw_cd_X6_puts (by decide +kernel) ⟨rfl, rfl, Nat.le_of_ble_eq_true rfl, Nat.le_of_ble_eq_true rfl⟩ gw_Model rfl rfl hl.1 rfl (Nat.le_of_ble_eq_true rfl) dX6_unwinds_73 ⟨Nat.le_refl _, Nat.le_refl _⟩) hG hA (fun u H locs hp hG => ?_)
        obtain ⟨mo_73, rfl⟩ : ∃ z, z = u := ⟨u, rfl⟩
        replace hG : gS g A s H locs (gW g bb tx rw sb dy tn mo_73 jk) := by simpa only [up_up] using hG
        have hp_73 := hp
        rw [hp] at hE
        unfold F_X6_unwinds_c73 at hE
        try dsimp only at hE
        have q9 : (mo_73.1 9).toInt = (mo_0.1 9).toInt := by rw [← hp_73]; rfl
        have q24 : (mo_73.1 24).toInt = (mo_0.1 24 - 1).toInt := by rw [← hp_73]; rfl
        have q26 : (mo_73.1 26).toInt = (mo_0.1 26 + 1).toInt := by rw [← hp_73]; rfl
        have e26 : (mo_0.1 26 + 1).toInt = (mo_0.1 26).toInt + 1 := addL (k := 1) (by decide +kernel) (by clear hE; omega) (by clear hE; omega)
        have e24 : (mo_0.1 24 - 1).toInt = (mo_0.1 24).toInt - 1 := subL (k := 1) (by decide +kernel) (by clear hE; omega) (by clear hE; omega)
        refine lv_goto (tgt := 0) hx hb dX6_unwinds_76 (by decide) ?_
        exact ih0 mo_73 _ _ hG _ (lv_sub hl [0, 1] rfl) (show 0 ≤ (mo_73.1 9).toInt from by clear hE; omega) (show (mo_73.1 9).toInt ≤ 5 from by clear hE; omega) (show 0 ≤ (mo_73.1 24).toInt from by clear hE; omega) (show 0 ≤ (mo_73.1 26).toInt from by clear hE; omega) (show (mo_73.1 24).toInt + (mo_73.1 26).toInt ≤ 160 from by clear hE; omega) (show (mo_73.1 24).toInt < n0 from by clear hE; omega) hE
      have J62 : ∀  (H : Heap) (locs : List Loc), gS g A s H locs (gW g bb tx rw sb dy tn (setS mo_0 24 ((mo_0.1 24) - 1)) jk) → ∀ ls : Array Slot, lv_has ls 3 [(0, .ref (gA g 58)), (1, .int p1), (2, .int ((mo_0.2 23) (Int32.toNatClampNeg ((mo_0.1 24) - 1))))] → F_X6_unwinds_b62  (F_X6_unwinds_l0 n0 ) (setS mo_0 24 ((mo_0.1 24) - 1)) p1 ((mo_0.2 23) (Int32.toNatClampNeg ((mo_0.1 24) - 1))) (mo_0.1 25) = EE → W p l e (rmL (2)) s m [.ref (gA g 58), .int p1].toArray below meth c H locs 0 0 Q (F0 m 62 ls [.int (mo_0.1 25), .ref (gA g 58)]) := by
        intro  H locs hG ls hl  hE
        unfold F_X6_unwinds_b62 at hE
        refine lv_iconst (v := 1) hx hb dX6_unwinds_62 (by decide) ?_
        refine lv_goto (tgt := 67) hx hb dX6_unwinds_63 (by decide) ?_
        exact J67 1 _ _ hG _ (lv_sub hl [0, 1, 2] rfl) hE
      refine lv_icmp_eq (tgt := 62) hx hb dX6_unwinds_53 (by decide) (fun c_53 => ?_) (fun c_53 => ?_)
      · replace hE := (if_pos c_53).symm.trans hE
        have i_53 : ((mo_0.2 23) (Int32.toNatClampNeg ((mo_0.1 24) - 1))).toInt = 13 := congrArg Int32.toInt c_53
        exact J62 _ _ hG _ (lv_sub hl [0, 1, 2] rfl) hE
      replace hE := (if_neg c_53).symm.trans hE
      have i_53 : ((mo_0.2 23) (Int32.toNatClampNeg ((mo_0.1 24) - 1))).toInt ≠ 13 := fun h => c_53 (Int32.toInt_inj.mp h)
      refine lv_iload_n hx hb dX6_unwinds_56 rfl (lv_at hl 2 rfl) ?_
      refine lv_bipush (v := 19) hx hb dX6_unwinds_57 (by decide) ?_
      refine lv_icmp_ne (tgt := 66) hx hb dX6_unwinds_59 (by decide) (fun c_59 => ?_) (fun c_59 => ?_)
      · replace hE := (if_neg c_59).symm.trans hE
        have i_59 : ((mo_0.2 23) (Int32.toNatClampNeg ((mo_0.1 24) - 1))).toInt ≠ 19 := fun h => c_59 (Int32.toInt_inj.mp h)
        refine lv_iconst (v := 0) hx hb dX6_unwinds_66 (by decide) ?_
        exact J67 0 _ _ hG _ (lv_sub hl [0, 1, 2] rfl) hE
      replace hE := (if_pos c_59).symm.trans hE
      have i_59 : ((mo_0.2 23) (Int32.toNatClampNeg ((mo_0.1 24) - 1))).toInt = 19 := congrArg Int32.toInt c_59
      exact J62 _ _ hG _ (lv_sub hl [0, 1, 2] rfl) hE
  exact L0 161 mo _ _ hG _ (lv_sub hl [0, 1] rfl) (show 0 ≤ (mo.1 9).toInt from by clear hE; omega) (show (mo.1 9).toInt ≤ 5 from by clear hE; omega) (show 0 ≤ (mo.1 24).toInt from by clear hE; omega) (show 0 ≤ (mo.1 26).toInt from by clear hE; omega) (show (mo.1 24).toInt + (mo.1 26).toInt ≤ 160 from by clear hE; omega) (show (mo.1 24).toInt < ((161 : Nat) : Int) from by clear hE; omega) hE
-- what the signs' stack and the codes' place become
def eR (b : Int) (m r : Ob) : Prop := (0 ≤ (r.1 24).toInt ∧ 0 ≤ (r.1 26).toInt ∧ (r.1 24).toInt + (r.1 26).toInt ≤ (m.1 24).toInt + (m.1 26).toInt + b) ∧ (∀ k : Nat, k ≠ 24 → k ≠ 25 → k ≠ 26 → r.1 k = m.1 k) ∧ (∀ k : Nat, k ≠ 7 → k ≠ 23 → r.2 k = m.2 k)
/-- room for signs and codes -/
def uOK (m : Ob) : Prop := 0 ≤ (m.1 24).toInt ∧ 0 ≤ (m.1 26).toInt ∧ (m.1 24).toInt + (m.1 26).toInt ≤ 160
theorem eR.refl {m : Ob} (h : uOK m) : eR 0 m m := ⟨⟨h.1, h.2.1, by omega⟩, fun _ _ _ _ => rfl, fun _ _ _ => rfl⟩
theorem eR.trans {a b : Int} {m r t : Ob} (h : eR a m r) (k : eR b r t) : eR (a + b) m t := ⟨⟨k.1.1, k.1.2.1, by have := h.1.2.2; have := k.1.2.2; omega⟩, fun q h1 h2 h3 => (k.2.1 q h1 h2 h3).trans (h.2.1 q h1 h2 h3), fun q h1 h2 => (k.2.2 q h1 h2).trans (h.2.2 q h1 h2)⟩
theorem eR.ok {a : Int} {m r : Ob} (h : eR a m r) (hb : (m.1 24).toInt + (m.1 26).toInt + a ≤ 160) : uOK r := ⟨h.1.1, h.1.2.1, by have := h.1.2.2; omega⟩
theorem s_ne {m : Ob} {j k : Nat} (v : Int32) (h : k ≠ j) : (setS m j v).1 k = m.1 k := if_neg h
theorem sA_ne {m : Ob} {j k : Nat} (i x : Int32) (h : k ≠ j) : (stA m j i x).2 k = m.2 k := if_neg h
theorem puts_ok {m r : Ob} {v : Int32} (hp : F_X6_puts m v = r) (h : uOK m) (hs : (m.1 24).toInt + (m.1 26).toInt < 160) : eR 1 m r := by
  subst hp
  unfold F_X6_puts
  have h1 := h.1
  have h2 := h.2.1
  have e : (m.1 26 + 1).toInt = (m.1 26).toInt + 1 := addL (k := 1) (by decide +kernel) (by omega) (by omega)
  refine ⟨⟨h.1, ?_, ?_⟩, fun k k1 k2 k3 => s_ne _ k3, fun k k1 k2 => sA_ne _ _ k1⟩
  · show 0 ≤ (m.1 26 + 1).toInt; omega
  · show (m.1 24).toInt + (m.1 26 + 1).toInt ≤ _; omega
theorem holds_ok {m r : Ob} {v : Int32} (hp : F_X6_holds m v = r) (h : uOK m) (hs : (m.1 24).toInt + (m.1 26).toInt < 160) : eR 1 m r := by
  subst hp
  unfold F_X6_holds
  have h1 := h.1
  have h2 := h.2.1
  have e : (m.1 24 + 1).toInt = (m.1 24).toInt + 1 := addL (k := 1) (by decide +kernel) (by omega) (by omega)
  refine ⟨⟨?_, h.2.1, ?_⟩, fun k k1 k2 k3 => s_ne _ k1, fun k k1 k2 => sA_ne _ _ k2⟩
  · show 0 ≤ (m.1 24 + 1).toInt; omega
  · show (m.1 24 + 1).toInt + (m.1 26).toInt ≤ _; omega
theorem opensOne_ok {m r : Ob} {v z : Int32} (hp : F_X6_opensOne m v = (z, r)) (h : uOK m) (hs : (m.1 24).toInt + (m.1 26).toInt < 160) : eR 1 m r := by
  unfold F_X6_opensOne at hp
  split at hp
  · rw [← (Prod.mk.inj hp).2]
    exact ⟨⟨h.1, h.2.1, by omega⟩, fun _ _ _ _ => rfl, fun _ _ _ => rfl⟩
  · unfold F_X6_opensOne_c22 at hp
    have k := holds_ok (Prod.mk.inj hp).2 h hs
    exact ⟨k.1, fun q h1 h2 h3 => (k.2.1 q h1 h2 h3).trans (s_ne _ h2), k.2.2⟩
theorem unwinds_l0 (p : Int32) : ∀ (n : Nat) (m : Ob), uOK m → eR 0 m (F_X6_unwinds_l0 n m p) := by
  intro n
  induction n with
  | zero => intro m h; exact eR.refl h
  | succ n ih =>
    intro m h
    have k : ∀ (c : ¬ m.1 24 ≤ 0) (o v : Int32), eR 0 m (F_X6_unwinds_l0 n (F_X6_puts (setS (setS m 24 (m.1 24 - 1)) 25 o) v) p) := fun c o v => by
      have c2 := i_nle c
      have e0 : (0 : Int32).toInt = 0 := rfl
      have h1 := h.1
      have h2 := h.2.1
      have h3 := h.2.2
      have e : (m.1 24 - 1).toInt = (m.1 24).toInt - 1 := subL (k := 1) (by decide +kernel) (by omega) (by omega)
      have hq : uOK (setS (setS m 24 (m.1 24 - 1)) 25 o) := ⟨by show 0 ≤ (m.1 24 - 1).toInt; omega, h.2.1, by show (m.1 24 - 1).toInt + (m.1 26).toInt ≤ 160; omega⟩
      have hr : eR (-1) m (setS (setS m 24 (m.1 24 - 1)) 25 o) := ⟨⟨hq.1, hq.2.1, by show (m.1 24 - 1).toInt + (m.1 26).toInt ≤ _; omega⟩, fun q q1 q2 q3 => (s_ne _ q2).trans (s_ne _ q1), fun _ _ _ => rfl⟩
      have hw : eR 1 (setS (setS m 24 (m.1 24 - 1)) 25 o) (F_X6_puts (setS (setS m 24 (m.1 24 - 1)) 25 o) v) := puts_ok rfl hq (by show (m.1 24 - 1).toInt + (m.1 26).toInt < 160; omega)
      have hz : eR 0 m (F_X6_puts (setS (setS m 24 (m.1 24 - 1)) 25 o) v) := hr.trans hw
      exact hz.trans (ih _ (hz.ok (by omega)))
    unfold F_X6_unwinds_l0
    split
    · exact eR.refl h
    · rename_i c
      split
      · exact eR.refl h
      · split
        · exact k c _ _
        · split
          · exact k c _ _
          · exact k c _ _
theorem unwinds_ok {m r : Ob} {p : Int32} (hp : F_X6_unwinds m p = r) (h : uOK m) : eR 0 m r := by
  subst hp
  exact unwinds_l0 p 161 m h

def F_X6_between_c57 (u : Ob) : Int32 × Ob :=
  (1, u)
def F_X6_between_b55 (mo : Ob) (x1 : Int32) : Int32 × Ob :=
  (F_X6_between_c57 (F_X6_holds mo x1))
def F_X6_between_c17 (u : Ob) (x1 : Int32) : Int32 × Ob :=
  (if (F_X6_rank x1) = 4 then (if (u.1 24) ≤ 0 then (F_X6_between_b55  u x1) else (if (F_X6_rank ((u.2 23) (Int32.toNatClampNeg ((u.1 24) - 1)))) = 4 then (0, u) else (F_X6_between_b55  u x1))) else (F_X6_between_b55  u x1))
def F_X6_between_b17 (mo : Ob) (x1 : Int32) (z1 : Int32) : Int32 × Ob :=
  (F_X6_between_c17 (F_X6_unwinds mo z1) x1)
def F_X6_between (mo : Ob) (p1 : Int32) : Int32 × Ob :=
  (if (F_X6_rank p1) = 4 then (F_X6_between_b17  mo p1 5) else (F_X6_between_b17  mo p1 (F_X6_rank p1)))
set_option maxHeartbeats 4000000 in
set_option maxRecDepth 100000 in
theorem c_X6_between {l : Launch} {g : GG} {sz : Nat} {bb : Ob} {tx rw : Nat → Ob} {sb dy : Ob} {tn : Nat → Ob} {mo : Ob} {jk : Nat → Nat → Int32}  (p1 : Int32) (hu : 0 ≤ (mo.1 9).toInt ∧ (mo.1 9).toInt ≤ 5 ∧ 0 ≤ (mo.1 24).toInt ∧ 0 ≤ (mo.1 26).toInt ∧ (mo.1 24).toInt + (mo.1 26).toInt ≤ 160) (hu5 : (mo.1 24).toInt + (mo.1 26).toInt < 160) : Met l yX6_between (Cond.code yX6_between cX6_between 2 (some .boolean) :: TT) (rmL (3)) (va_Pc [.ref (gA g 58), .int p1] (gB g sz (gW g bb tx rw sb dy tn mo jk))) (va_Qi (fun r (u : Ob) => (F_X6_between mo p1) = (r, u)) (fun u t => gC g (va_A (gW g bb tx rw sb dy tn mo jk) sz) (gW g bb tx rw sb dy tn u jk) t) (va_A (gW g bb tx rw sb dy tn mo jk) sz)) 0 0 (va_A (gW g bb tx rw sb dy tn mo jk) sz) := by
  generalize hE : F_X6_between mo p1 = EE
  refine g_of (Qf := fun A => (va_Qi (fun r (u : Ob) => EE = (r, u)) (fun u t => gC g A (gW g bb tx rw sb dy tn u jk) t) A)) (cc := cX6_between) (maxL := 2) (ret := (some .boolean)) (by decide) (Nat.le_of_ble_eq_true rfl) ?_
  intro p e s m below meth c A ls hx hb hml hr hlocks hts hown hA hG hl
  replace hown : s.vm.findClass RX6 = some m.cls := hown
  replace hl : lv_has ls 2 [(0, .ref (gA g 58)), (1, .int p1)] := hl
  show W p l e (rmL (3)) s m [.ref (gA g 58), .int p1].toArray below meth c s.heap [] 0 0 (MQ below (va_Qi (fun r (u : Ob) => EE = (r, u)) (fun u t => gC g A (gW g bb tx rw sb dy tn u jk) t) A) [.ref (gA g 58), .int p1].toArray s 0 0 A) (F0 m 0 ls [])
  generalize hQ : MQ below (va_Qi (fun r (u : Ob) => EE = (r, u)) (fun u t => gC g A (gW g bb tx rw sb dy tn u jk) t) A) [.ref (gA g 58), .int p1].toArray s 0 0 A = Q
  unfold F_X6_between at hE
  refine lv_aload_n hx hb dX6_between_0 rfl (lv_at hl 0 rfl) ?_
  refine lv_iload_n hx hb dX6_between_1 rfl (lv_at hl 1 rfl) ?_
  refine g_si (g_runS (n := 1) (rest := [.ref (gA g 58)]) hx hb hml hown hts hG (c_X6_rank p1) tw_ml_RX6_117 tw_st_X6_rank tw_in_RX6 tw_cd_X6_rank (by decide +kernel) ⟨rfl, rfl, Nat.le_of_ble_eq_true rfl, Nat.le_of_ble_eq_true rfl⟩ rfl hl.1 rfl (Nat.le_of_ble_eq_true rfl) dX6_between_2 ⟨Nat.le_refl _, Nat.le_refl _⟩) hG hA (fun H locs hG => ?_)
  refine lv_iconst (v := 4) hx hb dX6_between_5 (by decide) ?_
  have J17 : ∀ (z1_17 : Int32) (H : Heap) (locs : List Loc), gS g A s H locs (gW g bb tx rw sb dy tn mo jk) → ∀ ls : Array Slot, lv_has ls 2 [(0, .ref (gA g 58)), (1, .int p1)] → F_X6_between_b17   mo p1 z1_17 = EE → W p l e (rmL (3)) s m [.ref (gA g 58), .int p1].toArray below meth c H locs 0 0 Q (F0 m 17 ls [.int z1_17, .ref (gA g 58)]) := by
    intro z1_17 H locs hG ls hl  hE
    unfold F_X6_between_b17 at hE
    refine g_cv (g_runV (n := 1) (rest := []) hx hb hml hown hts hG (c_X6_unwinds z1_17 (show 0 ≤ (mo.1 9).toInt ∧ (mo.1 9).toInt ≤ 5 ∧ 0 ≤ (mo.1 24).toInt ∧ 0 ≤ (mo.1 26).toInt ∧ (mo.1 24).toInt + (mo.1 26).toInt ≤ 160 from by clear hE; omega)) tw_ml_RX6_131 tw_im_X6_unwinds tw_se_X6_unwinds tw_in_RX6 tw_cd_X6_unwinds (by decide +kernel) ⟨rfl, rfl, Nat.le_of_ble_eq_true rfl, Nat.le_of_ble_eq_true rfl⟩ gw_Model rfl rfl hl.1 rfl (Nat.le_of_ble_eq_true rfl) dX6_between_17 ⟨Nat.le_refl _, Nat.le_refl _⟩) hG hA (fun u H locs hp hG => ?_)
    obtain ⟨mo_17, rfl⟩ : ∃ z, z = u := ⟨u, rfl⟩
    replace hG : gS g A s H locs (gW g bb tx rw sb dy tn mo_17 jk) := by simpa only [up_up] using hG
    have hp_17 := hp
    rw [hp] at hE
    unfold F_X6_between_c17 at hE
    try dsimp only at hE
    have zz17 : eR 0 mo mo_17 := unwinds_ok hp_17 ⟨by clear hE; omega, by clear hE; omega, by clear hE; omega⟩
    have za17 : 0 ≤ (mo_17.1 24).toInt ∧ 0 ≤ (mo_17.1 26).toInt ∧ (mo_17.1 24).toInt + (mo_17.1 26).toInt ≤ (mo.1 24).toInt + (mo.1 26).toInt + 0 := zz17.1
    have zb17_6 : (mo_17.1 6).toInt = (mo.1 6).toInt := congrArg Int32.toInt (zz17.2.1 6 (by decide) (by decide) (by decide))
    have zb17_9 : (mo_17.1 9).toInt = (mo.1 9).toInt := congrArg Int32.toInt (zz17.2.1 9 (by decide) (by decide) (by decide))
    have zb17_18 : (mo_17.1 18).toInt = (mo.1 18).toInt := congrArg Int32.toInt (zz17.2.1 18 (by decide) (by decide) (by decide))
    refine lv_iload_n hx hb dX6_between_20 rfl (lv_at hl 1 rfl) ?_
    refine g_si (g_runS (n := 1) (rest := []) hx hb hml hown hts hG (c_X6_rank p1) tw_ml_RX6_117 tw_st_X6_rank tw_in_RX6 tw_cd_X6_rank (by decide +kernel) ⟨rfl, rfl, Nat.le_of_ble_eq_true rfl, Nat.le_of_ble_eq_true rfl⟩ rfl hl.1 rfl (Nat.le_of_ble_eq_true rfl) dX6_between_21 ⟨Nat.le_refl _, Nat.le_refl _⟩) hG hA (fun H locs hG => ?_)
    refine lv_iconst (v := 4) hx hb dX6_between_24 (by decide) ?_
    have J55 : ∀  (H : Heap) (locs : List Loc), gS g A s H locs (gW g bb tx rw sb dy tn mo_17 jk) → ∀ ls : Array Slot, lv_has ls 2 [(0, .ref (gA g 58)), (1, .int p1)] → F_X6_between_b55   mo_17 p1 = EE → W p l e (rmL (3)) s m [.ref (gA g 58), .int p1].toArray below meth c H locs 0 0 Q (F0 m 55 ls []) := by
      intro  H locs hG ls hl  hE
      unfold F_X6_between_b55 at hE
      refine lv_aload_n hx hb dX6_between_55 rfl (lv_at hl 0 rfl) ?_
      refine lv_iload_n hx hb dX6_between_56 rfl (lv_at hl 1 rfl) ?_
      refine g_cv (g_runV (n := 1) (rest := []) hx hb hml hown hts hG (c_X6_holds p1 (show 0 ≤ (mo_17.1 24).toInt ∧ (mo_17.1 24).toInt < 200 from by clear hE; omega)) tw_ml_RX6_128 tw_im_X6_holds tw_se_X6_holds tw_in_RX6 tw_cd_X6_holds (by decide +kernel) ⟨rfl, rfl, Nat.le_of_ble_eq_true rfl, Nat.le_of_ble_eq_true rfl⟩ gw_Model rfl rfl hl.1 rfl (Nat.le_of_ble_eq_true rfl) dX6_between_57 ⟨Nat.le_refl _, Nat.le_refl _⟩) hG hA (fun u H locs hp hG => ?_)
      obtain ⟨mo_57, rfl⟩ : ∃ z, z = u := ⟨u, rfl⟩
      replace hG : gS g A s H locs (gW g bb tx rw sb dy tn mo_57 jk) := by simpa only [up_up] using hG
      have hp_57 := hp
      rw [hp] at hE
      unfold F_X6_between_c57 at hE
      try dsimp only at hE
      refine lv_iconst (v := 1) hx hb dX6_between_60 (by decide) ?_
      subst hQ
      exact g_zret hx hb hr hlocks hG (Or.inr rfl) ((mo_57) : Ob) rfl hE.symm dX6_between_61
    refine lv_icmp_ne (tgt := 55) hx hb dX6_between_25 (by decide) (fun c_25 => ?_) (fun c_25 => ?_)
    · replace hE := (if_neg c_25).symm.trans hE
      exact J55 _ _ hG _ (lv_sub hl [0, 1] rfl) hE
    replace hE := (if_pos c_25).symm.trans hE
    refine lv_aload_n hx hb dX6_between_28 rfl (lv_at hl 0 rfl) ?_
    refine g_get hx hb hts hiX6 hown hG gw_Model rfl 24 (by decide) (index := 114) tw_fl_RX6_114 (v := .int (mo_17.1 24)) rfl dX6_between_29 ?_
    refine lv_if_le (tgt := 55) hx hb dX6_between_32 (by decide) (fun c_32 => ?_) (fun c_32 => ?_)
    · replace hE := (if_pos c_32).symm.trans hE
      have i_32 : (mo_17.1 24).toInt ≤ 0 := i_le.mp c_32
      exact J55 _ _ hG _ (lv_sub hl [0, 1] rfl) hE
    replace hE := (if_neg c_32).symm.trans hE
    have i_32 : 0 < (mo_17.1 24).toInt := i_nle c_32
    refine lv_aload_n hx hb dX6_between_35 rfl (lv_at hl 0 rfl) ?_
    refine g_get hx hb hts hiX6 hown hG gw_Model rfl 23 (by decide) (index := 52) tw_fl_RX6_52 (v := .ref (gA g 73)) rfl dX6_between_36 ?_
    refine lv_aload_n hx hb dX6_between_39 rfl (lv_at hl 0 rfl) ?_
    refine g_get hx hb hts hiX6 hown hG gw_Model rfl 24 (by decide) (index := 114) tw_fl_RX6_114 (v := .int (mo_17.1 24)) rfl dX6_between_40 ?_
    refine lv_iconst (v := 1) hx hb dX6_between_43 (by decide) ?_
    refine lv_isub hx hb dX6_between_44 ?_
    have e1 : ((mo_17.1 24) - 1).toInt = (mo_17.1 24).toInt - 1 := subL (k := 1) (by decide +kernel) (by clear hE; omega) (by clear hE; omega)
    refine g_ild (f := (mo_17.2 23)) hx hb hG gw_Model_a23 (show vp_in ((mo_17.1 24) - 1) 200 from (vp_i (by clear hE; omega) (by clear hE; omega))) dX6_between_45 ?_
    refine g_si (g_runS (n := 1) (rest := []) hx hb hml hown hts hG (c_X6_rank ((mo_17.2 23) (Int32.toNatClampNeg ((mo_17.1 24) - 1)))) tw_ml_RX6_117 tw_st_X6_rank tw_in_RX6 tw_cd_X6_rank (by decide +kernel) ⟨rfl, rfl, Nat.le_of_ble_eq_true rfl, Nat.le_of_ble_eq_true rfl⟩ rfl hl.1 rfl (Nat.le_of_ble_eq_true rfl) dX6_between_46 ⟨Nat.le_refl _, Nat.le_refl _⟩) hG hA (fun H locs hG => ?_)
    refine lv_iconst (v := 4) hx hb dX6_between_49 (by decide) ?_
    refine lv_icmp_ne (tgt := 55) hx hb dX6_between_50 (by decide) (fun c_50 => ?_) (fun c_50 => ?_)
    · replace hE := (if_neg c_50).symm.trans hE
      exact J55 _ _ hG _ (lv_sub hl [0, 1] rfl) hE
    replace hE := (if_pos c_50).symm.trans hE
    refine lv_iconst (v := 0) hx hb dX6_between_53 (by decide) ?_
    subst hQ
    exact g_zret hx hb hr hlocks hG (Or.inl rfl) ((mo_17) : Ob) rfl hE.symm dX6_between_54
  refine lv_icmp_ne (tgt := 13) hx hb dX6_between_6 (by decide) (fun c_6 => ?_) (fun c_6 => ?_)
  · replace hE := (if_neg c_6).symm.trans hE
    refine lv_iload_n hx hb dX6_between_13 rfl (lv_at hl 1 rfl) ?_
    refine g_si (g_runS (n := 1) (rest := [.ref (gA g 58)]) hx hb hml hown hts hG (c_X6_rank p1) tw_ml_RX6_117 tw_st_X6_rank tw_in_RX6 tw_cd_X6_rank (by decide +kernel) ⟨rfl, rfl, Nat.le_of_ble_eq_true rfl, Nat.le_of_ble_eq_true rfl⟩ rfl hl.1 rfl (Nat.le_of_ble_eq_true rfl) dX6_between_14 ⟨Nat.le_refl _, Nat.le_refl _⟩) hG hA (fun H locs hG => ?_)
    exact J17 (F_X6_rank p1) _ _ hG _ (lv_sub hl [0, 1] rfl) hE
  replace hE := (if_pos c_6).symm.trans hE
  refine lv_iconst (v := 5) hx hb dX6_between_9 (by decide) ?_
  refine lv_goto (tgt := 17) hx hb dX6_between_10 (by decide) ?_
  exact J17 5 _ _ hG _ (lv_sub hl [0, 1] rfl) hE
theorem between_ok {m r : Ob} {v z : Int32} (hp : F_X6_between m v = (z, r)) (h : uOK m) (hs : (m.1 24).toInt + (m.1 26).toInt < 160) : eR 1 m r := by
  have k : ∀ p : Int32, eR 1 m (F_X6_between_b17 m v p).2 := fun p => by
    have hu : eR 0 m (F_X6_unwinds m p) := unwinds_ok rfl h
    have hs2 : ((F_X6_unwinds m p).1 24).toInt + ((F_X6_unwinds m p).1 26).toInt < 160 := by have := hu.1.2.2; omega
    have hh : eR 1 m (F_X6_holds (F_X6_unwinds m p) v) := hu.trans (holds_ok rfl (hu.ok (by omega)) hs2)
    have hn : eR 1 m (F_X6_unwinds m p) := ⟨⟨hu.1.1, hu.1.2.1, by have := hu.1.2.2; omega⟩, hu.2⟩
    unfold F_X6_between_b17 F_X6_between_c17
    split
    · split
      · exact hh
      · split
        · exact hn
        · exact hh
    · exact hh
  have e : r = (F_X6_between m v).2 := by rw [hp]
  rw [e]
  unfold F_X6_between
  split
  · exact k _
  · exact k _
theorem signOf_ne {m : Ob} (h : ¬ F_X6_signOf m = -1) : ¬ m.1 20 = 0 := fun q => by
  unfold F_X6_signOf at h
  rw [q] at h
  exact h (by decide)

