def F_X6_in (p0 : Int32) (p1 : Int32) (p2 : Int32) : Int32 :=
  (if p0 < p1 then 0 else (if p2 < p0 then 0 else 1))
set_option maxHeartbeats 4000000 in
set_option maxRecDepth 100000 in
theorem c_X6_in {l : Launch} {g : GG} {sz : Nat}  (p0 : Int32) (p1 : Int32) (p2 : Int32)  : Met l yX6_in (Cond.code yX6_in cX6_in 3 (some .boolean) :: TT) (rmL (1)) (va_Pc [.int p0, .int p1, .int p2] (gB g sz [])) (va_Qi (fun r (_ : Unit) => r = (F_X6_in p0 p1 p2)) (fun u t => gC g (va_A [] sz) [] t) (va_A [] sz)) 0 0 (va_A [] sz) := by
  generalize hE : F_X6_in p0 p1 p2 = EE
  refine g_of (Qf := fun A => (va_Qi (fun r (_ : Unit) => r = EE) (fun u t => gC g A [] t) A)) (cc := cX6_in) (maxL := 3) (ret := (some .boolean)) (by decide) (Nat.le_of_ble_eq_true rfl) ?_
  intro p e s m below meth c A ls hx hb hml hr hlocks hts hown hA hG hl
  replace hown : s.vm.findClass RX6 = some m.cls := hown
  replace hl : lv_has ls 3 [(0, .int p0), (1, .int p1), (2, .int p2)] := hl
  show W p l e (rmL (1)) s m [.int p0, .int p1, .int p2].toArray below meth c s.heap [] 0 0 (MQ below (va_Qi (fun r (_ : Unit) => r = EE) (fun u t => gC g A [] t) A) [.int p0, .int p1, .int p2].toArray s 0 0 A) (F0 m 0 ls [])
  generalize hQ : MQ below (va_Qi (fun r (_ : Unit) => r = EE) (fun u t => gC g A [] t) A) [.int p0, .int p1, .int p2].toArray s 0 0 A = Q
  unfold F_X6_in at hE
  refine lv_iload_n hx hb dX6_in_0 rfl (lv_at hl 0 rfl) ?_
  refine lv_iload_n hx hb dX6_in_1 rfl (lv_at hl 1 rfl) ?_
  refine lv_icmp_lt (tgt := 14) hx hb dX6_in_2 (by decide) (fun c_2 => ?_) (fun c_2 => ?_)
  · replace hE := (if_pos c_2).symm.trans hE
    have i_2 : p0.toInt < p1.toInt := i_lt.mp c_2
    refine lv_iconst (v := 0) hx hb dX6_in_14 (by decide) ?_
    subst hQ
    exact g_zret hx hb hr hlocks hG (Or.inl rfl) () rfl hE dX6_in_15
  replace hE := (if_neg c_2).symm.trans hE
  have i_2 : p1.toInt ≤ p0.toInt := i_nlt c_2
  refine lv_iload_n hx hb dX6_in_5 rfl (lv_at hl 0 rfl) ?_
  refine lv_iload_n hx hb dX6_in_6 rfl (lv_at hl 2 rfl) ?_
  refine lv_icmp_gt (tgt := 14) hx hb dX6_in_7 (by decide) (fun c_7 => ?_) (fun c_7 => ?_)
  · replace hE := (if_pos c_7).symm.trans hE
    have i_7 : p2.toInt < p0.toInt := i_lt.mp c_7
    refine lv_iconst (v := 0) hx hb dX6_in_14 (by decide) ?_
    subst hQ
    exact g_zret hx hb hr hlocks hG (Or.inl rfl) () rfl hE dX6_in_15
  replace hE := (if_neg c_7).symm.trans hE
  have i_7 : p0.toInt ≤ p2.toInt := i_nlt c_7
  refine lv_iconst (v := 1) hx hb dX6_in_10 (by decide) ?_
  refine lv_goto (tgt := 15) hx hb dX6_in_11 (by decide) ?_
  subst hQ
  exact g_zret hx hb hr hlocks hG (Or.inr rfl) () rfl hE dX6_in_15
theorem in_f {v a b : Int32} (h : ¬ F_X6_in v a b = 0) : a.toInt ≤ v.toInt ∧ v.toInt ≤ b.toInt := by
  unfold F_X6_in at h
  by_cases h1 : v < a
  · exact absurd (if_pos h1) h
  · by_cases h2 : b < v
    · exact absurd ((if_neg h1).trans (if_pos h2)) h
    · exact ⟨i_nlt h1, i_nlt h2⟩
theorem F_X6_in_01 (v a b : Int32) : F_X6_in v a b = 0 ∨ F_X6_in v a b = 1 := by
  unfold F_X6_in
  split
  · exact Or.inl rfl
  · split
    · exact Or.inl rfl
    · exact Or.inr rfl
abbrev nOK (mo : Ob) : Prop := 0 ≤ (mo.1 18).toInt ∧ (mo.1 18).toInt ≤ (mo.1 6).toInt ∧ (mo.1 6).toInt ≤ 160
def F_X6_within (p0 : Int32) (p1 : Int32) (p2 : Int32) : Int32 :=
  (if p1 ≤ p0 then (if p0 ≤ p2 then p0 else p2) else p1)
set_option maxHeartbeats 4000000 in
set_option maxRecDepth 100000 in
theorem c_X6_within {l : Launch} {g : GG} {sz : Nat}  (p0 : Int32) (p1 : Int32) (p2 : Int32)  : Met l yX6_within (Cond.code yX6_within cX6_within 3 (some .int) :: TT) (rmL (1)) (va_Pc [.int p0, .int p1, .int p2] (gB g sz [])) (va_Qi (fun r (_ : Unit) => r = (F_X6_within p0 p1 p2)) (fun u t => gC g (va_A [] sz) [] t) (va_A [] sz)) 0 0 (va_A [] sz) := by
  generalize hE : F_X6_within p0 p1 p2 = EE
  refine g_of (Qf := fun A => (va_Qi (fun r (_ : Unit) => r = EE) (fun u t => gC g A [] t) A)) (cc := cX6_within) (maxL := 3) (ret := (some .int)) (by decide) (Nat.le_of_ble_eq_true rfl) ?_
  intro p e s m below meth c A ls hx hb hml hr hlocks hts hown hA hG hl
  replace hown : s.vm.findClass RX6 = some m.cls := hown
  replace hl : lv_has ls 3 [(0, .int p0), (1, .int p1), (2, .int p2)] := hl
  show W p l e (rmL (1)) s m [.int p0, .int p1, .int p2].toArray below meth c s.heap [] 0 0 (MQ below (va_Qi (fun r (_ : Unit) => r = EE) (fun u t => gC g A [] t) A) [.int p0, .int p1, .int p2].toArray s 0 0 A) (F0 m 0 ls [])
  generalize hQ : MQ below (va_Qi (fun r (_ : Unit) => r = EE) (fun u t => gC g A [] t) A) [.int p0, .int p1, .int p2].toArray s 0 0 A = Q
  unfold F_X6_within at hE
  refine lv_iload_n hx hb dX6_within_0 rfl (lv_at hl 0 rfl) ?_
  refine lv_iload_n hx hb dX6_within_1 rfl (lv_at hl 1 rfl) ?_
  refine lv_icmp_ge (tgt := 9) hx hb dX6_within_2 (by decide) (fun c_2 => ?_) (fun c_2 => ?_)
  · replace hE := (if_pos c_2).symm.trans hE
    have i_2 : p1.toInt ≤ p0.toInt := i_le.mp c_2
    refine lv_iload_n hx hb dX6_within_9 rfl (lv_at hl 0 rfl) ?_
    refine lv_iload_n hx hb dX6_within_10 rfl (lv_at hl 2 rfl) ?_
    refine lv_icmp_le (tgt := 18) hx hb dX6_within_11 (by decide) (fun c_11 => ?_) (fun c_11 => ?_)
    · replace hE := (if_pos c_11).symm.trans hE
      have i_11 : p0.toInt ≤ p2.toInt := i_le.mp c_11
      refine lv_iload_n hx hb dX6_within_18 rfl (lv_at hl 0 rfl) ?_
      subst hQ
      exact g_iret hx hb hr hlocks hG () rfl hE dX6_within_19
    replace hE := (if_neg c_11).symm.trans hE
    have i_11 : p2.toInt < p0.toInt := i_nle c_11
    refine lv_iload_n hx hb dX6_within_14 rfl (lv_at hl 2 rfl) ?_
    refine lv_goto (tgt := 19) hx hb dX6_within_15 (by decide) ?_
    subst hQ
    exact g_iret hx hb hr hlocks hG () rfl hE dX6_within_19
  replace hE := (if_neg c_2).symm.trans hE
  have i_2 : p0.toInt < p1.toInt := i_nle c_2
  refine lv_iload_n hx hb dX6_within_5 rfl (lv_at hl 1 rfl) ?_
  refine lv_goto (tgt := 19) hx hb dX6_within_6 (by decide) ?_
  subst hQ
  exact g_iret hx hb hr hlocks hG () rfl hE dX6_within_19
def F_X6_onesOf_l4 : Nat → Int32 → Int32 → Int32 → Int32
  | 0, _, _, _ => 0
  | n + 1, x0, x1, x2 =>
    (if 6 ≤ x2 then x1 else ((F_X6_onesOf_l4 n ) x0 (x1 + ((x0 >>> (x2 &&& 31)) &&& 1)) (x2 + 1)))
def F_X6_onesOf (p0 : Int32) : Int32 :=
  (F_X6_onesOf_l4 7  p0 0 0)
set_option maxHeartbeats 4000000 in
set_option maxRecDepth 100000 in
theorem c_X6_onesOf {l : Launch} {g : GG} {sz : Nat}  (p0 : Int32)  : Met l yX6_onesOf (Cond.code yX6_onesOf cX6_onesOf 3 (some .int) :: TT) (rmL (1)) (va_Pc [.int p0] (gB g sz [])) (va_Qi (fun r (_ : Unit) => r = (F_X6_onesOf p0)) (fun u t => gC g (va_A [] sz) [] t) (va_A [] sz)) 0 0 (va_A [] sz) := by
  generalize hE : F_X6_onesOf p0 = EE
  refine g_of (Qf := fun A => (va_Qi (fun r (_ : Unit) => r = EE) (fun u t => gC g A [] t) A)) (cc := cX6_onesOf) (maxL := 3) (ret := (some .int)) (by decide) (Nat.le_of_ble_eq_true rfl) ?_
  intro p e s m below meth c A ls hx hb hml hr hlocks hts hown hA hG hl
  replace hown : s.vm.findClass RX6 = some m.cls := hown
  replace hl : lv_has ls 3 [(0, .int p0)] := hl
  show W p l e (rmL (1)) s m [.int p0].toArray below meth c s.heap [] 0 0 (MQ below (va_Qi (fun r (_ : Unit) => r = EE) (fun u t => gC g A [] t) A) [.int p0].toArray s 0 0 A) (F0 m 0 ls [])
  generalize hQ : MQ below (va_Qi (fun r (_ : Unit) => r = EE) (fun u t => gC g A [] t) A) [.int p0].toArray s 0 0 A = Q
  unfold F_X6_onesOf at hE
  refine lv_iconst (v := 0) hx hb dX6_onesOf_0 (by decide) ?_
  refine lv_istore_n (lv' := [(1, .int 0), (0, .int p0)]) hx hb dX6_onesOf_1 rfl hl (by decide) rfl (fun ls hl => ?_)
  replace hl := lv_sub hl [1, 0] (l' := [(0, .int p0), (1, .int 0)]) rfl
  refine lv_iconst (v := 0) hx hb dX6_onesOf_2 (by decide) ?_
  refine lv_istore_n (lv' := [(2, .int 0), (0, .int p0), (1, .int 0)]) hx hb dX6_onesOf_3 rfl hl (by decide) rfl (fun ls hl => ?_)
  replace hl := lv_sub hl [1, 2, 0] (l' := [(0, .int p0), (1, .int 0), (2, .int 0)]) rfl
  have L4 : ∀ (n4 : Nat) (x1_4 : Int32) (x2_4 : Int32) (H : Heap) (locs : List Loc), gS g A s H locs [] → ∀ ls : Array Slot, lv_has ls 3 [(0, .int p0), (1, .int x1_4), (2, .int x2_4)] → 0 ≤ x2_4.toInt → x2_4.toInt ≤ 6 → 6 < x2_4.toInt + n4 → F_X6_onesOf_l4 n4  p0 x1_4 x2_4 = EE → W p l e (rmL (1)) s m [.int p0].toArray below meth c H locs 0 0 Q (F0 m 4 ls []) := by
    intro n4
    induction n4 with
    | zero =>
      intro x1_4 x2_4 H locs hG ls hl h0_4 h1_4 hm_4 hE
      clear hE; omega
    | succ n4 ih4 =>
      intro x1_4 x2_4 H locs hG ls hl h0_4 h1_4 hm_4 hE
      unfold F_X6_onesOf_l4 at hE
      refine lv_iload_n hx hb dX6_onesOf_4 rfl (lv_at hl 2 rfl) ?_
      refine lv_bipush (v := 6) hx hb dX6_onesOf_5 (by decide) ?_
      refine lv_icmp_ge (tgt := 24) hx hb dX6_onesOf_7 (by decide) (fun c_7 => ?_) (fun c_7 => ?_)
      · replace hE := (if_pos c_7).symm.trans hE
        have i_7 : 6 ≤ x2_4.toInt := i_le.mp c_7
        refine lv_iload_n hx hb dX6_onesOf_24 rfl (lv_at hl 1 rfl) ?_
        subst hQ
        exact g_iret hx hb hr hlocks hG () rfl hE dX6_onesOf_25
      replace hE := (if_neg c_7).symm.trans hE
      have i_7 : x2_4.toInt < 6 := i_nle c_7
      refine lv_iload_n hx hb dX6_onesOf_10 rfl (lv_at hl 1 rfl) ?_
      refine lv_iload_n hx hb dX6_onesOf_11 rfl (lv_at hl 0 rfl) ?_
      refine lv_iload_n hx hb dX6_onesOf_12 rfl (lv_at hl 2 rfl) ?_
      refine lv_ishr hx hb dX6_onesOf_13 ?_
      refine lv_iconst (v := 1) hx hb dX6_onesOf_14 (by decide) ?_
      refine lv_iand hx hb dX6_onesOf_15 ?_
      refine lv_iadd hx hb dX6_onesOf_16 ?_
      refine lv_istore_n (lv' := [(1, .int (x1_4 + ((p0 >>> (x2_4 &&& 31)) &&& 1))), (0, .int p0), (2, .int x2_4)]) hx hb dX6_onesOf_17 rfl hl (by decide) rfl (fun ls hl => ?_)
      replace hl := lv_sub hl [1, 0, 2] (l' := [(0, .int p0), (1, .int (x1_4 + ((p0 >>> (x2_4 &&& 31)) &&& 1))), (2, .int x2_4)]) rfl
      refine lv_iinc (v := (x2_4 + 1)) (lv' := [(2, .int (x2_4 + 1)), (0, .int p0), (1, .int (x1_4 + ((p0 >>> (x2_4 &&& 31)) &&& 1)))]) hx hb dX6_onesOf_18 hl (k := 2) rfl rfl (by decide) rfl (fun ls hl => ?_)
      replace hl := lv_sub hl [1, 2, 0] (l' := [(0, .int p0), (1, .int (x1_4 + ((p0 >>> (x2_4 &&& 31)) &&& 1))), (2, .int (x2_4 + 1))]) rfl
      refine lv_goto (tgt := 4) hx hb dX6_onesOf_21 (by decide) ?_
      have e1 : (x2_4 + 1).toInt = x2_4.toInt + 1 := addL (k := 1) (by decide +kernel) (by clear hE; omega) (by clear hE; omega)
      exact ih4 (x1_4 + ((p0 >>> (x2_4 &&& 31)) &&& 1)) (x2_4 + 1) _ _ hG _ (lv_sub hl [0, 1, 2] rfl) (by clear hE; omega) (by clear hE; omega) (by clear hE; omega) hE
  exact L4 7 0 0 _ _ hG _ (lv_sub hl [0, 1, 2] rfl) (by decide) (by decide) (by decide) hE
def F_X6_isOne (mo : Ob) (p1 : Int32) : Int32 :=
  (F_X6_in p1 0 ((mo.1 0) - 1))
set_option maxHeartbeats 4000000 in
set_option maxRecDepth 100000 in
theorem c_X6_isOne {l : Launch} {g : GG} {sz : Nat} {bb : Ob} {tx rw : Nat → Ob} {sb dy : Ob} {tn : Nat → Ob} {mo : Ob} {jk : Nat → Nat → Int32}  (p1 : Int32)  : Met l yX6_isOne (Cond.code yX6_isOne cX6_isOne 2 (some .boolean) :: TT) (rmL (2)) (va_Pc [.ref (gA g 58), .int p1] (gB g sz (gW g bb tx rw sb dy tn mo jk))) (va_Qi (fun r (_ : Unit) => r = (F_X6_isOne mo p1)) (fun u t => gC g (va_A (gW g bb tx rw sb dy tn mo jk) sz) (gW g bb tx rw sb dy tn mo jk) t) (va_A (gW g bb tx rw sb dy tn mo jk) sz)) 0 0 (va_A (gW g bb tx rw sb dy tn mo jk) sz) := by
  generalize hE : F_X6_isOne mo p1 = EE
  refine g_of (Qf := fun A => (va_Qi (fun r (_ : Unit) => r = EE) (fun u t => gC g A (gW g bb tx rw sb dy tn mo jk) t) A)) (cc := cX6_isOne) (maxL := 2) (ret := (some .boolean)) (by decide) (Nat.le_of_ble_eq_true rfl) ?_
  intro p e s m below meth c A ls hx hb hml hr hlocks hts hown hA hG hl
  replace hown : s.vm.findClass RX6 = some m.cls := hown
  replace hl : lv_has ls 2 [(0, .ref (gA g 58)), (1, .int p1)] := hl
  show W p l e (rmL (2)) s m [.ref (gA g 58), .int p1].toArray below meth c s.heap [] 0 0 (MQ below (va_Qi (fun r (_ : Unit) => r = EE) (fun u t => gC g A (gW g bb tx rw sb dy tn mo jk) t) A) [.ref (gA g 58), .int p1].toArray s 0 0 A) (F0 m 0 ls [])
  generalize hQ : MQ below (va_Qi (fun r (_ : Unit) => r = EE) (fun u t => gC g A (gW g bb tx rw sb dy tn mo jk) t) A) [.ref (gA g 58), .int p1].toArray s 0 0 A = Q
  unfold F_X6_isOne at hE
  refine lv_iload_n hx hb dX6_isOne_0 rfl (lv_at hl 1 rfl) ?_
  refine lv_iconst (v := 0) hx hb dX6_isOne_1 (by decide) ?_
  refine lv_aload_n hx hb dX6_isOne_2 rfl (lv_at hl 0 rfl) ?_
  refine g_get hx hb hts hiX6 hown hG gw_Model rfl 0 (by decide) (index := 78) tw_fl_RX6_78 (v := .int (mo.1 0)) rfl dX6_isOne_3 ?_
  refine lv_iconst (v := 1) hx hb dX6_isOne_6 (by decide) ?_
  refine lv_isub hx hb dX6_isOne_7 ?_
  refine g_si (g_runS (n := 3) (rest := []) hx hb hml hown hts hG (c_X6_in p1 0 ((mo.1 0) - 1)) tw_ml_RX6_81 tw_st_X6_in tw_in_RX6 tw_cd_X6_in (by decide +kernel) ⟨rfl, rfl, Nat.le_of_ble_eq_true rfl, Nat.le_of_ble_eq_true rfl⟩ rfl hl.1 rfl (Nat.le_of_ble_eq_true rfl) dX6_isOne_8 ⟨Nat.le_refl _, Nat.le_refl _⟩) hG hA (fun H locs hG => ?_)
  subst hQ
  exact g_zret hx hb hr hlocks hG (F_X6_in_01 _ _ _) () rfl hE dX6_isOne_11
def F_X6_ofDay (mo : Ob) : Int32 :=
  (((mo.2 4) (Int32.toNatClampNeg 0)) - ((mo.2 4) (Int32.toNatClampNeg 0)) / 24 * 24)
set_option maxHeartbeats 4000000 in
set_option maxRecDepth 100000 in
theorem c_X6_ofDay {l : Launch} {g : GG} {sz : Nat} {bb : Ob} {tx rw : Nat → Ob} {sb dy : Ob} {tn : Nat → Ob} {mo : Ob} {jk : Nat → Nat → Int32}    : Met l yX6_ofDay (Cond.code yX6_ofDay cX6_ofDay 1 (some .int) :: TT) (rmL (1)) (va_Pc [.ref (gA g 58)] (gB g sz (gW g bb tx rw sb dy tn mo jk))) (va_Qi (fun r (_ : Unit) => r = (F_X6_ofDay mo)) (fun u t => gC g (va_A (gW g bb tx rw sb dy tn mo jk) sz) (gW g bb tx rw sb dy tn mo jk) t) (va_A (gW g bb tx rw sb dy tn mo jk) sz)) 0 0 (va_A (gW g bb tx rw sb dy tn mo jk) sz) := by
  generalize hE : F_X6_ofDay mo = EE
  refine g_of (Qf := fun A => (va_Qi (fun r (_ : Unit) => r = EE) (fun u t => gC g A (gW g bb tx rw sb dy tn mo jk) t) A)) (cc := cX6_ofDay) (maxL := 1) (ret := (some .int)) (by decide) (Nat.le_of_ble_eq_true rfl) ?_
  intro p e s m below meth c A ls hx hb hml hr hlocks hts hown hA hG hl
  replace hown : s.vm.findClass RX6 = some m.cls := hown
  replace hl : lv_has ls 1 [(0, .ref (gA g 58))] := hl
  show W p l e (rmL (1)) s m [.ref (gA g 58)].toArray below meth c s.heap [] 0 0 (MQ below (va_Qi (fun r (_ : Unit) => r = EE) (fun u t => gC g A (gW g bb tx rw sb dy tn mo jk) t) A) [.ref (gA g 58)].toArray s 0 0 A) (F0 m 0 ls [])
  generalize hQ : MQ below (va_Qi (fun r (_ : Unit) => r = EE) (fun u t => gC g A (gW g bb tx rw sb dy tn mo jk) t) A) [.ref (gA g 58)].toArray s 0 0 A = Q
  unfold F_X6_ofDay at hE
  refine lv_aload_n hx hb dX6_ofDay_0 rfl (lv_at hl 0 rfl) ?_
  refine g_get hx hb hts hiX6 hown hG gw_Model rfl 4 (by decide) (index := 19) tw_fl_RX6_19 (v := .ref (gA g 62)) rfl dX6_ofDay_1 ?_
  refine lv_iconst (v := 0) hx hb dX6_ofDay_4 (by decide) ?_
  refine g_ild (f := (mo.2 4)) hx hb hG gw_Model_a4 (show vp_in 0 3 from (by unfold vp_in; decide)) dX6_ofDay_5 ?_
  refine lv_bipush (v := 24) hx hb dX6_ofDay_6 (by decide) ?_
  refine lv_irem hx hb dX6_ofDay_8 (by decide) ?_
  subst hQ
  exact g_iret hx hb hr hlocks hG () rfl hE dX6_ofDay_9
def F_X6_count (mo : Ob) (p1 : Int32) : Int32 :=
  (if p1 = 0 then (mo.1 0) else (if p1 = 1 then ((mo.2 4) (Int32.toNatClampNeg 0)) else (if p1 = 2 then ((mo.2 4) (Int32.toNatClampNeg 1)) else (if p1 = 3 then (mo.1 9) else (if p1 = 4 then (mo.1 10) else (if p1 = 5 then (mo.1 6) else (if p1 = 6 then ((mo.2 4) (Int32.toNatClampNeg 2)) else (-2))))))))
set_option maxHeartbeats 4000000 in
set_option maxRecDepth 100000 in
theorem c_X6_count {l : Launch} {g : GG} {sz : Nat} {bb : Ob} {tx rw : Nat → Ob} {sb dy : Ob} {tn : Nat → Ob} {mo : Ob} {jk : Nat → Nat → Int32}  (p1 : Int32)  : Met l yX6_count (Cond.code yX6_count cX6_count 2 (some .int) :: TT) (rmL (1)) (va_Pc [.ref (gA g 58), .int p1] (gB g sz (gW g bb tx rw sb dy tn mo jk))) (va_Qi (fun r (_ : Unit) => r = (F_X6_count mo p1)) (fun u t => gC g (va_A (gW g bb tx rw sb dy tn mo jk) sz) (gW g bb tx rw sb dy tn mo jk) t) (va_A (gW g bb tx rw sb dy tn mo jk) sz)) 0 0 (va_A (gW g bb tx rw sb dy tn mo jk) sz) := by
  generalize hE : F_X6_count mo p1 = EE
  refine g_of (Qf := fun A => (va_Qi (fun r (_ : Unit) => r = EE) (fun u t => gC g A (gW g bb tx rw sb dy tn mo jk) t) A)) (cc := cX6_count) (maxL := 2) (ret := (some .int)) (by decide) (Nat.le_of_ble_eq_true rfl) ?_
  intro p e s m below meth c A ls hx hb hml hr hlocks hts hown hA hG hl
  replace hown : s.vm.findClass RX6 = some m.cls := hown
  replace hl : lv_has ls 2 [(0, .ref (gA g 58)), (1, .int p1)] := hl
  show W p l e (rmL (1)) s m [.ref (gA g 58), .int p1].toArray below meth c s.heap [] 0 0 (MQ below (va_Qi (fun r (_ : Unit) => r = EE) (fun u t => gC g A (gW g bb tx rw sb dy tn mo jk) t) A) [.ref (gA g 58), .int p1].toArray s 0 0 A) (F0 m 0 ls [])
  generalize hQ : MQ below (va_Qi (fun r (_ : Unit) => r = EE) (fun u t => gC g A (gW g bb tx rw sb dy tn mo jk) t) A) [.ref (gA g 58), .int p1].toArray s 0 0 A = Q
  unfold F_X6_count at hE
  refine lv_iload_n hx hb dX6_count_0 rfl (lv_at hl 1 rfl) ?_
  by_cases c_1_0 : p1 = 0
  · replace hE := (if_pos c_1_0).symm.trans hE
    refine lv_tableIn (off := 43) (tgt := 44) hx hb dX6_count_1 (by rw [c_1_0]; decide) (by rw [c_1_0]; decide) (by rw [c_1_0]; decide) (by decide) ?_
    have i_1_0 : p1.toInt = 0 := congrArg Int32.toInt c_1_0
    refine lv_aload_n hx hb dX6_count_44 rfl (lv_at hl 0 rfl) ?_
    refine g_get hx hb hts hiX6 hown hG gw_Model rfl 0 (by decide) (index := 78) tw_fl_RX6_78 (v := .int (mo.1 0)) rfl dX6_count_45 ?_
    subst hQ
    exact g_iret hx hb hr hlocks hG () rfl hE dX6_count_48
  replace hE := (if_neg c_1_0).symm.trans hE
  by_cases c_1_1 : p1 = 1
  · replace hE := (if_pos c_1_1).symm.trans hE
    refine lv_tableIn (off := 48) (tgt := 49) hx hb dX6_count_1 (by rw [c_1_1]; decide) (by rw [c_1_1]; decide) (by rw [c_1_1]; decide) (by decide) ?_
    have i_1_1 : p1.toInt = 1 := congrArg Int32.toInt c_1_1
    refine lv_aload_n hx hb dX6_count_49 rfl (lv_at hl 0 rfl) ?_
    refine g_get hx hb hts hiX6 hown hG gw_Model rfl 4 (by decide) (index := 19) tw_fl_RX6_19 (v := .ref (gA g 62)) rfl dX6_count_50 ?_
    refine lv_iconst (v := 0) hx hb dX6_count_53 (by decide) ?_
    refine g_ild (f := (mo.2 4)) hx hb hG gw_Model_a4 (show vp_in 0 3 from (by unfold vp_in; decide)) dX6_count_54 ?_
    subst hQ
    exact g_iret hx hb hr hlocks hG () rfl hE dX6_count_55
  replace hE := (if_neg c_1_1).symm.trans hE
  by_cases c_1_2 : p1 = 2
  · replace hE := (if_pos c_1_2).symm.trans hE
    refine lv_tableIn (off := 55) (tgt := 56) hx hb dX6_count_1 (by rw [c_1_2]; decide) (by rw [c_1_2]; decide) (by rw [c_1_2]; decide) (by decide) ?_
    have i_1_2 : p1.toInt = 2 := congrArg Int32.toInt c_1_2
    refine lv_aload_n hx hb dX6_count_56 rfl (lv_at hl 0 rfl) ?_
    refine g_get hx hb hts hiX6 hown hG gw_Model rfl 4 (by decide) (index := 19) tw_fl_RX6_19 (v := .ref (gA g 62)) rfl dX6_count_57 ?_
    refine lv_iconst (v := 1) hx hb dX6_count_60 (by decide) ?_
    refine g_ild (f := (mo.2 4)) hx hb hG gw_Model_a4 (show vp_in 1 3 from (by unfold vp_in; decide)) dX6_count_61 ?_
    subst hQ
    exact g_iret hx hb hr hlocks hG () rfl hE dX6_count_62
  replace hE := (if_neg c_1_2).symm.trans hE
  by_cases c_1_3 : p1 = 3
  · replace hE := (if_pos c_1_3).symm.trans hE
    refine lv_tableIn (off := 62) (tgt := 63) hx hb dX6_count_1 (by rw [c_1_3]; decide) (by rw [c_1_3]; decide) (by rw [c_1_3]; decide) (by decide) ?_
    have i_1_3 : p1.toInt = 3 := congrArg Int32.toInt c_1_3
    refine lv_aload_n hx hb dX6_count_63 rfl (lv_at hl 0 rfl) ?_
    refine g_get hx hb hts hiX6 hown hG gw_Model rfl 9 (by decide) (index := 85) tw_fl_RX6_85 (v := .int (mo.1 9)) rfl dX6_count_64 ?_
    subst hQ
    exact g_iret hx hb hr hlocks hG () rfl hE dX6_count_67
  replace hE := (if_neg c_1_3).symm.trans hE
  by_cases c_1_4 : p1 = 4
  · replace hE := (if_pos c_1_4).symm.trans hE
    refine lv_tableIn (off := 67) (tgt := 68) hx hb dX6_count_1 (by rw [c_1_4]; decide) (by rw [c_1_4]; decide) (by rw [c_1_4]; decide) (by decide) ?_
    have i_1_4 : p1.toInt = 4 := congrArg Int32.toInt c_1_4
    refine lv_aload_n hx hb dX6_count_68 rfl (lv_at hl 0 rfl) ?_
    refine g_get hx hb hts hiX6 hown hG gw_Model rfl 10 (by decide) (index := 88) tw_fl_RX6_88 (v := .int (mo.1 10)) rfl dX6_count_69 ?_
    subst hQ
    exact g_iret hx hb hr hlocks hG () rfl hE dX6_count_72
  replace hE := (if_neg c_1_4).symm.trans hE
  by_cases c_1_5 : p1 = 5
  · replace hE := (if_pos c_1_5).symm.trans hE
    refine lv_tableIn (off := 72) (tgt := 73) hx hb dX6_count_1 (by rw [c_1_5]; decide) (by rw [c_1_5]; decide) (by rw [c_1_5]; decide) (by decide) ?_
    have i_1_5 : p1.toInt = 5 := congrArg Int32.toInt c_1_5
    refine lv_aload_n hx hb dX6_count_73 rfl (lv_at hl 0 rfl) ?_
    refine g_get hx hb hts hiX6 hown hG gw_Model rfl 6 (by decide) (index := 70) tw_fl_RX6_70 (v := .int (mo.1 6)) rfl dX6_count_74 ?_
    subst hQ
    exact g_iret hx hb hr hlocks hG () rfl hE dX6_count_77
  replace hE := (if_neg c_1_5).symm.trans hE
  by_cases c_1_6 : p1 = 6
  · replace hE := (if_pos c_1_6).symm.trans hE
    refine lv_tableIn (off := 77) (tgt := 78) hx hb dX6_count_1 (by rw [c_1_6]; decide) (by rw [c_1_6]; decide) (by rw [c_1_6]; decide) (by decide) ?_
    have i_1_6 : p1.toInt = 6 := congrArg Int32.toInt c_1_6
    refine lv_aload_n hx hb dX6_count_78 rfl (lv_at hl 0 rfl) ?_
    refine g_get hx hb hts hiX6 hown hG gw_Model rfl 4 (by decide) (index := 19) tw_fl_RX6_19 (v := .ref (gA g 62)) rfl dX6_count_79 ?_
    refine lv_iconst (v := 2) hx hb dX6_count_82 (by decide) ?_
    refine g_ild (f := (mo.2 4)) hx hb hG gw_Model_a4 (show vp_in 2 3 from (by unfold vp_in; decide)) dX6_count_83 ?_
    subst hQ
    exact g_iret hx hb hr hlocks hG () rfl hE dX6_count_84
  replace hE := (if_neg c_1_6).symm.trans hE
  refine lv_tableOut (tgt := 85) hx hb dX6_count_1 (by have k0 := lv_neT c_1_0 (a := 0) (by decide); have k1 := lv_neT c_1_1 (a := 1) (by decide); have k2 := lv_neT c_1_2 (a := 2) (by decide); have k3 := lv_neT c_1_3 (a := 3) (by decide); have k4 := lv_neT c_1_4 (a := 4) (by decide); have k5 := lv_neT c_1_5 (a := 5) (by decide); have k6 := lv_neT c_1_6 (a := 6) (by decide); omega) (by decide) ?_
  refine lv_bipush (v := (-2)) hx hb dX6_count_85 (by decide) ?_
  subst hQ
  exact g_iret hx hb hr hlocks hG () rfl hE dX6_count_87
def F_X6_clock (mo : Ob) (p1 : Int32) : Int32 × Ob :=
  (if (F_X6_in p1 0 9999) = 0 then ((-2), mo) else (((mo.2 4) (Int32.toNatClampNeg 0)), (stA mo 4 0 p1)))
set_option maxHeartbeats 4000000 in
set_option maxRecDepth 100000 in
theorem c_X6_clock {l : Launch} {g : GG} {sz : Nat} {bb : Ob} {tx rw : Nat → Ob} {sb dy : Ob} {tn : Nat → Ob} {mo : Ob} {jk : Nat → Nat → Int32}  (p1 : Int32)  : Met l yX6_clock (Cond.code yX6_clock cX6_clock 3 (some .int) :: TT) (rmL (2)) (va_Pc [.ref (gA g 58), .int p1] (gB g sz (gW g bb tx rw sb dy tn mo jk))) (va_Qi (fun r (u : Ob) => (F_X6_clock mo p1) = (r, u)) (fun u t => gC g (va_A (gW g bb tx rw sb dy tn mo jk) sz) (gW g bb tx rw sb dy tn u jk) t) (va_A (gW g bb tx rw sb dy tn mo jk) sz)) 0 0 (va_A (gW g bb tx rw sb dy tn mo jk) sz) := by
  generalize hE : F_X6_clock mo p1 = EE
  refine g_of (Qf := fun A => (va_Qi (fun r (u : Ob) => EE = (r, u)) (fun u t => gC g A (gW g bb tx rw sb dy tn u jk) t) A)) (cc := cX6_clock) (maxL := 3) (ret := (some .int)) (by decide) (Nat.le_of_ble_eq_true rfl) ?_
  intro p e s m below meth c A ls hx hb hml hr hlocks hts hown hA hG hl
  replace hown : s.vm.findClass RX6 = some m.cls := hown
  replace hl : lv_has ls 3 [(0, .ref (gA g 58)), (1, .int p1)] := hl
  show W p l e (rmL (2)) s m [.ref (gA g 58), .int p1].toArray below meth c s.heap [] 0 0 (MQ below (va_Qi (fun r (u : Ob) => EE = (r, u)) (fun u t => gC g A (gW g bb tx rw sb dy tn u jk) t) A) [.ref (gA g 58), .int p1].toArray s 0 0 A) (F0 m 0 ls [])
  generalize hQ : MQ below (va_Qi (fun r (u : Ob) => EE = (r, u)) (fun u t => gC g A (gW g bb tx rw sb dy tn u jk) t) A) [.ref (gA g 58), .int p1].toArray s 0 0 A = Q
  unfold F_X6_clock at hE
  refine lv_iload_n hx hb dX6_clock_0 rfl (lv_at hl 1 rfl) ?_
  refine lv_iconst (v := 0) hx hb dX6_clock_1 (by decide) ?_
  refine lv_sipush (v := 9999) hx hb dX6_clock_2 (by decide) ?_
  refine g_si (g_runS (n := 3) (rest := []) hx hb hml hown hts hG (c_X6_in p1 0 9999) tw_ml_RX6_81 tw_st_X6_in tw_in_RX6 tw_cd_X6_in (by decide +kernel) ⟨rfl, rfl, Nat.le_of_ble_eq_true rfl, Nat.le_of_ble_eq_true rfl⟩ rfl hl.1 rfl (Nat.le_of_ble_eq_true rfl) dX6_clock_5 ⟨Nat.le_refl _, Nat.le_refl _⟩) hG hA (fun H locs hG => ?_)
  refine lv_if_ne (tgt := 14) hx hb dX6_clock_8 (by decide) (fun c_8 => ?_) (fun c_8 => ?_)
  · replace hE := (if_neg c_8).symm.trans hE
    have i_8 : 0 ≤ p1.toInt ∧ p1.toInt ≤ 9999 := in_f c_8
    refine lv_aload_n hx hb dX6_clock_14 rfl (lv_at hl 0 rfl) ?_
    refine g_get hx hb hts hiX6 hown hG gw_Model rfl 4 (by decide) (index := 19) tw_fl_RX6_19 (v := .ref (gA g 62)) rfl dX6_clock_15 ?_
    refine lv_iconst (v := 0) hx hb dX6_clock_18 (by decide) ?_
    refine g_ild (f := (mo.2 4)) hx hb hG gw_Model_a4 (show vp_in 0 3 from (by unfold vp_in; decide)) dX6_clock_19 ?_
    refine lv_istore_n (lv' := [(2, .int ((mo.2 4) (Int32.toNatClampNeg 0))), (0, .ref (gA g 58)), (1, .int p1)]) hx hb dX6_clock_20 rfl hl (by decide) rfl (fun ls hl => ?_)
    replace hl := lv_sub hl [1, 2, 0] (l' := [(0, .ref (gA g 58)), (1, .int p1), (2, .int ((mo.2 4) (Int32.toNatClampNeg 0)))]) rfl
    refine lv_aload_n hx hb dX6_clock_21 rfl (lv_at hl 0 rfl) ?_
    refine g_get hx hb hts hiX6 hown hG gw_Model rfl 4 (by decide) (index := 19) tw_fl_RX6_19 (v := .ref (gA g 62)) rfl dX6_clock_22 ?_
    refine lv_iconst (v := 0) hx hb dX6_clock_25 (by decide) ?_
    refine lv_iload_n hx hb dX6_clock_26 rfl (lv_at hl 1 rfl) ?_
    refine g_ist hx hb hG gw_Model_a4 (show vp_in 0 3 from (by unfold vp_in; decide)) gs_Model_a4 dX6_clock_27 (fun H locs hG => ?_)
    refine lv_iload_n hx hb dX6_clock_28 rfl (lv_at hl 2 rfl) ?_
    subst hQ
    exact g_iret hx hb hr hlocks hG (((stA mo 4 0 p1)) : Ob) rfl hE.symm dX6_clock_29
  replace hE := (if_pos c_8).symm.trans hE
  refine lv_bipush (v := (-2)) hx hb dX6_clock_11 (by decide) ?_
  subst hQ
  exact g_iret hx hb hr hlocks hG ((mo) : Ob) rfl hE.symm dX6_clock_13
def F_X6_isByte (p0 : Int32) : Int32 :=
  (F_X6_in p0 0 255)
set_option maxHeartbeats 4000000 in
set_option maxRecDepth 100000 in
theorem c_X6_isByte {l : Launch} {g : GG} {sz : Nat}  (p0 : Int32)  : Met l yX6_isByte (Cond.code yX6_isByte cX6_isByte 1 (some .boolean) :: TT) (rmL (2)) (va_Pc [.int p0] (gB g sz [])) (va_Qi (fun r (_ : Unit) => r = (F_X6_isByte p0)) (fun u t => gC g (va_A [] sz) [] t) (va_A [] sz)) 0 0 (va_A [] sz) := by
  generalize hE : F_X6_isByte p0 = EE
  refine g_of (Qf := fun A => (va_Qi (fun r (_ : Unit) => r = EE) (fun u t => gC g A [] t) A)) (cc := cX6_isByte) (maxL := 1) (ret := (some .boolean)) (by decide) (Nat.le_of_ble_eq_true rfl) ?_
  intro p e s m below meth c A ls hx hb hml hr hlocks hts hown hA hG hl
  replace hown : s.vm.findClass RX6 = some m.cls := hown
  replace hl : lv_has ls 1 [(0, .int p0)] := hl
  show W p l e (rmL (2)) s m [.int p0].toArray below meth c s.heap [] 0 0 (MQ below (va_Qi (fun r (_ : Unit) => r = EE) (fun u t => gC g A [] t) A) [.int p0].toArray s 0 0 A) (F0 m 0 ls [])
  generalize hQ : MQ below (va_Qi (fun r (_ : Unit) => r = EE) (fun u t => gC g A [] t) A) [.int p0].toArray s 0 0 A = Q
  unfold F_X6_isByte at hE
  refine lv_iload_n hx hb dX6_isByte_0 rfl (lv_at hl 0 rfl) ?_
  refine lv_iconst (v := 0) hx hb dX6_isByte_1 (by decide) ?_
  refine lv_sipush (v := 255) hx hb dX6_isByte_2 (by decide) ?_
  refine g_si (g_runS (n := 3) (rest := []) hx hb hml hown hts hG (c_X6_in p0 0 255) tw_ml_RX6_81 tw_st_X6_in tw_in_RX6 tw_cd_X6_in (by decide +kernel) ⟨rfl, rfl, Nat.le_of_ble_eq_true rfl, Nat.le_of_ble_eq_true rfl⟩ rfl hl.1 rfl (Nat.le_of_ble_eq_true rfl) dX6_isByte_5 ⟨Nat.le_refl _, Nat.le_refl _⟩) hG hA (fun H locs hG => ?_)
  subst hQ
  exact g_zret hx hb hr hlocks hG (F_X6_in_01 _ _ _) () rfl hE dX6_isByte_8
def F_X6_feed_b125 (K68 : Ob → Int32 → Int32 → Int32 → Int32 → Int32 → Int32 → Int32 → Int32 × Ob) (mo : Ob) (x1 : Int32) (x2 : Int32) (x3 : Int32) (x4 : Int32) (x5 : Int32) (x6 : Int32) (x7 : Int32) (z1 : Int32) (z2 : Int32) : Int32 × Ob :=
  (K68 (setS (stA mo 5 z1 z2) 6 ((mo.1 6) + 1)) x1 x2 x3 x4 x5 x6 (x7 + 1))
def F_X6_feed_l68 : Nat → Ob → Int32 → Int32 → Int32 → Int32 → Int32 → Int32 → Int32 → Int32 × Ob
  | 0, mo, _, _, _, _, _, _, _ => (0, mo)
  | n + 1, mo, x1, x2, x3, x4, x5, x6, x7 =>
    (if x1 ≤ x7 then ((mo.1 6), mo) else (if x7 = 0 then (F_X6_feed_b125 (F_X6_feed_l68 n ) mo x1 x2 x3 x4 x5 x6 x7 (mo.1 6) x2) else (if x7 = 1 then (F_X6_feed_b125 (F_X6_feed_l68 n ) mo x1 x2 x3 x4 x5 x6 x7 (mo.1 6) x3) else (if x7 = 2 then (F_X6_feed_b125 (F_X6_feed_l68 n ) mo x1 x2 x3 x4 x5 x6 x7 (mo.1 6) x4) else (if x7 = 3 then (F_X6_feed_b125 (F_X6_feed_l68 n ) mo x1 x2 x3 x4 x5 x6 x7 (mo.1 6) x5) else (F_X6_feed_b125 (F_X6_feed_l68 n ) mo x1 x2 x3 x4 x5 x6 x7 (mo.1 6) x6))))))
def F_X6_feed (mo : Ob) (p1 : Int32) (p2 : Int32) (p3 : Int32) (p4 : Int32) (p5 : Int32) (p6 : Int32) : Int32 × Ob :=
  (if (F_X6_in p1 1 5) = 0 then ((-2), mo) else (if (F_X6_isByte p2) = 0 then ((-2), mo) else (if (F_X6_isByte p3) = 0 then ((-2), mo) else (if (F_X6_isByte p4) = 0 then ((-2), mo) else (if (F_X6_isByte p5) = 0 then ((-2), mo) else (if (F_X6_isByte p6) = 0 then ((-2), mo) else (if ((mo.1 6) + p1) ≤ 160 then (F_X6_feed_l68 6  mo p1 p2 p3 p4 p5 p6 0) else ((-4), mo))))))))
set_option maxHeartbeats 4000000 in
set_option maxRecDepth 100000 in
theorem c_X6_feed {l : Launch} {g : GG} {sz : Nat} {bb : Ob} {tx rw : Nat → Ob} {sb dy : Ob} {tn : Nat → Ob} {mo : Ob} {jk : Nat → Nat → Int32}  (p1 : Int32) (p2 : Int32) (p3 : Int32) (p4 : Int32) (p5 : Int32) (p6 : Int32) (htp : 0 ≤ (mo.1 6).toInt ∧ (mo.1 6).toInt ≤ 160) : Met l yX6_feed (Cond.code yX6_feed cX6_feed 8 (some .int) :: TT) (rmL (3)) (va_Pc [.ref (gA g 58), .int p1, .int p2, .int p3, .int p4, .int p5, .int p6] (gB g sz (gW g bb tx rw sb dy tn mo jk))) (va_Qi (fun r (u : Ob) => (F_X6_feed mo p1 p2 p3 p4 p5 p6) = (r, u)) (fun u t => gC g (va_A (gW g bb tx rw sb dy tn mo jk) sz) (gW g bb tx rw sb dy tn u jk) t) (va_A (gW g bb tx rw sb dy tn mo jk) sz)) 0 0 (va_A (gW g bb tx rw sb dy tn mo jk) sz) := by
  generalize hE : F_X6_feed mo p1 p2 p3 p4 p5 p6 = EE
  refine g_of (Qf := fun A => (va_Qi (fun r (u : Ob) => EE = (r, u)) (fun u t => gC g A (gW g bb tx rw sb dy tn u jk) t) A)) (cc := cX6_feed) (maxL := 8) (ret := (some .int)) (by decide) (Nat.le_of_ble_eq_true rfl) ?_
  intro p e s m below meth c A ls hx hb hml hr hlocks hts hown hA hG hl
  replace hown : s.vm.findClass RX6 = some m.cls := hown
  replace hl : lv_has ls 8 [(0, .ref (gA g 58)), (1, .int p1), (2, .int p2), (3, .int p3), (4, .int p4), (5, .int p5), (6, .int p6)] := hl
  show W p l e (rmL (3)) s m [.ref (gA g 58), .int p1, .int p2, .int p3, .int p4, .int p5, .int p6].toArray below meth c s.heap [] 0 0 (MQ below (va_Qi (fun r (u : Ob) => EE = (r, u)) (fun u t => gC g A (gW g bb tx rw sb dy tn u jk) t) A) [.ref (gA g 58), .int p1, .int p2, .int p3, .int p4, .int p5, .int p6].toArray s 0 0 A) (F0 m 0 ls [])
  generalize hQ : MQ below (va_Qi (fun r (u : Ob) => EE = (r, u)) (fun u t => gC g A (gW g bb tx rw sb dy tn u jk) t) A) [.ref (gA g 58), .int p1, .int p2, .int p3, .int p4, .int p5, .int p6].toArray s 0 0 A = Q
  unfold F_X6_feed at hE
  refine lv_iload_n hx hb dX6_feed_0 rfl (lv_at hl 1 rfl) ?_
  refine lv_iconst (v := 1) hx hb dX6_feed_1 (by decide) ?_
  refine lv_iconst (v := 5) hx hb dX6_feed_2 (by decide) ?_
  refine g_si (g_runS (n := 3) (rest := []) hx hb hml hown hts hG (c_X6_in p1 1 5) tw_ml_RX6_81 tw_st_X6_in tw_in_RX6 tw_cd_X6_in (by decide +kernel) ⟨rfl, rfl, Nat.le_of_ble_eq_true rfl, Nat.le_of_ble_eq_true rfl⟩ rfl hl.1 rfl (Nat.le_of_ble_eq_true rfl) dX6_feed_3 ⟨Nat.le_refl _, Nat.le_refl _⟩) hG hA (fun H locs hG => ?_)
  refine lv_if_eq (tgt := 47) hx hb dX6_feed_6 (by decide) (fun c_6 => ?_) (fun c_6 => ?_)
  · replace hE := (if_pos c_6).symm.trans hE
    refine lv_bipush (v := (-2)) hx hb dX6_feed_47 (by decide) ?_
    subst hQ
    exact g_iret hx hb hr hlocks hG ((mo) : Ob) rfl hE.symm dX6_feed_49
  replace hE := (if_neg c_6).symm.trans hE
  have i_6 : 1 ≤ p1.toInt ∧ p1.toInt ≤ 5 := in_f c_6
  refine lv_iload_n hx hb dX6_feed_9 rfl (lv_at hl 2 rfl) ?_
  refine g_si (g_runS (n := 1) (rest := []) hx hb hml hown hts hG (c_X6_isByte p2) tw_ml_RX6_91 tw_st_X6_isByte tw_in_RX6 tw_cd_X6_isByte (by decide +kernel) ⟨rfl, rfl, Nat.le_of_ble_eq_true rfl, Nat.le_of_ble_eq_true rfl⟩ rfl hl.1 rfl (Nat.le_of_ble_eq_true rfl) dX6_feed_10 ⟨Nat.le_refl _, Nat.le_refl _⟩) hG hA (fun H locs hG => ?_)
  refine lv_if_eq (tgt := 47) hx hb dX6_feed_13 (by decide) (fun c_13 => ?_) (fun c_13 => ?_)
  · replace hE := (if_pos c_13).symm.trans hE
    refine lv_bipush (v := (-2)) hx hb dX6_feed_47 (by decide) ?_
    subst hQ
    exact g_iret hx hb hr hlocks hG ((mo) : Ob) rfl hE.symm dX6_feed_49
  replace hE := (if_neg c_13).symm.trans hE
  refine lv_iload_n hx hb dX6_feed_16 rfl (lv_at hl 3 rfl) ?_
  refine g_si (g_runS (n := 1) (rest := []) hx hb hml hown hts hG (c_X6_isByte p3) tw_ml_RX6_91 tw_st_X6_isByte tw_in_RX6 tw_cd_X6_isByte (by decide +kernel) ⟨rfl, rfl, Nat.le_of_ble_eq_true rfl, Nat.le_of_ble_eq_true rfl⟩ rfl hl.1 rfl (Nat.le_of_ble_eq_true rfl) dX6_feed_17 ⟨Nat.le_refl _, Nat.le_refl _⟩) hG hA (fun H locs hG => ?_)
  refine lv_if_eq (tgt := 47) hx hb dX6_feed_20 (by decide) (fun c_20 => ?_) (fun c_20 => ?_)
  · replace hE := (if_pos c_20).symm.trans hE
    refine lv_bipush (v := (-2)) hx hb dX6_feed_47 (by decide) ?_
    subst hQ
    exact g_iret hx hb hr hlocks hG ((mo) : Ob) rfl hE.symm dX6_feed_49
  replace hE := (if_neg c_20).symm.trans hE
  refine lv_iload hx hb dX6_feed_23 (lv_at hl 4 rfl) ?_
  refine g_si (g_runS (n := 1) (rest := []) hx hb hml hown hts hG (c_X6_isByte p4) tw_ml_RX6_91 tw_st_X6_isByte tw_in_RX6 tw_cd_X6_isByte (by decide +kernel) ⟨rfl, rfl, Nat.le_of_ble_eq_true rfl, Nat.le_of_ble_eq_true rfl⟩ rfl hl.1 rfl (Nat.le_of_ble_eq_true rfl) dX6_feed_25 ⟨Nat.le_refl _, Nat.le_refl _⟩) hG hA (fun H locs hG => ?_)
  refine lv_if_eq (tgt := 47) hx hb dX6_feed_28 (by decide) (fun c_28 => ?_) (fun c_28 => ?_)
  · replace hE := (if_pos c_28).symm.trans hE
    refine lv_bipush (v := (-2)) hx hb dX6_feed_47 (by decide) ?_
    subst hQ
    exact g_iret hx hb hr hlocks hG ((mo) : Ob) rfl hE.symm dX6_feed_49
  replace hE := (if_neg c_28).symm.trans hE
  refine lv_iload hx hb dX6_feed_31 (lv_at hl 5 rfl) ?_
  refine g_si (g_runS (n := 1) (rest := []) hx hb hml hown hts hG (c_X6_isByte p5) tw_ml_RX6_91 tw_st_X6_isByte tw_in_RX6 tw_cd_X6_isByte (by decide +kernel) ⟨rfl, rfl, Nat.le_of_ble_eq_true rfl, Nat.le_of_ble_eq_true rfl⟩ rfl hl.1 rfl (Nat.le_of_ble_eq_true rfl) dX6_feed_33 ⟨Nat.le_refl _, Nat.le_refl _⟩) hG hA (fun H locs hG => ?_)
  refine lv_if_eq (tgt := 47) hx hb dX6_feed_36 (by decide) (fun c_36 => ?_) (fun c_36 => ?_)
  · replace hE := (if_pos c_36).symm.trans hE
    refine lv_bipush (v := (-2)) hx hb dX6_feed_47 (by decide) ?_
    subst hQ
    exact g_iret hx hb hr hlocks hG ((mo) : Ob) rfl hE.symm dX6_feed_49
  replace hE := (if_neg c_36).symm.trans hE
  refine lv_iload hx hb dX6_feed_39 (lv_at hl 6 rfl) ?_
  refine g_si (g_runS (n := 1) (rest := []) hx hb hml hown hts hG (c_X6_isByte p6) tw_ml_RX6_91 tw_st_X6_isByte tw_in_RX6 tw_cd_X6_isByte (by decide +kernel) ⟨rfl, rfl, Nat.le_of_ble_eq_true rfl, Nat.le_of_ble_eq_true rfl⟩ rfl hl.1 rfl (Nat.le_of_ble_eq_true rfl) dX6_feed_41 ⟨Nat.le_refl _, Nat.le_refl _⟩) hG hA (fun H locs hG => ?_)
  refine lv_if_ne (tgt := 50) hx hb dX6_feed_44 (by decide) (fun c_44 => ?_) (fun c_44 => ?_)
  · replace hE := (if_neg c_44).symm.trans hE
    refine lv_aload_n hx hb dX6_feed_50 rfl (lv_at hl 0 rfl) ?_
    refine g_get hx hb hts hiX6 hown hG gw_Model rfl 6 (by decide) (index := 70) tw_fl_RX6_70 (v := .int (mo.1 6)) rfl dX6_feed_51 ?_
    refine lv_iload_n hx hb dX6_feed_54 rfl (lv_at hl 1 rfl) ?_
    refine lv_iadd hx hb dX6_feed_55 ?_
    refine lv_sipush (v := 160) hx hb dX6_feed_56 (by decide) ?_
    have e59 : ((mo.1 6) + p1).toInt = (mo.1 6).toInt + p1.toInt := fb_addI (by clear hE; omega) (by clear hE; omega)
    refine lv_icmp_le (tgt := 65) hx hb dX6_feed_59 (by decide) (fun c_59 => ?_) (fun c_59 => ?_)
    · replace hE := (if_pos c_59).symm.trans hE
      have i_59 : ((mo.1 6) + p1).toInt ≤ 160 := i_le.mp c_59
      refine lv_iconst (v := 0) hx hb dX6_feed_65 (by decide) ?_
      refine lv_istore (lv' := [(7, .int 0), (0, .ref (gA g 58)), (1, .int p1), (2, .int p2), (3, .int p3), (4, .int p4), (5, .int p5), (6, .int p6)]) hx hb dX6_feed_66 hl (by decide) rfl (fun ls hl => ?_)
      replace hl := lv_sub hl [1, 2, 3, 4, 5, 6, 7, 0] (l' := [(0, .ref (gA g 58)), (1, .int p1), (2, .int p2), (3, .int p3), (4, .int p4), (5, .int p5), (6, .int p6), (7, .int 0)]) rfl
      have L68 : ∀ (n68 : Nat) (x7_68 : Int32) (mo_68 : Ob) (H : Heap) (locs : List Loc), gS g A s H locs (gW g bb tx rw sb dy tn mo_68 jk) → ∀ ls : Array Slot, lv_has ls 8 [(0, .ref (gA g 58)), (1, .int p1), (2, .int p2), (3, .int p3), (4, .int p4), (5, .int p5), (6, .int p6), (7, .int x7_68)] → 0 ≤ x7_68.toInt → x7_68.toInt ≤ 5 → 5 < x7_68.toInt + n68 → 0 ≤ (mo_68.1 6).toInt → (mo_68.1 6).toInt + p1.toInt - x7_68.toInt ≤ 160 → F_X6_feed_l68 n68  mo_68 p1 p2 p3 p4 p5 p6 x7_68 = EE → W p l e (rmL (3)) s m [.ref (gA g 58), .int p1, .int p2, .int p3, .int p4, .int p5, .int p6].toArray below meth c H locs 0 0 Q (F0 m 68 ls []) := by
        intro n68
        induction n68 with
        | zero =>
          intro x7_68 mo_68 H locs hG ls hl h0_68 h1_68 hm_68 ht0 ht1 hE
          clear hE; omega
        | succ n68 ih68 =>
          intro x7_68 mo_68 H locs hG ls hl h0_68 h1_68 hm_68 ht0 ht1 hE
          unfold F_X6_feed_l68 at hE
          refine lv_iload hx hb dX6_feed_68 (lv_at hl 7 rfl) ?_
          refine lv_iload_n hx hb dX6_feed_70 rfl (lv_at hl 1 rfl) ?_
          refine lv_icmp_ge (tgt := 142) hx hb dX6_feed_71 (by decide) (fun c_71 => ?_) (fun c_71 => ?_)
          · replace hE := (if_pos c_71).symm.trans hE
            have i_71 : p1.toInt ≤ x7_68.toInt := i_le.mp c_71
            refine lv_aload_n hx hb dX6_feed_142 rfl (lv_at hl 0 rfl) ?_
            refine g_get hx hb hts hiX6 hown hG gw_Model rfl 6 (by decide) (index := 70) tw_fl_RX6_70 (v := .int (mo_68.1 6)) rfl dX6_feed_143 ?_
            subst hQ
            exact g_iret hx hb hr hlocks hG ((mo_68) : Ob) rfl hE.symm dX6_feed_146
          replace hE := (if_neg c_71).symm.trans hE
          have i_71 : x7_68.toInt < p1.toInt := i_nle c_71
          refine lv_aload_n hx hb dX6_feed_74 rfl (lv_at hl 0 rfl) ?_
          refine g_get hx hb hts hiX6 hown hG gw_Model rfl 5 (by decide) (index := 22) tw_fl_RX6_22 (v := .ref (gA g 63)) rfl dX6_feed_75 ?_
          refine lv_aload_n hx hb dX6_feed_78 rfl (lv_at hl 0 rfl) ?_
          refine g_get hx hb hts hiX6 hown hG gw_Model rfl 6 (by decide) (index := 70) tw_fl_RX6_70 (v := .int (mo_68.1 6)) rfl dX6_feed_79 ?_
          refine lv_iload hx hb dX6_feed_82 (lv_at hl 7 rfl) ?_
          have J125 : ∀ (z2_125 : Int32) (H : Heap) (locs : List Loc), gS g A s H locs (gW g bb tx rw sb dy tn mo_68 jk) → ∀ ls : Array Slot, lv_has ls 8 [(0, .ref (gA g 58)), (1, .int p1), (2, .int p2), (3, .int p3), (4, .int p4), (5, .int p5), (6, .int p6), (7, .int x7_68)] → F_X6_feed_b125  (F_X6_feed_l68 n68 ) mo_68 p1 p2 p3 p4 p5 p6 x7_68 (mo_68.1 6) z2_125 = EE → W p l e (rmL (3)) s m [.ref (gA g 58), .int p1, .int p2, .int p3, .int p4, .int p5, .int p6].toArray below meth c H locs 0 0 Q (F0 m 125 ls [.int z2_125, .int (mo_68.1 6), .ref (gA g 63)]) := by
            intro z2_125 H locs hG ls hl  hE
            unfold F_X6_feed_b125 at hE
            refine g_ist hx hb hG gw_Model_a5 (show vp_in (mo_68.1 6) 160 from (vp_i (by clear hE; omega) (by clear hE; omega))) gs_Model_a5 dX6_feed_125 (fun H locs hG => ?_)
            refine lv_aload_n hx hb dX6_feed_126 rfl (lv_at hl 0 rfl) ?_
            refine lv_dup hx hb dX6_feed_127 rfl ?_
            refine g_get hx hb hts hiX6 hown hG gw_Model rfl 6 (by decide) (index := 70) tw_fl_RX6_70 (v := .int (mo_68.1 6)) rfl dX6_feed_128 ?_
            refine lv_iconst (v := 1) hx hb dX6_feed_131 (by decide) ?_
            refine lv_iadd hx hb dX6_feed_132 ?_
            refine g_put hx hb hts hiX6 tyX6 tyX6_ok nmX6 hown hG gw_Model rfl 6 (by decide) (index := 70) tw_fl_RX6_70 rfl rfl rfl (Nat.le_of_ble_eq_true rfl) gs_Model_f6 dX6_feed_133 (fun H locs hG => ?_)
            refine lv_iinc (v := (x7_68 + 1)) (lv' := [(7, .int (x7_68 + 1)), (0, .ref (gA g 58)), (1, .int p1), (2, .int p2), (3, .int p3), (4, .int p4), (5, .int p5), (6, .int p6)]) hx hb dX6_feed_136 hl (k := 7) rfl rfl (by decide) rfl (fun ls hl => ?_)
            replace hl := lv_sub hl [1, 2, 3, 4, 5, 6, 7, 0] (l' := [(0, .ref (gA g 58)), (1, .int p1), (2, .int p2), (3, .int p3), (4, .int p4), (5, .int p5), (6, .int p6), (7, .int (x7_68 + 1))]) rfl
            refine lv_goto (tgt := 68) hx hb dX6_feed_139 (by decide) ?_
            have e1 : (x7_68 + 1).toInt = x7_68.toInt + 1 := addL (k := 1) (by decide +kernel) (by clear hE; omega) (by clear hE; omega)
            have e2 : ((mo_68.1 6) + 1).toInt = (mo_68.1 6).toInt + 1 := addL (k := 1) (by decide +kernel) (by clear hE; omega) (by clear hE; omega)
            have e3 : ((mo_68.1 6) + 1).toInt = (mo_68.1 6).toInt + 1 := addL (k := 1) (by decide +kernel) (by clear hE; omega) (by clear hE; omega)
            exact ih68 (x7_68 + 1) (setS (stA mo_68 5 (mo_68.1 6) z2_125) 6 ((mo_68.1 6) + 1)) _ _ hG _ (lv_sub hl [0, 1, 2, 3, 4, 5, 6, 7] rfl) (by clear hE; omega) (by clear hE; omega) (by clear hE; omega) (show 0 ≤ ((mo_68.1 6) + 1).toInt from by clear hE; omega) (show ((mo_68.1 6) + 1).toInt + p1.toInt - (x7_68 + 1).toInt ≤ 160 from by clear hE; omega) hE
          refine lv_if_ne (tgt := 91) hx hb dX6_feed_84 (by decide) (fun c_84 => ?_) (fun c_84 => ?_)
          · replace hE := (if_neg c_84).symm.trans hE
            have i_84 : x7_68.toInt ≠ 0 := fun h => c_84 (Int32.toInt_inj.mp h)
            refine lv_iload hx hb dX6_feed_91 (lv_at hl 7 rfl) ?_
            refine lv_iconst (v := 1) hx hb dX6_feed_93 (by decide) ?_
            refine lv_icmp_ne (tgt := 101) hx hb dX6_feed_94 (by decide) (fun c_94 => ?_) (fun c_94 => ?_)
            · replace hE := (if_neg c_94).symm.trans hE
              have i_94 : x7_68.toInt ≠ 1 := fun h => c_94 (Int32.toInt_inj.mp h)
              refine lv_iload hx hb dX6_feed_101 (lv_at hl 7 rfl) ?_
              refine lv_iconst (v := 2) hx hb dX6_feed_103 (by decide) ?_
              refine lv_icmp_ne (tgt := 112) hx hb dX6_feed_104 (by decide) (fun c_104 => ?_) (fun c_104 => ?_)
              · replace hE := (if_neg c_104).symm.trans hE
                have i_104 : x7_68.toInt ≠ 2 := fun h => c_104 (Int32.toInt_inj.mp h)
                refine lv_iload hx hb dX6_feed_112 (lv_at hl 7 rfl) ?_
                refine lv_iconst (v := 3) hx hb dX6_feed_114 (by decide) ?_
                refine lv_icmp_ne (tgt := 123) hx hb dX6_feed_115 (by decide) (fun c_115 => ?_) (fun c_115 => ?_)
                · replace hE := (if_neg c_115).symm.trans hE
                  have i_115 : x7_68.toInt ≠ 3 := fun h => c_115 (Int32.toInt_inj.mp h)
                  refine lv_iload hx hb dX6_feed_123 (lv_at hl 6 rfl) ?_
                  exact J125 p6 _ _ hG _ (lv_sub hl [0, 1, 2, 3, 4, 5, 6, 7] rfl) hE
                replace hE := (if_pos c_115).symm.trans hE
                have i_115 : x7_68.toInt = 3 := congrArg Int32.toInt c_115
                refine lv_iload hx hb dX6_feed_118 (lv_at hl 5 rfl) ?_
                refine lv_goto (tgt := 125) hx hb dX6_feed_120 (by decide) ?_
                exact J125 p5 _ _ hG _ (lv_sub hl [0, 1, 2, 3, 4, 5, 6, 7] rfl) hE
              replace hE := (if_pos c_104).symm.trans hE
              have i_104 : x7_68.toInt = 2 := congrArg Int32.toInt c_104
              refine lv_iload hx hb dX6_feed_107 (lv_at hl 4 rfl) ?_
              refine lv_goto (tgt := 125) hx hb dX6_feed_109 (by decide) ?_
              exact J125 p4 _ _ hG _ (lv_sub hl [0, 1, 2, 3, 4, 5, 6, 7] rfl) hE
            replace hE := (if_pos c_94).symm.trans hE
            have i_94 : x7_68.toInt = 1 := congrArg Int32.toInt c_94
            refine lv_iload_n hx hb dX6_feed_97 rfl (lv_at hl 3 rfl) ?_
            refine lv_goto (tgt := 125) hx hb dX6_feed_98 (by decide) ?_
            exact J125 p3 _ _ hG _ (lv_sub hl [0, 1, 2, 3, 4, 5, 6, 7] rfl) hE
          replace hE := (if_pos c_84).symm.trans hE
          have i_84 : x7_68.toInt = 0 := congrArg Int32.toInt c_84
          refine lv_iload_n hx hb dX6_feed_87 rfl (lv_at hl 2 rfl) ?_
          refine lv_goto (tgt := 125) hx hb dX6_feed_88 (by decide) ?_
          exact J125 p2 _ _ hG _ (lv_sub hl [0, 1, 2, 3, 4, 5, 6, 7] rfl) hE
      exact L68 6 0 mo _ _ hG _ (lv_sub hl [0, 1, 2, 3, 4, 5, 6, 7] rfl) (by decide) (by decide) (by decide) (show 0 ≤ (mo.1 6).toInt from by clear hE; omega) (show (mo.1 6).toInt + p1.toInt - 0 ≤ 160 from by clear hE; omega) hE
    replace hE := (if_neg c_59).symm.trans hE
    have i_59 : 160 < ((mo.1 6) + p1).toInt := i_nle c_59
    refine lv_bipush (v := (-4)) hx hb dX6_feed_62 (by decide) ?_
    subst hQ
    exact g_iret hx hb hr hlocks hG ((mo) : Ob) rfl hE.symm dX6_feed_64
  replace hE := (if_pos c_44).symm.trans hE
  refine lv_bipush (v := (-2)) hx hb dX6_feed_47 (by decide) ?_
  subst hQ
  exact g_iret hx hb hr hlocks hG ((mo) : Ob) rfl hE.symm dX6_feed_49
def F_X6_wordFrom_b88 (K2 : Ob → Int32 → Int32 → Int32 → Int32) (mo : Ob) (x1 : Int32) (x2 : Int32) (x3 : Int32) (x4 : Int32) : Int32 :=
  (if x4 = 0 then (K2 mo x1 x2 (x3 + 1)) else x3)
def F_X6_wordFrom_b80 (K2 : Ob → Int32 → Int32 → Int32 → Int32) (K26 : Ob → Int32 → Int32 → Int32 → Int32 → Int32 → Int32) (mo : Ob) (x1 : Int32) (x2 : Int32) (x3 : Int32) (x5 : Int32) (z0 : Int32) : Int32 :=
  (K26 mo x1 x2 x3 z0 (x5 + 1))
def F_X6_wordFrom_b72 (K2 : Ob → Int32 → Int32 → Int32 → Int32) (K26 : Ob → Int32 → Int32 → Int32 → Int32 → Int32 → Int32) (mo : Ob) (x1 : Int32) (x2 : Int32) (x3 : Int32) (x5 : Int32) (z0 : Int32) (z1 : Int32) : Int32 :=
  (if z0 = z1 then (F_X6_wordFrom_b80 K2 K26 mo x1 x2 x3 x5 1) else (F_X6_wordFrom_b80 K2 K26 mo x1 x2 x3 x5 0))
def F_X6_wordFrom_l26 : Nat → (Ob → Int32 → Int32 → Int32 → Int32) → Ob → Int32 → Int32 → Int32 → Int32 → Int32 → Int32
  | 0, _, _, _, _, _, _, _ => 0
  | n + 1, K2, mo, x1, x2, x3, x4, x5 =>
    (if 8 ≤ x5 then (F_X6_wordFrom_b88 K2 mo x1 x2 x3 x4) else (if x4 = 0 then (F_X6_wordFrom_b88 K2 mo x1 x2 x3 x4) else (if x2 ≤ (x1 + x5) then (F_X6_wordFrom_b72 K2 (F_X6_wordFrom_l26 n K2) mo x1 x2 x3 x5 ((mo.2 22) (Int32.toNatClampNeg ((8 * x3) + x5))) 32) else (F_X6_wordFrom_b72 K2 (F_X6_wordFrom_l26 n K2) mo x1 x2 x3 x5 ((mo.2 22) (Int32.toNatClampNeg ((8 * x3) + x5))) ((mo.2 5) (Int32.toNatClampNeg (x1 + x5)))))))
def F_X6_wordFrom_b21 (K2 : Ob → Int32 → Int32 → Int32 → Int32) (mo : Ob) (x1 : Int32) (x2 : Int32) (x3 : Int32) (z0 : Int32) : Int32 :=
  (F_X6_wordFrom_l26 9 K2 mo x1 x2 x3 z0 0)
def F_X6_wordFrom_l2 : Nat → Ob → Int32 → Int32 → Int32 → Int32
  | 0, _, _, _, _ => 0
  | n + 1, mo, x1, x2, x3 =>
    (if 12 ≤ x3 then 12 else (if 8 < (x2 - x1) then (F_X6_wordFrom_b21 (F_X6_wordFrom_l2 n ) mo x1 x2 x3 0) else (F_X6_wordFrom_b21 (F_X6_wordFrom_l2 n ) mo x1 x2 x3 1)))
def F_X6_wordFrom (mo : Ob) (p1 : Int32) (p2 : Int32) : Int32 :=
  (F_X6_wordFrom_l2 13  mo p1 p2 0)
set_option maxHeartbeats 4000000 in
set_option maxRecDepth 100000 in
theorem c_X6_wordFrom {l : Launch} {g : GG} {sz : Nat} {bb : Ob} {tx rw : Nat → Ob} {sb dy : Ob} {tn : Nat → Ob} {mo : Ob} {jk : Nat → Nat → Int32}  (p1 : Int32) (p2 : Int32) (hw : 0 ≤ p1.toInt ∧ p1.toInt ≤ p2.toInt ∧ p2.toInt ≤ 160) : Met l yX6_wordFrom (Cond.code yX6_wordFrom cX6_wordFrom 6 (some .int) :: TT) (rmL (1)) (va_Pc [.ref (gA g 58), .int p1, .int p2] (gB g sz (gW g bb tx rw sb dy tn mo jk))) (va_Qi (fun r (_ : Unit) => r = (F_X6_wordFrom mo p1 p2)) (fun u t => gC g (va_A (gW g bb tx rw sb dy tn mo jk) sz) (gW g bb tx rw sb dy tn mo jk) t) (va_A (gW g bb tx rw sb dy tn mo jk) sz)) 0 0 (va_A (gW g bb tx rw sb dy tn mo jk) sz) := by
  generalize hE : F_X6_wordFrom mo p1 p2 = EE
  refine g_of (Qf := fun A => (va_Qi (fun r (_ : Unit) => r = EE) (fun u t => gC g A (gW g bb tx rw sb dy tn mo jk) t) A)) (cc := cX6_wordFrom) (maxL := 6) (ret := (some .int)) (by decide) (Nat.le_of_ble_eq_true rfl) ?_
  intro p e s m below meth c A ls hx hb hml hr hlocks hts hown hA hG hl
  replace hown : s.vm.findClass RX6 = some m.cls := hown
  replace hl : lv_has ls 6 [(0, .ref (gA g 58)), (1, .int p1), (2, .int p2)] := hl
  show W p l e (rmL (1)) s m [.ref (gA g 58), .int p1, .int p2].toArray below meth c s.heap [] 0 0 (MQ below (va_Qi (fun r (_ : Unit) => r = EE) (fun u t => gC g A (gW g bb tx rw sb dy tn mo jk) t) A) [.ref (gA g 58), .int p1, .int p2].toArray s 0 0 A) (F0 m 0 ls [])
  generalize hQ : MQ below (va_Qi (fun r (_ : Unit) => r = EE) (fun u t => gC g A (gW g bb tx rw sb dy tn mo jk) t) A) [.ref (gA g 58), .int p1, .int p2].toArray s 0 0 A = Q
  unfold F_X6_wordFrom at hE
  refine lv_iconst (v := 0) hx hb dX6_wordFrom_0 (by decide) ?_
  refine lv_istore_n (lv' := [(3, .int 0), (0, .ref (gA g 58)), (1, .int p1), (2, .int p2)]) hx hb dX6_wordFrom_1 rfl hl (by decide) rfl (fun ls hl => ?_)
  replace hl := lv_sub hl [1, 2, 3, 0] (l' := [(0, .ref (gA g 58)), (1, .int p1), (2, .int p2), (3, .int 0)]) rfl
  have L2 : ∀ (n2 : Nat) (x3_2 : Int32) (H : Heap) (locs : List Loc), gS g A s H locs (gW g bb tx rw sb dy tn mo jk) → ∀ ls : Array Slot, lv_has ls 6 [(0, .ref (gA g 58)), (1, .int p1), (2, .int p2), (3, .int x3_2)] → 0 ≤ x3_2.toInt → x3_2.toInt ≤ 12 → 12 < x3_2.toInt + n2 → F_X6_wordFrom_l2 n2  mo p1 p2 x3_2 = EE → W p l e (rmL (1)) s m [.ref (gA g 58), .int p1, .int p2].toArray below meth c H locs 0 0 Q (F0 m 2 ls []) := by
    intro n2
    induction n2 with
    | zero =>
      intro x3_2 H locs hG ls hl h0_2 h1_2 hm_2 hE
      clear hE; omega
    | succ n2 ih2 =>
      intro x3_2 H locs hG ls hl h0_2 h1_2 hm_2 hE
      unfold F_X6_wordFrom_l2 at hE
      refine lv_iload_n hx hb dX6_wordFrom_2 rfl (lv_at hl 3 rfl) ?_
      refine lv_bipush (v := 12) hx hb dX6_wordFrom_3 (by decide) ?_
      refine lv_icmp_ge (tgt := 101) hx hb dX6_wordFrom_5 (by decide) (fun c_5 => ?_) (fun c_5 => ?_)
      · replace hE := (if_pos c_5).symm.trans hE
        have i_5 : 12 ≤ x3_2.toInt := i_le.mp c_5
        refine lv_bipush (v := 12) hx hb dX6_wordFrom_101 (by decide) ?_
        subst hQ
        exact g_iret hx hb hr hlocks hG () rfl hE dX6_wordFrom_103
      replace hE := (if_neg c_5).symm.trans hE
      have i_5 : x3_2.toInt < 12 := i_nle c_5
      refine lv_iload_n hx hb dX6_wordFrom_8 rfl (lv_at hl 2 rfl) ?_
      refine lv_iload_n hx hb dX6_wordFrom_9 rfl (lv_at hl 1 rfl) ?_
      refine lv_isub hx hb dX6_wordFrom_10 ?_
      refine lv_bipush (v := 8) hx hb dX6_wordFrom_11 (by decide) ?_
      have J21 : ∀ (z0_21 : Int32) (H : Heap) (locs : List Loc), gS g A s H locs (gW g bb tx rw sb dy tn mo jk) → ∀ ls : Array Slot, lv_has ls 6 [(0, .ref (gA g 58)), (1, .int p1), (2, .int p2), (3, .int x3_2)] → F_X6_wordFrom_b21  (F_X6_wordFrom_l2 n2 ) mo p1 p2 x3_2 z0_21 = EE → W p l e (rmL (1)) s m [.ref (gA g 58), .int p1, .int p2].toArray below meth c H locs 0 0 Q (F0 m 21 ls [.int z0_21]) := by
        intro z0_21 H locs hG ls hl  hE
        unfold F_X6_wordFrom_b21 at hE
        refine lv_istore (lv' := [(4, .int z0_21), (0, .ref (gA g 58)), (1, .int p1), (2, .int p2), (3, .int x3_2)]) hx hb dX6_wordFrom_21 hl (by decide) rfl (fun ls hl => ?_)
        replace hl := lv_sub hl [1, 2, 3, 4, 0] (l' := [(0, .ref (gA g 58)), (1, .int p1), (2, .int p2), (3, .int x3_2), (4, .int z0_21)]) rfl
        refine lv_iconst (v := 0) hx hb dX6_wordFrom_23 (by decide) ?_
        refine lv_istore (lv' := [(5, .int 0), (0, .ref (gA g 58)), (1, .int p1), (2, .int p2), (3, .int x3_2), (4, .int z0_21)]) hx hb dX6_wordFrom_24 hl (by decide) rfl (fun ls hl => ?_)
        replace hl := lv_sub hl [1, 2, 3, 4, 5, 0] (l' := [(0, .ref (gA g 58)), (1, .int p1), (2, .int p2), (3, .int x3_2), (4, .int z0_21), (5, .int 0)]) rfl
        have L26 : ∀ (n26 : Nat) (x4_26 : Int32) (x5_26 : Int32) (H : Heap) (locs : List Loc), gS g A s H locs (gW g bb tx rw sb dy tn mo jk) → ∀ ls : Array Slot, lv_has ls 6 [(0, .ref (gA g 58)), (1, .int p1), (2, .int p2), (3, .int x3_2), (4, .int x4_26), (5, .int x5_26)] → 0 ≤ x5_26.toInt → x5_26.toInt ≤ 8 → 8 < x5_26.toInt + n26 → F_X6_wordFrom_l26 n26 (F_X6_wordFrom_l2 n2 ) mo p1 p2 x3_2 x4_26 x5_26 = EE → W p l e (rmL (1)) s m [.ref (gA g 58), .int p1, .int p2].toArray below meth c H locs 0 0 Q (F0 m 26 ls []) := by
          intro n26
          induction n26 with
          | zero =>
            intro x4_26 x5_26 H locs hG ls hl h0_26 h1_26 hm_26 hE
            clear hE; omega
          | succ n26 ih26 =>
            intro x4_26 x5_26 H locs hG ls hl h0_26 h1_26 hm_26 hE
            unfold F_X6_wordFrom_l26 at hE
            refine lv_iload hx hb dX6_wordFrom_26 (lv_at hl 5 rfl) ?_
            refine lv_bipush (v := 8) hx hb dX6_wordFrom_28 (by decide) ?_
            have J88 : ∀  (H : Heap) (locs : List Loc), gS g A s H locs (gW g bb tx rw sb dy tn mo jk) → ∀ ls : Array Slot, lv_has ls 6 [(0, .ref (gA g 58)), (1, .int p1), (2, .int p2), (3, .int x3_2), (4, .int x4_26)] → F_X6_wordFrom_b88  (F_X6_wordFrom_l2 n2 ) mo p1 p2 x3_2 x4_26 = EE → W p l e (rmL (1)) s m [.ref (gA g 58), .int p1, .int p2].toArray below meth c H locs 0 0 Q (F0 m 88 ls []) := by
              intro  H locs hG ls hl  hE
              unfold F_X6_wordFrom_b88 at hE
              refine lv_iload hx hb dX6_wordFrom_88 (lv_at hl 4 rfl) ?_
              refine lv_if_eq (tgt := 95) hx hb dX6_wordFrom_90 (by decide) (fun c_90 => ?_) (fun c_90 => ?_)
              · replace hE := (if_pos c_90).symm.trans hE
                have i_90 : x4_26.toInt = 0 := congrArg Int32.toInt c_90
                refine lv_iinc (v := (x3_2 + 1)) (lv' := [(3, .int (x3_2 + 1)), (0, .ref (gA g 58)), (1, .int p1), (2, .int p2), (4, .int x4_26)]) hx hb dX6_wordFrom_95 hl (k := 3) rfl rfl (by decide) rfl (fun ls hl => ?_)
                replace hl := lv_sub hl [1, 2, 3, 0, 4] (l' := [(0, .ref (gA g 58)), (1, .int p1), (2, .int p2), (3, .int (x3_2 + 1)), (4, .int x4_26)]) rfl
                refine lv_goto (tgt := 2) hx hb dX6_wordFrom_98 (by decide) ?_
                have e1 : (x3_2 + 1).toInt = x3_2.toInt + 1 := addL (k := 1) (by decide +kernel) (by clear hE; omega) (by clear hE; omega)
                exact ih2 (x3_2 + 1) _ _ hG _ (lv_sub hl [0, 1, 2, 3] rfl) (by clear hE; omega) (by clear hE; omega) (by clear hE; omega) hE
              replace hE := (if_neg c_90).symm.trans hE
              have i_90 : x4_26.toInt ≠ 0 := fun h => c_90 (Int32.toInt_inj.mp h)
              refine lv_iload_n hx hb dX6_wordFrom_93 rfl (lv_at hl 3 rfl) ?_
              subst hQ
              exact g_iret hx hb hr hlocks hG () rfl hE dX6_wordFrom_94
            refine lv_icmp_ge (tgt := 88) hx hb dX6_wordFrom_30 (by decide) (fun c_30 => ?_) (fun c_30 => ?_)
            · replace hE := (if_pos c_30).symm.trans hE
              have i_30 : 8 ≤ x5_26.toInt := i_le.mp c_30
              exact J88 _ _ hG _ (lv_sub hl [0, 1, 2, 3, 4] rfl) hE
            replace hE := (if_neg c_30).symm.trans hE
            have i_30 : x5_26.toInt < 8 := i_nle c_30
            refine lv_iload hx hb dX6_wordFrom_33 (lv_at hl 4 rfl) ?_
            refine lv_if_eq (tgt := 88) hx hb dX6_wordFrom_35 (by decide) (fun c_35 => ?_) (fun c_35 => ?_)
            · replace hE := (if_pos c_35).symm.trans hE
              have i_35 : x4_26.toInt = 0 := congrArg Int32.toInt c_35
              exact J88 _ _ hG _ (lv_sub hl [0, 1, 2, 3, 4] rfl) hE
            replace hE := (if_neg c_35).symm.trans hE
            have i_35 : x4_26.toInt ≠ 0 := fun h => c_35 (Int32.toInt_inj.mp h)
            refine lv_aload_n hx hb dX6_wordFrom_38 rfl (lv_at hl 0 rfl) ?_
            refine g_get hx hb hts hiX6 hown hG gw_Model rfl 22 (by decide) (index := 49) tw_fl_RX6_49 (v := .ref (gA g 72)) rfl dX6_wordFrom_39 ?_
            refine lv_bipush (v := 8) hx hb dX6_wordFrom_42 (by decide) ?_
            refine lv_iload_n hx hb dX6_wordFrom_44 rfl (lv_at hl 3 rfl) ?_
            refine lv_imul hx hb dX6_wordFrom_45 ?_
            refine lv_iload hx hb dX6_wordFrom_46 (lv_at hl 5 rfl) ?_
            refine lv_iadd hx hb dX6_wordFrom_48 ?_
            have e2 : (8 * x3_2).toInt = 8 * x3_2.toInt := mulL (k := 8) (by decide +kernel) (by clear hE; omega) (by clear hE; omega)
            have e3 : ((8 * x3_2) + x5_26).toInt = (8 * x3_2).toInt + x5_26.toInt := fb_addI (by clear hE; omega) (by clear hE; omega)
            refine g_ild (f := (mo.2 22)) hx hb hG gw_Model_a22 (show vp_in ((8 * x3_2) + x5_26) 96 from (vp_i (by clear hE; omega) (by clear hE; omega))) dX6_wordFrom_49 ?_
            refine lv_iload_n hx hb dX6_wordFrom_50 rfl (lv_at hl 1 rfl) ?_
            refine lv_iload hx hb dX6_wordFrom_51 (lv_at hl 5 rfl) ?_
            refine lv_iadd hx hb dX6_wordFrom_53 ?_
            refine lv_iload_n hx hb dX6_wordFrom_54 rfl (lv_at hl 2 rfl) ?_
            have J72 : ∀ (z1_72 : Int32) (H : Heap) (locs : List Loc), gS g A s H locs (gW g bb tx rw sb dy tn mo jk) → ∀ ls : Array Slot, lv_has ls 6 [(0, .ref (gA g 58)), (1, .int p1), (2, .int p2), (3, .int x3_2), (5, .int x5_26)] → F_X6_wordFrom_b72  (F_X6_wordFrom_l2 n2 ) (F_X6_wordFrom_l26 n26 (F_X6_wordFrom_l2 n2 )) mo p1 p2 x3_2 x5_26 ((mo.2 22) (Int32.toNatClampNeg ((8 * x3_2) + x5_26))) z1_72 = EE → W p l e (rmL (1)) s m [.ref (gA g 58), .int p1, .int p2].toArray below meth c H locs 0 0 Q (F0 m 72 ls [.int z1_72, .int ((mo.2 22) (Int32.toNatClampNeg ((8 * x3_2) + x5_26)))]) := by
              intro z1_72 H locs hG ls hl  hE
              unfold F_X6_wordFrom_b72 at hE
              have J80 : ∀ (z0_80 : Int32) (H : Heap) (locs : List Loc), gS g A s H locs (gW g bb tx rw sb dy tn mo jk) → ∀ ls : Array Slot, lv_has ls 6 [(0, .ref (gA g 58)), (1, .int p1), (2, .int p2), (3, .int x3_2), (5, .int x5_26)] → F_X6_wordFrom_b80  (F_X6_wordFrom_l2 n2 ) (F_X6_wordFrom_l26 n26 (F_X6_wordFrom_l2 n2 )) mo p1 p2 x3_2 x5_26 z0_80 = EE → W p l e (rmL (1)) s m [.ref (gA g 58), .int p1, .int p2].toArray below meth c H locs 0 0 Q (F0 m 80 ls [.int z0_80]) := by
                intro z0_80 H locs hG ls hl  hE
                unfold F_X6_wordFrom_b80 at hE
                refine lv_istore (lv' := [(4, .int z0_80), (0, .ref (gA g 58)), (1, .int p1), (2, .int p2), (3, .int x3_2), (5, .int x5_26)]) hx hb dX6_wordFrom_80 hl (by decide) rfl (fun ls hl => ?_)
                replace hl := lv_sub hl [1, 2, 3, 4, 0, 5] (l' := [(0, .ref (gA g 58)), (1, .int p1), (2, .int p2), (3, .int x3_2), (4, .int z0_80), (5, .int x5_26)]) rfl
                refine lv_iinc (v := (x5_26 + 1)) (lv' := [(5, .int (x5_26 + 1)), (0, .ref (gA g 58)), (1, .int p1), (2, .int p2), (3, .int x3_2), (4, .int z0_80)]) hx hb dX6_wordFrom_82 hl (k := 5) rfl rfl (by decide) rfl (fun ls hl => ?_)
                replace hl := lv_sub hl [1, 2, 3, 4, 5, 0] (l' := [(0, .ref (gA g 58)), (1, .int p1), (2, .int p2), (3, .int x3_2), (4, .int z0_80), (5, .int (x5_26 + 1))]) rfl
                refine lv_goto (tgt := 26) hx hb dX6_wordFrom_85 (by decide) ?_
                have e4 : (x5_26 + 1).toInt = x5_26.toInt + 1 := addL (k := 1) (by decide +kernel) (by clear hE; omega) (by clear hE; omega)
                exact ih26 z0_80 (x5_26 + 1) _ _ hG _ (lv_sub hl [0, 1, 2, 3, 4, 5] rfl) (by clear hE; omega) (by clear hE; omega) (by clear hE; omega) hE
              refine lv_icmp_ne (tgt := 79) hx hb dX6_wordFrom_72 (by decide) (fun c_72 => ?_) (fun c_72 => ?_)
              · replace hE := (if_neg c_72).symm.trans hE
                have i_72 : ((mo.2 22) (Int32.toNatClampNeg ((8 * x3_2) + x5_26))).toInt ≠ z1_72.toInt := fun h => c_72 (Int32.toInt_inj.mp h)
                refine lv_iconst (v := 0) hx hb dX6_wordFrom_79 (by decide) ?_
                exact J80 0 _ _ hG _ (lv_sub hl [0, 1, 2, 3, 4] rfl) hE
              replace hE := (if_pos c_72).symm.trans hE
              have i_72 : ((mo.2 22) (Int32.toNatClampNeg ((8 * x3_2) + x5_26))).toInt = z1_72.toInt := congrArg Int32.toInt c_72
              refine lv_iconst (v := 1) hx hb dX6_wordFrom_75 (by decide) ?_
              refine lv_goto (tgt := 80) hx hb dX6_wordFrom_76 (by decide) ?_
              exact J80 1 _ _ hG _ (lv_sub hl [0, 1, 2, 3, 4] rfl) hE
            refine lv_icmp_ge (tgt := 70) hx hb dX6_wordFrom_55 (by decide) (fun c_55 => ?_) (fun c_55 => ?_)
            · replace hE := (if_pos c_55).symm.trans hE
              have i_55 : p2.toInt ≤ (p1 + x5_26).toInt := i_le.mp c_55
              refine lv_bipush (v := 32) hx hb dX6_wordFrom_70 (by decide) ?_
              exact J72 32 _ _ hG _ (lv_sub hl [0, 1, 2, 3, 5] rfl) hE
            replace hE := (if_neg c_55).symm.trans hE
            have i_55 : (p1 + x5_26).toInt < p2.toInt := i_nle c_55
            refine lv_aload_n hx hb dX6_wordFrom_58 rfl (lv_at hl 0 rfl) ?_
            refine g_get hx hb hts hiX6 hown hG gw_Model rfl 5 (by decide) (index := 22) tw_fl_RX6_22 (v := .ref (gA g 63)) rfl dX6_wordFrom_59 ?_
            refine lv_iload_n hx hb dX6_wordFrom_62 rfl (lv_at hl 1 rfl) ?_
            refine lv_iload hx hb dX6_wordFrom_63 (lv_at hl 5 rfl) ?_
            refine lv_iadd hx hb dX6_wordFrom_65 ?_
            have e5 : (p1 + x5_26).toInt = p1.toInt + x5_26.toInt := fb_addI (by clear hE; omega) (by clear hE; omega)
            refine g_ild (f := (mo.2 5)) hx hb hG gw_Model_a5 (show vp_in (p1 + x5_26) 160 from (vp_i (by clear hE; omega) (by clear hE; omega))) dX6_wordFrom_66 ?_
            refine lv_goto (tgt := 72) hx hb dX6_wordFrom_67 (by decide) ?_
            exact J72 ((mo.2 5) (Int32.toNatClampNeg (p1 + x5_26))) _ _ hG _ (lv_sub hl [0, 1, 2, 3, 5] rfl) hE
        exact L26 9 z0_21 0 _ _ hG _ (lv_sub hl [0, 1, 2, 3, 4, 5] rfl) (by decide) (by decide) (by decide) hE
      refine lv_icmp_gt (tgt := 20) hx hb dX6_wordFrom_13 (by decide) (fun c_13 => ?_) (fun c_13 => ?_)
      · replace hE := (if_pos c_13).symm.trans hE
        have i_13 : 8 < (p2 - p1).toInt := i_lt.mp c_13
        refine lv_iconst (v := 0) hx hb dX6_wordFrom_20 (by decide) ?_
        exact J21 0 _ _ hG _ (lv_sub hl [0, 1, 2, 3] rfl) hE
      replace hE := (if_neg c_13).symm.trans hE
      have i_13 : (p2 - p1).toInt ≤ 8 := i_nlt c_13
      refine lv_iconst (v := 1) hx hb dX6_wordFrom_16 (by decide) ?_
      refine lv_goto (tgt := 21) hx hb dX6_wordFrom_17 (by decide) ?_
      exact J21 1 _ _ hG _ (lv_sub hl [0, 1, 2, 3] rfl) hE
  exact L2 13 0 _ _ hG _ (lv_sub hl [0, 1, 2, 3] rfl) (by decide) (by decide) (by decide) hE
def F_X6_rank (p0 : Int32) : Int32 :=
  (if p0 = 0 then 0 else (if p0 = 11 then 1 else (if p0 = 12 then 2 else (if p0 = 13 then 3 else (if 15 < p0 then (if 17 < p0 then (if p0 = 18 then 6 else 7) else 5) else 4)))))
set_option maxHeartbeats 4000000 in
set_option maxRecDepth 100000 in
theorem c_X6_rank {l : Launch} {g : GG} {sz : Nat}  (p0 : Int32)  : Met l yX6_rank (Cond.code yX6_rank cX6_rank 1 (some .int) :: TT) (rmL (1)) (va_Pc [.int p0] (gB g sz [])) (va_Qi (fun r (_ : Unit) => r = (F_X6_rank p0)) (fun u t => gC g (va_A [] sz) [] t) (va_A [] sz)) 0 0 (va_A [] sz) := by
  generalize hE : F_X6_rank p0 = EE
  refine g_of (Qf := fun A => (va_Qi (fun r (_ : Unit) => r = EE) (fun u t => gC g A [] t) A)) (cc := cX6_rank) (maxL := 1) (ret := (some .int)) (by decide) (Nat.le_of_ble_eq_true rfl) ?_
  intro p e s m below meth c A ls hx hb hml hr hlocks hts hown hA hG hl
  replace hown : s.vm.findClass RX6 = some m.cls := hown
  replace hl : lv_has ls 1 [(0, .int p0)] := hl
  show W p l e (rmL (1)) s m [.int p0].toArray below meth c s.heap [] 0 0 (MQ below (va_Qi (fun r (_ : Unit) => r = EE) (fun u t => gC g A [] t) A) [.int p0].toArray s 0 0 A) (F0 m 0 ls [])
  generalize hQ : MQ below (va_Qi (fun r (_ : Unit) => r = EE) (fun u t => gC g A [] t) A) [.int p0].toArray s 0 0 A = Q
  unfold F_X6_rank at hE
  refine lv_iload_n hx hb dX6_rank_0 rfl (lv_at hl 0 rfl) ?_
  refine lv_if_ne (tgt := 8) hx hb dX6_rank_1 (by decide) (fun c_1 => ?_) (fun c_1 => ?_)
  · replace hE := (if_neg c_1).symm.trans hE
    have i_1 : p0.toInt ≠ 0 := fun h => c_1 (Int32.toInt_inj.mp h)
    refine lv_iload_n hx hb dX6_rank_8 rfl (lv_at hl 0 rfl) ?_
    refine lv_bipush (v := 11) hx hb dX6_rank_9 (by decide) ?_
    refine lv_icmp_ne (tgt := 18) hx hb dX6_rank_11 (by decide) (fun c_11 => ?_) (fun c_11 => ?_)
    · replace hE := (if_neg c_11).symm.trans hE
      have i_11 : p0.toInt ≠ 11 := fun h => c_11 (Int32.toInt_inj.mp h)
      refine lv_iload_n hx hb dX6_rank_18 rfl (lv_at hl 0 rfl) ?_
      refine lv_bipush (v := 12) hx hb dX6_rank_19 (by decide) ?_
      refine lv_icmp_ne (tgt := 28) hx hb dX6_rank_21 (by decide) (fun c_21 => ?_) (fun c_21 => ?_)
      · replace hE := (if_neg c_21).symm.trans hE
        have i_21 : p0.toInt ≠ 12 := fun h => c_21 (Int32.toInt_inj.mp h)
        refine lv_iload_n hx hb dX6_rank_28 rfl (lv_at hl 0 rfl) ?_
        refine lv_bipush (v := 13) hx hb dX6_rank_29 (by decide) ?_
        refine lv_icmp_ne (tgt := 38) hx hb dX6_rank_31 (by decide) (fun c_31 => ?_) (fun c_31 => ?_)
        · replace hE := (if_neg c_31).symm.trans hE
          have i_31 : p0.toInt ≠ 13 := fun h => c_31 (Int32.toInt_inj.mp h)
          refine lv_iload_n hx hb dX6_rank_38 rfl (lv_at hl 0 rfl) ?_
          refine lv_bipush (v := 15) hx hb dX6_rank_39 (by decide) ?_
          refine lv_icmp_gt (tgt := 48) hx hb dX6_rank_41 (by decide) (fun c_41 => ?_) (fun c_41 => ?_)
          · replace hE := (if_pos c_41).symm.trans hE
            have i_41 : 15 < p0.toInt := i_lt.mp c_41
            refine lv_iload_n hx hb dX6_rank_48 rfl (lv_at hl 0 rfl) ?_
            refine lv_bipush (v := 17) hx hb dX6_rank_49 (by decide) ?_
            refine lv_icmp_gt (tgt := 58) hx hb dX6_rank_51 (by decide) (fun c_51 => ?_) (fun c_51 => ?_)
            · replace hE := (if_pos c_51).symm.trans hE
              have i_51 : 17 < p0.toInt := i_lt.mp c_51
              refine lv_iload_n hx hb dX6_rank_58 rfl (lv_at hl 0 rfl) ?_
              refine lv_bipush (v := 18) hx hb dX6_rank_59 (by decide) ?_
              refine lv_icmp_ne (tgt := 69) hx hb dX6_rank_61 (by decide) (fun c_61 => ?_) (fun c_61 => ?_)
              · replace hE := (if_neg c_61).symm.trans hE
                have i_61 : p0.toInt ≠ 18 := fun h => c_61 (Int32.toInt_inj.mp h)
                refine lv_bipush (v := 7) hx hb dX6_rank_69 (by decide) ?_
                subst hQ
                exact g_iret hx hb hr hlocks hG () rfl hE dX6_rank_71
              replace hE := (if_pos c_61).symm.trans hE
              have i_61 : p0.toInt = 18 := congrArg Int32.toInt c_61
              refine lv_bipush (v := 6) hx hb dX6_rank_64 (by decide) ?_
              refine lv_goto (tgt := 71) hx hb dX6_rank_66 (by decide) ?_
              subst hQ
              exact g_iret hx hb hr hlocks hG () rfl hE dX6_rank_71
            replace hE := (if_neg c_51).symm.trans hE
            have i_51 : p0.toInt ≤ 17 := i_nlt c_51
            refine lv_iconst (v := 5) hx hb dX6_rank_54 (by decide) ?_
            refine lv_goto (tgt := 71) hx hb dX6_rank_55 (by decide) ?_
            subst hQ
            exact g_iret hx hb hr hlocks hG () rfl hE dX6_rank_71
          replace hE := (if_neg c_41).symm.trans hE
          have i_41 : p0.toInt ≤ 15 := i_nlt c_41
          refine lv_iconst (v := 4) hx hb dX6_rank_44 (by decide) ?_
          refine lv_goto (tgt := 71) hx hb dX6_rank_45 (by decide) ?_
          subst hQ
          exact g_iret hx hb hr hlocks hG () rfl hE dX6_rank_71
        replace hE := (if_pos c_31).symm.trans hE
        have i_31 : p0.toInt = 13 := congrArg Int32.toInt c_31
        refine lv_iconst (v := 3) hx hb dX6_rank_34 (by decide) ?_
        refine lv_goto (tgt := 71) hx hb dX6_rank_35 (by decide) ?_
        subst hQ
        exact g_iret hx hb hr hlocks hG () rfl hE dX6_rank_71
      replace hE := (if_pos c_21).symm.trans hE
      have i_21 : p0.toInt = 12 := congrArg Int32.toInt c_21
      refine lv_iconst (v := 2) hx hb dX6_rank_24 (by decide) ?_
      refine lv_goto (tgt := 71) hx hb dX6_rank_25 (by decide) ?_
      subst hQ
      exact g_iret hx hb hr hlocks hG () rfl hE dX6_rank_71
    replace hE := (if_pos c_11).symm.trans hE
    have i_11 : p0.toInt = 11 := congrArg Int32.toInt c_11
    refine lv_iconst (v := 1) hx hb dX6_rank_14 (by decide) ?_
    refine lv_goto (tgt := 71) hx hb dX6_rank_15 (by decide) ?_
    subst hQ
    exact g_iret hx hb hr hlocks hG () rfl hE dX6_rank_71
  replace hE := (if_pos c_1).symm.trans hE
  have i_1 : p0.toInt = 0 := congrArg Int32.toInt c_1
  refine lv_iconst (v := 0) hx hb dX6_rank_4 (by decide) ?_
  refine lv_goto (tgt := 71) hx hb dX6_rank_5 (by decide) ?_
  subst hQ
  exact g_iret hx hb hr hlocks hG () rfl hE dX6_rank_71
def F_X6_puts (mo : Ob) (p1 : Int32) : Ob :=
  (setS (stA mo 7 ((200 * (mo.1 9)) + (mo.1 26)) p1) 26 ((mo.1 26) + 1))
set_option maxHeartbeats 4000000 in
set_option maxRecDepth 100000 in
theorem c_X6_puts {l : Launch} {g : GG} {sz : Nat} {bb : Ob} {tx rw : Nat → Ob} {sb dy : Ob} {tn : Nat → Ob} {mo : Ob} {jk : Nat → Nat → Int32}  (p1 : Int32) (hx9 : 0 ≤ (mo.1 9).toInt ∧ (mo.1 9).toInt ≤ 5 ∧ 0 ≤ (mo.1 26).toInt ∧ (mo.1 26).toInt < 200) : Met l yX6_puts (Cond.code yX6_puts cX6_puts 2 none :: TT) (rmL (1)) (va_Pc [.ref (gA g 58), .int p1] (gB g sz (gW g bb tx rw sb dy tn mo jk))) (va_Qv (fun (u : Ob) => (F_X6_puts mo p1) = (u)) (fun u t => gC g (va_A (gW g bb tx rw sb dy tn mo jk) sz) (gW g bb tx rw sb dy tn u jk) t) (va_A (gW g bb tx rw sb dy tn mo jk) sz)) 0 0 (va_A (gW g bb tx rw sb dy tn mo jk) sz) := by
  generalize hE : F_X6_puts mo p1 = EE
  refine g_of (Qf := fun A => (va_Qv (fun (u : Ob) => EE = (u)) (fun u t => gC g A (gW g bb tx rw sb dy tn u jk) t) A)) (cc := cX6_puts) (maxL := 2) (ret := none) (by decide) (Nat.le_of_ble_eq_true rfl) ?_
  intro p e s m below meth c A ls hx hb hml hr hlocks hts hown hA hG hl
  replace hown : s.vm.findClass RX6 = some m.cls := hown
  replace hl : lv_has ls 2 [(0, .ref (gA g 58)), (1, .int p1)] := hl
  show W p l e (rmL (1)) s m [.ref (gA g 58), .int p1].toArray below meth c s.heap [] 0 0 (MQ below (va_Qv (fun (u : Ob) => EE = (u)) (fun u t => gC g A (gW g bb tx rw sb dy tn u jk) t) A) [.ref (gA g 58), .int p1].toArray s 0 0 A) (F0 m 0 ls [])
  generalize hQ : MQ below (va_Qv (fun (u : Ob) => EE = (u)) (fun u t => gC g A (gW g bb tx rw sb dy tn u jk) t) A) [.ref (gA g 58), .int p1].toArray s 0 0 A = Q
  unfold F_X6_puts at hE
  refine lv_aload_n hx hb dX6_puts_0 rfl (lv_at hl 0 rfl) ?_
  refine g_get hx hb hts hiX6 hown hG gw_Model rfl 7 (by decide) (index := 25) tw_fl_RX6_25 (v := .ref (gA g 64)) rfl dX6_puts_1 ?_
  refine lv_sipush (v := 200) hx hb dX6_puts_4 (by decide) ?_
  refine lv_aload_n hx hb dX6_puts_7 rfl (lv_at hl 0 rfl) ?_
  refine g_get hx hb hts hiX6 hown hG gw_Model rfl 9 (by decide) (index := 85) tw_fl_RX6_85 (v := .int (mo.1 9)) rfl dX6_puts_8 ?_
  refine lv_imul hx hb dX6_puts_11 ?_
  refine lv_aload_n hx hb dX6_puts_12 rfl (lv_at hl 0 rfl) ?_
  refine g_get hx hb hts hiX6 hown hG gw_Model rfl 26 (by decide) (index := 111) tw_fl_RX6_111 (v := .int (mo.1 26)) rfl dX6_puts_13 ?_
  refine lv_iadd hx hb dX6_puts_16 ?_
  refine lv_iload_n hx hb dX6_puts_17 rfl (lv_at hl 1 rfl) ?_
  have e1 : (200 * (mo.1 9)).toInt = 200 * (mo.1 9).toInt := mulL (k := 200) (by decide +kernel) (by clear hE; omega) (by clear hE; omega)
  have e2 : ((200 * (mo.1 9)) + (mo.1 26)).toInt = (200 * (mo.1 9)).toInt + (mo.1 26).toInt := fb_addI (by clear hE; omega) (by clear hE; omega)
  refine g_ist hx hb hG gw_Model_a7 (show vp_in ((200 * (mo.1 9)) + (mo.1 26)) 1200 from (vp_i (by clear hE; omega) (by clear hE; omega))) gs_Model_a7 dX6_puts_18 (fun H locs hG => ?_)
  refine lv_aload_n hx hb dX6_puts_19 rfl (lv_at hl 0 rfl) ?_
  refine lv_dup hx hb dX6_puts_20 rfl ?_
  refine g_get hx hb hts hiX6 hown hG gw_Model rfl 26 (by decide) (index := 111) tw_fl_RX6_111 (v := .int (mo.1 26)) rfl dX6_puts_21 ?_
  refine lv_iconst (v := 1) hx hb dX6_puts_24 (by decide) ?_
  refine lv_iadd hx hb dX6_puts_25 ?_
  refine g_put hx hb hts hiX6 tyX6 tyX6_ok nmX6 hown hG gw_Model rfl 26 (by decide) (index := 111) tw_fl_RX6_111 rfl rfl rfl (Nat.le_of_ble_eq_true rfl) gs_Model_f26 dX6_puts_26 (fun H locs hG => ?_)
  subst hQ
  exact g_vret hx hb hr hlocks hG (((setS (stA mo 7 ((200 * (mo.1 9)) + (mo.1 26)) p1) 26 ((mo.1 26) + 1))) : Ob) rfl hE.symm dX6_puts_29
def F_X6_holds (mo : Ob) (p1 : Int32) : Ob :=
  (setS (stA mo 23 (mo.1 24) p1) 24 ((mo.1 24) + 1))
set_option maxHeartbeats 4000000 in
set_option maxRecDepth 100000 in
theorem c_X6_holds {l : Launch} {g : GG} {sz : Nat} {bb : Ob} {tx rw : Nat → Ob} {sb dy : Ob} {tn : Nat → Ob} {mo : Ob} {jk : Nat → Nat → Int32}  (p1 : Int32) (hh : 0 ≤ (mo.1 24).toInt ∧ (mo.1 24).toInt < 200) : Met l yX6_holds (Cond.code yX6_holds cX6_holds 2 none :: TT) (rmL (1)) (va_Pc [.ref (gA g 58), .int p1] (gB g sz (gW g bb tx rw sb dy tn mo jk))) (va_Qv (fun (u : Ob) => (F_X6_holds mo p1) = (u)) (fun u t => gC g (va_A (gW g bb tx rw sb dy tn mo jk) sz) (gW g bb tx rw sb dy tn u jk) t) (va_A (gW g bb tx rw sb dy tn mo jk) sz)) 0 0 (va_A (gW g bb tx rw sb dy tn mo jk) sz) := by
  generalize hE : F_X6_holds mo p1 = EE
  refine g_of (Qf := fun A => (va_Qv (fun (u : Ob) => EE = (u)) (fun u t => gC g A (gW g bb tx rw sb dy tn u jk) t) A)) (cc := cX6_holds) (maxL := 2) (ret := none) (by decide) (Nat.le_of_ble_eq_true rfl) ?_
  intro p e s m below meth c A ls hx hb hml hr hlocks hts hown hA hG hl
  replace hown : s.vm.findClass RX6 = some m.cls := hown
  replace hl : lv_has ls 2 [(0, .ref (gA g 58)), (1, .int p1)] := hl
  show W p l e (rmL (1)) s m [.ref (gA g 58), .int p1].toArray below meth c s.heap [] 0 0 (MQ below (va_Qv (fun (u : Ob) => EE = (u)) (fun u t => gC g A (gW g bb tx rw sb dy tn u jk) t) A) [.ref (gA g 58), .int p1].toArray s 0 0 A) (F0 m 0 ls [])
  generalize hQ : MQ below (va_Qv (fun (u : Ob) => EE = (u)) (fun u t => gC g A (gW g bb tx rw sb dy tn u jk) t) A) [.ref (gA g 58), .int p1].toArray s 0 0 A = Q
  unfold F_X6_holds at hE
  refine lv_aload_n hx hb dX6_holds_0 rfl (lv_at hl 0 rfl) ?_
  refine g_get hx hb hts hiX6 hown hG gw_Model rfl 23 (by decide) (index := 52) tw_fl_RX6_52 (v := .ref (gA g 73)) rfl dX6_holds_1 ?_
  refine lv_aload_n hx hb dX6_holds_4 rfl (lv_at hl 0 rfl) ?_
  refine g_get hx hb hts hiX6 hown hG gw_Model rfl 24 (by decide) (index := 114) tw_fl_RX6_114 (v := .int (mo.1 24)) rfl dX6_holds_5 ?_
  refine lv_iload_n hx hb dX6_holds_8 rfl (lv_at hl 1 rfl) ?_
  refine g_ist hx hb hG gw_Model_a23 (show vp_in (mo.1 24) 200 from (vp_i (by clear hE; omega) (by clear hE; omega))) gs_Model_a23 dX6_holds_9 (fun H locs hG => ?_)
  refine lv_aload_n hx hb dX6_holds_10 rfl (lv_at hl 0 rfl) ?_
  refine lv_dup hx hb dX6_holds_11 rfl ?_
  refine g_get hx hb hts hiX6 hown hG gw_Model rfl 24 (by decide) (index := 114) tw_fl_RX6_114 (v := .int (mo.1 24)) rfl dX6_holds_12 ?_
  refine lv_iconst (v := 1) hx hb dX6_holds_15 (by decide) ?_
  refine lv_iadd hx hb dX6_holds_16 ?_
  refine g_put hx hb hts hiX6 tyX6 tyX6_ok nmX6 hown hG gw_Model rfl 24 (by decide) (index := 114) tw_fl_RX6_114 rfl rfl rfl (Nat.le_of_ble_eq_true rfl) gs_Model_f24 dX6_holds_17 (fun H locs hG => ?_)
  subst hQ
  exact g_vret hx hb hr hlocks hG (((setS (stA mo 23 (mo.1 24) p1) 24 ((mo.1 24) + 1))) : Ob) rfl hE.symm dX6_holds_20
def F_X6_opensOne_c22 (u : Ob) : Int32 × Ob :=
  (1, u)
def F_X6_opensOne (mo : Ob) (p1 : Int32) : Int32 × Ob :=
  (if (mo.1 25) = 5 then (0, mo) else (F_X6_opensOne_c22 (F_X6_holds (setS mo 25 ((mo.1 25) + 1)) p1)))
set_option maxHeartbeats 4000000 in
set_option maxRecDepth 100000 in
theorem c_X6_opensOne {l : Launch} {g : GG} {sz : Nat} {bb : Ob} {tx rw : Nat → Ob} {sb dy : Ob} {tn : Nat → Ob} {mo : Ob} {jk : Nat → Nat → Int32}  (p1 : Int32) (hh : 0 ≤ (mo.1 24).toInt ∧ (mo.1 24).toInt < 200) : Met l yX6_opensOne (Cond.code yX6_opensOne cX6_opensOne 2 (some .boolean) :: TT) (rmL (2)) (va_Pc [.ref (gA g 58), .int p1] (gB g sz (gW g bb tx rw sb dy tn mo jk))) (va_Qi (fun r (u : Ob) => (F_X6_opensOne mo p1) = (r, u)) (fun u t => gC g (va_A (gW g bb tx rw sb dy tn mo jk) sz) (gW g bb tx rw sb dy tn u jk) t) (va_A (gW g bb tx rw sb dy tn mo jk) sz)) 0 0 (va_A (gW g bb tx rw sb dy tn mo jk) sz) := by
  generalize hE : F_X6_opensOne mo p1 = EE
  refine g_of (Qf := fun A => (va_Qi (fun r (u : Ob) => EE = (r, u)) (fun u t => gC g A (gW g bb tx rw sb dy tn u jk) t) A)) (cc := cX6_opensOne) (maxL := 2) (ret := (some .boolean)) (by decide) (Nat.le_of_ble_eq_true rfl) ?_
  intro p e s m below meth c A ls hx hb hml hr hlocks hts hown hA hG hl
  replace hown : s.vm.findClass RX6 = some m.cls := hown
  replace hl : lv_has ls 2 [(0, .ref (gA g 58)), (1, .int p1)] := hl
  show W p l e (rmL (2)) s m [.ref (gA g 58), .int p1].toArray below meth c s.heap [] 0 0 (MQ below (va_Qi (fun r (u : Ob) => EE = (r, u)) (fun u t => gC g A (gW g bb tx rw sb dy tn u jk) t) A) [.ref (gA g 58), .int p1].toArray s 0 0 A) (F0 m 0 ls [])
  generalize hQ : MQ below (va_Qi (fun r (u : Ob) => EE = (r, u)) (fun u t => gC g A (gW g bb tx rw sb dy tn u jk) t) A) [.ref (gA g 58), .int p1].toArray s 0 0 A = Q
  unfold F_X6_opensOne at hE
  refine lv_aload_n hx hb dX6_opensOne_0 rfl (lv_at hl 0 rfl) ?_
  refine g_get hx hb hts hiX6 hown hG gw_Model rfl 25 (by decide) (index := 121) tw_fl_RX6_121 (v := .int (mo.1 25)) rfl dX6_opensOne_1 ?_
  refine lv_iconst (v := 5) hx hb dX6_opensOne_4 (by decide) ?_
  refine lv_icmp_ne (tgt := 10) hx hb dX6_opensOne_5 (by decide) (fun c_5 => ?_) (fun c_5 => ?_)
  · replace hE := (if_neg c_5).symm.trans hE
    have i_5 : (mo.1 25).toInt ≠ 5 := fun h => c_5 (Int32.toInt_inj.mp h)
    refine lv_aload_n hx hb dX6_opensOne_10 rfl (lv_at hl 0 rfl) ?_
    refine lv_dup hx hb dX6_opensOne_11 rfl ?_
    refine g_get hx hb hts hiX6 hown hG gw_Model rfl 25 (by decide) (index := 121) tw_fl_RX6_121 (v := .int (mo.1 25)) rfl dX6_opensOne_12 ?_
    refine lv_iconst (v := 1) hx hb dX6_opensOne_15 (by decide) ?_
    refine lv_iadd hx hb dX6_opensOne_16 ?_
    refine g_put hx hb hts hiX6 tyX6 tyX6_ok nmX6 hown hG gw_Model rfl 25 (by decide) (index := 121) tw_fl_RX6_121 rfl rfl rfl (Nat.le_of_ble_eq_true rfl) gs_Model_f25 dX6_opensOne_17 (fun H locs hG => ?_)
    refine lv_aload_n hx hb dX6_opensOne_20 rfl (lv_at hl 0 rfl) ?_
    refine lv_iload_n hx hb dX6_opensOne_21 rfl (lv_at hl 1 rfl) ?_
    refine g_cv (g_runV (n := 1) (rest := []) hx hb hml hown hts hG (c_X6_holds p1 (show 0 ≤ (mo.1 24).toInt ∧ (mo.1 24).toInt < 200 from by clear hE; omega)) tw_ml_RX6_128 tw_im_X6_holds tw_se_X6_holds tw_in_RX6 tw_cd_X6_holds (by decide +kernel) ⟨rfl, rfl, Nat.le_of_ble_eq_true rfl, Nat.le_of_ble_eq_true rfl⟩ gw_Model rfl rfl hl.1 rfl (Nat.le_of_ble_eq_true rfl) dX6_opensOne_22 ⟨Nat.le_refl _, Nat.le_refl _⟩) hG hA (fun u H locs hp hG => ?_)
    obtain ⟨mo_22, rfl⟩ : ∃ z, z = u := ⟨u, rfl⟩
    replace hG : gS g A s H locs (gW g bb tx rw sb dy tn mo_22 jk) := by simpa only [up_up] using hG
    have hp_22 := hp
    rw [hp] at hE
    unfold F_X6_opensOne_c22 at hE
    try dsimp only at hE
    refine lv_iconst (v := 1) hx hb dX6_opensOne_25 (by decide) ?_
    subst hQ
    exact g_zret hx hb hr hlocks hG (Or.inr rfl) ((mo_22) : Ob) rfl hE.symm dX6_opensOne_26
  replace hE := (if_pos c_5).symm.trans hE
  have i_5 : (mo.1 25).toInt = 5 := congrArg Int32.toInt c_5
  refine lv_iconst (v := 0) hx hb dX6_opensOne_8 (by decide) ?_
  subst hQ
  exact g_zret hx hb hr hlocks hG (Or.inl rfl) ((mo) : Ob) rfl hE.symm dX6_opensOne_9
def F_X6_signOf (mo : Ob) : Int32 :=
  (if (mo.1 20) = 4 then 11 else (if (mo.1 20) = 5 then 12 else (if (mo.1 20) = 60 then 14 else (if (mo.1 20) = 61 then 15 else (if (mo.1 20) = 43 then 16 else (if (mo.1 20) = 45 then 17 else (if (mo.1 20) = 42 then 18 else (-1))))))))
set_option maxHeartbeats 4000000 in
set_option maxRecDepth 100000 in
theorem c_X6_signOf {l : Launch} {g : GG} {sz : Nat} {bb : Ob} {tx rw : Nat → Ob} {sb dy : Ob} {tn : Nat → Ob} {mo : Ob} {jk : Nat → Nat → Int32}    : Met l yX6_signOf (Cond.code yX6_signOf cX6_signOf 1 (some .int) :: TT) (rmL (1)) (va_Pc [.ref (gA g 58)] (gB g sz (gW g bb tx rw sb dy tn mo jk))) (va_Qi (fun r (_ : Unit) => r = (F_X6_signOf mo)) (fun u t => gC g (va_A (gW g bb tx rw sb dy tn mo jk) sz) (gW g bb tx rw sb dy tn mo jk) t) (va_A (gW g bb tx rw sb dy tn mo jk) sz)) 0 0 (va_A (gW g bb tx rw sb dy tn mo jk) sz) := by
  generalize hE : F_X6_signOf mo = EE
  refine g_of (Qf := fun A => (va_Qi (fun r (_ : Unit) => r = EE) (fun u t => gC g A (gW g bb tx rw sb dy tn mo jk) t) A)) (cc := cX6_signOf) (maxL := 1) (ret := (some .int)) (by decide) (Nat.le_of_ble_eq_true rfl) ?_
  intro p e s m below meth c A ls hx hb hml hr hlocks hts hown hA hG hl
  replace hown : s.vm.findClass RX6 = some m.cls := hown
  replace hl : lv_has ls 1 [(0, .ref (gA g 58))] := hl
  show W p l e (rmL (1)) s m [.ref (gA g 58)].toArray below meth c s.heap [] 0 0 (MQ below (va_Qi (fun r (_ : Unit) => r = EE) (fun u t => gC g A (gW g bb tx rw sb dy tn mo jk) t) A) [.ref (gA g 58)].toArray s 0 0 A) (F0 m 0 ls [])
  generalize hQ : MQ below (va_Qi (fun r (_ : Unit) => r = EE) (fun u t => gC g A (gW g bb tx rw sb dy tn mo jk) t) A) [.ref (gA g 58)].toArray s 0 0 A = Q
  unfold F_X6_signOf at hE
  refine lv_aload_n hx hb dX6_signOf_0 rfl (lv_at hl 0 rfl) ?_
  refine g_get hx hb hts hiX6 hown hG gw_Model rfl 20 (by decide) (index := 101) tw_fl_RX6_101 (v := .int (mo.1 20)) rfl dX6_signOf_1 ?_
  refine lv_iconst (v := 4) hx hb dX6_signOf_4 (by decide) ?_
  refine lv_icmp_ne (tgt := 13) hx hb dX6_signOf_5 (by decide) (fun c_5 => ?_) (fun c_5 => ?_)
  · replace hE := (if_neg c_5).symm.trans hE
    have i_5 : (mo.1 20).toInt ≠ 4 := fun h => c_5 (Int32.toInt_inj.mp h)
    refine lv_aload_n hx hb dX6_signOf_13 rfl (lv_at hl 0 rfl) ?_
    refine g_get hx hb hts hiX6 hown hG gw_Model rfl 20 (by decide) (index := 101) tw_fl_RX6_101 (v := .int (mo.1 20)) rfl dX6_signOf_14 ?_
    refine lv_iconst (v := 5) hx hb dX6_signOf_17 (by decide) ?_
    refine lv_icmp_ne (tgt := 26) hx hb dX6_signOf_18 (by decide) (fun c_18 => ?_) (fun c_18 => ?_)
    · replace hE := (if_neg c_18).symm.trans hE
      have i_18 : (mo.1 20).toInt ≠ 5 := fun h => c_18 (Int32.toInt_inj.mp h)
      refine lv_aload_n hx hb dX6_signOf_26 rfl (lv_at hl 0 rfl) ?_
      refine g_get hx hb hts hiX6 hown hG gw_Model rfl 20 (by decide) (index := 101) tw_fl_RX6_101 (v := .int (mo.1 20)) rfl dX6_signOf_27 ?_
      refine lv_bipush (v := 60) hx hb dX6_signOf_30 (by decide) ?_
      refine lv_icmp_ne (tgt := 40) hx hb dX6_signOf_32 (by decide) (fun c_32 => ?_) (fun c_32 => ?_)
      · replace hE := (if_neg c_32).symm.trans hE
        have i_32 : (mo.1 20).toInt ≠ 60 := fun h => c_32 (Int32.toInt_inj.mp h)
        refine lv_aload_n hx hb dX6_signOf_40 rfl (lv_at hl 0 rfl) ?_
        refine g_get hx hb hts hiX6 hown hG gw_Model rfl 20 (by decide) (index := 101) tw_fl_RX6_101 (v := .int (mo.1 20)) rfl dX6_signOf_41 ?_
        refine lv_bipush (v := 61) hx hb dX6_signOf_44 (by decide) ?_
        refine lv_icmp_ne (tgt := 54) hx hb dX6_signOf_46 (by decide) (fun c_46 => ?_) (fun c_46 => ?_)
        · replace hE := (if_neg c_46).symm.trans hE
          have i_46 : (mo.1 20).toInt ≠ 61 := fun h => c_46 (Int32.toInt_inj.mp h)
          refine lv_aload_n hx hb dX6_signOf_54 rfl (lv_at hl 0 rfl) ?_
          refine g_get hx hb hts hiX6 hown hG gw_Model rfl 20 (by decide) (index := 101) tw_fl_RX6_101 (v := .int (mo.1 20)) rfl dX6_signOf_55 ?_
          refine lv_bipush (v := 43) hx hb dX6_signOf_58 (by decide) ?_
          refine lv_icmp_ne (tgt := 68) hx hb dX6_signOf_60 (by decide) (fun c_60 => ?_) (fun c_60 => ?_)
          · replace hE := (if_neg c_60).symm.trans hE
            have i_60 : (mo.1 20).toInt ≠ 43 := fun h => c_60 (Int32.toInt_inj.mp h)
            refine lv_aload_n hx hb dX6_signOf_68 rfl (lv_at hl 0 rfl) ?_
            refine g_get hx hb hts hiX6 hown hG gw_Model rfl 20 (by decide) (index := 101) tw_fl_RX6_101 (v := .int (mo.1 20)) rfl dX6_signOf_69 ?_
            refine lv_bipush (v := 45) hx hb dX6_signOf_72 (by decide) ?_
            refine lv_icmp_ne (tgt := 82) hx hb dX6_signOf_74 (by decide) (fun c_74 => ?_) (fun c_74 => ?_)
            · replace hE := (if_neg c_74).symm.trans hE
              have i_74 : (mo.1 20).toInt ≠ 45 := fun h => c_74 (Int32.toInt_inj.mp h)
              refine lv_aload_n hx hb dX6_signOf_82 rfl (lv_at hl 0 rfl) ?_
              refine g_get hx hb hts hiX6 hown hG gw_Model rfl 20 (by decide) (index := 101) tw_fl_RX6_101 (v := .int (mo.1 20)) rfl dX6_signOf_83 ?_
              refine lv_bipush (v := 42) hx hb dX6_signOf_86 (by decide) ?_
              refine lv_icmp_ne (tgt := 96) hx hb dX6_signOf_88 (by decide) (fun c_88 => ?_) (fun c_88 => ?_)
              · replace hE := (if_neg c_88).symm.trans hE
                have i_88 : (mo.1 20).toInt ≠ 42 := fun h => c_88 (Int32.toInt_inj.mp h)
                refine lv_iconst (v := (-1)) hx hb dX6_signOf_96 (by decide) ?_
                subst hQ
                exact g_iret hx hb hr hlocks hG () rfl hE dX6_signOf_97
              replace hE := (if_pos c_88).symm.trans hE
              have i_88 : (mo.1 20).toInt = 42 := congrArg Int32.toInt c_88
              refine lv_bipush (v := 18) hx hb dX6_signOf_91 (by decide) ?_
              refine lv_goto (tgt := 97) hx hb dX6_signOf_93 (by decide) ?_
              subst hQ
              exact g_iret hx hb hr hlocks hG () rfl hE dX6_signOf_97
            replace hE := (if_pos c_74).symm.trans hE
            have i_74 : (mo.1 20).toInt = 45 := congrArg Int32.toInt c_74
            refine lv_bipush (v := 17) hx hb dX6_signOf_77 (by decide) ?_
            refine lv_goto (tgt := 97) hx hb dX6_signOf_79 (by decide) ?_
            subst hQ
            exact g_iret hx hb hr hlocks hG () rfl hE dX6_signOf_97
          replace hE := (if_pos c_60).symm.trans hE
          have i_60 : (mo.1 20).toInt = 43 := congrArg Int32.toInt c_60
          refine lv_bipush (v := 16) hx hb dX6_signOf_63 (by decide) ?_
          refine lv_goto (tgt := 97) hx hb dX6_signOf_65 (by decide) ?_
          subst hQ
          exact g_iret hx hb hr hlocks hG () rfl hE dX6_signOf_97
        replace hE := (if_pos c_46).symm.trans hE
        have i_46 : (mo.1 20).toInt = 61 := congrArg Int32.toInt c_46
        refine lv_bipush (v := 15) hx hb dX6_signOf_49 (by decide) ?_
        refine lv_goto (tgt := 97) hx hb dX6_signOf_51 (by decide) ?_
        subst hQ
        exact g_iret hx hb hr hlocks hG () rfl hE dX6_signOf_97
      replace hE := (if_pos c_32).symm.trans hE
      have i_32 : (mo.1 20).toInt = 60 := congrArg Int32.toInt c_32
      refine lv_bipush (v := 14) hx hb dX6_signOf_35 (by decide) ?_
      refine lv_goto (tgt := 97) hx hb dX6_signOf_37 (by decide) ?_
      subst hQ
      exact g_iret hx hb hr hlocks hG () rfl hE dX6_signOf_97
    replace hE := (if_pos c_18).symm.trans hE
    have i_18 : (mo.1 20).toInt = 5 := congrArg Int32.toInt c_18
    refine lv_bipush (v := 12) hx hb dX6_signOf_21 (by decide) ?_
    refine lv_goto (tgt := 97) hx hb dX6_signOf_23 (by decide) ?_
    subst hQ
    exact g_iret hx hb hr hlocks hG () rfl hE dX6_signOf_97
  replace hE := (if_pos c_5).symm.trans hE
  have i_5 : (mo.1 20).toInt = 4 := congrArg Int32.toInt c_5
  refine lv_bipush (v := 11) hx hb dX6_signOf_8 (by decide) ?_
  refine lv_goto (tgt := 97) hx hb dX6_signOf_10 (by decide) ?_
  subst hQ
  exact g_iret hx hb hr hlocks hG () rfl hE dX6_signOf_97
def F_X6_two (p0 : Int32) (p1 : Int32) (p2 : Int32) : Int32 :=
  (if p0 = 11 then (if p1 = 0 then (if p2 = 0 then 0 else 1) else 1) else (if p0 = 12 then (if p1 = 0 then 0 else (if p2 = 0 then 0 else 1)) else (if p0 = 13 then (p1 * p2) else (if p0 = 14 then (if p2 ≤ p1 then 0 else 1) else (if p0 = 15 then (if p1 = p2 then 1 else 0) else (if p0 = 16 then (p1 + p2) else (if p0 = 17 then (p1 - p2) else (p1 * p2))))))))
set_option maxHeartbeats 4000000 in
set_option maxRecDepth 100000 in
theorem c_X6_two {l : Launch} {g : GG} {sz : Nat}  (p0 : Int32) (p1 : Int32) (p2 : Int32)  : Met l yX6_two (Cond.code yX6_two cX6_two 3 (some .int) :: TT) (rmL (1)) (va_Pc [.int p0, .int p1, .int p2] (gB g sz [])) (va_Qi (fun r (_ : Unit) => r = (F_X6_two p0 p1 p2)) (fun u t => gC g (va_A [] sz) [] t) (va_A [] sz)) 0 0 (va_A [] sz) := by
  generalize hE : F_X6_two p0 p1 p2 = EE
  refine g_of (Qf := fun A => (va_Qi (fun r (_ : Unit) => r = EE) (fun u t => gC g A [] t) A)) (cc := cX6_two) (maxL := 3) (ret := (some .int)) (by decide) (Nat.le_of_ble_eq_true rfl) ?_
  intro p e s m below meth c A ls hx hb hml hr hlocks hts hown hA hG hl
  replace hown : s.vm.findClass RX6 = some m.cls := hown
  replace hl : lv_has ls 3 [(0, .int p0), (1, .int p1), (2, .int p2)] := hl
  show W p l e (rmL (1)) s m [.int p0, .int p1, .int p2].toArray below meth c s.heap [] 0 0 (MQ below (va_Qi (fun r (_ : Unit) => r = EE) (fun u t => gC g A [] t) A) [.int p0, .int p1, .int p2].toArray s 0 0 A) (F0 m 0 ls [])
  generalize hQ : MQ below (va_Qi (fun r (_ : Unit) => r = EE) (fun u t => gC g A [] t) A) [.int p0, .int p1, .int p2].toArray s 0 0 A = Q
  unfold F_X6_two at hE
  refine lv_iload_n hx hb dX6_two_0 rfl (lv_at hl 0 rfl) ?_
  by_cases c_1_0 : p0 = 11
  · replace hE := (if_pos c_1_0).symm.trans hE
    refine lv_tableIn (off := 43) (tgt := 44) hx hb dX6_two_1 (by rw [c_1_0]; decide) (by rw [c_1_0]; decide) (by rw [c_1_0]; decide) (by decide) ?_
    have i_1_0 : p0.toInt = 11 := congrArg Int32.toInt c_1_0
    refine lv_iload_n hx hb dX6_two_44 rfl (lv_at hl 1 rfl) ?_
    refine lv_if_ne (tgt := 52) hx hb dX6_two_45 (by decide) (fun c_45 => ?_) (fun c_45 => ?_)
    · replace hE := (if_neg c_45).symm.trans hE
      have i_45 : p1.toInt ≠ 0 := fun h => c_45 (Int32.toInt_inj.mp h)
      refine lv_iconst (v := 1) hx hb dX6_two_52 (by decide) ?_
      refine lv_goto (tgt := 57) hx hb dX6_two_53 (by decide) ?_
      subst hQ
      exact g_iret hx hb hr hlocks hG () rfl hE dX6_two_57
    replace hE := (if_pos c_45).symm.trans hE
    have i_45 : p1.toInt = 0 := congrArg Int32.toInt c_45
    refine lv_iload_n hx hb dX6_two_48 rfl (lv_at hl 2 rfl) ?_
    refine lv_if_eq (tgt := 56) hx hb dX6_two_49 (by decide) (fun c_49 => ?_) (fun c_49 => ?_)
    · replace hE := (if_pos c_49).symm.trans hE
      have i_49 : p2.toInt = 0 := congrArg Int32.toInt c_49
      refine lv_iconst (v := 0) hx hb dX6_two_56 (by decide) ?_
      subst hQ
      exact g_iret hx hb hr hlocks hG () rfl hE dX6_two_57
    replace hE := (if_neg c_49).symm.trans hE
    have i_49 : p2.toInt ≠ 0 := fun h => c_49 (Int32.toInt_inj.mp h)
    refine lv_iconst (v := 1) hx hb dX6_two_52 (by decide) ?_
    refine lv_goto (tgt := 57) hx hb dX6_two_53 (by decide) ?_
    subst hQ
    exact g_iret hx hb hr hlocks hG () rfl hE dX6_two_57
  replace hE := (if_neg c_1_0).symm.trans hE
  by_cases c_1_1 : p0 = 12
  · replace hE := (if_pos c_1_1).symm.trans hE
    refine lv_tableIn (off := 57) (tgt := 58) hx hb dX6_two_1 (by rw [c_1_1]; decide) (by rw [c_1_1]; decide) (by rw [c_1_1]; decide) (by decide) ?_
    have i_1_1 : p0.toInt = 12 := congrArg Int32.toInt c_1_1
    refine lv_iload_n hx hb dX6_two_58 rfl (lv_at hl 1 rfl) ?_
    refine lv_if_eq (tgt := 70) hx hb dX6_two_59 (by decide) (fun c_59 => ?_) (fun c_59 => ?_)
    · replace hE := (if_pos c_59).symm.trans hE
      have i_59 : p1.toInt = 0 := congrArg Int32.toInt c_59
      refine lv_iconst (v := 0) hx hb dX6_two_70 (by decide) ?_
      subst hQ
      exact g_iret hx hb hr hlocks hG () rfl hE dX6_two_71
    replace hE := (if_neg c_59).symm.trans hE
    have i_59 : p1.toInt ≠ 0 := fun h => c_59 (Int32.toInt_inj.mp h)
    refine lv_iload_n hx hb dX6_two_62 rfl (lv_at hl 2 rfl) ?_
    refine lv_if_eq (tgt := 70) hx hb dX6_two_63 (by decide) (fun c_63 => ?_) (fun c_63 => ?_)
    · replace hE := (if_pos c_63).symm.trans hE
      have i_63 : p2.toInt = 0 := congrArg Int32.toInt c_63
      refine lv_iconst (v := 0) hx hb dX6_two_70 (by decide) ?_
      subst hQ
      exact g_iret hx hb hr hlocks hG () rfl hE dX6_two_71
    replace hE := (if_neg c_63).symm.trans hE
    have i_63 : p2.toInt ≠ 0 := fun h => c_63 (Int32.toInt_inj.mp h)
    refine lv_iconst (v := 1) hx hb dX6_two_66 (by decide) ?_
    refine lv_goto (tgt := 71) hx hb dX6_two_67 (by decide) ?_
    subst hQ
    exact g_iret hx hb hr hlocks hG () rfl hE dX6_two_71
  replace hE := (if_neg c_1_1).symm.trans hE
  by_cases c_1_2 : p0 = 13
  · replace hE := (if_pos c_1_2).symm.trans hE
    refine lv_tableIn (off := 101) (tgt := 102) hx hb dX6_two_1 (by rw [c_1_2]; decide) (by rw [c_1_2]; decide) (by rw [c_1_2]; decide) (by decide) ?_
    have i_1_2 : p0.toInt = 13 := congrArg Int32.toInt c_1_2
    refine lv_iload_n hx hb dX6_two_102 rfl (lv_at hl 1 rfl) ?_
    refine lv_iload_n hx hb dX6_two_103 rfl (lv_at hl 2 rfl) ?_
    refine lv_imul hx hb dX6_two_104 ?_
    subst hQ
    exact g_iret hx hb hr hlocks hG () rfl hE dX6_two_105
  replace hE := (if_neg c_1_2).symm.trans hE
  by_cases c_1_3 : p0 = 14
  · replace hE := (if_pos c_1_3).symm.trans hE
    refine lv_tableIn (off := 71) (tgt := 72) hx hb dX6_two_1 (by rw [c_1_3]; decide) (by rw [c_1_3]; decide) (by rw [c_1_3]; decide) (by decide) ?_
    have i_1_3 : p0.toInt = 14 := congrArg Int32.toInt c_1_3
    refine lv_iload_n hx hb dX6_two_72 rfl (lv_at hl 1 rfl) ?_
    refine lv_iload_n hx hb dX6_two_73 rfl (lv_at hl 2 rfl) ?_
    refine lv_icmp_ge (tgt := 81) hx hb dX6_two_74 (by decide) (fun c_74 => ?_) (fun c_74 => ?_)
    · replace hE := (if_pos c_74).symm.trans hE
      have i_74 : p2.toInt ≤ p1.toInt := i_le.mp c_74
      refine lv_iconst (v := 0) hx hb dX6_two_81 (by decide) ?_
      subst hQ
      exact g_iret hx hb hr hlocks hG () rfl hE dX6_two_82
    replace hE := (if_neg c_74).symm.trans hE
    have i_74 : p1.toInt < p2.toInt := i_nle c_74
    refine lv_iconst (v := 1) hx hb dX6_two_77 (by decide) ?_
    refine lv_goto (tgt := 82) hx hb dX6_two_78 (by decide) ?_
    subst hQ
    exact g_iret hx hb hr hlocks hG () rfl hE dX6_two_82
  replace hE := (if_neg c_1_3).symm.trans hE
  by_cases c_1_4 : p0 = 15
  · replace hE := (if_pos c_1_4).symm.trans hE
    refine lv_tableIn (off := 82) (tgt := 83) hx hb dX6_two_1 (by rw [c_1_4]; decide) (by rw [c_1_4]; decide) (by rw [c_1_4]; decide) (by decide) ?_
    have i_1_4 : p0.toInt = 15 := congrArg Int32.toInt c_1_4
    refine lv_iload_n hx hb dX6_two_83 rfl (lv_at hl 1 rfl) ?_
    refine lv_iload_n hx hb dX6_two_84 rfl (lv_at hl 2 rfl) ?_
    refine lv_icmp_ne (tgt := 92) hx hb dX6_two_85 (by decide) (fun c_85 => ?_) (fun c_85 => ?_)
    · replace hE := (if_neg c_85).symm.trans hE
      have i_85 : p1.toInt ≠ p2.toInt := fun h => c_85 (Int32.toInt_inj.mp h)
      refine lv_iconst (v := 0) hx hb dX6_two_92 (by decide) ?_
      subst hQ
      exact g_iret hx hb hr hlocks hG () rfl hE dX6_two_93
    replace hE := (if_pos c_85).symm.trans hE
    have i_85 : p1.toInt = p2.toInt := congrArg Int32.toInt c_85
    refine lv_iconst (v := 1) hx hb dX6_two_88 (by decide) ?_
    refine lv_goto (tgt := 93) hx hb dX6_two_89 (by decide) ?_
    subst hQ
    exact g_iret hx hb hr hlocks hG () rfl hE dX6_two_93
  replace hE := (if_neg c_1_4).symm.trans hE
  by_cases c_1_5 : p0 = 16
  · replace hE := (if_pos c_1_5).symm.trans hE
    refine lv_tableIn (off := 93) (tgt := 94) hx hb dX6_two_1 (by rw [c_1_5]; decide) (by rw [c_1_5]; decide) (by rw [c_1_5]; decide) (by decide) ?_
    have i_1_5 : p0.toInt = 16 := congrArg Int32.toInt c_1_5
    refine lv_iload_n hx hb dX6_two_94 rfl (lv_at hl 1 rfl) ?_
    refine lv_iload_n hx hb dX6_two_95 rfl (lv_at hl 2 rfl) ?_
    refine lv_iadd hx hb dX6_two_96 ?_
    subst hQ
    exact g_iret hx hb hr hlocks hG () rfl hE dX6_two_97
  replace hE := (if_neg c_1_5).symm.trans hE
  by_cases c_1_6 : p0 = 17
  · replace hE := (if_pos c_1_6).symm.trans hE
    refine lv_tableIn (off := 97) (tgt := 98) hx hb dX6_two_1 (by rw [c_1_6]; decide) (by rw [c_1_6]; decide) (by rw [c_1_6]; decide) (by decide) ?_
    have i_1_6 : p0.toInt = 17 := congrArg Int32.toInt c_1_6
    refine lv_iload_n hx hb dX6_two_98 rfl (lv_at hl 1 rfl) ?_
    refine lv_iload_n hx hb dX6_two_99 rfl (lv_at hl 2 rfl) ?_
    refine lv_isub hx hb dX6_two_100 ?_
    subst hQ
    exact g_iret hx hb hr hlocks hG () rfl hE dX6_two_101
  replace hE := (if_neg c_1_6).symm.trans hE
  refine lv_tableOut (tgt := 102) hx hb dX6_two_1 (by have k0 := lv_neT c_1_0 (a := 11) (by decide); have k1 := lv_neT c_1_1 (a := 12) (by decide); have k2 := lv_neT c_1_2 (a := 13) (by decide); have k3 := lv_neT c_1_3 (a := 14) (by decide); have k4 := lv_neT c_1_4 (a := 15) (by decide); have k5 := lv_neT c_1_5 (a := 16) (by decide); have k6 := lv_neT c_1_6 (a := 17) (by decide); omega) (by decide) ?_
  refine lv_iload_n hx hb dX6_two_102 rfl (lv_at hl 1 rfl) ?_
  refine lv_iload_n hx hb dX6_two_103 rfl (lv_at hl 2 rfl) ?_
  refine lv_imul hx hb dX6_two_104 ?_
  subst hQ
  exact g_iret hx hb hr hlocks hG () rfl hE dX6_two_105
def F_X6_mostOf (p0 : Int32) : Int32 :=
  (if p0 = 0 then 99 else (if p0 = 1 then 9999 else (if p0 = 2 then 16777215 else 1)))
set_option maxHeartbeats 4000000 in
set_option maxRecDepth 100000 in
theorem c_X6_mostOf {l : Launch} {g : GG} {sz : Nat}  (p0 : Int32)  : Met l yX6_mostOf (Cond.code yX6_mostOf cX6_mostOf 1 (some .int) :: TT) (rmL (1)) (va_Pc [.int p0] (gB g sz [])) (va_Qi (fun r (_ : Unit) => r = (F_X6_mostOf p0)) (fun u t => gC g (va_A [] sz) [] t) (va_A [] sz)) 0 0 (va_A [] sz) := by
  generalize hE : F_X6_mostOf p0 = EE
  refine g_of (Qf := fun A => (va_Qi (fun r (_ : Unit) => r = EE) (fun u t => gC g A [] t) A)) (cc := cX6_mostOf) (maxL := 1) (ret := (some .int)) (by decide) (Nat.le_of_ble_eq_true rfl) ?_
  intro p e s m below meth c A ls hx hb hml hr hlocks hts hown hA hG hl
  replace hown : s.vm.findClass RX6 = some m.cls := hown
  replace hl : lv_has ls 1 [(0, .int p0)] := hl
  show W p l e (rmL (1)) s m [.int p0].toArray below meth c s.heap [] 0 0 (MQ below (va_Qi (fun r (_ : Unit) => r = EE) (fun u t => gC g A [] t) A) [.int p0].toArray s 0 0 A) (F0 m 0 ls [])
  generalize hQ : MQ below (va_Qi (fun r (_ : Unit) => r = EE) (fun u t => gC g A [] t) A) [.int p0].toArray s 0 0 A = Q
  unfold F_X6_mostOf at hE
  refine lv_iload_n hx hb dX6_mostOf_0 rfl (lv_at hl 0 rfl) ?_
  refine lv_if_ne (tgt := 9) hx hb dX6_mostOf_1 (by decide) (fun c_1 => ?_) (fun c_1 => ?_)
  · replace hE := (if_neg c_1).symm.trans hE
    have i_1 : p0.toInt ≠ 0 := fun h => c_1 (Int32.toInt_inj.mp h)
    refine lv_iload_n hx hb dX6_mostOf_9 rfl (lv_at hl 0 rfl) ?_
    refine lv_iconst (v := 1) hx hb dX6_mostOf_10 (by decide) ?_
    refine lv_icmp_ne (tgt := 20) hx hb dX6_mostOf_11 (by decide) (fun c_11 => ?_) (fun c_11 => ?_)
    · replace hE := (if_neg c_11).symm.trans hE
      have i_11 : p0.toInt ≠ 1 := fun h => c_11 (Int32.toInt_inj.mp h)
      refine lv_iload_n hx hb dX6_mostOf_20 rfl (lv_at hl 0 rfl) ?_
      refine lv_iconst (v := 2) hx hb dX6_mostOf_21 (by decide) ?_
      refine lv_icmp_ne (tgt := 30) hx hb dX6_mostOf_22 (by decide) (fun c_22 => ?_) (fun c_22 => ?_)
      · replace hE := (if_neg c_22).symm.trans hE
        have i_22 : p0.toInt ≠ 2 := fun h => c_22 (Int32.toInt_inj.mp h)
        refine lv_iconst (v := 1) hx hb dX6_mostOf_30 (by decide) ?_
        subst hQ
        exact g_iret hx hb hr hlocks hG () rfl hE dX6_mostOf_31
      replace hE := (if_pos c_22).symm.trans hE
      have i_22 : p0.toInt = 2 := congrArg Int32.toInt c_22
      refine lv_ldc (v := 16777215) hx hb hown (hts _ tw_co_RX6_170) dX6_mostOf_25 ?_
      refine lv_goto (tgt := 31) hx hb dX6_mostOf_27 (by decide) ?_
      subst hQ
      exact g_iret hx hb hr hlocks hG () rfl hE dX6_mostOf_31
    replace hE := (if_pos c_11).symm.trans hE
    have i_11 : p0.toInt = 1 := congrArg Int32.toInt c_11
    refine lv_sipush (v := 9999) hx hb dX6_mostOf_14 (by decide) ?_
    refine lv_goto (tgt := 31) hx hb dX6_mostOf_17 (by decide) ?_
    subst hQ
    exact g_iret hx hb hr hlocks hG () rfl hE dX6_mostOf_31
  replace hE := (if_pos c_1).symm.trans hE
  have i_1 : p0.toInt = 0 := congrArg Int32.toInt c_1
  refine lv_bipush (v := 99) hx hb dX6_mostOf_4 (by decide) ?_
  refine lv_goto (tgt := 31) hx hb dX6_mostOf_6 (by decide) ?_
  subst hQ
  exact g_iret hx hb hr hlocks hG () rfl hE dX6_mostOf_31
def F_X6_isUnder_b19 (x0 : Int32) (x1 : Int32) : Int32 :=
  (if x1 = 2 then (if x0 = 4 then 1 else 0) else 0)
def F_X6_isUnder (p0 : Int32) (p1 : Int32) : Int32 :=
  (if p1 = 0 then 1 else (if p0 = p1 then 1 else (if p1 = 1 then (if p0 = 3 then 1 else (F_X6_isUnder_b19  p0 p1)) else (F_X6_isUnder_b19  p0 p1))))
set_option maxHeartbeats 4000000 in
set_option maxRecDepth 100000 in
theorem c_X6_isUnder {l : Launch} {g : GG} {sz : Nat}  (p0 : Int32) (p1 : Int32)  : Met l yX6_isUnder (Cond.code yX6_isUnder cX6_isUnder 2 (some .boolean) :: TT) (rmL (1)) (va_Pc [.int p0, .int p1] (gB g sz [])) (va_Qi (fun r (_ : Unit) => r = (F_X6_isUnder p0 p1)) (fun u t => gC g (va_A [] sz) [] t) (va_A [] sz)) 0 0 (va_A [] sz) := by
  generalize hE : F_X6_isUnder p0 p1 = EE
  refine g_of (Qf := fun A => (va_Qi (fun r (_ : Unit) => r = EE) (fun u t => gC g A [] t) A)) (cc := cX6_isUnder) (maxL := 2) (ret := (some .boolean)) (by decide) (Nat.le_of_ble_eq_true rfl) ?_
  intro p e s m below meth c A ls hx hb hml hr hlocks hts hown hA hG hl
  replace hown : s.vm.findClass RX6 = some m.cls := hown
  replace hl : lv_has ls 2 [(0, .int p0), (1, .int p1)] := hl
  show W p l e (rmL (1)) s m [.int p0, .int p1].toArray below meth c s.heap [] 0 0 (MQ below (va_Qi (fun r (_ : Unit) => r = EE) (fun u t => gC g A [] t) A) [.int p0, .int p1].toArray s 0 0 A) (F0 m 0 ls [])
  generalize hQ : MQ below (va_Qi (fun r (_ : Unit) => r = EE) (fun u t => gC g A [] t) A) [.int p0, .int p1].toArray s 0 0 A = Q
  unfold F_X6_isUnder at hE
  refine lv_iload_n hx hb dX6_isUnder_0 rfl (lv_at hl 1 rfl) ?_
  refine lv_if_eq (tgt := 29) hx hb dX6_isUnder_1 (by decide) (fun c_1 => ?_) (fun c_1 => ?_)
  · replace hE := (if_pos c_1).symm.trans hE
    have i_1 : p1.toInt = 0 := congrArg Int32.toInt c_1
    refine lv_iconst (v := 1) hx hb dX6_isUnder_29 (by decide) ?_
    refine lv_goto (tgt := 34) hx hb dX6_isUnder_30 (by decide) ?_
    subst hQ
    exact g_zret hx hb hr hlocks hG (Or.inr rfl) () rfl hE dX6_isUnder_34
  replace hE := (if_neg c_1).symm.trans hE
  have i_1 : p1.toInt ≠ 0 := fun h => c_1 (Int32.toInt_inj.mp h)
  refine lv_iload_n hx hb dX6_isUnder_4 rfl (lv_at hl 0 rfl) ?_
  refine lv_iload_n hx hb dX6_isUnder_5 rfl (lv_at hl 1 rfl) ?_
  refine lv_icmp_eq (tgt := 29) hx hb dX6_isUnder_6 (by decide) (fun c_6 => ?_) (fun c_6 => ?_)
  · replace hE := (if_pos c_6).symm.trans hE
    have i_6 : p0.toInt = p1.toInt := congrArg Int32.toInt c_6
    refine lv_iconst (v := 1) hx hb dX6_isUnder_29 (by decide) ?_
    refine lv_goto (tgt := 34) hx hb dX6_isUnder_30 (by decide) ?_
    subst hQ
    exact g_zret hx hb hr hlocks hG (Or.inr rfl) () rfl hE dX6_isUnder_34
  replace hE := (if_neg c_6).symm.trans hE
  have i_6 : p0.toInt ≠ p1.toInt := fun h => c_6 (Int32.toInt_inj.mp h)
  refine lv_iload_n hx hb dX6_isUnder_9 rfl (lv_at hl 1 rfl) ?_
  refine lv_iconst (v := 1) hx hb dX6_isUnder_10 (by decide) ?_
  have J19 : ∀  (H : Heap) (locs : List Loc), gS g A s H locs [] → ∀ ls : Array Slot, lv_has ls 2 [(0, .int p0), (1, .int p1)] → F_X6_isUnder_b19   p0 p1 = EE → W p l e (rmL (1)) s m [.int p0, .int p1].toArray below meth c H locs 0 0 Q (F0 m 19 ls []) := by
    intro  H locs hG ls hl  hE
    unfold F_X6_isUnder_b19 at hE
    refine lv_iload_n hx hb dX6_isUnder_19 rfl (lv_at hl 1 rfl) ?_
    refine lv_iconst (v := 2) hx hb dX6_isUnder_20 (by decide) ?_
    refine lv_icmp_ne (tgt := 33) hx hb dX6_isUnder_21 (by decide) (fun c_21 => ?_) (fun c_21 => ?_)
    · replace hE := (if_neg c_21).symm.trans hE
      have i_21 : p1.toInt ≠ 2 := fun h => c_21 (Int32.toInt_inj.mp h)
      refine lv_iconst (v := 0) hx hb dX6_isUnder_33 (by decide) ?_
      subst hQ
      exact g_zret hx hb hr hlocks hG (Or.inl rfl) () rfl hE dX6_isUnder_34
    replace hE := (if_pos c_21).symm.trans hE
    have i_21 : p1.toInt = 2 := congrArg Int32.toInt c_21
    refine lv_iload_n hx hb dX6_isUnder_24 rfl (lv_at hl 0 rfl) ?_
    refine lv_iconst (v := 4) hx hb dX6_isUnder_25 (by decide) ?_
    refine lv_icmp_ne (tgt := 33) hx hb dX6_isUnder_26 (by decide) (fun c_26 => ?_) (fun c_26 => ?_)
    · replace hE := (if_neg c_26).symm.trans hE
      have i_26 : p0.toInt ≠ 4 := fun h => c_26 (Int32.toInt_inj.mp h)
      refine lv_iconst (v := 0) hx hb dX6_isUnder_33 (by decide) ?_
      subst hQ
      exact g_zret hx hb hr hlocks hG (Or.inl rfl) () rfl hE dX6_isUnder_34
    replace hE := (if_pos c_26).symm.trans hE
    have i_26 : p0.toInt = 4 := congrArg Int32.toInt c_26
    refine lv_iconst (v := 1) hx hb dX6_isUnder_29 (by decide) ?_
    refine lv_goto (tgt := 34) hx hb dX6_isUnder_30 (by decide) ?_
    subst hQ
    exact g_zret hx hb hr hlocks hG (Or.inr rfl) () rfl hE dX6_isUnder_34
  refine lv_icmp_ne (tgt := 19) hx hb dX6_isUnder_11 (by decide) (fun c_11 => ?_) (fun c_11 => ?_)
  · replace hE := (if_neg c_11).symm.trans hE
    have i_11 : p1.toInt ≠ 1 := fun h => c_11 (Int32.toInt_inj.mp h)
    exact J19 _ _ hG _ (lv_sub hl [0, 1] rfl) hE
  replace hE := (if_pos c_11).symm.trans hE
  have i_11 : p1.toInt = 1 := congrArg Int32.toInt c_11
  refine lv_iload_n hx hb dX6_isUnder_14 rfl (lv_at hl 0 rfl) ?_
  refine lv_iconst (v := 3) hx hb dX6_isUnder_15 (by decide) ?_
  refine lv_icmp_eq (tgt := 29) hx hb dX6_isUnder_16 (by decide) (fun c_16 => ?_) (fun c_16 => ?_)
  · replace hE := (if_pos c_16).symm.trans hE
    have i_16 : p0.toInt = 3 := congrArg Int32.toInt c_16
    refine lv_iconst (v := 1) hx hb dX6_isUnder_29 (by decide) ?_
    refine lv_goto (tgt := 34) hx hb dX6_isUnder_30 (by decide) ?_
    subst hQ
    exact g_zret hx hb hr hlocks hG (Or.inr rfl) () rfl hE dX6_isUnder_34
  replace hE := (if_neg c_16).symm.trans hE
  have i_16 : p0.toInt ≠ 3 := fun h => c_16 (Int32.toInt_inj.mp h)
  exact J19 _ _ hG _ (lv_sub hl [0, 1] rfl) hE
def F_X6_force (mo : Ob) (p1 : Int32) : Int32 × Ob :=
  (if (F_X6_in p1 0 ((mo.1 9) - 1)) = 0 then ((-2), mo) else ((mo.1 10), (setS mo 10 p1)))
set_option maxHeartbeats 4000000 in
set_option maxRecDepth 100000 in
theorem c_X6_force {l : Launch} {g : GG} {sz : Nat} {bb : Ob} {tx rw : Nat → Ob} {sb dy : Ob} {tn : Nat → Ob} {mo : Ob} {jk : Nat → Nat → Int32}  (p1 : Int32)  : Met l yX6_force (Cond.code yX6_force cX6_force 3 (some .int) :: TT) (rmL (2)) (va_Pc [.ref (gA g 58), .int p1] (gB g sz (gW g bb tx rw sb dy tn mo jk))) (va_Qi (fun r (u : Ob) => (F_X6_force mo p1) = (r, u)) (fun u t => gC g (va_A (gW g bb tx rw sb dy tn mo jk) sz) (gW g bb tx rw sb dy tn u jk) t) (va_A (gW g bb tx rw sb dy tn mo jk) sz)) 0 0 (va_A (gW g bb tx rw sb dy tn mo jk) sz) := by
  generalize hE : F_X6_force mo p1 = EE
  refine g_of (Qf := fun A => (va_Qi (fun r (u : Ob) => EE = (r, u)) (fun u t => gC g A (gW g bb tx rw sb dy tn u jk) t) A)) (cc := cX6_force) (maxL := 3) (ret := (some .int)) (by decide) (Nat.le_of_ble_eq_true rfl) ?_
  intro p e s m below meth c A ls hx hb hml hr hlocks hts hown hA hG hl
  replace hown : s.vm.findClass RX6 = some m.cls := hown
  replace hl : lv_has ls 3 [(0, .ref (gA g 58)), (1, .int p1)] := hl
  show W p l e (rmL (2)) s m [.ref (gA g 58), .int p1].toArray below meth c s.heap [] 0 0 (MQ below (va_Qi (fun r (u : Ob) => EE = (r, u)) (fun u t => gC g A (gW g bb tx rw sb dy tn u jk) t) A) [.ref (gA g 58), .int p1].toArray s 0 0 A) (F0 m 0 ls [])
  generalize hQ : MQ below (va_Qi (fun r (u : Ob) => EE = (r, u)) (fun u t => gC g A (gW g bb tx rw sb dy tn u jk) t) A) [.ref (gA g 58), .int p1].toArray s 0 0 A = Q
  unfold F_X6_force at hE
  refine lv_iload_n hx hb dX6_force_0 rfl (lv_at hl 1 rfl) ?_
  refine lv_iconst (v := 0) hx hb dX6_force_1 (by decide) ?_
  refine lv_aload_n hx hb dX6_force_2 rfl (lv_at hl 0 rfl) ?_
  refine g_get hx hb hts hiX6 hown hG gw_Model rfl 9 (by decide) (index := 85) tw_fl_RX6_85 (v := .int (mo.1 9)) rfl dX6_force_3 ?_
  refine lv_iconst (v := 1) hx hb dX6_force_6 (by decide) ?_
  refine lv_isub hx hb dX6_force_7 ?_
  refine g_si (g_runS (n := 3) (rest := []) hx hb hml hown hts hG (c_X6_in p1 0 ((mo.1 9) - 1)) tw_ml_RX6_81 tw_st_X6_in tw_in_RX6 tw_cd_X6_in (by decide +kernel) ⟨rfl, rfl, Nat.le_of_ble_eq_true rfl, Nat.le_of_ble_eq_true rfl⟩ rfl hl.1 rfl (Nat.le_of_ble_eq_true rfl) dX6_force_8 ⟨Nat.le_refl _, Nat.le_refl _⟩) hG hA (fun H locs hG => ?_)
  refine lv_if_ne (tgt := 17) hx hb dX6_force_11 (by decide) (fun c_11 => ?_) (fun c_11 => ?_)
  · replace hE := (if_neg c_11).symm.trans hE
    have i_11 : 0 ≤ p1.toInt ∧ p1.toInt ≤ ((mo.1 9) - 1).toInt := in_f c_11
    refine lv_aload_n hx hb dX6_force_17 rfl (lv_at hl 0 rfl) ?_
    refine g_get hx hb hts hiX6 hown hG gw_Model rfl 10 (by decide) (index := 88) tw_fl_RX6_88 (v := .int (mo.1 10)) rfl dX6_force_18 ?_
    refine lv_istore_n (lv' := [(2, .int (mo.1 10)), (0, .ref (gA g 58)), (1, .int p1)]) hx hb dX6_force_21 rfl hl (by decide) rfl (fun ls hl => ?_)
    replace hl := lv_sub hl [1, 2, 0] (l' := [(0, .ref (gA g 58)), (1, .int p1), (2, .int (mo.1 10))]) rfl
    refine lv_aload_n hx hb dX6_force_22 rfl (lv_at hl 0 rfl) ?_
    refine lv_iload_n hx hb dX6_force_23 rfl (lv_at hl 1 rfl) ?_
    refine g_put hx hb hts hiX6 tyX6 tyX6_ok nmX6 hown hG gw_Model rfl 10 (by decide) (index := 88) tw_fl_RX6_88 rfl rfl rfl (Nat.le_of_ble_eq_true rfl) gs_Model_f10 dX6_force_24 (fun H locs hG => ?_)
    refine lv_iload_n hx hb dX6_force_27 rfl (lv_at hl 2 rfl) ?_
    subst hQ
    exact g_iret hx hb hr hlocks hG (((setS mo 10 p1)) : Ob) rfl hE.symm dX6_force_28
  replace hE := (if_pos c_11).symm.trans hE
  refine lv_bipush (v := (-2)) hx hb dX6_force_14 (by decide) ?_
  subst hQ
  exact g_iret hx hb hr hlocks hG ((mo) : Ob) rfl hE.symm dX6_force_16
