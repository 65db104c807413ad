section STRINGS2
variable {p : Program} {l : Launch} {e : Env} {R : Room} {s : State} {m : MethodId} {args : Array Value} {below : List Frame} {meth : Method} {c : Code} {H : Heap} {locs : List Loc} {cells slots : Nat} {Q : State → Prop}
variable {pc : Nat} {ls : Array Slot} {rest st0 : List Value} {g : GG} {A : Nat → Prop} {w : va_W} {ar : Array Value}
theorem g_sr {b1 : Nat} (hr : va_Run p l e R s m args below meth c H locs cells slots 0 0 (F0 m pc ls st0) rest (va_Qr (fun (_ : Unit) => True) (fun _ x t => x = b1 ∧ gC g (va_A [] H.size) [] t) (va_A [] H.size) ar) (va_A [] H.size)) (hG : gS g A s H locs w) (hA : ∀ q, s.heap.size ≤ q → A q)
    (kk : ∀ (H1 : Heap) (locs1 : List Loc), gS g A s H1 locs1 w → W p l e R s m args below meth c H1 locs1 cells slots Q (F0 m (pc + 3) ls (.ref b1 :: rest))) : W p l e R s m args below meth c H locs cells slots Q (F0 m pc ls st0) :=
  va_callr hr hG.2.2.2 (fun q _ h => gS_free (gS_sub hG) hA q h) (gS_free (gS_sub hG) hA) (fun u ra t H1 locs1 ht hvm hp hB hz hk hS => by
    obtain ⟨rfl, hB⟩ := hB
    exact kk H1 locs1 (gS_kept hG hk hS))
end STRINGS2
def F_X2_wordIx (p0 : Int32) : Nat :=
  if p0 = (-6) then 5 else if p0 = (-5) then 4 else if p0 = (-4) then 3 else if p0 = (-3) then 2 else if p0 = (-2) then 1 else if p0 = (-1) then 0 else if p0 = 256 then 6 else if p0 = 257 then 7 else if p0 = 258 then 8 else if p0 = 259 then 9 else if p0 = 260 then 10 else 11
theorem wordIx_lt (p0 : Int32) : F_X2_wordIx p0 < 12 := by
  unfold F_X2_wordIx
  repeat' split
  all_goals decide
theorem len7 : ∀ i : Nat, i < 12 → (F_len i).toInt ≤ 7 := by decide +kernel
set_option maxHeartbeats 4000000 in
set_option maxRecDepth 100000 in
theorem c_X2_wordOf {l : Launch} {g : GG} {sz : Nat} (p0 : Int32) : Met l yX2_wordOf (Cond.code yX2_wordOf cX2_wordOf 1 (some (.object "java/lang/String")) :: TT) (rmL 1) (va_Pc [.int p0] (gB g sz [])) (va_Qr (fun (_ : Unit) => True) (fun _ x t => x = gA g (100 + F_X2_wordIx p0) ∧ gC g (va_A [] sz) [] t) (va_A [] sz)) 0 0 (va_A [] sz) := by
  generalize hE : F_X2_wordIx p0 = EE
  refine g_of (Qf := fun A => (va_Qr (fun (_ : Unit) => True) (fun _ x t => x = gA g (100 + EE) ∧ gC g A [] t) A)) (cc := cX2_wordOf) (maxL := 1) (ret := (some (.object "java/lang/String"))) (by decide) (Nat.le_of_ble_eq_true rfl) ?_
  intro p e s m below meth c A ls hx hb hml hr hlocks hts hown hA hG hl
  replace hown : s.vm.findClass RX2 = some m.cls := hown
  replace hl : lv_has ls 1 [(0, .int p0)] := hl
  unfold F_X2_wordIx at hE
  refine lv_iload_n hx hb dX2_wordOf_0 rfl (lv_at hl 0 rfl) ?_
  by_cases c0 : p0 = (-6)
  · replace hE := (if_pos c0).symm.trans hE
    refine lv_lookup (off := 114) (tgt := 115) hx hb dX2_wordOf_1 (by decide) (by rw [c0]; decide) (by decide) ?_
    subst hE
    refine va_ldcS hx hb hown (tx := "more") (q := gA g (100 + 5)) (hG.1.2.2.2.1 5 (by decide)) dX2_wordOf_115 ?_
    exact g_aret hx hb hr hlocks hG () rfl trivial dX2_wordOf_117
  replace hE := (if_neg c0).symm.trans hE
  by_cases c1 : p0 = (-5)
  · replace hE := (if_pos c1).symm.trans hE
    refine lv_lookup (off := 111) (tgt := 112) hx hb dX2_wordOf_1 (by decide) (by rw [c1]; decide) (by decide) ?_
    subst hE
    refine va_ldcS hx hb hown (tx := "people") (q := gA g (100 + 4)) (hG.1.2.2.2.1 4 (by decide)) dX2_wordOf_112 ?_
    exact g_aret hx hb hr hlocks hG () rfl trivial dX2_wordOf_114
  replace hE := (if_neg c1).symm.trans hE
  by_cases c2 : p0 = (-4)
  · replace hE := (if_pos c2).symm.trans hE
    refine lv_lookup (off := 108) (tgt := 109) hx hb dX2_wordOf_1 (by decide) (by rw [c2]; decide) (by decide) ?_
    subst hE
    refine va_ldcS hx hb hown (tx := "last") (q := gA g (100 + 3)) (hG.1.2.2.2.1 3 (by decide)) dX2_wordOf_109 ?_
    exact g_aret hx hb hr hlocks hG () rfl trivial dX2_wordOf_111
  replace hE := (if_neg c2).symm.trans hE
  by_cases c3 : p0 = (-3)
  · replace hE := (if_pos c3).symm.trans hE
    refine lv_lookup (off := 105) (tgt := 106) hx hb dX2_wordOf_1 (by decide) (by rw [c3]; decide) (by decide) ?_
    subst hE
    refine va_ldcS hx hb hown (tx := "hour") (q := gA g (100 + 2)) (hG.1.2.2.2.1 2 (by decide)) dX2_wordOf_106 ?_
    exact g_aret hx hb hr hlocks hG () rfl trivial dX2_wordOf_108
  replace hE := (if_neg c3).symm.trans hE
  by_cases c4 : p0 = (-2)
  · replace hE := (if_pos c4).symm.trans hE
    refine lv_lookup (off := 102) (tgt := 103) hx hb dX2_wordOf_1 (by decide) (by rw [c4]; decide) (by decide) ?_
    subst hE
    refine va_ldcS hx hb hown (tx := "told") (q := gA g (100 + 1)) (hG.1.2.2.2.1 1 (by decide)) dX2_wordOf_103 ?_
    exact g_aret hx hb hr hlocks hG () rfl trivial dX2_wordOf_105
  replace hE := (if_neg c4).symm.trans hE
  by_cases c5 : p0 = (-1)
  · replace hE := (if_pos c5).symm.trans hE
    refine lv_lookup (off := 99) (tgt := 100) hx hb dX2_wordOf_1 (by decide) (by rw [c5]; decide) (by decide) ?_
    subst hE
    refine va_ldcS hx hb hown (tx := "nerve") (q := gA g (100 + 0)) (hG.1.2.2.2.1 0 (by decide)) dX2_wordOf_100 ?_
    exact g_aret hx hb hr hlocks hG () rfl trivial dX2_wordOf_102
  replace hE := (if_neg c5).symm.trans hE
  by_cases c6 : p0 = 256
  · replace hE := (if_pos c6).symm.trans hE
    refine lv_lookup (off := 117) (tgt := 118) hx hb dX2_wordOf_1 (by decide) (by rw [c6]; decide) (by decide) ?_
    subst hE
    refine va_ldcS hx hb hown (tx := "lies") (q := gA g (100 + 6)) (hG.1.2.2.2.1 6 (by decide)) dX2_wordOf_118 ?_
    exact g_aret hx hb hr hlocks hG () rfl trivial dX2_wordOf_120
  replace hE := (if_neg c6).symm.trans hE
  by_cases c7 : p0 = 257
  · replace hE := (if_pos c7).symm.trans hE
    refine lv_lookup (off := 120) (tgt := 121) hx hb dX2_wordOf_1 (by decide) (by rw [c7]; decide) (by decide) ?_
    subst hE
    refine va_ldcS hx hb hown (tx := "costs") (q := gA g (100 + 7)) (hG.1.2.2.2.1 7 (by decide)) dX2_wordOf_121 ?_
    exact g_aret hx hb hr hlocks hG () rfl trivial dX2_wordOf_123
  replace hE := (if_neg c7).symm.trans hE
  by_cases c8 : p0 = 258
  · replace hE := (if_pos c8).symm.trans hE
    refine lv_lookup (off := 123) (tgt := 124) hx hb dX2_wordOf_1 (by decide) (by rw [c8]; decide) (by decide) ?_
    subst hE
    refine va_ldcS hx hb hown (tx := "strokes") (q := gA g (100 + 8)) (hG.1.2.2.2.1 8 (by decide)) dX2_wordOf_124 ?_
    exact g_aret hx hb hr hlocks hG () rfl trivial dX2_wordOf_126
  replace hE := (if_neg c8).symm.trans hE
  by_cases c9 : p0 = 259
  · replace hE := (if_pos c9).symm.trans hE
    refine lv_lookup (off := 126) (tgt := 127) hx hb dX2_wordOf_1 (by decide) (by rw [c9]; decide) (by decide) ?_
    subst hE
    refine va_ldcS hx hb hown (tx := "or") (q := gA g (100 + 9)) (hG.1.2.2.2.1 9 (by decide)) dX2_wordOf_127 ?_
    exact g_aret hx hb hr hlocks hG () rfl trivial dX2_wordOf_129
  replace hE := (if_neg c9).symm.trans hE
  by_cases c10 : p0 = 260
  · replace hE := (if_pos c10).symm.trans hE
    refine lv_lookup (off := 129) (tgt := 130) hx hb dX2_wordOf_1 (by decide) (by rw [c10]; decide) (by decide) ?_
    subst hE
    refine va_ldcS hx hb hown (tx := "and") (q := gA g (100 + 10)) (hG.1.2.2.2.1 10 (by decide)) dX2_wordOf_130 ?_
    exact g_aret hx hb hr hlocks hG () rfl trivial dX2_wordOf_132
  replace hE := (if_neg c10).symm.trans hE
  refine lv_lookup (off := 132) (tgt := 133) hx hb dX2_wordOf_1 (by decide) (by show Op.lookupswitch.offset [((-6), 114), ((-5), 111), ((-4), 108), ((-3), 105), ((-2), 102), ((-1), 99), (256, 117), (257, 120), (258, 123), (259, 126), (260, 129)] 132 p0.toInt = _; rw [lv_osw c0 (a := (-6)) (by decide), lv_osw c1 (a := (-5)) (by decide), lv_osw c2 (a := (-4)) (by decide), lv_osw c3 (a := (-3)) (by decide), lv_osw c4 (a := (-2)) (by decide), lv_osw c5 (a := (-1)) (by decide), lv_osw c6 (a := 256) (by decide), lv_osw c7 (a := 257) (by decide), lv_osw c8 (a := 258) (by decide), lv_osw c9 (a := 259) (by decide), lv_osw c10 (a := 260) (by decide)]; rfl) (by decide) ?_
  subst hE
  refine va_ldcS hx hb hown (tx := "not") (q := gA g (100 + 11)) (hG.1.2.2.2.1 11 (by decide)) dX2_wordOf_133 ?_
  exact g_aret hx hb hr hlocks hG () rfl trivial dX2_wordOf_135
def F_X2_byteAt (sb : Ob) (p1 : Int32) : Int32 :=
  (if p1 < 0 then 0 else (if (sb.1 1) ≤ p1 then 0 else (if 160 ≤ p1 then 0 else ((sb.2 0) (Int32.toNatClampNeg p1)))))
set_option maxHeartbeats 4000000 in
set_option maxRecDepth 100000 in
theorem c_X2_byteAt {l : Launch} {g : GG} {sz : Nat} {bb : Ob} {tx rw : Nat → Ob} {sb dy : Ob} {tn : Nat → Ob} {mo : Ob} {jk : Nat → Nat → Int32}  (p1 : Int32)  : Met l yX2_byteAt (Cond.code yX2_byteAt cX2_byteAt 2 (some .int) :: TT) (rmL 1) (va_Pc [.ref (gA g 35), .int p1] (gB g sz (gW g bb tx rw sb dy tn mo jk))) (va_Qi (fun r (_ : Unit) => r = (F_X2_byteAt sb p1)) (fun u t => gC g (va_A (gW g bb tx rw sb dy tn mo jk) sz) (gW g bb tx rw sb dy tn mo jk) t) (va_A (gW g bb tx rw sb dy tn mo jk) sz)) 0 0 (va_A (gW g bb tx rw sb dy tn mo jk) sz) := by
  generalize hE : F_X2_byteAt sb p1 = EE
  refine g_of (Qf := fun A => (va_Qi (fun r (_ : Unit) => r = EE) (fun u t => gC g A (gW g bb tx rw sb dy tn mo jk) t) A)) (cc := cX2_byteAt) (maxL := 2) (ret := (some .int)) (by decide) (Nat.le_of_ble_eq_true rfl) ?_
  intro p e s m below meth c A ls hx hb hml hr hlocks hts hown hA hG hl
  replace hown : s.vm.findClass RX2 = some m.cls := hown
  replace hl : lv_has ls 2 [(0, .ref (gA g 35)), (1, .int p1)] := hl
  show W p l e (rmL 1) s m [.ref (gA g 35), .int p1].toArray below meth c s.heap [] 0 0 (MQ below (va_Qi (fun r (_ : Unit) => r = EE) (fun u t => gC g A (gW g bb tx rw sb dy tn mo jk) t) A) [.ref (gA g 35), .int p1].toArray s 0 0 A) (F0 m 0 ls [])
  generalize hQ : MQ below (va_Qi (fun r (_ : Unit) => r = EE) (fun u t => gC g A (gW g bb tx rw sb dy tn mo jk) t) A) [.ref (gA g 35), .int p1].toArray s 0 0 A = Q
  unfold F_X2_byteAt at hE
  refine lv_iload_n hx hb dX2_byteAt_0 rfl (lv_at hl 1 rfl) ?_
  refine lv_if_lt (tgt := 28) hx hb dX2_byteAt_1 (by decide) (fun c_1 => ?_) (fun c_1 => ?_)
  · replace hE := (if_pos c_1).symm.trans hE
    have i_1 : p1.toInt < 0 := i_lt.mp c_1
    refine lv_iconst (v := 0) hx hb dX2_byteAt_28 (by decide) ?_
    subst hQ
    exact g_iret hx hb hr hlocks hG () rfl hE dX2_byteAt_29
  replace hE := (if_neg c_1).symm.trans hE
  have i_1 : 0 ≤ p1.toInt := i_nlt c_1
  refine lv_iload_n hx hb dX2_byteAt_4 rfl (lv_at hl 1 rfl) ?_
  refine lv_aload_n hx hb dX2_byteAt_5 rfl (lv_at hl 0 rfl) ?_
  refine g_get hx hb hts hiX2 hown hG gw_Scribe rfl 1 (by decide) (index := 15) tw_fl_RX2_15 (v := .int (sb.1 1)) rfl dX2_byteAt_6 ?_
  refine lv_icmp_ge (tgt := 28) hx hb dX2_byteAt_9 (by decide) (fun c_9 => ?_) (fun c_9 => ?_)
  · replace hE := (if_pos c_9).symm.trans hE
    have i_9 : (sb.1 1).toInt ≤ p1.toInt := i_le.mp c_9
    refine lv_iconst (v := 0) hx hb dX2_byteAt_28 (by decide) ?_
    subst hQ
    exact g_iret hx hb hr hlocks hG () rfl hE dX2_byteAt_29
  replace hE := (if_neg c_9).symm.trans hE
  have i_9 : p1.toInt < (sb.1 1).toInt := i_nle c_9
  refine lv_iload_n hx hb dX2_byteAt_12 rfl (lv_at hl 1 rfl) ?_
  refine lv_sipush (v := 160) hx hb dX2_byteAt_13 (by decide) ?_
  refine lv_icmp_ge (tgt := 28) hx hb dX2_byteAt_16 (by decide) (fun c_16 => ?_) (fun c_16 => ?_)
  · replace hE := (if_pos c_16).symm.trans hE
    have i_16 : 160 ≤ p1.toInt := i_le.mp c_16
    refine lv_iconst (v := 0) hx hb dX2_byteAt_28 (by decide) ?_
    subst hQ
    exact g_iret hx hb hr hlocks hG () rfl hE dX2_byteAt_29
  replace hE := (if_neg c_16).symm.trans hE
  have i_16 : p1.toInt < 160 := i_nle c_16
  refine lv_aload_n hx hb dX2_byteAt_19 rfl (lv_at hl 0 rfl) ?_
  refine g_get hx hb hts hiX2 hown hG gw_Scribe rfl 0 (by decide) (index := 9) tw_fl_RX2_9 (v := .ref (gA g 36)) rfl dX2_byteAt_20 ?_
  refine lv_iload_n hx hb dX2_byteAt_23 rfl (lv_at hl 1 rfl) ?_
  refine g_ild hx hb hG gw_Scribe_a0 (vp_i (by clear hE; omega) (by clear hE; omega)) dX2_byteAt_24 ?_
  refine lv_goto (tgt := 29) hx hb dX2_byteAt_25 (by decide) ?_
  subst hQ
  exact g_iret hx hb hr hlocks hG () rfl hE dX2_byteAt_29
def F_X2_isWord_l20 : Nat → Ob → Nat → Int32 → Int32
  | 0, _, _, _ => 0
  | n + 1, sb, i2, x2 =>
    (if (F_len i2) ≤ x2 then 1 else (if (F_X2_byteAt sb ((sb.1 3) + x2)) = (F_chr i2 x2) then ((F_X2_isWord_l20 n ) sb i2 (x2 + 1)) else 0))
def F_X2_isWord (sb : Ob) (i2 : Nat) : Int32 :=
  (if ((sb.1 2) - (sb.1 3)) = (F_len i2) then (F_X2_isWord_l20 9  sb i2 0) else 0)
set_option maxHeartbeats 4000000 in
set_option maxRecDepth 100000 in
theorem c_X2_isWord {l : Launch} {g : GG} {sz : Nat} {bb : Ob} {tx rw : Nat → Ob} {sb dy : Ob} {tn : Nat → Ob} {mo : Ob} {jk : Nat → Nat → Int32} {i2 : Nat} (hi2 : i2 < 12)   : Met l yX2_isWord (Cond.code yX2_isWord cX2_isWord 3 (some .boolean) :: TT) (rmL 5) (va_Pc [.ref (gA g 35), .ref (gA g (100 + i2))] (gB g sz (gW g bb tx rw sb dy tn mo jk))) (va_Qi (fun r (_ : Unit) => r = (F_X2_isWord sb i2)) (fun u t => gC g (va_A (gW g bb tx rw sb dy tn mo jk) sz) (gW g bb tx rw sb dy tn mo jk) t) (va_A (gW g bb tx rw sb dy tn mo jk) sz)) 0 0 (va_A (gW g bb tx rw sb dy tn mo jk) sz) := by
  generalize hE : F_X2_isWord sb i2 = EE
  refine g_of (Qf := fun A => (va_Qi (fun r (_ : Unit) => r = EE) (fun u t => gC g A (gW g bb tx rw sb dy tn mo jk) t) A)) (cc := cX2_isWord) (maxL := 3) (ret := (some .boolean)) (by decide) (Nat.le_of_ble_eq_true rfl) ?_
  intro p e s m below meth c A ls hx hb hml hr hlocks hts hown hA hG hl
  replace hown : s.vm.findClass RX2 = some m.cls := hown
  replace hl : lv_has ls 3 [(0, .ref (gA g 35)), (1, .ref (gA g (100 + i2)))] := hl
  show W p l e (rmL 5) s m [.ref (gA g 35), .ref (gA g (100 + i2))].toArray below meth c s.heap [] 0 0 (MQ below (va_Qi (fun r (_ : Unit) => r = EE) (fun u t => gC g A (gW g bb tx rw sb dy tn mo jk) t) A) [.ref (gA g 35), .ref (gA g (100 + i2))].toArray s 0 0 A) (F0 m 0 ls [])
  generalize hQ : MQ below (va_Qi (fun r (_ : Unit) => r = EE) (fun u t => gC g A (gW g bb tx rw sb dy tn mo jk) t) A) [.ref (gA g 35), .ref (gA g (100 + i2))].toArray s 0 0 A = Q
  have hlen := len7 _ hi2
  unfold F_X2_isWord at hE
  refine lv_aload_n hx hb dX2_isWord_0 rfl (lv_at hl 0 rfl) ?_
  refine g_get hx hb hts hiX2 hown hG gw_Scribe rfl 2 (by decide) (index := 19) tw_fl_RX2_19 (v := .int (sb.1 2)) rfl dX2_isWord_1 ?_
  refine lv_aload_n hx hb dX2_isWord_4 rfl (lv_at hl 0 rfl) ?_
  refine g_get hx hb hts hiX2 hown hG gw_Scribe rfl 3 (by decide) (index := 50) tw_fl_RX2_50 (v := .int (sb.1 3)) rfl dX2_isWord_5 ?_
  refine lv_isub hx hb dX2_isWord_8 ?_
  refine lv_aload_n hx hb dX2_isWord_9 rfl (lv_at hl 1 rfl) ?_
  refine g_si (g_runK (i := i2) (n := 0) (rest := [.int ((sb.1 2) - (sb.1 3))]) hx hb hml hown hts hG (c_length hi2) tw_ml_RX2_105 tw_im_J0_length_8abf5 tw_se_J0_length_8abf5 tw_in_RJ0 tw_cd_J0_length_8abf5 (by decide +kernel) ⟨rfl, rfl, Nat.le_of_ble_eq_true rfl, Nat.le_of_ble_eq_true rfl⟩ hi2 rfl rfl hl.1 rfl (Nat.le_of_ble_eq_true rfl) dX2_isWord_10 ⟨Nat.le_refl _, Nat.le_refl _⟩) hG hA (fun H locs hG => ?_)
  refine lv_icmp_eq (tgt := 18) hx hb dX2_isWord_13 (by decide) (fun c_13 => ?_) (fun c_13 => ?_)
  · replace hE := (if_pos c_13).symm.trans hE
    have i_13 : ((sb.1 2) - (sb.1 3)).toInt = (F_len i2).toInt := congrArg Int32.toInt c_13
    refine lv_iconst (v := 0) hx hb dX2_isWord_18 (by decide) ?_
    refine lv_istore_n (lv' := [(2, .int 0), (0, .ref (gA g 35)), (1, .ref (gA g (100 + i2)))]) hx hb dX2_isWord_19 rfl hl (by decide) rfl (fun ls hl => ?_)
    replace hl := lv_sub hl [1, 2, 0] (l' := [(0, .ref (gA g 35)), (1, .ref (gA g (100 + i2))), (2, .int 0)]) rfl
    have L20 : ∀ (n20 : Nat) (x2_20 : Int32) (H : Heap) (locs : List Loc), gS g A s H locs (gW g bb tx rw sb dy tn mo jk) → ∀ ls : Array Slot, lv_has ls 3 [(0, .ref (gA g 35)), (1, .ref (gA g (100 + i2))), (2, .int x2_20)] → 0 ≤ x2_20.toInt → x2_20.toInt ≤ 8 → 8 < x2_20.toInt + n20 → F_X2_isWord_l20 n20  sb i2 x2_20 = EE → W p l e (rmL 5) s m [.ref (gA g 35), .ref (gA g (100 + i2))].toArray below meth c H locs 0 0 Q (F0 m 20 ls []) := by
      intro n20
      induction n20 with
      | zero =>
        intro x2_20 H locs hG ls hl h0_20 h1_20 hm_20 hE
        clear hE; omega
      | succ n20 ih20 =>
        intro x2_20 H locs hG ls hl h0_20 h1_20 hm_20 hE
        unfold F_X2_isWord_l20 at hE
        refine lv_iload_n hx hb dX2_isWord_20 rfl (lv_at hl 2 rfl) ?_
        refine lv_aload_n hx hb dX2_isWord_21 rfl (lv_at hl 1 rfl) ?_
        refine g_si (g_runK (i := i2) (n := 0) (rest := [.int x2_20]) hx hb hml hown hts hG (c_length hi2) tw_ml_RX2_105 tw_im_J0_length_8abf5 tw_se_J0_length_8abf5 tw_in_RJ0 tw_cd_J0_length_8abf5 (by decide +kernel) ⟨rfl, rfl, Nat.le_of_ble_eq_true rfl, Nat.le_of_ble_eq_true rfl⟩ hi2 rfl rfl hl.1 rfl (Nat.le_of_ble_eq_true rfl) dX2_isWord_22 ⟨Nat.le_refl _, Nat.le_refl _⟩) hG hA (fun H locs hG => ?_)
        refine lv_icmp_ge (tgt := 54) hx hb dX2_isWord_25 (by decide) (fun c_25 => ?_) (fun c_25 => ?_)
        · replace hE := (if_pos c_25).symm.trans hE
          have i_25 : (F_len i2).toInt ≤ x2_20.toInt := i_le.mp c_25
          refine lv_iconst (v := 1) hx hb dX2_isWord_54 (by decide) ?_
          subst hQ
          exact g_zret hx hb hr hlocks hG (Or.inr rfl) () rfl hE dX2_isWord_55
        replace hE := (if_neg c_25).symm.trans hE
        have i_25 : x2_20.toInt < (F_len i2).toInt := i_nle c_25
        refine lv_aload_n hx hb dX2_isWord_28 rfl (lv_at hl 0 rfl) ?_
        refine lv_aload_n hx hb dX2_isWord_29 rfl (lv_at hl 0 rfl) ?_
        refine g_get hx hb hts hiX2 hown hG gw_Scribe rfl 3 (by decide) (index := 50) tw_fl_RX2_50 (v := .int (sb.1 3)) rfl dX2_isWord_30 ?_
        refine lv_iload_n hx hb dX2_isWord_33 rfl (lv_at hl 2 rfl) ?_
        refine lv_iadd hx hb dX2_isWord_34 ?_
        refine g_ci (g_runV (n := 1) (rest := []) hx hb hml hown hts hG (c_X2_byteAt ((sb.1 3) + x2_20)) tw_ml_RX2_78 tw_im_X2_byteAt tw_se_X2_byteAt tw_in_RX2 tw_cd_X2_byteAt (by decide +kernel) ⟨rfl, rfl, Nat.le_of_ble_eq_true rfl, Nat.le_of_ble_eq_true rfl⟩ gw_Scribe rfl rfl hl.1 rfl (Nat.le_of_ble_eq_true rfl) dX2_isWord_35 ⟨Nat.le_refl _, Nat.le_refl _⟩) hG hA (fun r _ H locs hp hG => ?_)
        subst hp
        replace hG : gS g A s H locs (gW g bb tx rw sb dy tn mo jk) := hG
        refine lv_aload_n hx hb dX2_isWord_38 rfl (lv_at hl 1 rfl) ?_
        refine lv_iload_n hx hb dX2_isWord_39 rfl (lv_at hl 2 rfl) ?_
        refine g_si (g_runK (i := i2) (n := 1) (rest := [.int (F_X2_byteAt sb ((sb.1 3) + x2_20))]) hx hb hml hown hts hG (c_charAt hi2 x2_20 (by clear hE; omega) (by clear hE; omega)) tw_ml_RX2_111 tw_im_J0_charAt_5068e tw_se_J0_charAt_5068e tw_in_RJ0 tw_cd_J0_charAt_5068e (by decide +kernel) ⟨rfl, rfl, Nat.le_of_ble_eq_true rfl, Nat.le_of_ble_eq_true rfl⟩ hi2 rfl rfl hl.1 rfl (Nat.le_of_ble_eq_true rfl) dX2_isWord_40 ⟨Nat.le_refl _, Nat.le_refl _⟩) hG hA (fun H locs hG => ?_)
        refine lv_icmp_eq (tgt := 48) hx hb dX2_isWord_43 (by decide) (fun c_43 => ?_) (fun c_43 => ?_)
        · replace hE := (if_pos c_43).symm.trans hE
          refine lv_iinc (v := (x2_20 + 1)) (lv' := [(2, .int (x2_20 + 1)), (0, .ref (gA g 35)), (1, .ref (gA g (100 + i2)))]) hx hb dX2_isWord_48 hl (k := 2) rfl rfl (by decide) rfl (fun ls hl => ?_)
          replace hl := lv_sub hl [1, 2, 0] (l' := [(0, .ref (gA g 35)), (1, .ref (gA g (100 + i2))), (2, .int (x2_20 + 1))]) rfl
          refine lv_goto (tgt := 20) hx hb dX2_isWord_51 (by decide) ?_
          have e1 : (x2_20 + 1).toInt = x2_20.toInt + 1 := addL (k := 1) (by decide +kernel) (by clear hE; omega) (by clear hE; omega)
          exact ih20 (x2_20 + 1) _ _ hG _ (lv_sub hl [0, 1, 2] rfl) (by clear hE; omega) (by clear hE; omega) (by clear hE; omega) hE
        replace hE := (if_neg c_43).symm.trans hE
        refine lv_iconst (v := 0) hx hb dX2_isWord_46 (by decide) ?_
        subst hQ
        exact g_zret hx hb hr hlocks hG (Or.inl rfl) () rfl hE dX2_isWord_47
    exact L20 9 0 _ _ hG _ (lv_sub hl [0, 1, 2] rfl) (by decide) (by decide) (by decide) hE
  replace hE := (if_neg c_13).symm.trans hE
  have i_13 : ((sb.1 2) - (sb.1 3)).toInt ≠ (F_len i2).toInt := fun h => c_13 (Int32.toInt_inj.mp h)
  refine lv_iconst (v := 0) hx hb dX2_isWord_16 (by decide) ?_
  subst hQ
  exact g_zret hx hb hr hlocks hG (Or.inl rfl) () rfl hE dX2_isWord_17
def F_X2_takeWord_b100 (K77 : Ob → Int32 → Ob) (sb : Ob) (x1 : Int32) : Ob :=
  (K77 sb (x1 + 1))
def F_X2_takeWord_l77 : Nat → Ob → Int32 → Ob
  | 0, sb, _ => sb
  | n + 1, sb, x1 =>
    (if 261 < x1 then sb else (if (F_X2_isWord sb (F_X2_wordIx x1)) = 0 then (F_X2_takeWord_b100 (F_X2_takeWord_l77 n ) sb x1) else (F_X2_takeWord_b100 (F_X2_takeWord_l77 n ) (setS sb 4 x1) x1)))
def F_X2_takeWord_b67 (K46 : Ob → Int32 → Ob) (sb : Ob) (x1 : Int32) : Ob :=
  (K46 sb (x1 + 1))
def F_X2_takeWord_l46 : Nat → Ob → Int32 → Ob
  | 0, sb, _ => sb
  | n + 1, sb, x1 =>
    (if (-1) < x1 then (F_X2_takeWord_l77 7  sb 256) else (if (F_X2_isWord sb (F_X2_wordIx x1)) = 0 then (F_X2_takeWord_b67 (F_X2_takeWord_l46 n ) sb x1) else (F_X2_takeWord_b67 (F_X2_takeWord_l46 n ) (setS sb 4 x1) x1)))
def F_X2_takeWord_b38 (sb : Ob) : Ob :=
  (F_X2_takeWord_l46 7  (setS sb 4 1) (-6))
def F_X2_takeWord_l0 : Nat → Ob → Ob
  | 0, sb => sb
  | n + 1, sb =>
    (if (sb.1 1) ≤ (sb.1 2) then (F_X2_takeWord_b38  sb) else (if (F_X2_isLetter (F_X2_byteAt sb (sb.1 2))) = 0 then (F_X2_takeWord_b38  sb) else ((F_X2_takeWord_l0 n ) (setS sb 2 ((sb.1 2) + 1)))))
def F_X2_takeWord (sb : Ob) : Ob :=
  (F_X2_takeWord_l0 161  sb)
set_option maxHeartbeats 4000000 in
set_option maxRecDepth 100000 in
theorem c_X2_takeWord {l : Launch} {g : GG} {sz : Nat} {bb : Ob} {tx rw : Nat → Ob} {sb dy : Ob} {tn : Nat → Ob} {mo : Ob} {jk : Nat → Nat → Int32}   (hok : 0 ≤ (sb.1 2).toInt ∧ (sb.1 2).toInt ≤ 160 ∧ (sb.1 1).toInt ≤ 160) : Met l yX2_takeWord (Cond.code yX2_takeWord cX2_takeWord 2 none :: TT) (rmL 6) (va_Pc [.ref (gA g 35)] (gB g sz (gW g bb tx rw sb dy tn mo jk))) (va_Qv (fun (u : Ob) => (F_X2_takeWord sb) = (u)) (fun u t => gC g (va_A (gW g bb tx rw sb dy tn mo jk) sz) (gW g bb tx rw u dy tn mo jk) t) (va_A (gW g bb tx rw sb dy tn mo jk) sz)) 0 0 (va_A (gW g bb tx rw sb dy tn mo jk) sz) := by
  generalize hE : F_X2_takeWord sb = EE
  refine g_of (Qf := fun A => (va_Qv (fun (u : Ob) => EE = (u)) (fun u t => gC g A (gW g bb tx rw u dy tn mo jk) t) A)) (cc := cX2_takeWord) (maxL := 2) (ret := none) (by decide) (Nat.le_of_ble_eq_true rfl) ?_
  intro p e s m below meth c A ls hx hb hml hr hlocks hts hown hA hG hl
  replace hown : s.vm.findClass RX2 = some m.cls := hown
  replace hl : lv_has ls 2 [(0, .ref (gA g 35))] := hl
  show W p l e (rmL 6) s m [.ref (gA g 35)].toArray below meth c s.heap [] 0 0 (MQ below (va_Qv (fun (u : Ob) => EE = (u)) (fun u t => gC g A (gW g bb tx rw u dy tn mo jk) t) A) [.ref (gA g 35)].toArray s 0 0 A) (F0 m 0 ls [])
  generalize hQ : MQ below (va_Qv (fun (u : Ob) => EE = (u)) (fun u t => gC g A (gW g bb tx rw u dy tn mo jk) t) A) [.ref (gA g 35)].toArray s 0 0 A = Q
  unfold F_X2_takeWord at hE
  have L0 : ∀ (n0 : Nat) (sb_0 : Ob) (H : Heap) (locs : List Loc), gS g A s H locs (gW g bb tx rw sb_0 dy tn mo jk) → ∀ ls : Array Slot, lv_has ls 2 [(0, .ref (gA g 35))] → 0 ≤ (sb_0.1 2).toInt → (sb_0.1 2).toInt ≤ 160 → (sb_0.1 1).toInt ≤ 160 → 160 < (sb_0.1 2).toInt + n0 → F_X2_takeWord_l0 n0  sb_0 = EE → W p l e (rmL 6) s m [.ref (gA g 35)].toArray below meth c H locs 0 0 Q (F0 m 0 ls []) := by
    intro n0
    induction n0 with
    | zero =>
      intro sb_0 H locs hG ls hl h0_0 h1_0 h2_0 hm_0 hE
      clear hE; omega
    | succ n0 ih0 =>
      intro sb_0 H locs hG ls hl h0_0 h1_0 h2_0 hm_0 hE
      unfold F_X2_takeWord_l0 at hE
      refine lv_aload_n hx hb dX2_takeWord_0 rfl (lv_at hl 0 rfl) ?_
      refine g_get hx hb hts hiX2 hown hG gw_Scribe rfl 2 (by decide) (index := 19) tw_fl_RX2_19 (v := .int (sb_0.1 2)) rfl dX2_takeWord_1 ?_
      refine lv_aload_n hx hb dX2_takeWord_4 rfl (lv_at hl 0 rfl) ?_
      refine g_get hx hb hts hiX2 hown hG gw_Scribe rfl 1 (by decide) (index := 15) tw_fl_RX2_15 (v := .int (sb_0.1 1)) rfl dX2_takeWord_5 ?_
      have J38 : ∀  (H : Heap) (locs : List Loc), gS g A s H locs (gW g bb tx rw sb_0 dy tn mo jk) → ∀ ls : Array Slot, lv_has ls 2 [(0, .ref (gA g 35))] → F_X2_takeWord_b38   sb_0 = EE → W p l e (rmL 6) s m [.ref (gA g 35)].toArray below meth c H locs 0 0 Q (F0 m 38 ls []) := by
        intro  H locs hG ls hl  hE
        unfold F_X2_takeWord_b38 at hE
        refine lv_aload_n hx hb dX2_takeWord_38 rfl (lv_at hl 0 rfl) ?_
        refine lv_iconst (v := 1) hx hb dX2_takeWord_39 (by decide) ?_
        refine g_put hx hb hts hiX2 tyX2 tyX2_ok nmX2 hown hG gw_Scribe rfl 4 (by decide) (index := 44) tw_fl_RX2_44 rfl rfl rfl (Nat.le_of_ble_eq_true rfl) gs_Scribe_f4 dX2_takeWord_40 (fun H locs hG => ?_)
        refine lv_bipush (v := (-6)) hx hb dX2_takeWord_43 (by decide) ?_
        refine lv_istore_n (lv' := [(1, .int (-6)), (0, .ref (gA g 35))]) hx hb dX2_takeWord_45 rfl hl (by decide) rfl (fun ls hl => ?_)
        replace hl := lv_sub hl [1, 0] (l' := [(0, .ref (gA g 35)), (1, .int (-6))]) rfl
        have L46 : ∀ (n46 : Nat) (x1_46 : Int32) (sb_46 : Ob) (H : Heap) (locs : List Loc), gS g A s H locs (gW g bb tx rw sb_46 dy tn mo jk) → ∀ ls : Array Slot, lv_has ls 2 [(0, .ref (gA g 35)), (1, .int x1_46)] → -6 ≤ x1_46.toInt → x1_46.toInt ≤ 0 → 0 < x1_46.toInt + n46 → F_X2_takeWord_l46 n46  sb_46 x1_46 = EE → W p l e (rmL 6) s m [.ref (gA g 35)].toArray below meth c H locs 0 0 Q (F0 m 46 ls []) := by
          intro n46
          induction n46 with
          | zero =>
            intro x1_46 sb_46 H locs hG ls hl h0_46 h1_46 hm_46 hE
            clear hE; omega
          | succ n46 ih46 =>
            intro x1_46 sb_46 H locs hG ls hl h0_46 h1_46 hm_46 hE
            unfold F_X2_takeWord_l46 at hE
            refine lv_iload_n hx hb dX2_takeWord_46 rfl (lv_at hl 1 rfl) ?_
            refine lv_iconst (v := (-1)) hx hb dX2_takeWord_47 (by decide) ?_
            refine lv_icmp_gt (tgt := 73) hx hb dX2_takeWord_48 (by decide) (fun c_48 => ?_) (fun c_48 => ?_)
            · replace hE := (if_pos c_48).symm.trans hE
              have i_48 : (-1) < x1_46.toInt := i_lt.mp c_48
              refine lv_sipush (v := 256) hx hb dX2_takeWord_73 (by decide) ?_
              refine lv_istore_n (lv' := [(1, .int 256), (0, .ref (gA g 35))]) hx hb dX2_takeWord_76 rfl hl (by decide) rfl (fun ls hl => ?_)
              replace hl := lv_sub hl [1, 0] (l' := [(0, .ref (gA g 35)), (1, .int 256)]) rfl
              have L77 : ∀ (n77 : Nat) (x1_77 : Int32) (sb_77 : Ob) (H : Heap) (locs : List Loc), gS g A s H locs (gW g bb tx rw sb_77 dy tn mo jk) → ∀ ls : Array Slot, lv_has ls 2 [(0, .ref (gA g 35)), (1, .int x1_77)] → 256 ≤ x1_77.toInt → x1_77.toInt ≤ 262 → 262 < x1_77.toInt + n77 → F_X2_takeWord_l77 n77  sb_77 x1_77 = EE → W p l e (rmL 6) s m [.ref (gA g 35)].toArray below meth c H locs 0 0 Q (F0 m 77 ls []) := by
                intro n77
                induction n77 with
                | zero =>
                  intro x1_77 sb_77 H locs hG ls hl h0_77 h1_77 hm_77 hE
                  clear hE; omega
                | succ n77 ih77 =>
                  intro x1_77 sb_77 H locs hG ls hl h0_77 h1_77 hm_77 hE
                  unfold F_X2_takeWord_l77 at hE
                  refine lv_iload_n hx hb dX2_takeWord_77 rfl (lv_at hl 1 rfl) ?_
                  refine lv_sipush (v := 261) hx hb dX2_takeWord_78 (by decide) ?_
                  refine lv_icmp_gt (tgt := 106) hx hb dX2_takeWord_81 (by decide) (fun c_81 => ?_) (fun c_81 => ?_)
                  · replace hE := (if_pos c_81).symm.trans hE
                    have i_81 : 261 < x1_77.toInt := i_lt.mp c_81
                    subst hQ
                    exact g_vret hx hb hr hlocks hG ((sb_77) : Ob) rfl hE.symm dX2_takeWord_106
                  replace hE := (if_neg c_81).symm.trans hE
                  have i_81 : x1_77.toInt ≤ 261 := i_nlt c_81
                  refine lv_aload_n hx hb dX2_takeWord_84 rfl (lv_at hl 0 rfl) ?_
                  refine lv_iload_n hx hb dX2_takeWord_85 rfl (lv_at hl 1 rfl) ?_
                  refine g_sr (g_runS (n := 1) (rest := [.ref (gA g 35)]) hx hb hml hown hts hG (c_X2_wordOf x1_77) tw_ml_RX2_97 tw_st_X2_wordOf tw_in_RX2 tw_cd_X2_wordOf (by decide +kernel) ⟨rfl, rfl, Nat.le_of_ble_eq_true rfl, Nat.le_of_ble_eq_true rfl⟩ rfl hl.1 rfl (Nat.le_of_ble_eq_true rfl) dX2_takeWord_86 ⟨Nat.le_refl _, Nat.le_refl _⟩) hG hA (fun H locs hG => ?_)
                  refine g_ci (g_runV (n := 1) (rest := []) hx hb hml hown hts hG (c_X2_isWord (wordIx_lt _)) tw_ml_RX2_101 tw_im_X2_isWord tw_se_X2_isWord tw_in_RX2 tw_cd_X2_isWord (by decide +kernel) ⟨rfl, rfl, Nat.le_of_ble_eq_true rfl, Nat.le_of_ble_eq_true rfl⟩ gw_Scribe rfl rfl hl.1 rfl (Nat.le_of_ble_eq_true rfl) dX2_takeWord_89 ⟨Nat.le_refl _, Nat.le_refl _⟩) hG hA (fun r _ H locs hp hG => ?_)
                  subst hp
                  replace hG : gS g A s H locs (gW g bb tx rw sb_77 dy tn mo jk) := hG
                  have J100 : ∀ (sb_100 : Ob) (H : Heap) (locs : List Loc), gS g A s H locs (gW g bb tx rw sb_100 dy tn mo jk) → ∀ ls : Array Slot, lv_has ls 2 [(0, .ref (gA g 35)), (1, .int x1_77)] → F_X2_takeWord_b100  (F_X2_takeWord_l77 n77 ) sb_100 x1_77 = EE → W p l e (rmL 6) s m [.ref (gA g 35)].toArray below meth c H locs 0 0 Q (F0 m 100 ls []) := by
                    intro sb_100 H locs hG ls hl  hE
                    unfold F_X2_takeWord_b100 at hE
                    refine lv_iinc (v := (x1_77 + 1)) (lv' := [(1, .int (x1_77 + 1)), (0, .ref (gA g 35))]) hx hb dX2_takeWord_100 hl (k := 1) rfl rfl (by decide) rfl (fun ls hl => ?_)
                    replace hl := lv_sub hl [1, 0] (l' := [(0, .ref (gA g 35)), (1, .int (x1_77 + 1))]) rfl
                    refine lv_goto (tgt := 77) hx hb dX2_takeWord_103 (by decide) ?_
                    have e1 : (x1_77 + 1).toInt = x1_77.toInt + 1 := addL (k := 1) (by decide +kernel) (by clear hE; omega) (by clear hE; omega)
                    exact ih77 (x1_77 + 1) sb_100 _ _ hG _ (lv_sub hl [0, 1] rfl) (by clear hE; omega) (by clear hE; omega) (by clear hE; omega) hE
                  refine lv_if_eq (tgt := 100) hx hb dX2_takeWord_92 (by decide) (fun c_92 => ?_) (fun c_92 => ?_)
                  · replace hE := (if_pos c_92).symm.trans hE
                    exact J100 sb_77 _ _ hG _ (lv_sub hl [0, 1] rfl) hE
                  replace hE := (if_neg c_92).symm.trans hE
                  refine lv_aload_n hx hb dX2_takeWord_95 rfl (lv_at hl 0 rfl) ?_
                  refine lv_iload_n hx hb dX2_takeWord_96 rfl (lv_at hl 1 rfl) ?_
                  refine g_put hx hb hts hiX2 tyX2 tyX2_ok nmX2 hown hG gw_Scribe rfl 4 (by decide) (index := 44) tw_fl_RX2_44 rfl rfl rfl (Nat.le_of_ble_eq_true rfl) gs_Scribe_f4 dX2_takeWord_97 (fun H locs hG => ?_)
                  exact J100 (setS sb_77 4 x1_77) _ _ hG _ (lv_sub hl [0, 1] rfl) hE
              exact L77 7 256 sb_46 _ _ hG _ (lv_sub hl [0, 1] rfl) (by decide) (by decide) (by decide) hE
            replace hE := (if_neg c_48).symm.trans hE
            have i_48 : x1_46.toInt ≤ (-1) := i_nlt c_48
            refine lv_aload_n hx hb dX2_takeWord_51 rfl (lv_at hl 0 rfl) ?_
            refine lv_iload_n hx hb dX2_takeWord_52 rfl (lv_at hl 1 rfl) ?_
            refine g_sr (g_runS (n := 1) (rest := [.ref (gA g 35)]) hx hb hml hown hts hG (c_X2_wordOf x1_46) tw_ml_RX2_97 tw_st_X2_wordOf tw_in_RX2 tw_cd_X2_wordOf (by decide +kernel) ⟨rfl, rfl, Nat.le_of_ble_eq_true rfl, Nat.le_of_ble_eq_true rfl⟩ rfl hl.1 rfl (Nat.le_of_ble_eq_true rfl) dX2_takeWord_53 ⟨Nat.le_refl _, Nat.le_refl _⟩) hG hA (fun H locs hG => ?_)
            refine g_ci (g_runV (n := 1) (rest := []) hx hb hml hown hts hG (c_X2_isWord (wordIx_lt _)) tw_ml_RX2_101 tw_im_X2_isWord tw_se_X2_isWord tw_in_RX2 tw_cd_X2_isWord (by decide +kernel) ⟨rfl, rfl, Nat.le_of_ble_eq_true rfl, Nat.le_of_ble_eq_true rfl⟩ gw_Scribe rfl rfl hl.1 rfl (Nat.le_of_ble_eq_true rfl) dX2_takeWord_56 ⟨Nat.le_refl _, Nat.le_refl _⟩) hG hA (fun r _ H locs hp hG => ?_)
            subst hp
            replace hG : gS g A s H locs (gW g bb tx rw sb_46 dy tn mo jk) := hG
            have J67 : ∀ (sb_67 : Ob) (H : Heap) (locs : List Loc), gS g A s H locs (gW g bb tx rw sb_67 dy tn mo jk) → ∀ ls : Array Slot, lv_has ls 2 [(0, .ref (gA g 35)), (1, .int x1_46)] → F_X2_takeWord_b67  (F_X2_takeWord_l46 n46 ) sb_67 x1_46 = EE → W p l e (rmL 6) s m [.ref (gA g 35)].toArray below meth c H locs 0 0 Q (F0 m 67 ls []) := by
              intro sb_67 H locs hG ls hl  hE
              unfold F_X2_takeWord_b67 at hE
              refine lv_iinc (v := (x1_46 + 1)) (lv' := [(1, .int (x1_46 + 1)), (0, .ref (gA g 35))]) hx hb dX2_takeWord_67 hl (k := 1) rfl rfl (by decide) rfl (fun ls hl => ?_)
              replace hl := lv_sub hl [1, 0] (l' := [(0, .ref (gA g 35)), (1, .int (x1_46 + 1))]) rfl
              refine lv_goto (tgt := 46) hx hb dX2_takeWord_70 (by decide) ?_
              have e2 : (x1_46 + 1).toInt = x1_46.toInt + 1 := addL (k := 1) (by decide +kernel) (by clear hE; omega) (by clear hE; omega)
              exact ih46 (x1_46 + 1) sb_67 _ _ hG _ (lv_sub hl [0, 1] rfl) (by clear hE; omega) (by clear hE; omega) (by clear hE; omega) hE
            refine lv_if_eq (tgt := 67) hx hb dX2_takeWord_59 (by decide) (fun c_59 => ?_) (fun c_59 => ?_)
            · replace hE := (if_pos c_59).symm.trans hE
              exact J67 sb_46 _ _ hG _ (lv_sub hl [0, 1] rfl) hE
            replace hE := (if_neg c_59).symm.trans hE
            refine lv_aload_n hx hb dX2_takeWord_62 rfl (lv_at hl 0 rfl) ?_
            refine lv_iload_n hx hb dX2_takeWord_63 rfl (lv_at hl 1 rfl) ?_
            refine g_put hx hb hts hiX2 tyX2 tyX2_ok nmX2 hown hG gw_Scribe rfl 4 (by decide) (index := 44) tw_fl_RX2_44 rfl rfl rfl (Nat.le_of_ble_eq_true rfl) gs_Scribe_f4 dX2_takeWord_64 (fun H locs hG => ?_)
            exact J67 (setS sb_46 4 x1_46) _ _ hG _ (lv_sub hl [0, 1] rfl) hE
        exact L46 7 (-6) (setS sb_0 4 1) _ _ hG _ (lv_sub hl [0, 1] rfl) (by decide) (by decide) (by decide) hE
      refine lv_icmp_ge (tgt := 38) hx hb dX2_takeWord_8 (by decide) (fun c_8 => ?_) (fun c_8 => ?_)
      · replace hE := (if_pos c_8).symm.trans hE
        have i_8 : (sb_0.1 1).toInt ≤ (sb_0.1 2).toInt := i_le.mp c_8
        exact J38 _ _ hG _ (lv_sub hl [0] rfl) hE
      replace hE := (if_neg c_8).symm.trans hE
      have i_8 : (sb_0.1 2).toInt < (sb_0.1 1).toInt := i_nle c_8
      refine lv_aload_n hx hb dX2_takeWord_11 rfl (lv_at hl 0 rfl) ?_
      refine lv_aload_n hx hb dX2_takeWord_12 rfl (lv_at hl 0 rfl) ?_
      refine g_get hx hb hts hiX2 hown hG gw_Scribe rfl 2 (by decide) (index := 19) tw_fl_RX2_19 (v := .int (sb_0.1 2)) rfl dX2_takeWord_13 ?_
      refine g_ci (g_runV (n := 1) (rest := []) hx hb hml hown hts hG (c_X2_byteAt (sb_0.1 2)) tw_ml_RX2_78 tw_im_X2_byteAt tw_se_X2_byteAt tw_in_RX2 tw_cd_X2_byteAt (by decide +kernel) ⟨rfl, rfl, Nat.le_of_ble_eq_true rfl, Nat.le_of_ble_eq_true rfl⟩ gw_Scribe rfl rfl hl.1 rfl (Nat.le_of_ble_eq_true rfl) dX2_takeWord_16 ⟨Nat.le_refl _, Nat.le_refl _⟩) hG hA (fun r _ H locs hp hG => ?_)
      subst hp
      replace hG : gS g A s H locs (gW g bb tx rw sb_0 dy tn mo jk) := hG
      refine g_si (g_runS (n := 1) (rest := []) hx hb hml hown hts hG (c_X2_isLetter (F_X2_byteAt sb_0 (sb_0.1 2))) tw_ml_RX2_82 tw_st_X2_isLetter tw_in_RX2 tw_cd_X2_isLetter (by decide +kernel) ⟨rfl, rfl, Nat.le_of_ble_eq_true rfl, Nat.le_of_ble_eq_true rfl⟩ rfl hl.1 rfl (Nat.le_of_ble_eq_true rfl) dX2_takeWord_19 ⟨Nat.le_refl _, Nat.le_refl _⟩) hG hA (fun H locs hG => ?_)
      refine lv_if_eq (tgt := 38) hx hb dX2_takeWord_22 (by decide) (fun c_22 => ?_) (fun c_22 => ?_)
      · replace hE := (if_pos c_22).symm.trans hE
        exact J38 _ _ hG _ (lv_sub hl [0] rfl) hE
      replace hE := (if_neg c_22).symm.trans hE
      refine lv_aload_n hx hb dX2_takeWord_25 rfl (lv_at hl 0 rfl) ?_
      refine lv_dup hx hb dX2_takeWord_26 rfl ?_
      refine g_get hx hb hts hiX2 hown hG gw_Scribe rfl 2 (by decide) (index := 19) tw_fl_RX2_19 (v := .int (sb_0.1 2)) rfl dX2_takeWord_27 ?_
      refine lv_iconst (v := 1) hx hb dX2_takeWord_30 (by decide) ?_
      refine lv_iadd hx hb dX2_takeWord_31 ?_
      refine g_put hx hb hts hiX2 tyX2 tyX2_ok nmX2 hown hG gw_Scribe rfl 2 (by decide) (index := 19) tw_fl_RX2_19 rfl rfl rfl (Nat.le_of_ble_eq_true rfl) gs_Scribe_f2 dX2_takeWord_32 (fun H locs hG => ?_)
      have eat : ((setS sb_0 2 ((sb_0.1 2) + 1)).1 2).toInt = (sb_0.1 2).toInt + 1 := addL (x := sb_0.1 2) (y := 1) (k := 1) (by decide +kernel) (by clear hE; omega) (by clear hE; omega)
      refine lv_goto (tgt := 0) hx hb dX2_takeWord_35 (by decide) ?_
      exact ih0 (setS sb_0 2 ((sb_0.1 2) + 1)) _ _ hG _ (lv_sub hl [0] rfl) (by clear hE; omega) (by clear hE; omega) h2_0 (by clear hE; omega) hE
  exact L0 161 sb _ _ hG _ (lv_sub hl [0] rfl) hok.1 hok.2.1 hok.2.2 (by clear hE; omega) hE
def F_X2_takeNumber_b85 (sb : Ob) (z1 : Int32) : Ob :=
  (setS sb 4 z1)
def F_X2_takeNumber_b66 (sb : Ob) : Ob :=
  (if ((sb.1 2) - (sb.1 3)) ≤ 4 then (F_X2_takeNumber_b85  sb 2) else (F_X2_takeNumber_b85  sb 1))
def F_X2_takeNumber_l5 : Nat → Ob → Ob
  | 0, sb => sb
  | n + 1, sb =>
    (if (sb.1 1) ≤ (sb.1 2) then (F_X2_takeNumber_b66  sb) else (if (F_X2_isDigit (F_X2_byteAt sb (sb.1 2))) = 0 then (F_X2_takeNumber_b66  sb) else ((F_X2_takeNumber_l5 n ) (setS (setS sb 5 ((((sb.1 5) * 10) + (F_X2_byteAt sb (sb.1 2))) - 48)) 2 (((setS sb 5 ((((sb.1 5) * 10) + (F_X2_byteAt sb (sb.1 2))) - 48)).1 2) + 1)))))
def F_X2_takeNumber (sb : Ob) : Ob :=
  (F_X2_takeNumber_l5 161  (setS sb 5 0))
set_option maxHeartbeats 4000000 in
set_option maxRecDepth 100000 in
theorem c_X2_takeNumber {l : Launch} {g : GG} {sz : Nat} {bb : Ob} {tx rw : Nat → Ob} {sb dy : Ob} {tn : Nat → Ob} {mo : Ob} {jk : Nat → Nat → Int32}   (hok : 0 ≤ (sb.1 2).toInt ∧ (sb.1 2).toInt ≤ 160 ∧ (sb.1 1).toInt ≤ 160) : Met l yX2_takeNumber (Cond.code yX2_takeNumber cX2_takeNumber 1 none :: TT) (rmL 2) (va_Pc [.ref (gA g 35)] (gB g sz (gW g bb tx rw sb dy tn mo jk))) (va_Qv (fun (u : Ob) => (F_X2_takeNumber sb) = (u)) (fun u t => gC g (va_A (gW g bb tx rw sb dy tn mo jk) sz) (gW g bb tx rw u dy tn mo jk) t) (va_A (gW g bb tx rw sb dy tn mo jk) sz)) 0 0 (va_A (gW g bb tx rw sb dy tn mo jk) sz) := by
  generalize hE : F_X2_takeNumber sb = EE
  refine g_of (Qf := fun A => (va_Qv (fun (u : Ob) => EE = (u)) (fun u t => gC g A (gW g bb tx rw u dy tn mo jk) t) A)) (cc := cX2_takeNumber) (maxL := 1) (ret := none) (by decide) (Nat.le_of_ble_eq_true rfl) ?_
  intro p e s m below meth c A ls hx hb hml hr hlocks hts hown hA hG hl
  replace hown : s.vm.findClass RX2 = some m.cls := hown
  replace hl : lv_has ls 1 [(0, .ref (gA g 35))] := hl
  show W p l e (rmL 2) s m [.ref (gA g 35)].toArray below meth c s.heap [] 0 0 (MQ below (va_Qv (fun (u : Ob) => EE = (u)) (fun u t => gC g A (gW g bb tx rw u dy tn mo jk) t) A) [.ref (gA g 35)].toArray s 0 0 A) (F0 m 0 ls [])
  generalize hQ : MQ below (va_Qv (fun (u : Ob) => EE = (u)) (fun u t => gC g A (gW g bb tx rw u dy tn mo jk) t) A) [.ref (gA g 35)].toArray s 0 0 A = Q
  unfold F_X2_takeNumber at hE
  refine lv_aload_n hx hb dX2_takeNumber_0 rfl (lv_at hl 0 rfl) ?_
  refine lv_iconst (v := 0) hx hb dX2_takeNumber_1 (by decide) ?_
  refine g_put hx hb hts hiX2 tyX2 tyX2_ok nmX2 hown hG gw_Scribe rfl 5 (by decide) (index := 75) tw_fl_RX2_75 rfl rfl rfl (Nat.le_of_ble_eq_true rfl) gs_Scribe_f5 dX2_takeNumber_2 (fun H locs hG => ?_)
  have L5 : ∀ (n5 : Nat) (sb_5 : Ob) (H : Heap) (locs : List Loc), gS g A s H locs (gW g bb tx rw sb_5 dy tn mo jk) → ∀ ls : Array Slot, lv_has ls 1 [(0, .ref (gA g 35))] → 0 ≤ (sb_5.1 2).toInt → (sb_5.1 2).toInt ≤ 160 → (sb_5.1 1).toInt ≤ 160 → 160 < (sb_5.1 2).toInt + n5 → F_X2_takeNumber_l5 n5  sb_5 = EE → W p l e (rmL 2) s m [.ref (gA g 35)].toArray below meth c H locs 0 0 Q (F0 m 5 ls []) := by
    intro n5
    induction n5 with
    | zero =>
      intro sb_5 H locs hG ls hl h0_5 h1_5 h2_5 hm_5 hE
      clear hE; omega
    | succ n5 ih5 =>
      intro sb_5 H locs hG ls hl h0_5 h1_5 h2_5 hm_5 hE
      unfold F_X2_takeNumber_l5 at hE
      refine lv_aload_n hx hb dX2_takeNumber_5 rfl (lv_at hl 0 rfl) ?_
      refine g_get hx hb hts hiX2 hown hG gw_Scribe rfl 2 (by decide) (index := 19) tw_fl_RX2_19 (v := .int (sb_5.1 2)) rfl dX2_takeNumber_6 ?_
      refine lv_aload_n hx hb dX2_takeNumber_9 rfl (lv_at hl 0 rfl) ?_
      refine g_get hx hb hts hiX2 hown hG gw_Scribe rfl 1 (by decide) (index := 15) tw_fl_RX2_15 (v := .int (sb_5.1 1)) rfl dX2_takeNumber_10 ?_
      have J66 : ∀  (H : Heap) (locs : List Loc), gS g A s H locs (gW g bb tx rw sb_5 dy tn mo jk) → ∀ ls : Array Slot, lv_has ls 1 [(0, .ref (gA g 35))] → F_X2_takeNumber_b66   sb_5 = EE → W p l e (rmL 2) s m [.ref (gA g 35)].toArray below meth c H locs 0 0 Q (F0 m 66 ls []) := by
        intro  H locs hG ls hl  hE
        unfold F_X2_takeNumber_b66 at hE
        refine lv_aload_n hx hb dX2_takeNumber_66 rfl (lv_at hl 0 rfl) ?_
        refine lv_aload_n hx hb dX2_takeNumber_67 rfl (lv_at hl 0 rfl) ?_
        refine g_get hx hb hts hiX2 hown hG gw_Scribe rfl 2 (by decide) (index := 19) tw_fl_RX2_19 (v := .int (sb_5.1 2)) rfl dX2_takeNumber_68 ?_
        refine lv_aload_n hx hb dX2_takeNumber_71 rfl (lv_at hl 0 rfl) ?_
        refine g_get hx hb hts hiX2 hown hG gw_Scribe rfl 3 (by decide) (index := 50) tw_fl_RX2_50 (v := .int (sb_5.1 3)) rfl dX2_takeNumber_72 ?_
        refine lv_isub hx hb dX2_takeNumber_75 ?_
        refine lv_iconst (v := 4) hx hb dX2_takeNumber_76 (by decide) ?_
        have J85 : ∀ (z1_85 : Int32) (H : Heap) (locs : List Loc), gS g A s H locs (gW g bb tx rw sb_5 dy tn mo jk) → ∀ ls : Array Slot, lv_has ls 1 [] → F_X2_takeNumber_b85   sb_5 z1_85 = EE → W p l e (rmL 2) s m [.ref (gA g 35)].toArray below meth c H locs 0 0 Q (F0 m 85 ls [.int z1_85, .ref (gA g 35)]) := by
          intro z1_85 H locs hG ls hl  hE
          unfold F_X2_takeNumber_b85 at hE
          refine g_put hx hb hts hiX2 tyX2 tyX2_ok nmX2 hown hG gw_Scribe rfl 4 (by decide) (index := 44) tw_fl_RX2_44 rfl rfl rfl (Nat.le_of_ble_eq_true rfl) gs_Scribe_f4 dX2_takeNumber_85 (fun H locs hG => ?_)
          subst hQ
          exact g_vret hx hb hr hlocks hG (((setS sb_5 4 z1_85)) : Ob) rfl hE.symm dX2_takeNumber_88
        refine lv_icmp_le (tgt := 84) hx hb dX2_takeNumber_77 (by decide) (fun c_77 => ?_) (fun c_77 => ?_)
        · replace hE := (if_pos c_77).symm.trans hE
          have i_77 : ((sb_5.1 2) - (sb_5.1 3)).toInt ≤ 4 := i_le.mp c_77
          refine lv_iconst (v := 2) hx hb dX2_takeNumber_84 (by decide) ?_
          exact J85 2 _ _ hG _ (lv_sub hl [] rfl) hE
        replace hE := (if_neg c_77).symm.trans hE
        have i_77 : 4 < ((sb_5.1 2) - (sb_5.1 3)).toInt := i_nle c_77
        refine lv_iconst (v := 1) hx hb dX2_takeNumber_80 (by decide) ?_
        refine lv_goto (tgt := 85) hx hb dX2_takeNumber_81 (by decide) ?_
        exact J85 1 _ _ hG _ (lv_sub hl [] rfl) hE
      refine lv_icmp_ge (tgt := 66) hx hb dX2_takeNumber_13 (by decide) (fun c_13 => ?_) (fun c_13 => ?_)
      · replace hE := (if_pos c_13).symm.trans hE
        have i_13 : (sb_5.1 1).toInt ≤ (sb_5.1 2).toInt := i_le.mp c_13
        exact J66 _ _ hG _ (lv_sub hl [0] rfl) hE
      replace hE := (if_neg c_13).symm.trans hE
      have i_13 : (sb_5.1 2).toInt < (sb_5.1 1).toInt := i_nle c_13
      refine lv_aload_n hx hb dX2_takeNumber_16 rfl (lv_at hl 0 rfl) ?_
      refine lv_aload_n hx hb dX2_takeNumber_17 rfl (lv_at hl 0 rfl) ?_
      refine g_get hx hb hts hiX2 hown hG gw_Scribe rfl 2 (by decide) (index := 19) tw_fl_RX2_19 (v := .int (sb_5.1 2)) rfl dX2_takeNumber_18 ?_
      refine g_ci (g_runV (n := 1) (rest := []) hx hb hml hown hts hG (c_X2_byteAt (sb_5.1 2)) tw_ml_RX2_78 tw_im_X2_byteAt tw_se_X2_byteAt tw_in_RX2 tw_cd_X2_byteAt (by decide +kernel) ⟨rfl, rfl, Nat.le_of_ble_eq_true rfl, Nat.le_of_ble_eq_true rfl⟩ gw_Scribe rfl rfl hl.1 rfl (Nat.le_of_ble_eq_true rfl) dX2_takeNumber_21 ⟨Nat.le_refl _, Nat.le_refl _⟩) hG hA (fun r _ H locs hp hG => ?_)
      subst hp
      replace hG : gS g A s H locs (gW g bb tx rw sb_5 dy tn mo jk) := hG
      refine g_si (g_runS (n := 1) (rest := []) hx hb hml hown hts hG (c_X2_isDigit (F_X2_byteAt sb_5 (sb_5.1 2))) tw_ml_RX2_88 tw_st_X2_isDigit tw_in_RX2 tw_cd_X2_isDigit (by decide +kernel) ⟨rfl, rfl, Nat.le_of_ble_eq_true rfl, Nat.le_of_ble_eq_true rfl⟩ rfl hl.1 rfl (Nat.le_of_ble_eq_true rfl) dX2_takeNumber_24 ⟨Nat.le_refl _, Nat.le_refl _⟩) hG hA (fun H locs hG => ?_)
      refine lv_if_eq (tgt := 66) hx hb dX2_takeNumber_27 (by decide) (fun c_27 => ?_) (fun c_27 => ?_)
      · replace hE := (if_pos c_27).symm.trans hE
        exact J66 _ _ hG _ (lv_sub hl [0] rfl) hE
      replace hE := (if_neg c_27).symm.trans hE
      refine lv_aload_n hx hb dX2_takeNumber_30 rfl (lv_at hl 0 rfl) ?_
      refine lv_aload_n hx hb dX2_takeNumber_31 rfl (lv_at hl 0 rfl) ?_
      refine g_get hx hb hts hiX2 hown hG gw_Scribe rfl 5 (by decide) (index := 75) tw_fl_RX2_75 (v := .int (sb_5.1 5)) rfl dX2_takeNumber_32 ?_
      refine lv_bipush (v := 10) hx hb dX2_takeNumber_35 (by decide) ?_
      refine lv_imul hx hb dX2_takeNumber_37 ?_
      refine lv_aload_n hx hb dX2_takeNumber_38 rfl (lv_at hl 0 rfl) ?_
      refine lv_aload_n hx hb dX2_takeNumber_39 rfl (lv_at hl 0 rfl) ?_
      refine g_get hx hb hts hiX2 hown hG gw_Scribe rfl 2 (by decide) (index := 19) tw_fl_RX2_19 (v := .int (sb_5.1 2)) rfl dX2_takeNumber_40 ?_
      refine g_ci (g_runV (n := 1) (rest := [.int ((sb_5.1 5) * 10), .ref (gA g 35)]) hx hb hml hown hts hG (c_X2_byteAt (sb_5.1 2)) tw_ml_RX2_78 tw_im_X2_byteAt tw_se_X2_byteAt tw_in_RX2 tw_cd_X2_byteAt (by decide +kernel) ⟨rfl, rfl, Nat.le_of_ble_eq_true rfl, Nat.le_of_ble_eq_true rfl⟩ gw_Scribe rfl rfl hl.1 rfl (Nat.le_of_ble_eq_true rfl) dX2_takeNumber_43 ⟨Nat.le_refl _, Nat.le_refl _⟩) hG hA (fun r _ H locs hp hG => ?_)
      subst hp
      replace hG : gS g A s H locs (gW g bb tx rw sb_5 dy tn mo jk) := hG
      refine lv_iadd hx hb dX2_takeNumber_46 ?_
      refine lv_bipush (v := 48) hx hb dX2_takeNumber_47 (by decide) ?_
      refine lv_isub hx hb dX2_takeNumber_49 ?_
      refine g_put hx hb hts hiX2 tyX2 tyX2_ok nmX2 hown hG gw_Scribe rfl 5 (by decide) (index := 75) tw_fl_RX2_75 rfl rfl rfl (Nat.le_of_ble_eq_true rfl) gs_Scribe_f5 dX2_takeNumber_50 (fun H locs hG => ?_)
      refine lv_aload_n hx hb dX2_takeNumber_53 rfl (lv_at hl 0 rfl) ?_
      refine lv_dup hx hb dX2_takeNumber_54 rfl ?_
      refine g_get hx hb hts hiX2 hown hG gw_Scribe rfl 2 (by decide) (index := 19) tw_fl_RX2_19 (v := .int ((setS sb_5 5 ((((sb_5.1 5) * 10) + (F_X2_byteAt sb_5 (sb_5.1 2))) - 48)).1 2)) rfl dX2_takeNumber_55 ?_
      refine lv_iconst (v := 1) hx hb dX2_takeNumber_58 (by decide) ?_
      refine lv_iadd hx hb dX2_takeNumber_59 ?_
      refine g_put hx hb hts hiX2 tyX2 tyX2_ok nmX2 hown hG gw_Scribe rfl 2 (by decide) (index := 19) tw_fl_RX2_19 rfl rfl rfl (Nat.le_of_ble_eq_true rfl) gs_Scribe_f2 dX2_takeNumber_60 (fun H locs hG => ?_)
      have eat : ((setS (setS sb_5 5 ((((sb_5.1 5) * 10) + (F_X2_byteAt sb_5 (sb_5.1 2))) - 48)) 2 (((setS sb_5 5 ((((sb_5.1 5) * 10) + (F_X2_byteAt sb_5 (sb_5.1 2))) - 48)).1 2) + 1)).1 2).toInt = (sb_5.1 2).toInt + 1 := addL (x := sb_5.1 2) (y := 1) (k := 1) (by decide +kernel) (by clear hE; omega) (by clear hE; omega)
      refine lv_goto (tgt := 5) hx hb dX2_takeNumber_63 (by decide) ?_
      exact ih5 (setS (setS sb_5 5 ((((sb_5.1 5) * 10) + (F_X2_byteAt sb_5 (sb_5.1 2))) - 48)) 2 (((setS sb_5 5 ((((sb_5.1 5) * 10) + (F_X2_byteAt sb_5 (sb_5.1 2))) - 48)).1 2) + 1)) _ _ hG _ (lv_sub hl [0] rfl) (by clear hE; omega) (by clear hE; omega) h2_5 (by clear hE; omega) hE
  exact L5 161 (setS sb 5 0) _ _ hG _ (lv_sub hl [0] rfl) hok.1 hok.2.1 hok.2.2 (by have := hok.1; show 160 < (sb.1 2).toInt + _; clear hE; omega) hE
def F_X2_step_b127 (sb : Ob) (z1 : Int32) : Ob :=
  (setS (setS sb 4 z1) 2 (((setS sb 4 z1).1 2) + 1))
def F_X2_step_c108 (u : Ob) : Ob :=
  u
def F_X2_step_c94 (u : Ob) : Ob :=
  u
def F_X2_step_b50 (sb : Ob) : Ob :=
  (if ((setS sb 3 (sb.1 2)).1 2) < ((setS sb 3 (sb.1 2)).1 1) then (if (F_X2_isLetter (F_X2_byteAt (setS sb 3 (sb.1 2)) ((setS sb 3 (sb.1 2)).1 2))) = 0 then (if (F_X2_isDigit (F_X2_byteAt (setS sb 3 (sb.1 2)) ((setS sb 3 (sb.1 2)).1 2))) = 0 then (if (F_X2_isSign (F_X2_byteAt (setS sb 3 (sb.1 2)) ((setS sb 3 (sb.1 2)).1 2))) = 0 then (F_X2_step_b127  (setS sb 3 (sb.1 2)) 1) else (F_X2_step_b127  (setS sb 3 (sb.1 2)) (F_X2_byteAt (setS sb 3 (sb.1 2)) ((setS sb 3 (sb.1 2)).1 2)))) else (F_X2_step_c108 (F_X2_takeNumber (setS sb 3 (sb.1 2))))) else (F_X2_step_c94 (F_X2_takeWord (setS sb 3 (sb.1 2))))) else (setS (setS sb 3 (sb.1 2)) 4 0))
def F_X2_step_b37 (K0 : Ob → Ob) (sb : Ob) : Ob :=
  (K0 (setS sb 2 ((sb.1 2) + 1)))
def F_X2_step_l0 : Nat → Ob → Ob
  | 0, sb => sb
  | n + 1, sb =>
    (if (sb.1 1) ≤ (sb.1 2) then (F_X2_step_b50  sb) else (if (F_X2_byteAt sb (sb.1 2)) = 32 then (F_X2_step_b37 (F_X2_step_l0 n ) sb) else (if (F_X2_byteAt sb (sb.1 2)) = 10 then (F_X2_step_b37 (F_X2_step_l0 n ) sb) else (F_X2_step_b50  sb))))
def F_X2_step (sb : Ob) : Ob :=
  (F_X2_step_l0 161  sb)
set_option maxHeartbeats 4000000 in
set_option maxRecDepth 100000 in
theorem c_X2_step {l : Launch} {g : GG} {sz : Nat} {bb : Ob} {tx rw : Nat → Ob} {sb dy : Ob} {tn : Nat → Ob} {mo : Ob} {jk : Nat → Nat → Int32}   (hok : 0 ≤ (sb.1 2).toInt ∧ (sb.1 2).toInt ≤ 160 ∧ (sb.1 1).toInt ≤ 160) : Met l yX2_step (Cond.code yX2_step cX2_step 2 none :: TT) (rmL 7) (va_Pc [.ref (gA g 35)] (gB g sz (gW g bb tx rw sb dy tn mo jk))) (va_Qv (fun (u : Ob) => (F_X2_step sb) = (u)) (fun u t => gC g (va_A (gW g bb tx rw sb dy tn mo jk) sz) (gW g bb tx rw u dy tn mo jk) t) (va_A (gW g bb tx rw sb dy tn mo jk) sz)) 0 0 (va_A (gW g bb tx rw sb dy tn mo jk) sz) := by
  generalize hE : F_X2_step sb = EE
  refine g_of (Qf := fun A => (va_Qv (fun (u : Ob) => EE = (u)) (fun u t => gC g A (gW g bb tx rw u dy tn mo jk) t) A)) (cc := cX2_step) (maxL := 2) (ret := none) (by decide) (Nat.le_of_ble_eq_true rfl) ?_
  intro p e s m below meth c A ls hx hb hml hr hlocks hts hown hA hG hl
  replace hown : s.vm.findClass RX2 = some m.cls := hown
  replace hl : lv_has ls 2 [(0, .ref (gA g 35))] := hl
  show W p l e (rmL 7) s m [.ref (gA g 35)].toArray below meth c s.heap [] 0 0 (MQ below (va_Qv (fun (u : Ob) => EE = (u)) (fun u t => gC g A (gW g bb tx rw u dy tn mo jk) t) A) [.ref (gA g 35)].toArray s 0 0 A) (F0 m 0 ls [])
  generalize hQ : MQ below (va_Qv (fun (u : Ob) => EE = (u)) (fun u t => gC g A (gW g bb tx rw u dy tn mo jk) t) A) [.ref (gA g 35)].toArray s 0 0 A = Q
  unfold F_X2_step at hE
  have L0 : ∀ (n0 : Nat) (sb_0 : Ob) (H : Heap) (locs : List Loc), gS g A s H locs (gW g bb tx rw sb_0 dy tn mo jk) → ∀ ls : Array Slot, lv_has ls 2 [(0, .ref (gA g 35))] → 0 ≤ (sb_0.1 2).toInt → (sb_0.1 2).toInt ≤ 160 → (sb_0.1 1).toInt ≤ 160 → 160 < (sb_0.1 2).toInt + n0 → F_X2_step_l0 n0  sb_0 = EE → W p l e (rmL 7) s m [.ref (gA g 35)].toArray below meth c H locs 0 0 Q (F0 m 0 ls []) := by
    intro n0
    induction n0 with
    | zero =>
      intro sb_0 H locs hG ls hl h0_0 h1_0 h2_0 hm_0 hE
      clear hE; omega
    | succ n0 ih0 =>
      intro sb_0 H locs hG ls hl h0_0 h1_0 h2_0 hm_0 hE
      unfold F_X2_step_l0 at hE
      refine lv_aload_n hx hb dX2_step_0 rfl (lv_at hl 0 rfl) ?_
      refine g_get hx hb hts hiX2 hown hG gw_Scribe rfl 2 (by decide) (index := 19) tw_fl_RX2_19 (v := .int (sb_0.1 2)) rfl dX2_step_1 ?_
      refine lv_aload_n hx hb dX2_step_4 rfl (lv_at hl 0 rfl) ?_
      refine g_get hx hb hts hiX2 hown hG gw_Scribe rfl 1 (by decide) (index := 15) tw_fl_RX2_15 (v := .int (sb_0.1 1)) rfl dX2_step_5 ?_
      have J50 : ∀  (H : Heap) (locs : List Loc), gS g A s H locs (gW g bb tx rw sb_0 dy tn mo jk) → ∀ ls : Array Slot, lv_has ls 2 [(0, .ref (gA g 35))] → 0 ≤ (sb_0.1 2).toInt → (sb_0.1 2).toInt ≤ 160 → (sb_0.1 1).toInt ≤ 160 → F_X2_step_b50   sb_0 = EE → W p l e (rmL 7) s m [.ref (gA g 35)].toArray below meth c H locs 0 0 Q (F0 m 50 ls []) := by
        intro  H locs hG ls hl h0_50 h1_50 h2_50 hE
        unfold F_X2_step_b50 at hE
        refine lv_aload_n hx hb dX2_step_50 rfl (lv_at hl 0 rfl) ?_
        refine lv_aload_n hx hb dX2_step_51 rfl (lv_at hl 0 rfl) ?_
        refine g_get hx hb hts hiX2 hown hG gw_Scribe rfl 2 (by decide) (index := 19) tw_fl_RX2_19 (v := .int (sb_0.1 2)) rfl dX2_step_52 ?_
        refine g_put hx hb hts hiX2 tyX2 tyX2_ok nmX2 hown hG gw_Scribe rfl 3 (by decide) (index := 50) tw_fl_RX2_50 rfl rfl rfl (Nat.le_of_ble_eq_true rfl) gs_Scribe_f3 dX2_step_55 (fun H locs hG => ?_)
        refine lv_aload_n hx hb dX2_step_58 rfl (lv_at hl 0 rfl) ?_
        refine lv_aload_n hx hb dX2_step_59 rfl (lv_at hl 0 rfl) ?_
        refine g_get hx hb hts hiX2 hown hG gw_Scribe rfl 2 (by decide) (index := 19) tw_fl_RX2_19 (v := .int ((setS sb_0 3 (sb_0.1 2)).1 2)) rfl dX2_step_60 ?_
        refine g_ci (g_runV (n := 1) (rest := []) hx hb hml hown hts hG (c_X2_byteAt ((setS sb_0 3 (sb_0.1 2)).1 2)) tw_ml_RX2_78 tw_im_X2_byteAt tw_se_X2_byteAt tw_in_RX2 tw_cd_X2_byteAt (by decide +kernel) ⟨rfl, rfl, Nat.le_of_ble_eq_true rfl, Nat.le_of_ble_eq_true rfl⟩ gw_Scribe rfl rfl hl.1 rfl (Nat.le_of_ble_eq_true rfl) dX2_step_63 ⟨Nat.le_refl _, Nat.le_refl _⟩) hG hA (fun r _ H locs hp hG => ?_)
        subst hp
        replace hG : gS g A s H locs (gW g bb tx rw (setS sb_0 3 (sb_0.1 2)) dy tn mo jk) := hG
        refine lv_istore_n (lv' := [(1, .int (F_X2_byteAt (setS sb_0 3 (sb_0.1 2)) ((setS sb_0 3 (sb_0.1 2)).1 2))), (0, .ref (gA g 35))]) hx hb dX2_step_66 rfl hl (by decide) rfl (fun ls hl => ?_)
        replace hl := lv_sub hl [1, 0] (l' := [(0, .ref (gA g 35)), (1, .int (F_X2_byteAt (setS sb_0 3 (sb_0.1 2)) ((setS sb_0 3 (sb_0.1 2)).1 2)))]) rfl
        refine lv_aload_n hx hb dX2_step_67 rfl (lv_at hl 0 rfl) ?_
        refine g_get hx hb hts hiX2 hown hG gw_Scribe rfl 2 (by decide) (index := 19) tw_fl_RX2_19 (v := .int ((setS sb_0 3 (sb_0.1 2)).1 2)) rfl dX2_step_68 ?_
        refine lv_aload_n hx hb dX2_step_71 rfl (lv_at hl 0 rfl) ?_
        refine g_get hx hb hts hiX2 hown hG gw_Scribe rfl 1 (by decide) (index := 15) tw_fl_RX2_15 (v := .int ((setS sb_0 3 (sb_0.1 2)).1 1)) rfl dX2_step_72 ?_
        refine lv_icmp_lt (tgt := 86) hx hb dX2_step_75 (by decide) (fun c_75 => ?_) (fun c_75 => ?_)
        · replace hE := (if_pos c_75).symm.trans hE
          have i_75 : ((setS sb_0 3 (sb_0.1 2)).1 2).toInt < ((setS sb_0 3 (sb_0.1 2)).1 1).toInt := i_lt.mp c_75
          refine lv_iload_n hx hb dX2_step_86 rfl (lv_at hl 1 rfl) ?_
          refine g_si (g_runS (n := 1) (rest := []) hx hb hml hown hts hG (c_X2_isLetter (F_X2_byteAt (setS sb_0 3 (sb_0.1 2)) ((setS sb_0 3 (sb_0.1 2)).1 2))) tw_ml_RX2_82 tw_st_X2_isLetter tw_in_RX2 tw_cd_X2_isLetter (by decide +kernel) ⟨rfl, rfl, Nat.le_of_ble_eq_true rfl, Nat.le_of_ble_eq_true rfl⟩ rfl hl.1 rfl (Nat.le_of_ble_eq_true rfl) dX2_step_87 ⟨Nat.le_refl _, Nat.le_refl _⟩) hG hA (fun H locs hG => ?_)
          refine lv_if_eq (tgt := 100) hx hb dX2_step_90 (by decide) (fun c_90 => ?_) (fun c_90 => ?_)
          · replace hE := (if_pos c_90).symm.trans hE
            refine lv_iload_n hx hb dX2_step_100 rfl (lv_at hl 1 rfl) ?_
            refine g_si (g_runS (n := 1) (rest := []) hx hb hml hown hts hG (c_X2_isDigit (F_X2_byteAt (setS sb_0 3 (sb_0.1 2)) ((setS sb_0 3 (sb_0.1 2)).1 2))) tw_ml_RX2_88 tw_st_X2_isDigit tw_in_RX2 tw_cd_X2_isDigit (by decide +kernel) ⟨rfl, rfl, Nat.le_of_ble_eq_true rfl, Nat.le_of_ble_eq_true rfl⟩ rfl hl.1 rfl (Nat.le_of_ble_eq_true rfl) dX2_step_101 ⟨Nat.le_refl _, Nat.le_refl _⟩) hG hA (fun H locs hG => ?_)
            refine lv_if_eq (tgt := 114) hx hb dX2_step_104 (by decide) (fun c_104 => ?_) (fun c_104 => ?_)
            · replace hE := (if_pos c_104).symm.trans hE
              refine lv_aload_n hx hb dX2_step_114 rfl (lv_at hl 0 rfl) ?_
              refine lv_iload_n hx hb dX2_step_115 rfl (lv_at hl 1 rfl) ?_
              refine g_si (g_runS (n := 1) (rest := [.ref (gA g 35)]) hx hb hml hown hts hG (c_X2_isSign (F_X2_byteAt (setS sb_0 3 (sb_0.1 2)) ((setS sb_0 3 (sb_0.1 2)).1 2))) tw_ml_RX2_94 tw_st_X2_isSign tw_in_RX2 tw_cd_X2_isSign (by decide +kernel) ⟨rfl, rfl, Nat.le_of_ble_eq_true rfl, Nat.le_of_ble_eq_true rfl⟩ rfl hl.1 rfl (Nat.le_of_ble_eq_true rfl) dX2_step_116 ⟨Nat.le_refl _, Nat.le_refl _⟩) hG hA (fun H locs hG => ?_)
              have J127 : ∀ (z1_127 : Int32) (H : Heap) (locs : List Loc), gS g A s H locs (gW g bb tx rw (setS sb_0 3 (sb_0.1 2)) dy tn mo jk) → ∀ ls : Array Slot, lv_has ls 2 [(0, .ref (gA g 35))] → F_X2_step_b127   (setS sb_0 3 (sb_0.1 2)) z1_127 = EE → W p l e (rmL 7) s m [.ref (gA g 35)].toArray below meth c H locs 0 0 Q (F0 m 127 ls [.int z1_127, .ref (gA g 35)]) := by
                intro z1_127 H locs hG ls hl  hE
                unfold F_X2_step_b127 at hE
                refine g_put hx hb hts hiX2 tyX2 tyX2_ok nmX2 hown hG gw_Scribe rfl 4 (by decide) (index := 44) tw_fl_RX2_44 rfl rfl rfl (Nat.le_of_ble_eq_true rfl) gs_Scribe_f4 dX2_step_127 (fun H locs hG => ?_)
                refine lv_aload_n hx hb dX2_step_130 rfl (lv_at hl 0 rfl) ?_
                refine lv_dup hx hb dX2_step_131 rfl ?_
                refine g_get hx hb hts hiX2 hown hG gw_Scribe rfl 2 (by decide) (index := 19) tw_fl_RX2_19 (v := .int ((setS (setS sb_0 3 (sb_0.1 2)) 4 z1_127).1 2)) rfl dX2_step_132 ?_
                refine lv_iconst (v := 1) hx hb dX2_step_135 (by decide) ?_
                refine lv_iadd hx hb dX2_step_136 ?_
                refine g_put hx hb hts hiX2 tyX2 tyX2_ok nmX2 hown hG gw_Scribe rfl 2 (by decide) (index := 19) tw_fl_RX2_19 rfl rfl rfl (Nat.le_of_ble_eq_true rfl) gs_Scribe_f2 dX2_step_137 (fun H locs hG => ?_)
                subst hQ
                exact g_vret hx hb hr hlocks hG (((setS (setS (setS sb_0 3 (sb_0.1 2)) 4 z1_127) 2 (((setS (setS sb_0 3 (sb_0.1 2)) 4 z1_127).1 2) + 1))) : Ob) rfl hE.symm dX2_step_140
              refine lv_if_eq (tgt := 126) hx hb dX2_step_119 (by decide) (fun c_119 => ?_) (fun c_119 => ?_)
              · replace hE := (if_pos c_119).symm.trans hE
                refine lv_iconst (v := 1) hx hb dX2_step_126 (by decide) ?_
                exact J127 1 _ _ hG _ (lv_sub hl [0] rfl) hE
              replace hE := (if_neg c_119).symm.trans hE
              refine lv_iload_n hx hb dX2_step_122 rfl (lv_at hl 1 rfl) ?_
              refine lv_goto (tgt := 127) hx hb dX2_step_123 (by decide) ?_
              exact J127 (F_X2_byteAt (setS sb_0 3 (sb_0.1 2)) ((setS sb_0 3 (sb_0.1 2)).1 2)) _ _ hG _ (lv_sub hl [0] rfl) hE
            replace hE := (if_neg c_104).symm.trans hE
            refine lv_aload_n hx hb dX2_step_107 rfl (lv_at hl 0 rfl) ?_
            refine g_cv (g_runV (n := 0) (rest := []) hx hb hml hown hts hG (c_X2_takeNumber ⟨h0_50, h1_50, h2_50⟩) tw_ml_RX2_91 tw_im_X2_takeNumber tw_se_X2_takeNumber tw_in_RX2 tw_cd_X2_takeNumber (by decide +kernel) ⟨rfl, rfl, Nat.le_of_ble_eq_true rfl, Nat.le_of_ble_eq_true rfl⟩ gw_Scribe rfl rfl hl.1 rfl (Nat.le_of_ble_eq_true rfl) dX2_step_108 ⟨Nat.le_refl _, Nat.le_refl _⟩) hG hA (fun u H locs hp hG => ?_)
            obtain ⟨sb_108, rfl⟩ : ∃ z, z = u := ⟨u, rfl⟩
            replace hG : gS g A s H locs (gW g bb tx rw sb_108 dy tn mo jk) := by simpa only [up_up] using hG
            have hp_108 := hp
            rw [hp] at hE
            unfold F_X2_step_c108 at hE
            try dsimp only at hE
            refine lv_goto (tgt := 140) hx hb dX2_step_111 (by decide) ?_
            subst hQ
            exact g_vret hx hb hr hlocks hG ((sb_108) : Ob) rfl hE.symm dX2_step_140
          replace hE := (if_neg c_90).symm.trans hE
          refine lv_aload_n hx hb dX2_step_93 rfl (lv_at hl 0 rfl) ?_
          refine g_cv (g_runV (n := 0) (rest := []) hx hb hml hown hts hG (c_X2_takeWord ⟨h0_50, h1_50, h2_50⟩) tw_ml_RX2_85 tw_im_X2_takeWord tw_se_X2_takeWord tw_in_RX2 tw_cd_X2_takeWord (by decide +kernel) ⟨rfl, rfl, Nat.le_of_ble_eq_true rfl, Nat.le_of_ble_eq_true rfl⟩ gw_Scribe rfl rfl hl.1 rfl (Nat.le_of_ble_eq_true rfl) dX2_step_94 ⟨Nat.le_refl _, Nat.le_refl _⟩) hG hA (fun u H locs hp hG => ?_)
          obtain ⟨sb_94, rfl⟩ : ∃ z, z = u := ⟨u, rfl⟩
          replace hG : gS g A s H locs (gW g bb tx rw sb_94 dy tn mo jk) := by simpa only [up_up] using hG
          have hp_94 := hp
          rw [hp] at hE
          unfold F_X2_step_c94 at hE
          try dsimp only at hE
          refine lv_goto (tgt := 140) hx hb dX2_step_97 (by decide) ?_
          subst hQ
          exact g_vret hx hb hr hlocks hG ((sb_94) : Ob) rfl hE.symm dX2_step_140
        replace hE := (if_neg c_75).symm.trans hE
        have i_75 : ((setS sb_0 3 (sb_0.1 2)).1 1).toInt ≤ ((setS sb_0 3 (sb_0.1 2)).1 2).toInt := i_nlt c_75
        refine lv_aload_n hx hb dX2_step_78 rfl (lv_at hl 0 rfl) ?_
        refine lv_iconst (v := 0) hx hb dX2_step_79 (by decide) ?_
        refine g_put hx hb hts hiX2 tyX2 tyX2_ok nmX2 hown hG gw_Scribe rfl 4 (by decide) (index := 44) tw_fl_RX2_44 rfl rfl rfl (Nat.le_of_ble_eq_true rfl) gs_Scribe_f4 dX2_step_80 (fun H locs hG => ?_)
        refine lv_goto (tgt := 140) hx hb dX2_step_83 (by decide) ?_
        subst hQ
        exact g_vret hx hb hr hlocks hG (((setS (setS sb_0 3 (sb_0.1 2)) 4 0)) : Ob) rfl hE.symm dX2_step_140
      refine lv_icmp_ge (tgt := 50) hx hb dX2_step_8 (by decide) (fun c_8 => ?_) (fun c_8 => ?_)
      · replace hE := (if_pos c_8).symm.trans hE
        have i_8 : (sb_0.1 1).toInt ≤ (sb_0.1 2).toInt := i_le.mp c_8
        exact J50 _ _ hG _ (lv_sub hl [0] rfl) h0_0 h1_0 h2_0 hE
      replace hE := (if_neg c_8).symm.trans hE
      have i_8 : (sb_0.1 2).toInt < (sb_0.1 1).toInt := i_nle c_8
      refine lv_aload_n hx hb dX2_step_11 rfl (lv_at hl 0 rfl) ?_
      refine lv_aload_n hx hb dX2_step_12 rfl (lv_at hl 0 rfl) ?_
      refine g_get hx hb hts hiX2 hown hG gw_Scribe rfl 2 (by decide) (index := 19) tw_fl_RX2_19 (v := .int (sb_0.1 2)) rfl dX2_step_13 ?_
      refine g_ci (g_runV (n := 1) (rest := []) hx hb hml hown hts hG (c_X2_byteAt (sb_0.1 2)) tw_ml_RX2_78 tw_im_X2_byteAt tw_se_X2_byteAt tw_in_RX2 tw_cd_X2_byteAt (by decide +kernel) ⟨rfl, rfl, Nat.le_of_ble_eq_true rfl, Nat.le_of_ble_eq_true rfl⟩ gw_Scribe rfl rfl hl.1 rfl (Nat.le_of_ble_eq_true rfl) dX2_step_16 ⟨Nat.le_refl _, Nat.le_refl _⟩) hG hA (fun r _ H locs hp hG => ?_)
      subst hp
      replace hG : gS g A s H locs (gW g bb tx rw sb_0 dy tn mo jk) := hG
      refine lv_bipush (v := 32) hx hb dX2_step_19 (by decide) ?_
      have J37 : ∀  (H : Heap) (locs : List Loc), gS g A s H locs (gW g bb tx rw sb_0 dy tn mo jk) → ∀ ls : Array Slot, lv_has ls 2 [(0, .ref (gA g 35))] → F_X2_step_b37  (F_X2_step_l0 n0 ) sb_0 = EE → W p l e (rmL 7) s m [.ref (gA g 35)].toArray below meth c H locs 0 0 Q (F0 m 37 ls []) := by
        intro  H locs hG ls hl  hE
        unfold F_X2_step_b37 at hE
        refine lv_aload_n hx hb dX2_step_37 rfl (lv_at hl 0 rfl) ?_
        refine lv_dup hx hb dX2_step_38 rfl ?_
        refine g_get hx hb hts hiX2 hown hG gw_Scribe rfl 2 (by decide) (index := 19) tw_fl_RX2_19 (v := .int (sb_0.1 2)) rfl dX2_step_39 ?_
        refine lv_iconst (v := 1) hx hb dX2_step_42 (by decide) ?_
        refine lv_iadd hx hb dX2_step_43 ?_
        refine g_put hx hb hts hiX2 tyX2 tyX2_ok nmX2 hown hG gw_Scribe rfl 2 (by decide) (index := 19) tw_fl_RX2_19 rfl rfl rfl (Nat.le_of_ble_eq_true rfl) gs_Scribe_f2 dX2_step_44 (fun H locs hG => ?_)
        have eat : ((setS sb_0 2 ((sb_0.1 2) + 1)).1 2).toInt = (sb_0.1 2).toInt + 1 := addL (x := sb_0.1 2) (y := 1) (k := 1) (by decide +kernel) (by clear hE; omega) (by clear hE; omega)
        refine lv_goto (tgt := 0) hx hb dX2_step_47 (by decide) ?_
        exact ih0 (setS sb_0 2 ((sb_0.1 2) + 1)) _ _ hG _ (lv_sub hl [0] rfl) (by clear hE; omega) (by clear hE; omega) h2_0 (by clear hE; omega) hE
      refine lv_icmp_eq (tgt := 37) hx hb dX2_step_21 (by decide) (fun c_21 => ?_) (fun c_21 => ?_)
      · replace hE := (if_pos c_21).symm.trans hE
        exact J37 _ _ hG _ (lv_sub hl [0] rfl) hE
      replace hE := (if_neg c_21).symm.trans hE
      refine lv_aload_n hx hb dX2_step_24 rfl (lv_at hl 0 rfl) ?_
      refine lv_aload_n hx hb dX2_step_25 rfl (lv_at hl 0 rfl) ?_
      refine g_get hx hb hts hiX2 hown hG gw_Scribe rfl 2 (by decide) (index := 19) tw_fl_RX2_19 (v := .int (sb_0.1 2)) rfl dX2_step_26 ?_
      refine g_ci (g_runV (n := 1) (rest := []) hx hb hml hown hts hG (c_X2_byteAt (sb_0.1 2)) tw_ml_RX2_78 tw_im_X2_byteAt tw_se_X2_byteAt tw_in_RX2 tw_cd_X2_byteAt (by decide +kernel) ⟨rfl, rfl, Nat.le_of_ble_eq_true rfl, Nat.le_of_ble_eq_true rfl⟩ gw_Scribe rfl rfl hl.1 rfl (Nat.le_of_ble_eq_true rfl) dX2_step_29 ⟨Nat.le_refl _, Nat.le_refl _⟩) hG hA (fun r _ H locs hp hG => ?_)
      subst hp
      replace hG : gS g A s H locs (gW g bb tx rw sb_0 dy tn mo jk) := hG
      refine lv_bipush (v := 10) hx hb dX2_step_32 (by decide) ?_
      refine lv_icmp_ne (tgt := 50) hx hb dX2_step_34 (by decide) (fun c_34 => ?_) (fun c_34 => ?_)
      · replace hE := (if_neg c_34).symm.trans hE
        exact J50 _ _ hG _ (lv_sub hl [0] rfl) h0_0 h1_0 h2_0 hE
      replace hE := (if_pos c_34).symm.trans hE
      exact J37 _ _ hG _ (lv_sub hl [0] rfl) hE
  exact L0 161 sb _ _ hG _ (lv_sub hl [0] rfl) hok.1 hok.2.1 hok.2.2 (by clear hE; omega) hE
def F_X2_fail_b15 (sb : Ob) : Ob :=
  (setS sb 4 1)
def F_X2_fail (sb : Ob) : Ob :=
  (if 0 ≤ (sb.1 6) then (F_X2_fail_b15  sb) else (F_X2_fail_b15  (setS sb 6 (sb.1 3))))
set_option maxHeartbeats 4000000 in
set_option maxRecDepth 100000 in
theorem c_X2_fail {l : Launch} {g : GG} {sz : Nat} {bb : Ob} {tx rw : Nat → Ob} {sb dy : Ob} {tn : Nat → Ob} {mo : Ob} {jk : Nat → Nat → Int32}    : Met l yX2_fail (Cond.code yX2_fail cX2_fail 1 none :: TT) (rmL 1) (va_Pc [.ref (gA g 35)] (gB g sz (gW g bb tx rw sb dy tn mo jk))) (va_Qv (fun (u : Ob) => (F_X2_fail sb) = (u)) (fun u t => gC g (va_A (gW g bb tx rw sb dy tn mo jk) sz) (gW g bb tx rw u dy tn mo jk) t) (va_A (gW g bb tx rw sb dy tn mo jk) sz)) 0 0 (va_A (gW g bb tx rw sb dy tn mo jk) sz) := by
  generalize hE : F_X2_fail sb = EE
  refine g_of (Qf := fun A => (va_Qv (fun (u : Ob) => EE = (u)) (fun u t => gC g A (gW g bb tx rw u dy tn mo jk) t) A)) (cc := cX2_fail) (maxL := 1) (ret := none) (by decide) (Nat.le_of_ble_eq_true rfl) ?_
  intro p e s m below meth c A ls hx hb hml hr hlocks hts hown hA hG hl
  replace hown : s.vm.findClass RX2 = some m.cls := hown
  replace hl : lv_has ls 1 [(0, .ref (gA g 35))] := hl
  show W p l e (rmL 1) s m [.ref (gA g 35)].toArray below meth c s.heap [] 0 0 (MQ below (va_Qv (fun (u : Ob) => EE = (u)) (fun u t => gC g A (gW g bb tx rw u dy tn mo jk) t) A) [.ref (gA g 35)].toArray s 0 0 A) (F0 m 0 ls [])
  generalize hQ : MQ below (va_Qv (fun (u : Ob) => EE = (u)) (fun u t => gC g A (gW g bb tx rw u dy tn mo jk) t) A) [.ref (gA g 35)].toArray s 0 0 A = Q
  unfold F_X2_fail at hE
  refine lv_aload_n hx hb dX2_fail_0 rfl (lv_at hl 0 rfl) ?_
  refine g_get hx hb hts hiX2 hown hG gw_Scribe rfl 6 (by decide) (index := 22) tw_fl_RX2_22 (v := .int (sb.1 6)) rfl dX2_fail_1 ?_
  have J15 : ∀ (sb_15 : Ob) (H : Heap) (locs : List Loc), gS g A s H locs (gW g bb tx rw sb_15 dy tn mo jk) → ∀ ls : Array Slot, lv_has ls 1 [(0, .ref (gA g 35))] → F_X2_fail_b15   sb_15 = EE → W p l e (rmL 1) s m [.ref (gA g 35)].toArray below meth c H locs 0 0 Q (F0 m 15 ls []) := by
    intro sb_15 H locs hG ls hl  hE
    unfold F_X2_fail_b15 at hE
    refine lv_aload_n hx hb dX2_fail_15 rfl (lv_at hl 0 rfl) ?_
    refine lv_iconst (v := 1) hx hb dX2_fail_16 (by decide) ?_
    refine g_put hx hb hts hiX2 tyX2 tyX2_ok nmX2 hown hG gw_Scribe rfl 4 (by decide) (index := 44) tw_fl_RX2_44 rfl rfl rfl (Nat.le_of_ble_eq_true rfl) gs_Scribe_f4 dX2_fail_17 (fun H locs hG => ?_)
    subst hQ
    exact g_vret hx hb hr hlocks hG (((setS sb_15 4 1)) : Ob) rfl hE.symm dX2_fail_20
  refine lv_if_ge (tgt := 15) hx hb dX2_fail_4 (by decide) (fun c_4 => ?_) (fun c_4 => ?_)
  · replace hE := (if_pos c_4).symm.trans hE
    have i_4 : 0 ≤ (sb.1 6).toInt := i_le.mp c_4
    exact J15 sb _ _ hG _ (lv_sub hl [0] rfl) hE
  replace hE := (if_neg c_4).symm.trans hE
  have i_4 : (sb.1 6).toInt < 0 := i_nle c_4
  refine lv_aload_n hx hb dX2_fail_7 rfl (lv_at hl 0 rfl) ?_
  refine lv_aload_n hx hb dX2_fail_8 rfl (lv_at hl 0 rfl) ?_
  refine g_get hx hb hts hiX2 hown hG gw_Scribe rfl 3 (by decide) (index := 50) tw_fl_RX2_50 (v := .int (sb.1 3)) rfl dX2_fail_9 ?_
  refine g_put hx hb hts hiX2 tyX2 tyX2_ok nmX2 hown hG gw_Scribe rfl 6 (by decide) (index := 22) tw_fl_RX2_22 rfl rfl rfl (Nat.le_of_ble_eq_true rfl) gs_Scribe_f6 dX2_fail_12 (fun H locs hG => ?_)
  exact J15 (setS sb 6 (sb.1 3)) _ _ hG _ (lv_sub hl [0] rfl) hE
