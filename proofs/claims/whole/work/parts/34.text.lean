def F_X6_text_b122 (mo : Ob) (x1 : Int32) : Int32 × Ob :=
  (if x1 = 0 then (((-100) - (mo.1 19)), (setS (stA mo 8 ((4 * (mo.1 9)) + 3) (mo.1 26)) 6 0)) else ((((mo.1 9) + 1) - 1), (setS (setS (stA mo 8 ((4 * (mo.1 9)) + 3) (mo.1 26)) 6 0) 9 ((mo.1 9) + 1))))
def F_X6_text_b121 (mo : Ob) (z0 : Int32) : Int32 × Ob :=
  (F_X6_text_b122  mo z0)
def F_X6_text_c106 (u : Ob) : Int32 × Ob :=
  (if (u.1 20) = 0 then (F_X6_text_b121  u 1) else (F_X6_text_b121  u 0))
def F_X6_text_b101 (mo : Ob) (x1 : Int32) : Int32 × Ob :=
  (if x1 = 0 then (F_X6_text_b122  mo x1) else (F_X6_text_c106 (F_X6_next mo)))
def F_X6_text_b94 (K26 : Ob → Int32 → Int32 → Int32 × Ob) (mo : Ob) (x2 : Int32) (z0 : Int32) : Int32 × Ob :=
  (K26 mo z0 (x2 + 1))
def F_X6_text_b93 (K26 : Ob → Int32 → Int32 → Int32 × Ob) (mo : Ob) (x2 : Int32) : Int32 × Ob :=
  (F_X6_text_b94 K26 mo x2 0)
def F_X6_text_c83 (K26 : Ob → Int32 → Int32 → Int32 × Ob) (u : Int32 × Ob) (x2 : Int32) : Int32 × Ob :=
  (if u.1 = 0 then (F_X6_text_b93 K26 u.2 x2) else (F_X6_text_b94 K26 u.2 x2 1))
def F_X6_text_b60 (K26 : Ob → Int32 → Int32 → Int32 × Ob) (mo : Ob) (x2 : Int32) (z0 : Int32) : Int32 × Ob :=
  (if z0 = 0 then (F_X6_text_b93 K26 (stA mo 8 ((4 * (mo.1 9)) + x2) (mo.1 26)) x2) else (F_X6_text_c83 K26 (F_X6_eRead (stA mo 8 ((4 * (mo.1 9)) + x2) (mo.1 26))) x2))
def F_X6_text_b59 (K26 : Ob → Int32 → Int32 → Int32 × Ob) (mo : Ob) (x2 : Int32) : Int32 × Ob :=
  (F_X6_text_b60 K26 mo x2 0)
def F_X6_text_c36 (K26 : Ob → Int32 → Int32 → Int32 × Ob) (u : Ob) (x2 : Int32) : Int32 × Ob :=
  (if (u.1 20) = 3 then (if (u.1 21) = x2 then (F_X6_text_b60 K26 u x2 1) else (F_X6_text_b59 K26 u x2)) else (F_X6_text_b59 K26 u x2))
def F_X6_text_l26 : Nat → Ob → Int32 → Int32 → Int32 × Ob
  | 0, mo, _, _ => (0, mo)
  | n + 1, mo, x1, x2 =>
    (if 3 ≤ x2 then (F_X6_text_b101  mo x1) else (if x1 = 0 then (F_X6_text_b101  mo x1) else (F_X6_text_c36 (F_X6_text_l26 n ) (F_X6_next mo) x2)))
def F_X6_text (mo : Ob) : Int32 × Ob :=
  (if (mo.1 9) = 6 then ((-4), mo) else (F_X6_text_l26 4  (setS (setS mo 18 0) 26 0) 1 0))
set_option maxHeartbeats 4000000 in
set_option maxRecDepth 100000 in
theorem c_X6_text {l : Launch} {g : GG} {sz : Nat} {bb : Ob} {tx rw : Nat → Ob} {sb dy : Ob} {tn : Nat → Ob} {mo : Ob} {jk : Nat → Nat → Int32}   (hx9 : 0 ≤ (mo.1 9).toInt ∧ (mo.1 9).toInt ≤ 6) (hx6 : 0 ≤ (mo.1 6).toInt ∧ (mo.1 6).toInt ≤ 160) : Met l yX6_text (Cond.code yX6_text cX6_text 3 (some .int) :: TT) (rmL (5)) (va_Pc [.ref (gA g 58)] (gB g sz (gW g bb tx rw sb dy tn mo jk))) (va_Qi (fun r (u : Ob) => (F_X6_text mo) = (r, u)) (fun u t => gC g (va_A (gW g bb tx rw sb dy tn mo jk) sz) (gW g bb tx rw sb dy tn u jk) t) (va_A (gW g bb tx rw sb dy tn mo jk) sz)) 0 0 (va_A (gW g bb tx rw sb dy tn mo jk) sz) := by
  generalize hE : F_X6_text mo = EE
  refine g_of (Qf := fun A => (va_Qi (fun r (u : Ob) => EE = (r, u)) (fun u t => gC g A (gW g bb tx rw sb dy tn u jk) t) A)) (cc := cX6_text) (maxL := 3) (ret := (some .int)) (by decide) (Nat.le_of_ble_eq_true rfl) ?_
  intro p e s m below meth c A ls hx hb hml hr hlocks hts hown hA hG hl
  replace hown : s.vm.findClass RX6 = some m.cls := hown
  replace hl : lv_has ls 3 [(0, .ref (gA g 58))] := hl
  show W p l e (rmL (5)) s m [.ref (gA g 58)].toArray below meth c s.heap [] 0 0 (MQ below (va_Qi (fun r (u : Ob) => EE = (r, u)) (fun u t => gC g A (gW g bb tx rw sb dy tn u jk) t) A) [.ref (gA g 58)].toArray s 0 0 A) (F0 m 0 ls [])
  generalize hQ : MQ below (va_Qi (fun r (u : Ob) => EE = (r, u)) (fun u t => gC g A (gW g bb tx rw sb dy tn u jk) t) A) [.ref (gA g 58)].toArray s 0 0 A = Q
  unfold F_X6_text at hE
  refine lv_aload_n hx hb dX6_text_0 rfl (lv_at hl 0 rfl) ?_
  refine g_get hx hb hts hiX6 hown hG gw_Model rfl 9 (by decide) (index := 85) tw_fl_RX6_85 (v := .int (mo.1 9)) rfl dX6_text_1 ?_
  refine lv_bipush (v := 6) hx hb dX6_text_4 (by decide) ?_
  refine lv_icmp_ne (tgt := 12) hx hb dX6_text_6 (by decide) (fun c_6 => ?_) (fun c_6 => ?_)
  · replace hE := (if_neg c_6).symm.trans hE
    have i_6 : (mo.1 9).toInt ≠ 6 := fun h => c_6 (Int32.toInt_inj.mp h)
    refine lv_aload_n hx hb dX6_text_12 rfl (lv_at hl 0 rfl) ?_
    refine lv_iconst (v := 0) hx hb dX6_text_13 (by decide) ?_
    refine g_put hx hb hts hiX6 tyX6 tyX6_ok nmX6 hown hG gw_Model rfl 18 (by decide) (index := 95) tw_fl_RX6_95 rfl rfl rfl (Nat.le_of_ble_eq_true rfl) gs_Model_f18 dX6_text_14 (fun H locs hG => ?_)
    refine lv_aload_n hx hb dX6_text_17 rfl (lv_at hl 0 rfl) ?_
    refine lv_iconst (v := 0) hx hb dX6_text_18 (by decide) ?_
    refine g_put hx hb hts hiX6 tyX6 tyX6_ok nmX6 hown hG gw_Model rfl 26 (by decide) (index := 111) tw_fl_RX6_111 rfl rfl rfl (Nat.le_of_ble_eq_true rfl) gs_Model_f26 dX6_text_19 (fun H locs hG => ?_)
    refine lv_iconst (v := 1) hx hb dX6_text_22 (by decide) ?_
    refine lv_istore_n (lv' := [(1, .int 1), (0, .ref (gA g 58))]) hx hb dX6_text_23 rfl hl (by decide) rfl (fun ls hl => ?_)
    replace hl := lv_sub hl [1, 0] (l' := [(0, .ref (gA g 58)), (1, .int 1)]) rfl
    refine lv_iconst (v := 0) hx hb dX6_text_24 (by decide) ?_
    refine lv_istore_n (lv' := [(2, .int 0), (0, .ref (gA g 58)), (1, .int 1)]) hx hb dX6_text_25 rfl hl (by decide) rfl (fun ls hl => ?_)
    replace hl := lv_sub hl [1, 2, 0] (l' := [(0, .ref (gA g 58)), (1, .int 1), (2, .int 0)]) rfl
    have L26 : ∀ (n26 : Nat) (x1_26 : Int32) (x2_26 : Int32) (mo_26 : Ob) (H : Heap) (locs : List Loc), gS g A s H locs (gW g bb tx rw sb dy tn mo_26 jk) → ∀ ls : Array Slot, lv_has ls 3 [(0, .ref (gA g 58)), (1, .int x1_26), (2, .int x2_26)] → 0 ≤ x2_26.toInt → x2_26.toInt ≤ 3 → 3 < x2_26.toInt + n26 → 0 ≤ (mo_26.1 18).toInt → (mo_26.1 18).toInt ≤ (mo_26.1 6).toInt → (mo_26.1 6).toInt ≤ 160 → 0 ≤ (mo_26.1 9).toInt → (mo_26.1 9).toInt ≤ 5 → 0 ≤ (mo_26.1 26).toInt → (mo_26.1 26).toInt ≤ (mo_26.1 18).toInt → F_X6_text_l26 n26  mo_26 x1_26 x2_26 = EE → W p l e (rmL (5)) s m [.ref (gA g 58)].toArray below meth c H locs 0 0 Q (F0 m 26 ls []) := by
      intro n26
      induction n26 with
      | zero =>
        intro x1_26 x2_26 mo_26 H locs hG ls hl h0_26 h1_26 hm_26 tn0_26 tn1_26 tn2_26 tt0_26 tt1_26 to0_26 to1_26 hE
        clear hE; omega
      | succ n26 ih26 =>
        intro x1_26 x2_26 mo_26 H locs hG ls hl h0_26 h1_26 hm_26 tn0_26 tn1_26 tn2_26 tt0_26 tt1_26 to0_26 to1_26 hE
        unfold F_X6_text_l26 at hE
        refine lv_iload_n hx hb dX6_text_26 rfl (lv_at hl 2 rfl) ?_
        refine lv_iconst (v := 3) hx hb dX6_text_27 (by decide) ?_
        have J101 : ∀  (H : Heap) (locs : List Loc), gS g A s H locs (gW g bb tx rw sb dy tn mo_26 jk) → ∀ ls : Array Slot, lv_has ls 3 [(0, .ref (gA g 58)), (1, .int x1_26)] → F_X6_text_b101   mo_26 x1_26 = EE → W p l e (rmL (5)) s m [.ref (gA g 58)].toArray below meth c H locs 0 0 Q (F0 m 101 ls []) := by
          intro  H locs hG ls hl  hE
          unfold F_X6_text_b101 at hE
          refine lv_iload_n hx hb dX6_text_101 rfl (lv_at hl 1 rfl) ?_
          have J122 : ∀ (x1_122 : Int32) (mo_122 : Ob) (H : Heap) (locs : List Loc), gS g A s H locs (gW g bb tx rw sb dy tn mo_122 jk) → ∀ ls : Array Slot, lv_has ls 3 [(0, .ref (gA g 58)), (1, .int x1_122)] → 0 ≤ (mo_122.1 9).toInt → (mo_122.1 9).toInt ≤ 5 → F_X6_text_b122   mo_122 x1_122 = EE → W p l e (rmL (5)) s m [.ref (gA g 58)].toArray below meth c H locs 0 0 Q (F0 m 122 ls []) := by
            intro x1_122 mo_122 H locs hG ls hl tt0_122 tt1_122 hE
            unfold F_X6_text_b122 at hE
            refine lv_aload_n hx hb dX6_text_122 rfl (lv_at hl 0 rfl) ?_
            refine g_get hx hb hts hiX6 hown hG gw_Model rfl 8 (by decide) (index := 28) tw_fl_RX6_28 (v := .ref (gA g 65)) rfl dX6_text_123 ?_
            refine lv_iconst (v := 4) hx hb dX6_text_126 (by decide) ?_
            refine lv_aload_n hx hb dX6_text_127 rfl (lv_at hl 0 rfl) ?_
            refine g_get hx hb hts hiX6 hown hG gw_Model rfl 9 (by decide) (index := 85) tw_fl_RX6_85 (v := .int (mo_122.1 9)) rfl dX6_text_128 ?_
            refine lv_imul hx hb dX6_text_131 ?_
            refine lv_iconst (v := 3) hx hb dX6_text_132 (by decide) ?_
            refine lv_iadd hx hb dX6_text_133 ?_
            refine lv_aload_n hx hb dX6_text_134 rfl (lv_at hl 0 rfl) ?_
            refine g_get hx hb hts hiX6 hown hG gw_Model rfl 26 (by decide) (index := 111) tw_fl_RX6_111 (v := .int (mo_122.1 26)) rfl dX6_text_135 ?_
            have e1 : (4 * (mo_122.1 9)).toInt = 4 * (mo_122.1 9).toInt := mulL (k := 4) (by decide +kernel) (by clear hE; omega) (by clear hE; omega)
            have e2 : ((4 * (mo_122.1 9)) + 3).toInt = (4 * (mo_122.1 9)).toInt + 3 := addL (k := 3) (by decide +kernel) (by clear hE; omega) (by clear hE; omega)
            refine g_ist hx hb hG gw_Model_a8 (show vp_in ((4 * (mo_122.1 9)) + 3) 24 from (vp_i (by clear hE; omega) (by clear hE; omega))) gs_Model_a8 dX6_text_138 (fun H locs hG => ?_)
            refine lv_aload_n hx hb dX6_text_139 rfl (lv_at hl 0 rfl) ?_
            refine lv_iconst (v := 0) hx hb dX6_text_140 (by decide) ?_
            refine g_put hx hb hts hiX6 tyX6 tyX6_ok nmX6 hown hG gw_Model rfl 6 (by decide) (index := 70) tw_fl_RX6_70 rfl rfl rfl (Nat.le_of_ble_eq_true rfl) gs_Model_f6 dX6_text_141 (fun H locs hG => ?_)
            refine lv_iload_n hx hb dX6_text_144 rfl (lv_at hl 1 rfl) ?_
            refine lv_if_ne (tgt := 156) hx hb dX6_text_145 (by decide) (fun c_145 => ?_) (fun c_145 => ?_)
            · replace hE := (if_neg c_145).symm.trans hE
              have i_145 : x1_122.toInt ≠ 0 := fun h => c_145 (Int32.toInt_inj.mp h)
              refine lv_aload_n hx hb dX6_text_156 rfl (lv_at hl 0 rfl) ?_
              refine lv_dup hx hb dX6_text_157 rfl ?_
              refine g_get hx hb hts hiX6 hown hG gw_Model rfl 9 (by decide) (index := 85) tw_fl_RX6_85 (v := .int (mo_122.1 9)) rfl dX6_text_158 ?_
              refine lv_iconst (v := 1) hx hb dX6_text_161 (by decide) ?_
              refine lv_iadd hx hb dX6_text_162 ?_
              refine g_put hx hb hts hiX6 tyX6 tyX6_ok nmX6 hown hG gw_Model rfl 9 (by decide) (index := 85) tw_fl_RX6_85 rfl rfl rfl (Nat.le_of_ble_eq_true rfl) gs_Model_f9 dX6_text_163 (fun H locs hG => ?_)
              refine lv_aload_n hx hb dX6_text_166 rfl (lv_at hl 0 rfl) ?_
              refine g_get hx hb hts hiX6 hown hG gw_Model rfl 9 (by decide) (index := 85) tw_fl_RX6_85 (v := .int ((mo_122.1 9) + 1)) rfl dX6_text_167 ?_
              refine lv_iconst (v := 1) hx hb dX6_text_170 (by decide) ?_
              refine lv_isub hx hb dX6_text_171 ?_
              subst hQ
              exact g_iret hx hb hr hlocks hG (((setS (setS (stA mo_122 8 ((4 * (mo_122.1 9)) + 3) (mo_122.1 26)) 6 0) 9 ((mo_122.1 9) + 1))) : Ob) rfl hE.symm dX6_text_172
            replace hE := (if_pos c_145).symm.trans hE
            have i_145 : x1_122.toInt = 0 := congrArg Int32.toInt c_145
            refine lv_bipush (v := (-100)) hx hb dX6_text_148 (by decide) ?_
            refine lv_aload_n hx hb dX6_text_150 rfl (lv_at hl 0 rfl) ?_
            refine g_get hx hb hts hiX6 hown hG gw_Model rfl 19 (by decide) (index := 98) tw_fl_RX6_98 (v := .int (mo_122.1 19)) rfl dX6_text_151 ?_
            refine lv_isub hx hb dX6_text_154 ?_
            subst hQ
            exact g_iret hx hb hr hlocks hG (((setS (stA mo_122 8 ((4 * (mo_122.1 9)) + 3) (mo_122.1 26)) 6 0)) : Ob) rfl hE.symm dX6_text_155
          refine lv_if_eq (tgt := 122) hx hb dX6_text_102 (by decide) (fun c_102 => ?_) (fun c_102 => ?_)
          · replace hE := (if_pos c_102).symm.trans hE
            have i_102 : x1_26.toInt = 0 := congrArg Int32.toInt c_102
            exact J122 x1_26 mo_26 _ _ hG _ (lv_sub hl [0, 1] rfl) (show 0 ≤ (mo_26.1 9).toInt from by clear hE; omega) (show (mo_26.1 9).toInt ≤ 5 from by clear hE; omega) hE
          replace hE := (if_neg c_102).symm.trans hE
          have i_102 : x1_26.toInt ≠ 0 := fun h => c_102 (Int32.toInt_inj.mp h)
          refine lv_aload_n hx hb dX6_text_105 rfl (lv_at hl 0 rfl) ?_
          refine g_cv (g_runV (n := 0) (rest := []) hx hb hml hown hts hG (c_X6_next ⟨tn0_26, tn1_26, tn2_26⟩) tw_ml_RX6_134 tw_im_X6_next tw_se_X6_next tw_in_RX6 tw_cd_X6_next (by decide +kernel) ⟨rfl, rfl, Nat.le_of_ble_eq_true rfl, Nat.le_of_ble_eq_true rfl⟩ gw_Model rfl rfl hl.1 rfl (Nat.le_of_ble_eq_true rfl) dX6_text_106 ⟨Nat.le_refl _, Nat.le_refl _⟩) hG hA (fun u H locs hp hG => ?_)
          obtain ⟨mo_106, rfl⟩ : ∃ z, z = u := ⟨u, rfl⟩
          replace hG : gS g A s H locs (gW g bb tx rw sb dy tn mo_106 jk) := by simpa only [up_up] using hG
          have hp_106 := hp
          rw [hp] at hE
          unfold F_X6_text_c106 at hE
          try dsimp only at hE
          have hx106 := next_ok hp_106 ⟨tn0_26, tn1_26, tn2_26⟩
          have hy106 : nOK mo_106 := hx106.1.1
          have hz106 : (mo_26.1 18).toInt ≤ (mo_106.1 18).toInt := hx106.1.2.1
          have hw106 : (mo_106.1 20).toInt = 0 ∨ (mo_26.1 18).toInt + 1 ≤ (mo_106.1 18).toInt := (Classical.em (mo_106.1 20 = 0)).elim (fun q => Or.inl (by rw [q]; rfl)) (fun q => Or.inr (hx106.2 q))
          have hv106_6 : (mo_106.1 6).toInt = (mo_26.1 6).toInt := congrArg Int32.toInt (hx106.1.2.2.2 6 (by decide) (by decide) (by decide) (by decide))
          have hv106_9 : (mo_106.1 9).toInt = (mo_26.1 9).toInt := congrArg Int32.toInt (hx106.1.2.2.2 9 (by decide) (by decide) (by decide) (by decide))
          have hv106_24 : (mo_106.1 24).toInt = (mo_26.1 24).toInt := congrArg Int32.toInt (hx106.1.2.2.2 24 (by decide) (by decide) (by decide) (by decide))
          have hv106_26 : (mo_106.1 26).toInt = (mo_26.1 26).toInt := congrArg Int32.toInt (hx106.1.2.2.2 26 (by decide) (by decide) (by decide) (by decide))
          refine lv_aload_n hx hb dX6_text_109 rfl (lv_at hl 0 rfl) ?_
          refine g_get hx hb hts hiX6 hown hG gw_Model rfl 20 (by decide) (index := 101) tw_fl_RX6_101 (v := .int (mo_106.1 20)) rfl dX6_text_110 ?_
          have J121 : ∀ (z0_121 : Int32) (H : Heap) (locs : List Loc), gS g A s H locs (gW g bb tx rw sb dy tn mo_106 jk) → ∀ ls : Array Slot, lv_has ls 3 [(0, .ref (gA g 58))] → 0 ≤ (mo_106.1 9).toInt → (mo_106.1 9).toInt ≤ 5 → F_X6_text_b121   mo_106 z0_121 = EE → W p l e (rmL (5)) s m [.ref (gA g 58)].toArray below meth c H locs 0 0 Q (F0 m 121 ls [.int z0_121]) := by
            intro z0_121 H locs hG ls hl tt0_121 tt1_121 hE
            unfold F_X6_text_b121 at hE
            refine lv_istore_n (lv' := [(1, .int z0_121), (0, .ref (gA g 58))]) hx hb dX6_text_121 rfl hl (by decide) rfl (fun ls hl => ?_)
            replace hl := lv_sub hl [1, 0] (l' := [(0, .ref (gA g 58)), (1, .int z0_121)]) rfl
            exact J122 z0_121 mo_106 _ _ hG _ (lv_sub hl [0, 1] rfl) (show 0 ≤ (mo_106.1 9).toInt from by clear hE; omega) (show (mo_106.1 9).toInt ≤ 5 from by clear hE; omega) hE
          refine lv_if_ne (tgt := 120) hx hb dX6_text_113 (by decide) (fun c_113 => ?_) (fun c_113 => ?_)
          · replace hE := (if_neg c_113).symm.trans hE
            have i_113 : (mo_106.1 20).toInt ≠ 0 := fun h => c_113 (Int32.toInt_inj.mp h)
            refine lv_iconst (v := 0) hx hb dX6_text_120 (by decide) ?_
            exact J121 0 _ _ hG _ (lv_sub hl [0] rfl) (show 0 ≤ (mo_106.1 9).toInt from by clear hE; omega) (show (mo_106.1 9).toInt ≤ 5 from by clear hE; omega) hE
          replace hE := (if_pos c_113).symm.trans hE
          have i_113 : (mo_106.1 20).toInt = 0 := congrArg Int32.toInt c_113
          refine lv_iconst (v := 1) hx hb dX6_text_116 (by decide) ?_
          refine lv_goto (tgt := 121) hx hb dX6_text_117 (by decide) ?_
          exact J121 1 _ _ hG _ (lv_sub hl [0] rfl) (show 0 ≤ (mo_106.1 9).toInt from by clear hE; omega) (show (mo_106.1 9).toInt ≤ 5 from by clear hE; omega) hE
        refine lv_icmp_ge (tgt := 101) hx hb dX6_text_28 (by decide) (fun c_28 => ?_) (fun c_28 => ?_)
        · replace hE := (if_pos c_28).symm.trans hE
          have i_28 : 3 ≤ x2_26.toInt := i_le.mp c_28
          exact J101 _ _ hG _ (lv_sub hl [0, 1] rfl) hE
        replace hE := (if_neg c_28).symm.trans hE
        have i_28 : x2_26.toInt < 3 := i_nle c_28
        refine lv_iload_n hx hb dX6_text_31 rfl (lv_at hl 1 rfl) ?_
        refine lv_if_eq (tgt := 101) hx hb dX6_text_32 (by decide) (fun c_32 => ?_) (fun c_32 => ?_)
        · replace hE := (if_pos c_32).symm.trans hE
          have i_32 : x1_26.toInt = 0 := congrArg Int32.toInt c_32
          exact J101 _ _ hG _ (lv_sub hl [0, 1] rfl) hE
        replace hE := (if_neg c_32).symm.trans hE
        have i_32 : x1_26.toInt ≠ 0 := fun h => c_32 (Int32.toInt_inj.mp h)
        refine lv_aload_n hx hb dX6_text_35 rfl (lv_at hl 0 rfl) ?_
        refine g_cv (g_runV (n := 0) (rest := []) hx hb hml hown hts hG (c_X6_next ⟨tn0_26, tn1_26, tn2_26⟩) tw_ml_RX6_134 tw_im_X6_next tw_se_X6_next tw_in_RX6 tw_cd_X6_next (by decide +kernel) ⟨rfl, rfl, Nat.le_of_ble_eq_true rfl, Nat.le_of_ble_eq_true rfl⟩ gw_Model rfl rfl hl.1 rfl (Nat.le_of_ble_eq_true rfl) dX6_text_36 ⟨Nat.le_refl _, Nat.le_refl _⟩) hG hA (fun u H locs hp hG => ?_)
        obtain ⟨mo_36, rfl⟩ : ∃ z, z = u := ⟨u, rfl⟩
        replace hG : gS g A s H locs (gW g bb tx rw sb dy tn mo_36 jk) := by simpa only [up_up] using hG
        have hp_36 := hp
        rw [hp] at hE
        unfold F_X6_text_c36 at hE
        try dsimp only at hE
        have hx36 := next_ok hp_36 ⟨tn0_26, tn1_26, tn2_26⟩
        have hy36 : nOK mo_36 := hx36.1.1
        have hz36 : (mo_26.1 18).toInt ≤ (mo_36.1 18).toInt := hx36.1.2.1
        have hw36 : (mo_36.1 20).toInt = 0 ∨ (mo_26.1 18).toInt + 1 ≤ (mo_36.1 18).toInt := (Classical.em (mo_36.1 20 = 0)).elim (fun q => Or.inl (by rw [q]; rfl)) (fun q => Or.inr (hx36.2 q))
        have hv36_6 : (mo_36.1 6).toInt = (mo_26.1 6).toInt := congrArg Int32.toInt (hx36.1.2.2.2 6 (by decide) (by decide) (by decide) (by decide))
        have hv36_9 : (mo_36.1 9).toInt = (mo_26.1 9).toInt := congrArg Int32.toInt (hx36.1.2.2.2 9 (by decide) (by decide) (by decide) (by decide))
        have hv36_24 : (mo_36.1 24).toInt = (mo_26.1 24).toInt := congrArg Int32.toInt (hx36.1.2.2.2 24 (by decide) (by decide) (by decide) (by decide))
        have hv36_26 : (mo_36.1 26).toInt = (mo_26.1 26).toInt := congrArg Int32.toInt (hx36.1.2.2.2 26 (by decide) (by decide) (by decide) (by decide))
        refine lv_aload_n hx hb dX6_text_39 rfl (lv_at hl 0 rfl) ?_
        refine g_get hx hb hts hiX6 hown hG gw_Model rfl 20 (by decide) (index := 101) tw_fl_RX6_101 (v := .int (mo_36.1 20)) rfl dX6_text_40 ?_
        refine lv_iconst (v := 3) hx hb dX6_text_43 (by decide) ?_
        have J60 : ∀ (z0_60 : Int32) (H : Heap) (locs : List Loc), gS g A s H locs (gW g bb tx rw sb dy tn mo_36 jk) → ∀ ls : Array Slot, lv_has ls 3 [(0, .ref (gA g 58)), (2, .int x2_26)] → F_X6_text_b60  (F_X6_text_l26 n26 ) mo_36 x2_26 z0_60 = EE → W p l e (rmL (5)) s m [.ref (gA g 58)].toArray below meth c H locs 0 0 Q (F0 m 60 ls [.int z0_60]) := by
          intro z0_60 H locs hG ls hl  hE
          unfold F_X6_text_b60 at hE
          refine lv_istore_n (lv' := [(1, .int z0_60), (0, .ref (gA g 58)), (2, .int x2_26)]) hx hb dX6_text_60 rfl hl (by decide) rfl (fun ls hl => ?_)
          replace hl := lv_sub hl [1, 0, 2] (l' := [(0, .ref (gA g 58)), (1, .int z0_60), (2, .int x2_26)]) rfl
          refine lv_aload_n hx hb dX6_text_61 rfl (lv_at hl 0 rfl) ?_
          refine g_get hx hb hts hiX6 hown hG gw_Model rfl 8 (by decide) (index := 28) tw_fl_RX6_28 (v := .ref (gA g 65)) rfl dX6_text_62 ?_
          refine lv_iconst (v := 4) hx hb dX6_text_65 (by decide) ?_
          refine lv_aload_n hx hb dX6_text_66 rfl (lv_at hl 0 rfl) ?_
          refine g_get hx hb hts hiX6 hown hG gw_Model rfl 9 (by decide) (index := 85) tw_fl_RX6_85 (v := .int (mo_36.1 9)) rfl dX6_text_67 ?_
          refine lv_imul hx hb dX6_text_70 ?_
          refine lv_iload_n hx hb dX6_text_71 rfl (lv_at hl 2 rfl) ?_
          refine lv_iadd hx hb dX6_text_72 ?_
          refine lv_aload_n hx hb dX6_text_73 rfl (lv_at hl 0 rfl) ?_
          refine g_get hx hb hts hiX6 hown hG gw_Model rfl 26 (by decide) (index := 111) tw_fl_RX6_111 (v := .int (mo_36.1 26)) rfl dX6_text_74 ?_
          have e3 : (4 * (mo_36.1 9)).toInt = 4 * (mo_36.1 9).toInt := mulL (k := 4) (by decide +kernel) (by clear hE; omega) (by clear hE; omega)
          have e4 : ((4 * (mo_36.1 9)) + x2_26).toInt = (4 * (mo_36.1 9)).toInt + x2_26.toInt := fb_addI (by clear hE; omega) (by clear hE; omega)
          refine g_ist hx hb hG gw_Model_a8 (show vp_in ((4 * (mo_36.1 9)) + x2_26) 24 from (vp_i (by clear hE; omega) (by clear hE; omega))) gs_Model_a8 dX6_text_77 (fun H locs hG => ?_)
          refine lv_iload_n hx hb dX6_text_78 rfl (lv_at hl 1 rfl) ?_
          have J94 : ∀ (z0_94 : Int32) (mo_94 : Ob) (H : Heap) (locs : List Loc), gS g A s H locs (gW g bb tx rw sb dy tn mo_94 jk) → ∀ ls : Array Slot, lv_has ls 3 [(0, .ref (gA g 58)), (2, .int x2_26)] → 0 ≤ (mo_94.1 18).toInt → (mo_94.1 18).toInt ≤ (mo_94.1 6).toInt → (mo_94.1 6).toInt ≤ 160 → 0 ≤ (mo_94.1 9).toInt → (mo_94.1 9).toInt ≤ 5 → 0 ≤ (mo_94.1 26).toInt → (mo_94.1 26).toInt ≤ (mo_94.1 18).toInt → F_X6_text_b94  (F_X6_text_l26 n26 ) mo_94 x2_26 z0_94 = EE → W p l e (rmL (5)) s m [.ref (gA g 58)].toArray below meth c H locs 0 0 Q (F0 m 94 ls [.int z0_94]) := by
            intro z0_94 mo_94 H locs hG ls hl tn0_94 tn1_94 tn2_94 tt0_94 tt1_94 to0_94 to1_94 hE
            unfold F_X6_text_b94 at hE
            refine lv_istore_n (lv' := [(1, .int z0_94), (0, .ref (gA g 58)), (2, .int x2_26)]) hx hb dX6_text_94 rfl hl (by decide) rfl (fun ls hl => ?_)
            replace hl := lv_sub hl [1, 0, 2] (l' := [(0, .ref (gA g 58)), (1, .int z0_94), (2, .int x2_26)]) rfl
            refine lv_iinc (v := (x2_26 + 1)) (lv' := [(2, .int (x2_26 + 1)), (0, .ref (gA g 58)), (1, .int z0_94)]) hx hb dX6_text_95 hl (k := 2) rfl rfl (by decide) rfl (fun ls hl => ?_)
            replace hl := lv_sub hl [1, 2, 0] (l' := [(0, .ref (gA g 58)), (1, .int z0_94), (2, .int (x2_26 + 1))]) rfl
            refine lv_goto (tgt := 26) hx hb dX6_text_98 (by decide) ?_
            have e5 : (x2_26 + 1).toInt = x2_26.toInt + 1 := addL (k := 1) (by decide +kernel) (by clear hE; omega) (by clear hE; omega)
            exact ih26 z0_94 (x2_26 + 1) mo_94 _ _ hG _ (lv_sub hl [0, 1, 2] rfl) (by clear hE; omega) (by clear hE; omega) (by clear hE; omega) (show 0 ≤ (mo_94.1 18).toInt from by clear hE; omega) (show (mo_94.1 18).toInt ≤ (mo_94.1 6).toInt from by clear hE; omega) (show (mo_94.1 6).toInt ≤ 160 from by clear hE; omega) (show 0 ≤ (mo_94.1 9).toInt from by clear hE; omega) (show (mo_94.1 9).toInt ≤ 5 from by clear hE; omega) (show 0 ≤ (mo_94.1 26).toInt from by clear hE; omega) (show (mo_94.1 26).toInt ≤ (mo_94.1 18).toInt from by clear hE; omega) hE
          have J93 : ∀ (mo_93 : Ob) (H : Heap) (locs : List Loc), gS g A s H locs (gW g bb tx rw sb dy tn mo_93 jk) → ∀ ls : Array Slot, lv_has ls 3 [(0, .ref (gA g 58)), (2, .int x2_26)] → 0 ≤ (mo_93.1 18).toInt → (mo_93.1 18).toInt ≤ (mo_93.1 6).toInt → (mo_93.1 6).toInt ≤ 160 → 0 ≤ (mo_93.1 9).toInt → (mo_93.1 9).toInt ≤ 5 → 0 ≤ (mo_93.1 26).toInt → (mo_93.1 26).toInt ≤ (mo_93.1 18).toInt → F_X6_text_b93  (F_X6_text_l26 n26 ) mo_93 x2_26 = EE → W p l e (rmL (5)) s m [.ref (gA g 58)].toArray below meth c H locs 0 0 Q (F0 m 93 ls []) := by
            intro mo_93 H locs hG ls hl tn0_93 tn1_93 tn2_93 tt0_93 tt1_93 to0_93 to1_93 hE
            unfold F_X6_text_b93 at hE
            refine lv_iconst (v := 0) hx hb dX6_text_93 (by decide) ?_
            exact J94 0 mo_93 _ _ hG _ (lv_sub hl [0, 1] rfl) (show 0 ≤ (mo_93.1 18).toInt from by clear hE; omega) (show (mo_93.1 18).toInt ≤ (mo_93.1 6).toInt from by clear hE; omega) (show (mo_93.1 6).toInt ≤ 160 from by clear hE; omega) (show 0 ≤ (mo_93.1 9).toInt from by clear hE; omega) (show (mo_93.1 9).toInt ≤ 5 from by clear hE; omega) (show 0 ≤ (mo_93.1 26).toInt from by clear hE; omega) (show (mo_93.1 26).toInt ≤ (mo_93.1 18).toInt from by clear hE; omega) hE
          refine lv_if_eq (tgt := 93) hx hb dX6_text_79 (by decide) (fun c_79 => ?_) (fun c_79 => ?_)
          · replace hE := (if_pos c_79).symm.trans hE
            have i_79 : z0_60.toInt = 0 := congrArg Int32.toInt c_79
            exact J93 (stA mo_36 8 ((4 * (mo_36.1 9)) + x2_26) (mo_36.1 26)) _ _ hG _ (lv_sub hl [0, 2] rfl) (show 0 ≤ (mo_36.1 18).toInt from by clear hE; omega) (show (mo_36.1 18).toInt ≤ (mo_36.1 6).toInt from by clear hE; omega) (show (mo_36.1 6).toInt ≤ 160 from by clear hE; omega) (show 0 ≤ (mo_36.1 9).toInt from by clear hE; omega) (show (mo_36.1 9).toInt ≤ 5 from by clear hE; omega) (show 0 ≤ (mo_36.1 26).toInt from by clear hE; omega) (show (mo_36.1 26).toInt ≤ (mo_36.1 18).toInt from by clear hE; omega) hE
          replace hE := (if_neg c_79).symm.trans hE
          have i_79 : z0_60.toInt ≠ 0 := fun h => c_79 (Int32.toInt_inj.mp h)
          refine lv_aload_n hx hb dX6_text_82 rfl (lv_at hl 0 rfl) ?_
          refine g_ci (g_runV (n := 0) (rest := []) hx hb hml hown hts hG (c_X6_eRead (show nOK _ from ⟨hy36.1, hy36.2.1, hy36.2.2⟩) (show 0 ≤ (mo_36.1 9).toInt ∧ (mo_36.1 9).toInt ≤ 5 from by clear hE; omega) (show 0 ≤ (mo_36.1 26).toInt ∧ (mo_36.1 26).toInt ≤ (mo_36.1 18).toInt from by clear hE; omega)) tw_ml_RX6_147 tw_im_X6_eRead tw_se_X6_eRead tw_in_RX6 tw_cd_X6_eRead (by decide +kernel) ⟨rfl, rfl, Nat.le_of_ble_eq_true rfl, Nat.le_of_ble_eq_true rfl⟩ gw_Model rfl rfl hl.1 rfl (Nat.le_of_ble_eq_true rfl) dX6_text_83 ⟨Nat.le_refl _, Nat.le_refl _⟩) hG hA (fun r_83 u H locs hp hG => ?_)
          obtain ⟨mo_83, rfl⟩ : ∃ z, z = u := ⟨u, rfl⟩
          replace hG : gS g A s H locs (gW g bb tx rw sb dy tn mo_83 jk) := by simpa only [up_up] using hG
          have hp_83 := hp
          rw [hp] at hE
          unfold F_X6_text_c83 at hE
          try dsimp only at hE
          have hz83 := eRead_ok hp_83 (show nOK _ from ⟨hy36.1, hy36.2.1, hy36.2.2⟩) (show 0 ≤ (mo_36.1 26).toInt from by clear hE; omega) (show (mo_36.1 26).toInt ≤ (mo_36.1 18).toInt from by clear hE; omega)
          have ha83 : nOK mo_83 := hz83.1
          have hb83 := hz83.2.1
          have hc83 : (mo_83.1 9).toInt = (mo_36.1 9).toInt := congrArg Int32.toInt (hz83.2.2.1 9 (by decide) (by decide) (by decide) (by decide) (by decide) (by decide) (by decide))
          refine lv_if_eq (tgt := 93) hx hb dX6_text_86 (by decide) (fun c_86 => ?_) (fun c_86 => ?_)
          · replace hE := (if_pos c_86).symm.trans hE
            have i_86 : r_83.toInt = 0 := congrArg Int32.toInt c_86
            exact J93 mo_83 _ _ hG _ (lv_sub hl [0, 2] rfl) (show 0 ≤ (mo_83.1 18).toInt from by clear hE; omega) (show (mo_83.1 18).toInt ≤ (mo_83.1 6).toInt from by clear hE; omega) (show (mo_83.1 6).toInt ≤ 160 from by clear hE; omega) (show 0 ≤ (mo_83.1 9).toInt from by clear hE; omega) (show (mo_83.1 9).toInt ≤ 5 from by clear hE; omega) (show 0 ≤ (mo_83.1 26).toInt from by clear hE; omega) (show (mo_83.1 26).toInt ≤ (mo_83.1 18).toInt from by clear hE; omega) hE
          replace hE := (if_neg c_86).symm.trans hE
          have i_86 : r_83.toInt ≠ 0 := fun h => c_86 (Int32.toInt_inj.mp h)
          refine lv_iconst (v := 1) hx hb dX6_text_89 (by decide) ?_
          refine lv_goto (tgt := 94) hx hb dX6_text_90 (by decide) ?_
          exact J94 1 mo_83 _ _ hG _ (lv_sub hl [0, 2] rfl) (show 0 ≤ (mo_83.1 18).toInt from by clear hE; omega) (show (mo_83.1 18).toInt ≤ (mo_83.1 6).toInt from by clear hE; omega) (show (mo_83.1 6).toInt ≤ 160 from by clear hE; omega) (show 0 ≤ (mo_83.1 9).toInt from by clear hE; omega) (show (mo_83.1 9).toInt ≤ 5 from by clear hE; omega) (show 0 ≤ (mo_83.1 26).toInt from by clear hE; omega) (show (mo_83.1 26).toInt ≤ (mo_83.1 18).toInt from by clear hE; omega) hE
        have J59 : ∀  (H : Heap) (locs : List Loc), gS g A s H locs (gW g bb tx rw sb dy tn mo_36 jk) → ∀ ls : Array Slot, lv_has ls 3 [(0, .ref (gA g 58)), (2, .int x2_26)] → F_X6_text_b59  (F_X6_text_l26 n26 ) mo_36 x2_26 = EE → W p l e (rmL (5)) s m [.ref (gA g 58)].toArray below meth c H locs 0 0 Q (F0 m 59 ls []) := by
          intro  H locs hG ls hl  hE
          unfold F_X6_text_b59 at hE
          refine lv_iconst (v := 0) hx hb dX6_text_59 (by decide) ?_
          exact J60 0 _ _ hG _ (lv_sub hl [0, 1] rfl) hE
        refine lv_icmp_ne (tgt := 59) hx hb dX6_text_44 (by decide) (fun c_44 => ?_) (fun c_44 => ?_)
        · replace hE := (if_neg c_44).symm.trans hE
          have i_44 : (mo_36.1 20).toInt ≠ 3 := fun h => c_44 (Int32.toInt_inj.mp h)
          exact J59 _ _ hG _ (lv_sub hl [0, 2] rfl) hE
        replace hE := (if_pos c_44).symm.trans hE
        have i_44 : (mo_36.1 20).toInt = 3 := congrArg Int32.toInt c_44
        refine lv_aload_n hx hb dX6_text_47 rfl (lv_at hl 0 rfl) ?_
        refine g_get hx hb hts hiX6 hown hG gw_Model rfl 21 (by decide) (index := 104) tw_fl_RX6_104 (v := .int (mo_36.1 21)) rfl dX6_text_48 ?_
        refine lv_iload_n hx hb dX6_text_51 rfl (lv_at hl 2 rfl) ?_
        refine lv_icmp_ne (tgt := 59) hx hb dX6_text_52 (by decide) (fun c_52 => ?_) (fun c_52 => ?_)
        · replace hE := (if_neg c_52).symm.trans hE
          have i_52 : (mo_36.1 21).toInt ≠ x2_26.toInt := fun h => c_52 (Int32.toInt_inj.mp h)
          exact J59 _ _ hG _ (lv_sub hl [0, 2] rfl) hE
        replace hE := (if_pos c_52).symm.trans hE
        have i_52 : (mo_36.1 21).toInt = x2_26.toInt := congrArg Int32.toInt c_52
        refine lv_iconst (v := 1) hx hb dX6_text_55 (by decide) ?_
        refine lv_goto (tgt := 60) hx hb dX6_text_56 (by decide) ?_
        exact J60 1 _ _ hG _ (lv_sub hl [0, 2] rfl) hE
    exact L26 4 1 0 (setS (setS mo 18 0) 26 0) _ _ hG _ (lv_sub hl [0, 1, 2] rfl) (by decide) (by decide) (by decide) (show 0 ≤ 0 from by clear hE; omega) (show 0 ≤ (mo.1 6).toInt from by clear hE; omega) (show (mo.1 6).toInt ≤ 160 from by clear hE; omega) (show 0 ≤ (mo.1 9).toInt from by clear hE; omega) (show (mo.1 9).toInt ≤ 5 from by clear hE; omega) (show 0 ≤ 0 from by clear hE; omega) (show 0 ≤ 0 from by clear hE; omega) hE
  replace hE := (if_pos c_6).symm.trans hE
  have i_6 : (mo.1 9).toInt = 6 := congrArg Int32.toInt c_6
  refine lv_bipush (v := (-4)) hx hb dX6_text_9 (by decide) ?_
  subst hQ
  exact g_iret hx hb hr hlocks hG ((mo) : Ob) rfl hE.symm dX6_text_11
