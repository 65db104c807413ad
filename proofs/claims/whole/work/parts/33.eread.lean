def F_X6_eRead_b262 (K14 : Ob → Int32 → Int32 → Int32 × Ob) (mo : Ob) (x1 : Int32) (z0 : Int32) : Int32 × Ob :=
  (K14 mo x1 z0)
def F_X6_eRead_c241 (K14 : Ob → Int32 → Int32 → Int32 × Ob) (u : Int32 × Ob) (x3 : Int32) : Int32 × Ob :=
  (if u.1 = 0 then (0, u.2) else (if 12 < x3 then (F_X6_eRead_b262 K14 u.2 1 0) else (F_X6_eRead_b262 K14 u.2 1 1)))
def F_X6_eRead_c223 (K14 : Ob → Int32 → Int32 → Int32 × Ob) (u : Ob) (x1 : Int32) (x2 : Int32) : Int32 × Ob :=
  (K14 u x1 x2)
def F_X6_eRead_c188 (K14 : Ob → Int32 → Int32 → Int32 × Ob) (u : Ob) (x1 : Int32) (x2 : Int32) : Int32 × Ob :=
  (if (u.1 24) = 0 then (0, u) else (F_X6_eRead_c223 K14 (F_X6_unwinds (setS (setS u 24 ((u.1 24) - 1)) 25 ((u.1 25) - 1)) 7) x1 x2))
def F_X6_eRead_c161 (K14 : Ob → Int32 → Int32 → Int32 × Ob) (u : Ob) : Int32 × Ob :=
  (if (u.1 24) = 0 then (1, u) else (0, u))
def F_X6_eRead_c67 (K14 : Ob → Int32 → Int32 → Int32 × Ob) (u : Ob) (x2 : Int32) : Int32 × Ob :=
  (K14 u 0 x2)
def F_X6_eRead_c61 (K14 : Ob → Int32 → Int32 → Int32 × Ob) (u : Ob) (x2 : Int32) : Int32 × Ob :=
  (F_X6_eRead_c67 K14 (F_X6_unwinds u 7) x2)
def F_X6_eRead_b61 (K14 : Ob → Int32 → Int32 → Int32 × Ob) (mo : Ob) (x2 : Int32) (z1 : Int32) : Int32 × Ob :=
  (F_X6_eRead_c61 K14 (F_X6_puts mo z1) x2)
def F_X6_eRead_b38 (K14 : Ob → Int32 → Int32 → Int32 × Ob) (mo : Ob) (x2 : Int32) : Int32 × Ob :=
  (if (mo.1 20) = 1 then (F_X6_eRead_b61 K14 mo x2 (100000 + (mo.1 21))) else (F_X6_eRead_b61 K14 mo x2 (mo.1 21)))
def F_X6_eRead_c135 (K14 : Ob → Int32 → Int32 → Int32 × Ob) (u : Int32 × Ob) (x1 : Int32) : Int32 × Ob :=
  (if u.1 = 0 then (0, u.2) else (K14 u.2 x1 1))
def F_X6_eRead_c111 (K14 : Ob → Int32 → Int32 → Int32 × Ob) (u : Int32 × Ob) (x1 : Int32) : Int32 × Ob :=
  (if u.1 = 0 then (0, u.2) else (K14 u.2 x1 0))
def F_X6_eRead_b99 (K14 : Ob → Int32 → Int32 → Int32 × Ob) (mo : Ob) (x1 : Int32) : Int32 × Ob :=
  (if (mo.1 20) = 45 then (F_X6_eRead_c111 K14 (F_X6_opensOne mo 19) x1) else (if (mo.1 20) = 40 then (F_X6_eRead_c135 K14 (F_X6_opensOne mo 0) x1) else (0, mo)))
def F_X6_eRead_c91 (K14 : Ob → Int32 → Int32 → Int32 × Ob) (u : Int32 × Ob) (x1 : Int32) (x2 : Int32) : Int32 × Ob :=
  (if u.1 = 0 then (0, u.2) else (K14 u.2 x1 x2))
def F_X6_eRead_c15 (K14 : Ob → Int32 → Int32 → Int32 × Ob) (u : Ob) (x1 : Int32) (x2 : Int32) : Int32 × Ob :=
  (if x1 = 0 then (if (u.1 20) = 59 then (F_X6_eRead_c161 K14 (F_X6_unwinds u 1)) else (if (u.1 20) = 41 then (F_X6_eRead_c188 K14 (F_X6_unwinds u 1) x1 x2) else (if (F_X6_signOf u) = (-1) then (0, u) else (F_X6_eRead_c241 K14 (F_X6_between u (F_X6_signOf u)) (F_X6_signOf u))))) else (if (u.1 20) = 1 then (F_X6_eRead_b38 K14 u x2) else (if (u.1 20) = 2 then (F_X6_eRead_b38 K14 u x2) else (if (u.1 20) = 6 then (if x2 = 0 then (F_X6_eRead_b99 K14 u x1) else (F_X6_eRead_c91 K14 (F_X6_opensOne u 13) x1 x2)) else (F_X6_eRead_b99 K14 u x1)))))
def F_X6_eRead_l14 : Nat → Ob → Int32 → Int32 → Int32 × Ob
  | 0, mo, _, _ => (0, mo)
  | n + 1, mo, x1, x2 =>
    (F_X6_eRead_c15 (F_X6_eRead_l14 n ) (F_X6_next mo) x1 x2)
def F_X6_eRead (mo : Ob) : Int32 × Ob :=
  (F_X6_eRead_l14 161  (setS (setS mo 24 0) 25 0) 1 1)
set_option maxHeartbeats 4000000 in
set_option maxRecDepth 100000 in
theorem c_X6_eRead {l : Launch} {g : GG} {sz : Nat} {bb : Ob} {tx rw : Nat → Ob} {sb dy : Ob} {tn : Nat → Ob} {mo : Ob} {jk : Nat → Nat → Int32}   (hn : nOK mo) (he9 : 0 ≤ (mo.1 9).toInt ∧ (mo.1 9).toInt ≤ 5) (he26 : 0 ≤ (mo.1 26).toInt ∧ (mo.1 26).toInt ≤ (mo.1 18).toInt) : Met l yX6_eRead (Cond.code yX6_eRead cX6_eRead 4 (some .boolean) :: TT) (rmL (4)) (va_Pc [.ref (gA g 58)] (gB g sz (gW g bb tx rw sb dy tn mo jk))) (va_Qi (fun r (u : Ob) => (F_X6_eRead mo) = (r, u)) (fun u t => gC g (va_A (gW g bb tx rw sb dy tn mo jk) sz) (gW g bb tx rw sb dy tn u jk) t) (va_A (gW g bb tx rw sb dy tn mo jk) sz)) 0 0 (va_A (gW g bb tx rw sb dy tn mo jk) sz) := by
  generalize hE : F_X6_eRead mo = EE
  refine g_of (Qf := fun A => (va_Qi (fun r (u : Ob) => EE = (r, u)) (fun u t => gC g A (gW g bb tx rw sb dy tn u jk) t) A)) (cc := cX6_eRead) (maxL := 4) (ret := (some .boolean)) (by decide) (Nat.le_of_ble_eq_true rfl) ?_
  intro p e s m below meth c A ls hx hb hml hr hlocks hts hown hA hG hl
  replace hown : s.vm.findClass RX6 = some m.cls := hown
  replace hl : lv_has ls 4 [(0, .ref (gA g 58))] := hl
  show W p l e (rmL (4)) s m [.ref (gA g 58)].toArray below meth c s.heap [] 0 0 (MQ below (va_Qi (fun r (u : Ob) => EE = (r, u)) (fun u t => gC g A (gW g bb tx rw sb dy tn u jk) t) A) [.ref (gA g 58)].toArray s 0 0 A) (F0 m 0 ls [])
  generalize hQ : MQ below (va_Qi (fun r (u : Ob) => EE = (r, u)) (fun u t => gC g A (gW g bb tx rw sb dy tn u jk) t) A) [.ref (gA g 58)].toArray s 0 0 A = Q
  unfold F_X6_eRead at hE
  refine lv_aload_n hx hb dX6_eRead_0 rfl (lv_at hl 0 rfl) ?_
  refine lv_iconst (v := 0) hx hb dX6_eRead_1 (by decide) ?_
  refine g_put hx hb hts hiX6 tyX6 tyX6_ok nmX6 hown hG gw_Model rfl 24 (by decide) (index := 114) tw_fl_RX6_114 rfl rfl rfl (Nat.le_of_ble_eq_true rfl) gs_Model_f24 dX6_eRead_2 (fun H locs hG => ?_)
  refine lv_aload_n hx hb dX6_eRead_5 rfl (lv_at hl 0 rfl) ?_
  refine lv_iconst (v := 0) hx hb dX6_eRead_6 (by decide) ?_
  refine g_put hx hb hts hiX6 tyX6 tyX6_ok nmX6 hown hG gw_Model rfl 25 (by decide) (index := 121) tw_fl_RX6_121 rfl rfl rfl (Nat.le_of_ble_eq_true rfl) gs_Model_f25 dX6_eRead_7 (fun H locs hG => ?_)
  refine lv_iconst (v := 1) hx hb dX6_eRead_10 (by decide) ?_
  refine lv_istore_n (lv' := [(1, .int 1), (0, .ref (gA g 58))]) hx hb dX6_eRead_11 rfl hl (by decide) rfl (fun ls hl => ?_)
  replace hl := lv_sub hl [1, 0] (l' := [(0, .ref (gA g 58)), (1, .int 1)]) rfl
  refine lv_iconst (v := 1) hx hb dX6_eRead_12 (by decide) ?_
  refine lv_istore_n (lv' := [(2, .int 1), (0, .ref (gA g 58)), (1, .int 1)]) hx hb dX6_eRead_13 rfl hl (by decide) rfl (fun ls hl => ?_)
  replace hl := lv_sub hl [1, 2, 0] (l' := [(0, .ref (gA g 58)), (1, .int 1), (2, .int 1)]) rfl
  have L14 : ∀ (n14 : Nat) (x1_14 : Int32) (x2_14 : Int32) (mo_14 : Ob) (H : Heap) (locs : List Loc), gS g A s H locs (gW g bb tx rw sb dy tn mo_14 jk) → ∀ ls : Array Slot, lv_has ls 4 [(0, .ref (gA g 58)), (1, .int x1_14), (2, .int x2_14)] → 0 ≤ (mo_14.1 18).toInt → (mo_14.1 18).toInt ≤ (mo_14.1 6).toInt → (mo_14.1 6).toInt ≤ 160 → 0 ≤ (mo_14.1 9).toInt → (mo_14.1 9).toInt ≤ 5 → 0 ≤ (mo_14.1 24).toInt → 0 ≤ (mo_14.1 26).toInt → (mo_14.1 24).toInt + (mo_14.1 26).toInt ≤ (mo_14.1 18).toInt → 160 < (mo_14.1 18).toInt + n14 → F_X6_eRead_l14 n14  mo_14 x1_14 x2_14 = EE → W p l e (rmL (4)) s m [.ref (gA g 58)].toArray below meth c H locs 0 0 Q (F0 m 14 ls []) := by
    intro n14
    induction n14 with
    | zero =>
      intro x1_14 x2_14 mo_14 H locs hG ls hl hn0 hn1 hn2 ht0 ht1 hh0 ho0 hs0 hm_14 hE
      clear hE; omega
    | succ n14 ih14 =>
      intro x1_14 x2_14 mo_14 H locs hG ls hl hn0 hn1 hn2 ht0 ht1 hh0 ho0 hs0 hm_14 hE
      unfold F_X6_eRead_l14 at hE
      refine lv_aload_n hx hb dX6_eRead_14 rfl (lv_at hl 0 rfl) ?_
      refine g_cv (g_runV (n := 0) (rest := []) hx hb hml hown hts hG (c_X6_next ⟨hn0, hn1, hn2⟩) tw_ml_RX6_134 tw_im_X6_next tw_se_X6_next tw_in_RX6 tw_cd_X6_next (by decide +kernel) ⟨rfl, rfl, Nat.le_of_ble_eq_true rfl, Nat.le_of_ble_eq_true rfl⟩ gw_Model rfl rfl hl.1 rfl (Nat.le_of_ble_eq_true rfl) dX6_eRead_15 ⟨Nat.le_refl _, Nat.le_refl _⟩) hG hA (fun u H locs hp hG => ?_)
      obtain ⟨mo_15, rfl⟩ : ∃ z, z = u := ⟨u, rfl⟩
      replace hG : gS g A s H locs (gW g bb tx rw sb dy tn mo_15 jk) := by simpa only [up_up] using hG
      have hp_15 := hp
      rw [hp] at hE
      unfold F_X6_eRead_c15 at hE
      try dsimp only at hE
      have hx15 := next_ok hp_15 ⟨hn0, hn1, hn2⟩
      have hy15 : nOK mo_15 := hx15.1.1
      have hz15 : (mo_14.1 18).toInt ≤ (mo_15.1 18).toInt := hx15.1.2.1
      have hw15 : (mo_15.1 20).toInt = 0 ∨ (mo_14.1 18).toInt + 1 ≤ (mo_15.1 18).toInt := (Classical.em (mo_15.1 20 = 0)).elim (fun q => Or.inl (by rw [q]; rfl)) (fun q => Or.inr (hx15.2 q))
      have hv15_6 : (mo_15.1 6).toInt = (mo_14.1 6).toInt := congrArg Int32.toInt (hx15.1.2.2.2 6 (by decide) (by decide) (by decide) (by decide))
      have hv15_9 : (mo_15.1 9).toInt = (mo_14.1 9).toInt := congrArg Int32.toInt (hx15.1.2.2.2 9 (by decide) (by decide) (by decide) (by decide))
      have hv15_24 : (mo_15.1 24).toInt = (mo_14.1 24).toInt := congrArg Int32.toInt (hx15.1.2.2.2 24 (by decide) (by decide) (by decide) (by decide))
      have hv15_26 : (mo_15.1 26).toInt = (mo_14.1 26).toInt := congrArg Int32.toInt (hx15.1.2.2.2 26 (by decide) (by decide) (by decide) (by decide))
      refine lv_iload_n hx hb dX6_eRead_18 rfl (lv_at hl 1 rfl) ?_
      refine lv_if_eq (tgt := 150) hx hb dX6_eRead_19 (by decide) (fun c_19 => ?_) (fun c_19 => ?_)
      · replace hE := (if_pos c_19).symm.trans hE
        have i_19 : x1_14.toInt = 0 := congrArg Int32.toInt c_19
        refine lv_aload_n hx hb dX6_eRead_150 rfl (lv_at hl 0 rfl) ?_
        refine g_get hx hb hts hiX6 hown hG gw_Model rfl 20 (by decide) (index := 101) tw_fl_RX6_101 (v := .int (mo_15.1 20)) rfl dX6_eRead_151 ?_
        refine lv_bipush (v := 59) hx hb dX6_eRead_154 (by decide) ?_
        refine lv_icmp_ne (tgt := 177) hx hb dX6_eRead_156 (by decide) (fun c_156 => ?_) (fun c_156 => ?_)
        · replace hE := (if_neg c_156).symm.trans hE
          have i_156 : (mo_15.1 20).toInt ≠ 59 := fun h => c_156 (Int32.toInt_inj.mp h)
          refine lv_aload_n hx hb dX6_eRead_177 rfl (lv_at hl 0 rfl) ?_
          refine g_get hx hb hts hiX6 hown hG gw_Model rfl 20 (by decide) (index := 101) tw_fl_RX6_101 (v := .int (mo_15.1 20)) rfl dX6_eRead_178 ?_
          refine lv_bipush (v := 41) hx hb dX6_eRead_181 (by decide) ?_
          refine lv_icmp_ne (tgt := 229) hx hb dX6_eRead_183 (by decide) (fun c_183 => ?_) (fun c_183 => ?_)
          · replace hE := (if_neg c_183).symm.trans hE
            have i_183 : (mo_15.1 20).toInt ≠ 41 := fun h => c_183 (Int32.toInt_inj.mp h)
            refine lv_aload_n hx hb dX6_eRead_229 rfl (lv_at hl 0 rfl) ?_
            refine g_ci (g_runV (n := 0) (rest := []) hx hb hml hown hts hG (c_X6_signOf) tw_ml_RX6_141 tw_im_X6_signOf tw_se_X6_signOf tw_in_RX6 tw_cd_X6_signOf (by decide +kernel) ⟨rfl, rfl, Nat.le_of_ble_eq_true rfl, Nat.le_of_ble_eq_true rfl⟩ gw_Model rfl rfl hl.1 rfl (Nat.le_of_ble_eq_true rfl) dX6_eRead_230 ⟨Nat.le_refl _, Nat.le_refl _⟩) hG hA (fun r _ H locs hp hG => ?_)
            subst hp
            replace hG : gS g A s H locs (gW g bb tx rw sb dy tn mo_15 jk) := hG
            refine lv_istore_n (lv' := [(3, .int (F_X6_signOf mo_15)), (0, .ref (gA g 58)), (1, .int x1_14), (2, .int x2_14)]) hx hb dX6_eRead_233 rfl hl (by decide) rfl (fun ls hl => ?_)
            replace hl := lv_sub hl [1, 2, 3, 0] (l' := [(0, .ref (gA g 58)), (1, .int x1_14), (2, .int x2_14), (3, .int (F_X6_signOf mo_15))]) rfl
            refine lv_iload_n hx hb dX6_eRead_234 rfl (lv_at hl 3 rfl) ?_
            refine lv_iconst (v := (-1)) hx hb dX6_eRead_235 (by decide) ?_
            refine lv_icmp_eq (tgt := 247) hx hb dX6_eRead_236 (by decide) (fun c_236 => ?_) (fun c_236 => ?_)
            · replace hE := (if_pos c_236).symm.trans hE
              refine lv_iconst (v := 0) hx hb dX6_eRead_247 (by decide) ?_
              subst hQ
              exact g_zret hx hb hr hlocks hG (Or.inl rfl) ((mo_15) : Ob) rfl hE.symm dX6_eRead_248
            replace hE := (if_neg c_236).symm.trans hE
            have hk236 : (mo_15.1 20).toInt ≠ 0 := fun q => signOf_ne c_236 (Int32.toInt_inj.mp q)
            refine lv_aload_n hx hb dX6_eRead_239 rfl (lv_at hl 0 rfl) ?_
            refine lv_iload_n hx hb dX6_eRead_240 rfl (lv_at hl 3 rfl) ?_
            refine g_ci (g_runV (n := 1) (rest := []) hx hb hml hown hts hG (c_X6_between (F_X6_signOf mo_15) (show 0 ≤ (mo_15.1 9).toInt ∧ (mo_15.1 9).toInt ≤ 5 ∧ 0 ≤ (mo_15.1 24).toInt ∧ 0 ≤ (mo_15.1 26).toInt ∧ (mo_15.1 24).toInt + (mo_15.1 26).toInt ≤ 160 from by clear hE; omega) (show (mo_15.1 24).toInt + (mo_15.1 26).toInt < 160 from by clear hE; omega)) tw_ml_RX6_144 tw_im_X6_between tw_se_X6_between tw_in_RX6 tw_cd_X6_between (by decide +kernel) ⟨rfl, rfl, Nat.le_of_ble_eq_true rfl, Nat.le_of_ble_eq_true rfl⟩ gw_Model rfl rfl hl.1 rfl (Nat.le_of_ble_eq_true rfl) dX6_eRead_241 ⟨Nat.le_refl _, Nat.le_refl _⟩) hG hA (fun r_241 u H locs hp hG => ?_)
            obtain ⟨mo_241, rfl⟩ : ∃ z, z = u := ⟨u, rfl⟩
            replace hG : gS g A s H locs (gW g bb tx rw sb dy tn mo_241 jk) := by simpa only [up_up] using hG
            have hp_241 := hp
            rw [hp] at hE
            unfold F_X6_eRead_c241 at hE
            try dsimp only at hE
            have zz241 : eR 1 mo_15 mo_241 := between_ok hp_241 ⟨by clear hE; omega, by clear hE; omega, by clear hE; omega⟩ (by clear hE; omega)
            have za241 : 0 ≤ (mo_241.1 24).toInt ∧ 0 ≤ (mo_241.1 26).toInt ∧ (mo_241.1 24).toInt + (mo_241.1 26).toInt ≤ (mo_15.1 24).toInt + (mo_15.1 26).toInt + 1 := zz241.1
            have zb241_6 : (mo_241.1 6).toInt = (mo_15.1 6).toInt := congrArg Int32.toInt (zz241.2.1 6 (by decide) (by decide) (by decide))
            have zb241_9 : (mo_241.1 9).toInt = (mo_15.1 9).toInt := congrArg Int32.toInt (zz241.2.1 9 (by decide) (by decide) (by decide))
            have zb241_18 : (mo_241.1 18).toInt = (mo_15.1 18).toInt := congrArg Int32.toInt (zz241.2.1 18 (by decide) (by decide) (by decide))
            refine lv_if_ne (tgt := 249) hx hb dX6_eRead_244 (by decide) (fun c_244 => ?_) (fun c_244 => ?_)
            · replace hE := (if_neg c_244).symm.trans hE
              have i_244 : r_241.toInt ≠ 0 := fun h => c_244 (Int32.toInt_inj.mp h)
              refine lv_iconst (v := 1) hx hb dX6_eRead_249 (by decide) ?_
              refine lv_istore_n (lv' := [(1, .int 1), (0, .ref (gA g 58)), (2, .int x2_14), (3, .int (F_X6_signOf mo_15))]) hx hb dX6_eRead_250 rfl hl (by decide) rfl (fun ls hl => ?_)
              replace hl := lv_sub hl [1, 0, 2, 3] (l' := [(0, .ref (gA g 58)), (1, .int 1), (2, .int x2_14), (3, .int (F_X6_signOf mo_15))]) rfl
              refine lv_iload_n hx hb dX6_eRead_251 rfl (lv_at hl 3 rfl) ?_
              refine lv_bipush (v := 12) hx hb dX6_eRead_252 (by decide) ?_
              have J262 : ∀ (z0_262 : Int32) (H : Heap) (locs : List Loc), gS g A s H locs (gW g bb tx rw sb dy tn mo_241 jk) → ∀ ls : Array Slot, lv_has ls 4 [(0, .ref (gA g 58)), (1, .int 1)] → F_X6_eRead_b262  (F_X6_eRead_l14 n14 ) mo_241 1 z0_262 = EE → W p l e (rmL (4)) s m [.ref (gA g 58)].toArray below meth c H locs 0 0 Q (F0 m 262 ls [.int z0_262]) := by
                intro z0_262 H locs hG ls hl  hE
                unfold F_X6_eRead_b262 at hE
                refine lv_istore_n (lv' := [(2, .int z0_262), (0, .ref (gA g 58)), (1, .int 1)]) hx hb dX6_eRead_262 rfl hl (by decide) rfl (fun ls hl => ?_)
                replace hl := lv_sub hl [1, 2, 0] (l' := [(0, .ref (gA g 58)), (1, .int 1), (2, .int z0_262)]) rfl
                refine lv_goto (tgt := 14) hx hb dX6_eRead_263 (by decide) ?_
                exact ih14 1 z0_262 mo_241 _ _ hG _ (lv_sub hl [0, 1, 2] rfl) (show 0 ≤ (mo_241.1 18).toInt from by clear hE; omega) (show (mo_241.1 18).toInt ≤ (mo_241.1 6).toInt from by clear hE; omega) (show (mo_241.1 6).toInt ≤ 160 from by clear hE; omega) (show 0 ≤ (mo_241.1 9).toInt from by clear hE; omega) (show (mo_241.1 9).toInt ≤ 5 from by clear hE; omega) (show 0 ≤ (mo_241.1 24).toInt from by clear hE; omega) (show 0 ≤ (mo_241.1 26).toInt from by clear hE; omega) (show (mo_241.1 24).toInt + (mo_241.1 26).toInt ≤ (mo_241.1 18).toInt from by clear hE; omega) (show 160 < (mo_241.1 18).toInt + n14 from by clear hE; omega) hE
              refine lv_icmp_gt (tgt := 261) hx hb dX6_eRead_254 (by decide) (fun c_254 => ?_) (fun c_254 => ?_)
              · replace hE := (if_pos c_254).symm.trans hE
                refine lv_iconst (v := 0) hx hb dX6_eRead_261 (by decide) ?_
                exact J262 0 _ _ hG _ (lv_sub hl [0, 1] rfl) hE
              replace hE := (if_neg c_254).symm.trans hE
              refine lv_iconst (v := 1) hx hb dX6_eRead_257 (by decide) ?_
              refine lv_goto (tgt := 262) hx hb dX6_eRead_258 (by decide) ?_
              exact J262 1 _ _ hG _ (lv_sub hl [0, 1] rfl) hE
            replace hE := (if_pos c_244).symm.trans hE
            have i_244 : r_241.toInt = 0 := congrArg Int32.toInt c_244
            refine lv_iconst (v := 0) hx hb dX6_eRead_247 (by decide) ?_
            subst hQ
            exact g_zret hx hb hr hlocks hG (Or.inl rfl) ((mo_241) : Ob) rfl hE.symm dX6_eRead_248
          replace hE := (if_pos c_183).symm.trans hE
          have i_183 : (mo_15.1 20).toInt = 41 := congrArg Int32.toInt c_183
          refine lv_aload_n hx hb dX6_eRead_186 rfl (lv_at hl 0 rfl) ?_
          refine lv_iconst (v := 1) hx hb dX6_eRead_187 (by decide) ?_
          refine g_cv (g_runV (n := 1) (rest := []) hx hb hml hown hts hG (c_X6_unwinds 1 (show 0 ≤ (mo_15.1 9).toInt ∧ (mo_15.1 9).toInt ≤ 5 ∧ 0 ≤ (mo_15.1 24).toInt ∧ 0 ≤ (mo_15.1 26).toInt ∧ (mo_15.1 24).toInt + (mo_15.1 26).toInt ≤ 160 from by clear hE; omega)) tw_ml_RX6_131 tw_im_X6_unwinds tw_se_X6_unwinds tw_in_RX6 tw_cd_X6_unwinds (by decide +kernel) ⟨rfl, rfl, Nat.le_of_ble_eq_true rfl, Nat.le_of_ble_eq_true rfl⟩ gw_Model rfl rfl hl.1 rfl (Nat.le_of_ble_eq_true rfl) dX6_eRead_188 ⟨Nat.le_refl _, Nat.le_refl _⟩) hG hA (fun u H locs hp hG => ?_)
          obtain ⟨mo_188, rfl⟩ : ∃ z, z = u := ⟨u, rfl⟩
          replace hG : gS g A s H locs (gW g bb tx rw sb dy tn mo_188 jk) := by simpa only [up_up] using hG
          have hp_188 := hp
          rw [hp] at hE
          unfold F_X6_eRead_c188 at hE
          try dsimp only at hE
          have zz188 : eR 0 mo_15 mo_188 := unwinds_ok hp_188 ⟨by clear hE; omega, by clear hE; omega, by clear hE; omega⟩
          have za188 : 0 ≤ (mo_188.1 24).toInt ∧ 0 ≤ (mo_188.1 26).toInt ∧ (mo_188.1 24).toInt + (mo_188.1 26).toInt ≤ (mo_15.1 24).toInt + (mo_15.1 26).toInt + 0 := zz188.1
          have zb188_6 : (mo_188.1 6).toInt = (mo_15.1 6).toInt := congrArg Int32.toInt (zz188.2.1 6 (by decide) (by decide) (by decide))
          have zb188_9 : (mo_188.1 9).toInt = (mo_15.1 9).toInt := congrArg Int32.toInt (zz188.2.1 9 (by decide) (by decide) (by decide))
          have zb188_18 : (mo_188.1 18).toInt = (mo_15.1 18).toInt := congrArg Int32.toInt (zz188.2.1 18 (by decide) (by decide) (by decide))
          refine lv_aload_n hx hb dX6_eRead_191 rfl (lv_at hl 0 rfl) ?_
          refine g_get hx hb hts hiX6 hown hG gw_Model rfl 24 (by decide) (index := 114) tw_fl_RX6_114 (v := .int (mo_188.1 24)) rfl dX6_eRead_192 ?_
          refine lv_if_ne (tgt := 200) hx hb dX6_eRead_195 (by decide) (fun c_195 => ?_) (fun c_195 => ?_)
          · replace hE := (if_neg c_195).symm.trans hE
            have i_195 : (mo_188.1 24).toInt ≠ 0 := fun h => c_195 (Int32.toInt_inj.mp h)
            refine lv_aload_n hx hb dX6_eRead_200 rfl (lv_at hl 0 rfl) ?_
            refine lv_dup hx hb dX6_eRead_201 rfl ?_
            refine g_get hx hb hts hiX6 hown hG gw_Model rfl 24 (by decide) (index := 114) tw_fl_RX6_114 (v := .int (mo_188.1 24)) rfl dX6_eRead_202 ?_
            refine lv_iconst (v := 1) hx hb dX6_eRead_205 (by decide) ?_
            refine lv_isub hx hb dX6_eRead_206 ?_
            refine g_put hx hb hts hiX6 tyX6 tyX6_ok nmX6 hown hG gw_Model rfl 24 (by decide) (index := 114) tw_fl_RX6_114 rfl rfl rfl (Nat.le_of_ble_eq_true rfl) gs_Model_f24 dX6_eRead_207 (fun H locs hG => ?_)
            refine lv_aload_n hx hb dX6_eRead_210 rfl (lv_at hl 0 rfl) ?_
            refine lv_dup hx hb dX6_eRead_211 rfl ?_
            refine g_get hx hb hts hiX6 hown hG gw_Model rfl 25 (by decide) (index := 121) tw_fl_RX6_121 (v := .int (mo_188.1 25)) rfl dX6_eRead_212 ?_
            refine lv_iconst (v := 1) hx hb dX6_eRead_215 (by decide) ?_
            refine lv_isub hx hb dX6_eRead_216 ?_
            refine g_put hx hb hts hiX6 tyX6 tyX6_ok nmX6 hown hG gw_Model rfl 25 (by decide) (index := 121) tw_fl_RX6_121 rfl rfl rfl (Nat.le_of_ble_eq_true rfl) gs_Model_f25 dX6_eRead_217 (fun H locs hG => ?_)
            refine lv_aload_n hx hb dX6_eRead_220 rfl (lv_at hl 0 rfl) ?_
            refine lv_bipush (v := 7) hx hb dX6_eRead_221 (by decide) ?_
            have e1 : ((mo_188.1 24) - 1).toInt = (mo_188.1 24).toInt - 1 := subL (k := 1) (by decide +kernel) (by clear hE; omega) (by clear hE; omega)
            refine g_cv (g_runV (n := 1) (rest := []) hx hb hml hown hts hG (c_X6_unwinds 7 (show 0 ≤ (mo_188.1 9).toInt ∧ (mo_188.1 9).toInt ≤ 5 ∧ 0 ≤ ((mo_188.1 24) - 1).toInt ∧ 0 ≤ (mo_188.1 26).toInt ∧ ((mo_188.1 24) - 1).toInt + (mo_188.1 26).toInt ≤ 160 from by clear hE; omega)) tw_ml_RX6_131 tw_im_X6_unwinds tw_se_X6_unwinds tw_in_RX6 tw_cd_X6_unwinds (by decide +kernel) ⟨rfl, rfl, Nat.le_of_ble_eq_true rfl, Nat.le_of_ble_eq_true rfl⟩ gw_Model rfl rfl hl.1 rfl (Nat.le_of_ble_eq_true rfl) dX6_eRead_223 ⟨Nat.le_refl _, Nat.le_refl _⟩) hG hA (fun u H locs hp hG => ?_)
            obtain ⟨mo_223, rfl⟩ : ∃ z, z = u := ⟨u, rfl⟩
            replace hG : gS g A s H locs (gW g bb tx rw sb dy tn mo_223 jk) := by simpa only [up_up] using hG
            have hp_223 := hp
            rw [hp] at hE
            unfold F_X6_eRead_c223 at hE
            try dsimp only at hE
            have zz223 : eR 0 (setS (setS mo_188 24 ((mo_188.1 24) - 1)) 25 ((mo_188.1 25) - 1)) mo_223 := unwinds_ok hp_223 (show uOK _ from ⟨(show 0 ≤ (mo_188.1 24 - 1).toInt by clear hE; omega), (show 0 ≤ (mo_188.1 26).toInt by clear hE; omega), (show (mo_188.1 24 - 1).toInt + (mo_188.1 26).toInt ≤ 160 by clear hE; omega)⟩)
            have za223 : 0 ≤ (mo_223.1 24).toInt ∧ 0 ≤ (mo_223.1 26).toInt ∧ (mo_223.1 24).toInt + (mo_223.1 26).toInt ≤ ((mo_188.1 24) - 1).toInt + (mo_188.1 26).toInt + 0 := zz223.1
            have zb223_6 : (mo_223.1 6).toInt = (mo_188.1 6).toInt := congrArg Int32.toInt (zz223.2.1 6 (by decide) (by decide) (by decide))
            have zb223_9 : (mo_223.1 9).toInt = (mo_188.1 9).toInt := congrArg Int32.toInt (zz223.2.1 9 (by decide) (by decide) (by decide))
            have zb223_18 : (mo_223.1 18).toInt = (mo_188.1 18).toInt := congrArg Int32.toInt (zz223.2.1 18 (by decide) (by decide) (by decide))
            refine lv_goto (tgt := 14) hx hb dX6_eRead_226 (by decide) ?_
            exact ih14 x1_14 x2_14 mo_223 _ _ hG _ (lv_sub hl [0, 1, 2] rfl) (show 0 ≤ (mo_223.1 18).toInt from by clear hE; omega) (show (mo_223.1 18).toInt ≤ (mo_223.1 6).toInt from by clear hE; omega) (show (mo_223.1 6).toInt ≤ 160 from by clear hE; omega) (show 0 ≤ (mo_223.1 9).toInt from by clear hE; omega) (show (mo_223.1 9).toInt ≤ 5 from by clear hE; omega) (show 0 ≤ (mo_223.1 24).toInt from by clear hE; omega) (show 0 ≤ (mo_223.1 26).toInt from by clear hE; omega) (show (mo_223.1 24).toInt + (mo_223.1 26).toInt ≤ (mo_223.1 18).toInt from by clear hE; omega) (show 160 < (mo_223.1 18).toInt + n14 from by clear hE; omega) hE
          replace hE := (if_pos c_195).symm.trans hE
          have i_195 : (mo_188.1 24).toInt = 0 := congrArg Int32.toInt c_195
          refine lv_iconst (v := 0) hx hb dX6_eRead_198 (by decide) ?_
          subst hQ
          exact g_zret hx hb hr hlocks hG (Or.inl rfl) ((mo_188) : Ob) rfl hE.symm dX6_eRead_199
        replace hE := (if_pos c_156).symm.trans hE
        have i_156 : (mo_15.1 20).toInt = 59 := congrArg Int32.toInt c_156
        refine lv_aload_n hx hb dX6_eRead_159 rfl (lv_at hl 0 rfl) ?_
        refine lv_iconst (v := 1) hx hb dX6_eRead_160 (by decide) ?_
        refine g_cv (g_runV (n := 1) (rest := []) hx hb hml hown hts hG (c_X6_unwinds 1 (show 0 ≤ (mo_15.1 9).toInt ∧ (mo_15.1 9).toInt ≤ 5 ∧ 0 ≤ (mo_15.1 24).toInt ∧ 0 ≤ (mo_15.1 26).toInt ∧ (mo_15.1 24).toInt + (mo_15.1 26).toInt ≤ 160 from by clear hE; omega)) tw_ml_RX6_131 tw_im_X6_unwinds tw_se_X6_unwinds tw_in_RX6 tw_cd_X6_unwinds (by decide +kernel) ⟨rfl, rfl, Nat.le_of_ble_eq_true rfl, Nat.le_of_ble_eq_true rfl⟩ gw_Model rfl rfl hl.1 rfl (Nat.le_of_ble_eq_true rfl) dX6_eRead_161 ⟨Nat.le_refl _, Nat.le_refl _⟩) hG hA (fun u H locs hp hG => ?_)
        obtain ⟨mo_161, rfl⟩ : ∃ z, z = u := ⟨u, rfl⟩
        replace hG : gS g A s H locs (gW g bb tx rw sb dy tn mo_161 jk) := by simpa only [up_up] using hG
        have hp_161 := hp
        rw [hp] at hE
        unfold F_X6_eRead_c161 at hE
        try dsimp only at hE
        refine lv_aload_n hx hb dX6_eRead_164 rfl (lv_at hl 0 rfl) ?_
        refine g_get hx hb hts hiX6 hown hG gw_Model rfl 24 (by decide) (index := 114) tw_fl_RX6_114 (v := .int (mo_161.1 24)) rfl dX6_eRead_165 ?_
        refine lv_if_ne (tgt := 175) hx hb dX6_eRead_168 (by decide) (fun c_168 => ?_) (fun c_168 => ?_)
        · replace hE := (if_neg c_168).symm.trans hE
          have i_168 : (mo_161.1 24).toInt ≠ 0 := fun h => c_168 (Int32.toInt_inj.mp h)
          refine lv_iconst (v := 0) hx hb dX6_eRead_175 (by decide) ?_
          subst hQ
          exact g_zret hx hb hr hlocks hG (Or.inl rfl) ((mo_161) : Ob) rfl hE.symm dX6_eRead_176
        replace hE := (if_pos c_168).symm.trans hE
        have i_168 : (mo_161.1 24).toInt = 0 := congrArg Int32.toInt c_168
        refine lv_iconst (v := 1) hx hb dX6_eRead_171 (by decide) ?_
        refine lv_goto (tgt := 176) hx hb dX6_eRead_172 (by decide) ?_
        subst hQ
        exact g_zret hx hb hr hlocks hG (Or.inr rfl) ((mo_161) : Ob) rfl hE.symm dX6_eRead_176
      replace hE := (if_neg c_19).symm.trans hE
      have i_19 : x1_14.toInt ≠ 0 := fun h => c_19 (Int32.toInt_inj.mp h)
      refine lv_aload_n hx hb dX6_eRead_22 rfl (lv_at hl 0 rfl) ?_
      refine g_get hx hb hts hiX6 hown hG gw_Model rfl 20 (by decide) (index := 101) tw_fl_RX6_101 (v := .int (mo_15.1 20)) rfl dX6_eRead_23 ?_
      refine lv_iconst (v := 1) hx hb dX6_eRead_26 (by decide) ?_
      have J38 : ∀  (H : Heap) (locs : List Loc), gS g A s H locs (gW g bb tx rw sb dy tn mo_15 jk) → ∀ ls : Array Slot, lv_has ls 4 [(0, .ref (gA g 58)), (2, .int x2_14)] → (mo_15.1 20).toInt ≠ 0 → F_X6_eRead_b38  (F_X6_eRead_l14 n14 ) mo_15 x2_14 = EE → W p l e (rmL (4)) s m [.ref (gA g 58)].toArray below meth c H locs 0 0 Q (F0 m 38 ls []) := by
        intro  H locs hG ls hl hk38 hE
        unfold F_X6_eRead_b38 at hE
        refine lv_aload_n hx hb dX6_eRead_38 rfl (lv_at hl 0 rfl) ?_
        refine lv_aload_n hx hb dX6_eRead_39 rfl (lv_at hl 0 rfl) ?_
        refine g_get hx hb hts hiX6 hown hG gw_Model rfl 20 (by decide) (index := 101) tw_fl_RX6_101 (v := .int (mo_15.1 20)) rfl dX6_eRead_40 ?_
        refine lv_iconst (v := 1) hx hb dX6_eRead_43 (by decide) ?_
        have J61 : ∀ (z1_61 : Int32) (H : Heap) (locs : List Loc), gS g A s H locs (gW g bb tx rw sb dy tn mo_15 jk) → ∀ ls : Array Slot, lv_has ls 4 [(0, .ref (gA g 58)), (2, .int x2_14)] → F_X6_eRead_b61  (F_X6_eRead_l14 n14 ) mo_15 x2_14 z1_61 = EE → W p l e (rmL (4)) s m [.ref (gA g 58)].toArray below meth c H locs 0 0 Q (F0 m 61 ls [.int z1_61, .ref (gA g 58)]) := by
          intro z1_61 H locs hG ls hl  hE
          unfold F_X6_eRead_b61 at hE
          refine g_cv (g_runV (n := 1) (rest := []) hx hb hml hown hts hG (c_X6_puts z1_61 (show 0 ≤ (mo_15.1 9).toInt ∧ (mo_15.1 9).toInt ≤ 5 ∧ 0 ≤ (mo_15.1 26).toInt ∧ (mo_15.1 26).toInt < 200 from by clear hE; omega)) tw_ml_RX6_124 tw_im_X6_puts tw_se_X6_puts tw_in_RX6 tw_cd_X6_puts (by decide +kernel) ⟨rfl, rfl, Nat.le_of_ble_eq_true rfl, Nat.le_of_ble_eq_true rfl⟩ gw_Model rfl rfl hl.1 rfl (Nat.le_of_ble_eq_true rfl) dX6_eRead_61 ⟨Nat.le_refl _, Nat.le_refl _⟩) hG hA (fun u H locs hp hG => ?_)
          obtain ⟨mo_61, rfl⟩ : ∃ z, z = u := ⟨u, rfl⟩
          replace hG : gS g A s H locs (gW g bb tx rw sb dy tn mo_61 jk) := by simpa only [up_up] using hG
          have hp_61 := hp
          rw [hp] at hE
          unfold F_X6_eRead_c61 at hE
          try dsimp only at hE
          have zz61 : eR 1 mo_15 mo_61 := puts_ok hp_61 ⟨by clear hE; omega, by clear hE; omega, by clear hE; omega⟩ (by clear hE; omega)
          have za61 : 0 ≤ (mo_61.1 24).toInt ∧ 0 ≤ (mo_61.1 26).toInt ∧ (mo_61.1 24).toInt + (mo_61.1 26).toInt ≤ (mo_15.1 24).toInt + (mo_15.1 26).toInt + 1 := zz61.1
          have zb61_6 : (mo_61.1 6).toInt = (mo_15.1 6).toInt := congrArg Int32.toInt (zz61.2.1 6 (by decide) (by decide) (by decide))
          have zb61_9 : (mo_61.1 9).toInt = (mo_15.1 9).toInt := congrArg Int32.toInt (zz61.2.1 9 (by decide) (by decide) (by decide))
          have zb61_18 : (mo_61.1 18).toInt = (mo_15.1 18).toInt := congrArg Int32.toInt (zz61.2.1 18 (by decide) (by decide) (by decide))
          refine lv_aload_n hx hb dX6_eRead_64 rfl (lv_at hl 0 rfl) ?_
          refine lv_bipush (v := 7) hx hb dX6_eRead_65 (by decide) ?_
          refine g_cv (g_runV (n := 1) (rest := []) hx hb hml hown hts hG (c_X6_unwinds 7 (show 0 ≤ (mo_61.1 9).toInt ∧ (mo_61.1 9).toInt ≤ 5 ∧ 0 ≤ (mo_61.1 24).toInt ∧ 0 ≤ (mo_61.1 26).toInt ∧ (mo_61.1 24).toInt + (mo_61.1 26).toInt ≤ 160 from by clear hE; omega)) tw_ml_RX6_131 tw_im_X6_unwinds tw_se_X6_unwinds tw_in_RX6 tw_cd_X6_unwinds (by decide +kernel) ⟨rfl, rfl, Nat.le_of_ble_eq_true rfl, Nat.le_of_ble_eq_true rfl⟩ gw_Model rfl rfl hl.1 rfl (Nat.le_of_ble_eq_true rfl) dX6_eRead_67 ⟨Nat.le_refl _, Nat.le_refl _⟩) hG hA (fun u H locs hp hG => ?_)
          obtain ⟨mo_67, rfl⟩ : ∃ z, z = u := ⟨u, rfl⟩
          replace hG : gS g A s H locs (gW g bb tx rw sb dy tn mo_67 jk) := by simpa only [up_up] using hG
          have hp_67 := hp
          rw [hp] at hE
          unfold F_X6_eRead_c67 at hE
          try dsimp only at hE
          have zz67 : eR 0 mo_61 mo_67 := unwinds_ok hp_67 ⟨by clear hE; omega, by clear hE; omega, by clear hE; omega⟩
          have za67 : 0 ≤ (mo_67.1 24).toInt ∧ 0 ≤ (mo_67.1 26).toInt ∧ (mo_67.1 24).toInt + (mo_67.1 26).toInt ≤ (mo_61.1 24).toInt + (mo_61.1 26).toInt + 0 := zz67.1
          have zb67_6 : (mo_67.1 6).toInt = (mo_61.1 6).toInt := congrArg Int32.toInt (zz67.2.1 6 (by decide) (by decide) (by decide))
          have zb67_9 : (mo_67.1 9).toInt = (mo_61.1 9).toInt := congrArg Int32.toInt (zz67.2.1 9 (by decide) (by decide) (by decide))
          have zb67_18 : (mo_67.1 18).toInt = (mo_61.1 18).toInt := congrArg Int32.toInt (zz67.2.1 18 (by decide) (by decide) (by decide))
          refine lv_iconst (v := 0) hx hb dX6_eRead_70 (by decide) ?_
          refine lv_istore_n (lv' := [(1, .int 0), (0, .ref (gA g 58)), (2, .int x2_14)]) hx hb dX6_eRead_71 rfl hl (by decide) rfl (fun ls hl => ?_)
          replace hl := lv_sub hl [1, 0, 2] (l' := [(0, .ref (gA g 58)), (1, .int 0), (2, .int x2_14)]) rfl
          refine lv_goto (tgt := 14) hx hb dX6_eRead_72 (by decide) ?_
          exact ih14 0 x2_14 mo_67 _ _ hG _ (lv_sub hl [0, 1, 2] rfl) (show 0 ≤ (mo_67.1 18).toInt from by clear hE; omega) (show (mo_67.1 18).toInt ≤ (mo_67.1 6).toInt from by clear hE; omega) (show (mo_67.1 6).toInt ≤ 160 from by clear hE; omega) (show 0 ≤ (mo_67.1 9).toInt from by clear hE; omega) (show (mo_67.1 9).toInt ≤ 5 from by clear hE; omega) (show 0 ≤ (mo_67.1 24).toInt from by clear hE; omega) (show 0 ≤ (mo_67.1 26).toInt from by clear hE; omega) (show (mo_67.1 24).toInt + (mo_67.1 26).toInt ≤ (mo_67.1 18).toInt from by clear hE; omega) (show 160 < (mo_67.1 18).toInt + n14 from by clear hE; omega) hE
        refine lv_icmp_ne (tgt := 57) hx hb dX6_eRead_44 (by decide) (fun c_44 => ?_) (fun c_44 => ?_)
        · replace hE := (if_neg c_44).symm.trans hE
          have i_44 : (mo_15.1 20).toInt ≠ 1 := fun h => c_44 (Int32.toInt_inj.mp h)
          refine lv_aload_n hx hb dX6_eRead_57 rfl (lv_at hl 0 rfl) ?_
          refine g_get hx hb hts hiX6 hown hG gw_Model rfl 21 (by decide) (index := 104) tw_fl_RX6_104 (v := .int (mo_15.1 21)) rfl dX6_eRead_58 ?_
          exact J61 (mo_15.1 21) _ _ hG _ (lv_sub hl [0, 1] rfl) hE
        replace hE := (if_pos c_44).symm.trans hE
        have i_44 : (mo_15.1 20).toInt = 1 := congrArg Int32.toInt c_44
        refine lv_ldc (v := 100000) hx hb hown (hts _ tw_co_RX6_137) dX6_eRead_47 ?_
        refine lv_aload_n hx hb dX6_eRead_49 rfl (lv_at hl 0 rfl) ?_
        refine g_get hx hb hts hiX6 hown hG gw_Model rfl 21 (by decide) (index := 104) tw_fl_RX6_104 (v := .int (mo_15.1 21)) rfl dX6_eRead_50 ?_
        refine lv_iadd hx hb dX6_eRead_53 ?_
        refine lv_goto (tgt := 61) hx hb dX6_eRead_54 (by decide) ?_
        exact J61 (100000 + (mo_15.1 21)) _ _ hG _ (lv_sub hl [0, 1] rfl) hE
      refine lv_icmp_eq (tgt := 38) hx hb dX6_eRead_27 (by decide) (fun c_27 => ?_) (fun c_27 => ?_)
      · replace hE := (if_pos c_27).symm.trans hE
        have i_27 : (mo_15.1 20).toInt = 1 := congrArg Int32.toInt c_27
        exact J38 _ _ hG _ (lv_sub hl [0, 2] rfl) (show (mo_15.1 20).toInt ≠ 0 from by clear hE; omega) hE
      replace hE := (if_neg c_27).symm.trans hE
      have i_27 : (mo_15.1 20).toInt ≠ 1 := fun h => c_27 (Int32.toInt_inj.mp h)
      refine lv_aload_n hx hb dX6_eRead_30 rfl (lv_at hl 0 rfl) ?_
      refine g_get hx hb hts hiX6 hown hG gw_Model rfl 20 (by decide) (index := 101) tw_fl_RX6_101 (v := .int (mo_15.1 20)) rfl dX6_eRead_31 ?_
      refine lv_iconst (v := 2) hx hb dX6_eRead_34 (by decide) ?_
      refine lv_icmp_ne (tgt := 75) hx hb dX6_eRead_35 (by decide) (fun c_35 => ?_) (fun c_35 => ?_)
      · replace hE := (if_neg c_35).symm.trans hE
        have i_35 : (mo_15.1 20).toInt ≠ 2 := fun h => c_35 (Int32.toInt_inj.mp h)
        refine lv_aload_n hx hb dX6_eRead_75 rfl (lv_at hl 0 rfl) ?_
        refine g_get hx hb hts hiX6 hown hG gw_Model rfl 20 (by decide) (index := 101) tw_fl_RX6_101 (v := .int (mo_15.1 20)) rfl dX6_eRead_76 ?_
        refine lv_bipush (v := 6) hx hb dX6_eRead_79 (by decide) ?_
        have J99 : ∀  (H : Heap) (locs : List Loc), gS g A s H locs (gW g bb tx rw sb dy tn mo_15 jk) → ∀ ls : Array Slot, lv_has ls 4 [(0, .ref (gA g 58)), (1, .int x1_14)] → F_X6_eRead_b99  (F_X6_eRead_l14 n14 ) mo_15 x1_14 = EE → W p l e (rmL (4)) s m [.ref (gA g 58)].toArray below meth c H locs 0 0 Q (F0 m 99 ls []) := by
          intro  H locs hG ls hl  hE
          unfold F_X6_eRead_b99 at hE
          refine lv_aload_n hx hb dX6_eRead_99 rfl (lv_at hl 0 rfl) ?_
          refine g_get hx hb hts hiX6 hown hG gw_Model rfl 20 (by decide) (index := 101) tw_fl_RX6_101 (v := .int (mo_15.1 20)) rfl dX6_eRead_100 ?_
          refine lv_bipush (v := 45) hx hb dX6_eRead_103 (by decide) ?_
          refine lv_icmp_ne (tgt := 124) hx hb dX6_eRead_105 (by decide) (fun c_105 => ?_) (fun c_105 => ?_)
          · replace hE := (if_neg c_105).symm.trans hE
            have i_105 : (mo_15.1 20).toInt ≠ 45 := fun h => c_105 (Int32.toInt_inj.mp h)
            refine lv_aload_n hx hb dX6_eRead_124 rfl (lv_at hl 0 rfl) ?_
            refine g_get hx hb hts hiX6 hown hG gw_Model rfl 20 (by decide) (index := 101) tw_fl_RX6_101 (v := .int (mo_15.1 20)) rfl dX6_eRead_125 ?_
            refine lv_bipush (v := 40) hx hb dX6_eRead_128 (by decide) ?_
            refine lv_icmp_ne (tgt := 148) hx hb dX6_eRead_130 (by decide) (fun c_130 => ?_) (fun c_130 => ?_)
            · replace hE := (if_neg c_130).symm.trans hE
              have i_130 : (mo_15.1 20).toInt ≠ 40 := fun h => c_130 (Int32.toInt_inj.mp h)
              refine lv_iconst (v := 0) hx hb dX6_eRead_148 (by decide) ?_
              subst hQ
              exact g_zret hx hb hr hlocks hG (Or.inl rfl) ((mo_15) : Ob) rfl hE.symm dX6_eRead_149
            replace hE := (if_pos c_130).symm.trans hE
            have i_130 : (mo_15.1 20).toInt = 40 := congrArg Int32.toInt c_130
            refine lv_aload_n hx hb dX6_eRead_133 rfl (lv_at hl 0 rfl) ?_
            refine lv_iconst (v := 0) hx hb dX6_eRead_134 (by decide) ?_
            refine g_ci (g_runV (n := 1) (rest := []) hx hb hml hown hts hG (c_X6_opensOne 0 (show 0 ≤ (mo_15.1 24).toInt ∧ (mo_15.1 24).toInt < 200 from by clear hE; omega)) tw_ml_RX6_138 tw_im_X6_opensOne tw_se_X6_opensOne tw_in_RX6 tw_cd_X6_opensOne (by decide +kernel) ⟨rfl, rfl, Nat.le_of_ble_eq_true rfl, Nat.le_of_ble_eq_true rfl⟩ gw_Model rfl rfl hl.1 rfl (Nat.le_of_ble_eq_true rfl) dX6_eRead_135 ⟨Nat.le_refl _, Nat.le_refl _⟩) hG hA (fun r_135 u H locs hp hG => ?_)
            obtain ⟨mo_135, rfl⟩ : ∃ z, z = u := ⟨u, rfl⟩
            replace hG : gS g A s H locs (gW g bb tx rw sb dy tn mo_135 jk) := by simpa only [up_up] using hG
            have hp_135 := hp
            rw [hp] at hE
            unfold F_X6_eRead_c135 at hE
            try dsimp only at hE
            have zz135 : eR 1 mo_15 mo_135 := opensOne_ok hp_135 ⟨by clear hE; omega, by clear hE; omega, by clear hE; omega⟩ (by clear hE; omega)
            have za135 : 0 ≤ (mo_135.1 24).toInt ∧ 0 ≤ (mo_135.1 26).toInt ∧ (mo_135.1 24).toInt + (mo_135.1 26).toInt ≤ (mo_15.1 24).toInt + (mo_15.1 26).toInt + 1 := zz135.1
            have zb135_6 : (mo_135.1 6).toInt = (mo_15.1 6).toInt := congrArg Int32.toInt (zz135.2.1 6 (by decide) (by decide) (by decide))
            have zb135_9 : (mo_135.1 9).toInt = (mo_15.1 9).toInt := congrArg Int32.toInt (zz135.2.1 9 (by decide) (by decide) (by decide))
            have zb135_18 : (mo_135.1 18).toInt = (mo_15.1 18).toInt := congrArg Int32.toInt (zz135.2.1 18 (by decide) (by decide) (by decide))
            refine lv_if_ne (tgt := 143) hx hb dX6_eRead_138 (by decide) (fun c_138 => ?_) (fun c_138 => ?_)
            · replace hE := (if_neg c_138).symm.trans hE
              have i_138 : r_135.toInt ≠ 0 := fun h => c_138 (Int32.toInt_inj.mp h)
              refine lv_iconst (v := 1) hx hb dX6_eRead_143 (by decide) ?_
              refine lv_istore_n (lv' := [(2, .int 1), (0, .ref (gA g 58)), (1, .int x1_14)]) hx hb dX6_eRead_144 rfl hl (by decide) rfl (fun ls hl => ?_)
              replace hl := lv_sub hl [1, 2, 0] (l' := [(0, .ref (gA g 58)), (1, .int x1_14), (2, .int 1)]) rfl
              refine lv_goto (tgt := 14) hx hb dX6_eRead_145 (by decide) ?_
              exact ih14 x1_14 1 mo_135 _ _ hG _ (lv_sub hl [0, 1, 2] rfl) (show 0 ≤ (mo_135.1 18).toInt from by clear hE; omega) (show (mo_135.1 18).toInt ≤ (mo_135.1 6).toInt from by clear hE; omega) (show (mo_135.1 6).toInt ≤ 160 from by clear hE; omega) (show 0 ≤ (mo_135.1 9).toInt from by clear hE; omega) (show (mo_135.1 9).toInt ≤ 5 from by clear hE; omega) (show 0 ≤ (mo_135.1 24).toInt from by clear hE; omega) (show 0 ≤ (mo_135.1 26).toInt from by clear hE; omega) (show (mo_135.1 24).toInt + (mo_135.1 26).toInt ≤ (mo_135.1 18).toInt from by clear hE; omega) (show 160 < (mo_135.1 18).toInt + n14 from by clear hE; omega) hE
            replace hE := (if_pos c_138).symm.trans hE
            have i_138 : r_135.toInt = 0 := congrArg Int32.toInt c_138
            refine lv_iconst (v := 0) hx hb dX6_eRead_141 (by decide) ?_
            subst hQ
            exact g_zret hx hb hr hlocks hG (Or.inl rfl) ((mo_135) : Ob) rfl hE.symm dX6_eRead_142
          replace hE := (if_pos c_105).symm.trans hE
          have i_105 : (mo_15.1 20).toInt = 45 := congrArg Int32.toInt c_105
          refine lv_aload_n hx hb dX6_eRead_108 rfl (lv_at hl 0 rfl) ?_
          refine lv_bipush (v := 19) hx hb dX6_eRead_109 (by decide) ?_
          refine g_ci (g_runV (n := 1) (rest := []) hx hb hml hown hts hG (c_X6_opensOne 19 (show 0 ≤ (mo_15.1 24).toInt ∧ (mo_15.1 24).toInt < 200 from by clear hE; omega)) tw_ml_RX6_138 tw_im_X6_opensOne tw_se_X6_opensOne tw_in_RX6 tw_cd_X6_opensOne (by decide +kernel) ⟨rfl, rfl, Nat.le_of_ble_eq_true rfl, Nat.le_of_ble_eq_true rfl⟩ gw_Model rfl rfl hl.1 rfl (Nat.le_of_ble_eq_true rfl) dX6_eRead_111 ⟨Nat.le_refl _, Nat.le_refl _⟩) hG hA (fun r_111 u H locs hp hG => ?_)
          obtain ⟨mo_111, rfl⟩ : ∃ z, z = u := ⟨u, rfl⟩
          replace hG : gS g A s H locs (gW g bb tx rw sb dy tn mo_111 jk) := by simpa only [up_up] using hG
          have hp_111 := hp
          rw [hp] at hE
          unfold F_X6_eRead_c111 at hE
          try dsimp only at hE
          have zz111 : eR 1 mo_15 mo_111 := opensOne_ok hp_111 ⟨by clear hE; omega, by clear hE; omega, by clear hE; omega⟩ (by clear hE; omega)
          have za111 : 0 ≤ (mo_111.1 24).toInt ∧ 0 ≤ (mo_111.1 26).toInt ∧ (mo_111.1 24).toInt + (mo_111.1 26).toInt ≤ (mo_15.1 24).toInt + (mo_15.1 26).toInt + 1 := zz111.1
          have zb111_6 : (mo_111.1 6).toInt = (mo_15.1 6).toInt := congrArg Int32.toInt (zz111.2.1 6 (by decide) (by decide) (by decide))
          have zb111_9 : (mo_111.1 9).toInt = (mo_15.1 9).toInt := congrArg Int32.toInt (zz111.2.1 9 (by decide) (by decide) (by decide))
          have zb111_18 : (mo_111.1 18).toInt = (mo_15.1 18).toInt := congrArg Int32.toInt (zz111.2.1 18 (by decide) (by decide) (by decide))
          refine lv_if_ne (tgt := 119) hx hb dX6_eRead_114 (by decide) (fun c_114 => ?_) (fun c_114 => ?_)
          · replace hE := (if_neg c_114).symm.trans hE
            have i_114 : r_111.toInt ≠ 0 := fun h => c_114 (Int32.toInt_inj.mp h)
            refine lv_iconst (v := 0) hx hb dX6_eRead_119 (by decide) ?_
            refine lv_istore_n (lv' := [(2, .int 0), (0, .ref (gA g 58)), (1, .int x1_14)]) hx hb dX6_eRead_120 rfl hl (by decide) rfl (fun ls hl => ?_)
            replace hl := lv_sub hl [1, 2, 0] (l' := [(0, .ref (gA g 58)), (1, .int x1_14), (2, .int 0)]) rfl
            refine lv_goto (tgt := 14) hx hb dX6_eRead_121 (by decide) ?_
            exact ih14 x1_14 0 mo_111 _ _ hG _ (lv_sub hl [0, 1, 2] rfl) (show 0 ≤ (mo_111.1 18).toInt from by clear hE; omega) (show (mo_111.1 18).toInt ≤ (mo_111.1 6).toInt from by clear hE; omega) (show (mo_111.1 6).toInt ≤ 160 from by clear hE; omega) (show 0 ≤ (mo_111.1 9).toInt from by clear hE; omega) (show (mo_111.1 9).toInt ≤ 5 from by clear hE; omega) (show 0 ≤ (mo_111.1 24).toInt from by clear hE; omega) (show 0 ≤ (mo_111.1 26).toInt from by clear hE; omega) (show (mo_111.1 24).toInt + (mo_111.1 26).toInt ≤ (mo_111.1 18).toInt from by clear hE; omega) (show 160 < (mo_111.1 18).toInt + n14 from by clear hE; omega) hE
          replace hE := (if_pos c_114).symm.trans hE
          have i_114 : r_111.toInt = 0 := congrArg Int32.toInt c_114
          refine lv_iconst (v := 0) hx hb dX6_eRead_117 (by decide) ?_
          subst hQ
          exact g_zret hx hb hr hlocks hG (Or.inl rfl) ((mo_111) : Ob) rfl hE.symm dX6_eRead_118
        refine lv_icmp_ne (tgt := 99) hx hb dX6_eRead_81 (by decide) (fun c_81 => ?_) (fun c_81 => ?_)
        · replace hE := (if_neg c_81).symm.trans hE
          have i_81 : (mo_15.1 20).toInt ≠ 6 := fun h => c_81 (Int32.toInt_inj.mp h)
          exact J99 _ _ hG _ (lv_sub hl [0, 1] rfl) hE
        replace hE := (if_pos c_81).symm.trans hE
        have i_81 : (mo_15.1 20).toInt = 6 := congrArg Int32.toInt c_81
        refine lv_iload_n hx hb dX6_eRead_84 rfl (lv_at hl 2 rfl) ?_
        refine lv_if_eq (tgt := 99) hx hb dX6_eRead_85 (by decide) (fun c_85 => ?_) (fun c_85 => ?_)
        · replace hE := (if_pos c_85).symm.trans hE
          have i_85 : x2_14.toInt = 0 := congrArg Int32.toInt c_85
          exact J99 _ _ hG _ (lv_sub hl [0, 1] rfl) hE
        replace hE := (if_neg c_85).symm.trans hE
        have i_85 : x2_14.toInt ≠ 0 := fun h => c_85 (Int32.toInt_inj.mp h)
        refine lv_aload_n hx hb dX6_eRead_88 rfl (lv_at hl 0 rfl) ?_
        refine lv_bipush (v := 13) hx hb dX6_eRead_89 (by decide) ?_
        refine g_ci (g_runV (n := 1) (rest := []) hx hb hml hown hts hG (c_X6_opensOne 13 (show 0 ≤ (mo_15.1 24).toInt ∧ (mo_15.1 24).toInt < 200 from by clear hE; omega)) tw_ml_RX6_138 tw_im_X6_opensOne tw_se_X6_opensOne tw_in_RX6 tw_cd_X6_opensOne (by decide +kernel) ⟨rfl, rfl, Nat.le_of_ble_eq_true rfl, Nat.le_of_ble_eq_true rfl⟩ gw_Model rfl rfl hl.1 rfl (Nat.le_of_ble_eq_true rfl) dX6_eRead_91 ⟨Nat.le_refl _, Nat.le_refl _⟩) hG hA (fun r_91 u H locs hp hG => ?_)
        obtain ⟨mo_91, rfl⟩ : ∃ z, z = u := ⟨u, rfl⟩
        replace hG : gS g A s H locs (gW g bb tx rw sb dy tn mo_91 jk) := by simpa only [up_up] using hG
        have hp_91 := hp
        rw [hp] at hE
        unfold F_X6_eRead_c91 at hE
        try dsimp only at hE
        have zz91 : eR 1 mo_15 mo_91 := opensOne_ok hp_91 ⟨by clear hE; omega, by clear hE; omega, by clear hE; omega⟩ (by clear hE; omega)
        have za91 : 0 ≤ (mo_91.1 24).toInt ∧ 0 ≤ (mo_91.1 26).toInt ∧ (mo_91.1 24).toInt + (mo_91.1 26).toInt ≤ (mo_15.1 24).toInt + (mo_15.1 26).toInt + 1 := zz91.1
        have zb91_6 : (mo_91.1 6).toInt = (mo_15.1 6).toInt := congrArg Int32.toInt (zz91.2.1 6 (by decide) (by decide) (by decide))
        have zb91_9 : (mo_91.1 9).toInt = (mo_15.1 9).toInt := congrArg Int32.toInt (zz91.2.1 9 (by decide) (by decide) (by decide))
        have zb91_18 : (mo_91.1 18).toInt = (mo_15.1 18).toInt := congrArg Int32.toInt (zz91.2.1 18 (by decide) (by decide) (by decide))
        refine lv_if_ne (tgt := 14) hx hb dX6_eRead_94 (by decide) (fun c_94 => ?_) (fun c_94 => ?_)
        · replace hE := (if_neg c_94).symm.trans hE
          have i_94 : r_91.toInt ≠ 0 := fun h => c_94 (Int32.toInt_inj.mp h)
          exact ih14 x1_14 x2_14 mo_91 _ _ hG _ (lv_sub hl [0, 1, 2] rfl) (show 0 ≤ (mo_91.1 18).toInt from by clear hE; omega) (show (mo_91.1 18).toInt ≤ (mo_91.1 6).toInt from by clear hE; omega) (show (mo_91.1 6).toInt ≤ 160 from by clear hE; omega) (show 0 ≤ (mo_91.1 9).toInt from by clear hE; omega) (show (mo_91.1 9).toInt ≤ 5 from by clear hE; omega) (show 0 ≤ (mo_91.1 24).toInt from by clear hE; omega) (show 0 ≤ (mo_91.1 26).toInt from by clear hE; omega) (show (mo_91.1 24).toInt + (mo_91.1 26).toInt ≤ (mo_91.1 18).toInt from by clear hE; omega) (show 160 < (mo_91.1 18).toInt + n14 from by clear hE; omega) hE
        replace hE := (if_pos c_94).symm.trans hE
        have i_94 : r_91.toInt = 0 := congrArg Int32.toInt c_94
        refine lv_iconst (v := 0) hx hb dX6_eRead_97 (by decide) ?_
        subst hQ
        exact g_zret hx hb hr hlocks hG (Or.inl rfl) ((mo_91) : Ob) rfl hE.symm dX6_eRead_98
      replace hE := (if_pos c_35).symm.trans hE
      have i_35 : (mo_15.1 20).toInt = 2 := congrArg Int32.toInt c_35
      exact J38 _ _ hG _ (lv_sub hl [0, 2] rfl) (show (mo_15.1 20).toInt ≠ 0 from by clear hE; omega) hE
  exact L14 161 1 1 (setS (setS mo 24 0) 25 0) _ _ hG _ (lv_sub hl [0, 1, 2] rfl) (show 0 ≤ (mo.1 18).toInt from by clear hE; omega) (show (mo.1 18).toInt ≤ (mo.1 6).toInt from by clear hE; omega) (show (mo.1 6).toInt ≤ 160 from by clear hE; omega) (show 0 ≤ (mo.1 9).toInt from by clear hE; omega) (show (mo.1 9).toInt ≤ 5 from by clear hE; omega) (show 0 ≤ 0 from by clear hE; omega) (show 0 ≤ (mo.1 26).toInt from by clear hE; omega) (show 0 + (mo.1 26).toInt ≤ (mo.1 18).toInt from by clear hE; omega) (show 160 < (mo.1 18).toInt + ((161 : Nat) : Int) from by clear hE; omega) hE
/-- the reading of an E, on its way -/
def eI (m r : Ob) : Prop := nOK r ∧ (0 ≤ (r.1 24).toInt ∧ 0 ≤ (r.1 26).toInt ∧ (r.1 24).toInt + (r.1 26).toInt ≤ (r.1 18).toInt) ∧ (∀ k : Nat, k ≠ 18 → k ≠ 19 → k ≠ 20 → k ≠ 21 → k ≠ 24 → k ≠ 25 → k ≠ 26 → r.1 k = m.1 k) ∧ (∀ k : Nat, k ≠ 7 → k ≠ 23 → r.2 k = m.2 k)
theorem eI.ok {m r : Ob} (h : eI m r) : uOK r := ⟨h.2.1.1, h.2.1.2.1, by have := h.1; have := h.2.1; omega⟩
theorem eI.step {b : Int} {m u v : Ob} (h : eI m u) (hb : (u.1 24).toInt + (u.1 26).toInt + b ≤ (u.1 18).toInt) (k : eR b u v) : eI m v := by
  have e18 : v.1 18 = u.1 18 := k.2.1 18 (by decide) (by decide) (by decide)
  have e6 : v.1 6 = u.1 6 := k.2.1 6 (by decide) (by decide) (by decide)
  refine ⟨by unfold nOK; rw [e18, e6]; exact h.1, ⟨k.1.1, k.1.2.1, by rw [e18]; have := k.1.2.2; omega⟩, fun q h1 h2 h3 h4 h5 h6 h7 => (k.2.1 q h5 h6 h7).trans (h.2.2.1 q h1 h2 h3 h4 h5 h6 h7), fun q h1 h2 => (k.2.2 q h1 h2).trans (h.2.2.2 q h1 h2)⟩
theorem eRead_l14 (m : Ob) : ∀ (n : Nat) (r : Ob) (x1 x2 : Int32), eI m r → 160 < (r.1 18).toInt + n → eI m (F_X6_eRead_l14 n r x1 x2).2 := by
  intro n
  induction n with
  | zero => intro r x1 x2 h hn; have := h.1; omega
  | succ n ih =>
    intro r x1 x2 h hn
    show eI m (F_X6_eRead_c15 (F_X6_eRead_l14 n) (F_X6_next r) x1 x2).2
    have hx := next_ok (m := r) rfl h.1
    generalize F_X6_next r = u at hx ⊢
    obtain ⟨⟨x1a, x1b, x1c, x1d⟩, x2a⟩ := hx
    have e24 : u.1 24 = r.1 24 := x1d 24 (by decide) (by decide) (by decide) (by decide)
    have e26 : u.1 26 = r.1 26 := x1d 26 (by decide) (by decide) (by decide) (by decide)
    have hr := h.2.1
    have hu : eI m u := ⟨x1a, ⟨by rw [e24]; exact hr.1, by rw [e26]; exact hr.2.1, by rw [e24, e26]; omega⟩, fun k k1 k2 k3 k4 k5 k6 k7 => (x1d k k1 k2 k3 k4).trans (h.2.2.1 k k1 k2 k3 k4 k5 k6 k7), fun k k1 k2 => by rw [x1c]; exact h.2.2.2 k k1 k2⟩
    have hok := hu.ok
    have go : ∀ (b : Int) (v : Ob) (y1 y2 : Int32), ¬ u.1 20 = 0 → b ≤ 1 → eR b u v → eI m (F_X6_eRead_l14 n v y1 y2).2 := fun b v y1 y2 ht hb k => by
      have hlt := x2a ht
      have e18 : v.1 18 = u.1 18 := k.2.1 18 (by decide) (by decide) (by decide)
      exact ih v y1 y2 (hu.step (by rw [e24, e26]; omega) k) (by rw [e18]; omega)
    have st : ∀ (b : Int) (v : Ob), ¬ u.1 20 = 0 → b ≤ 1 → eR b u v → eI m v := fun b v ht hb k => hu.step (by have := x2a ht; rw [e24, e26]; omega) k
    have lt160 : ¬ u.1 20 = 0 → (u.1 24).toInt + (u.1 26).toInt < 160 := fun ht => by have := x2a ht; have := x1a; rw [e24, e26]; omega
    have ho : ∀ s : Int32, ¬ u.1 20 = 0 → eR 1 u (F_X6_opensOne u s).2 := fun s ht => opensOne_ok (z := (F_X6_opensOne u s).1) rfl hok (lt160 ht)
    have tne : ∀ v : Int32, u.1 20 = v → ¬ v = 0 → ¬ u.1 20 = 0 := fun v h1 h2 h3 => h2 (h1.symm.trans h3)
    have k61 : ∀ z y2 : Int32, ¬ u.1 20 = 0 → eI m (F_X6_eRead_b61 (F_X6_eRead_l14 n) u y2 z).2 := fun z y2 ht => by
      unfold F_X6_eRead_b61 F_X6_eRead_c61 F_X6_eRead_c67
      have hp : eR 1 u (F_X6_puts u z) := puts_ok rfl hok (lt160 ht)
      have hq : eR 0 (F_X6_puts u z) (F_X6_unwinds (F_X6_puts u z) 7) := unwinds_ok rfl (hp.ok (by have := lt160 ht; omega))
      exact go _ _ _ _ ht (by omega) (hp.trans hq)
    have k38 : ∀ y2 : Int32, ¬ u.1 20 = 0 → eI m (F_X6_eRead_b38 (F_X6_eRead_l14 n) u y2).2 := fun y2 ht => by
      unfold F_X6_eRead_b38
      split
      · exact k61 _ _ ht
      · exact k61 _ _ ht
    have k99 : ∀ y1 : Int32, eI m (F_X6_eRead_b99 (F_X6_eRead_l14 n) u y1).2 := fun y1 => by
      unfold F_X6_eRead_b99
      split
      · rename_i c
        have ht := tne _ c (by decide)
        unfold F_X6_eRead_c111
        split
        · exact st _ _ ht (by omega) (ho _ ht)
        · exact go _ _ _ _ ht (by omega) (ho _ ht)
      · split
        · rename_i c
          have ht := tne _ c (by decide)
          unfold F_X6_eRead_c135
          split
          · exact st _ _ ht (by omega) (ho _ ht)
          · exact go _ _ _ _ ht (by omega) (ho _ ht)
        · exact hu
    have hw1 : ¬ u.1 20 = 0 → eR 0 u (F_X6_unwinds u 1) := fun ht => unwinds_ok rfl hok
    unfold F_X6_eRead_c15
    split
    · split
      · rename_i c
        have ht := tne _ c (by decide)
        unfold F_X6_eRead_c161
        split
        · exact st _ _ ht (by omega) (hw1 ht)
        · exact st _ _ ht (by omega) (hw1 ht)
      · split
        · rename_i c
          have ht := tne _ c (by decide)
          have hq := hw1 ht
          generalize F_X6_unwinds u 1 = v at hq ⊢
          unfold F_X6_eRead_c188
          split
          · exact st _ _ ht (by omega) hq
          · rename_i c0
            have e0 : (0 : Int32).toInt = 0 := rfl
            have hne : (v.1 24).toInt ≠ 0 := fun z => c0 (Int32.toInt_inj.mp (z.trans e0.symm))
            have h1 := hq.1.1
            have h2 := hq.1.2.1
            have h3 := hq.1.2.2
            have h4 := lt160 ht
            have e : (v.1 24 - 1).toInt = (v.1 24).toInt - 1 := subL (k := 1) (by decide +kernel) (by omega) (by omega)
            have hr1 : eR 0 v (setS (setS v 24 (v.1 24 - 1)) 25 (v.1 25 - 1)) := ⟨⟨by show 0 ≤ (v.1 24 - 1).toInt; omega, h2, by show (v.1 24 - 1).toInt + (v.1 26).toInt ≤ _; omega⟩, fun q q1 q2 q3 => (s_ne _ q2).trans (s_ne _ q1), fun _ _ _ => rfl⟩
            have hr2 := hq.trans hr1
            unfold F_X6_eRead_c223
            exact go _ _ _ _ ht (by omega) (hr2.trans (unwinds_ok rfl (hr2.ok (by omega))))
        · split
          · exact hu
          · rename_i c
            have ht := signOf_ne c
            have hb : eR 1 u (F_X6_between u (F_X6_signOf u)).2 := between_ok (z := (F_X6_between u (F_X6_signOf u)).1) rfl hok (lt160 ht)
            unfold F_X6_eRead_c241 F_X6_eRead_b262
            split
            · exact st _ _ ht (by omega) hb
            · split
              · exact go _ _ _ _ ht (by omega) hb
              · exact go _ _ _ _ ht (by omega) hb
    · split
      · rename_i c
        exact k38 _ (tne _ c (by decide))
      · split
        · rename_i c
          exact k38 _ (tne _ c (by decide))
        · split
          · rename_i c
            have ht := tne _ c (by decide)
            split
            · exact k99 _
            · unfold F_X6_eRead_c91
              split
              · exact st _ _ ht (by omega) (ho _ ht)
              · exact go _ _ _ _ ht (by omega) (ho _ ht)
          · exact k99 _
theorem eRead_ok {m r : Ob} {z : Int32} (hp : F_X6_eRead m = (z, r)) (h : nOK m) (ho : 0 ≤ (m.1 26).toInt) (ha : (m.1 26).toInt ≤ (m.1 18).toInt) : eI m r := by
  have e : r = (F_X6_eRead m).2 := by rw [hp]
  rw [e]
  refine eRead_l14 m 161 (setS (setS m 24 0) 25 0) 1 1 ⟨h, ⟨by show 0 ≤ (0 : Int32).toInt; decide, ho, ?_⟩, fun k _ _ _ _ k5 k6 _ => (s_ne _ k6).trans (s_ne _ k5), fun _ _ _ => rfl⟩ ?_
  · have e0 : (0 : Int32).toInt = 0 := rfl
    show (0 : Int32).toInt + (m.1 26).toInt ≤ (m.1 18).toInt
    omega
  · have := h.1
    show 160 < (m.1 18).toInt + ((161 : Nat) : Int)
    omega

