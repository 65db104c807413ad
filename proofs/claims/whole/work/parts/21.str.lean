section STRINGS
variable {p : Program} {l : Launch} {e : Env} {R : Room} {s : State} {m : MethodId} {args : Array Value} {below : List Frame} {meth : Method} {c : Code} {H : Heap} {locs : List Loc} {cells slots : Nat} {Q : State → Prop}
variable {cc : ByteArray} {pc : Nat} {ls : Array Slot} {rest : List Value} {g : GG} {A : Nat → Prop} {a : Nat} {w w' : va_W}
theorem g_nret {U : Type} {post : Int32 → U → Prop} {wf : U → va_W} {v : Int32} {ty : FieldType} (hx : p.tables.exec = Jvm.exec) (hb : c.code = cc) (hr : meth.sig.returnType = some ty) (hlocks : meth.locks = false) (hG : gS g A s H locs w) (hn : narrow ty (.int v) = .int v) (u : U) (hw : wf u = w) (hp : post v u) (hdg : decode cc pc = .ok (.ireturn, 1)) :
    W p l e R s m args below meth c H locs cells slots (MQ below (va_Qi post (fun u t => gC g A (wf u) t) A) args s cells slots A) (F0 m pc ls [.int v]) :=
  W.zret hx hb hr hn (fun t ht hW => ⟨⟨v, u, rfl, hp, by rw [ht, hw]; exact hG.2.1, va_K.moved hW.alike hG.1.1, by rw [hw]; exact hG.2.2.1⟩, hG.2.2.2.F ht⟩) hG.2.2.2.2.2 hdg hlocks
variable {ar : Array Value} {st0 : List Value}
theorem g_sv (hr : va_Run p l e R s m args below meth c H locs cells slots 0 0 (F0 m pc ls st0) rest (va_Qv (fun (_ : Unit) => True) (fun _ t => gC g (va_A [] H.size) [] t) (va_A [] H.size) ar) (va_A [] H.size)) (hG : gS g A s H locs w) (hA : ∀ q, s.heap.size ≤ q → A q)
    (kk : ∀ (H1 : Heap) (locs1 : List Loc), gS g A s H1 locs1 w → W p l e R s m args below meth c H1 locs1 cells slots Q (F0 m (pc + 3) ls rest)) : W p l e R s m args below meth c H locs cells slots Q (F0 m pc ls st0) :=
  va_callv hr hG.2.2.2 (fun q _ h => gS_free (gS_sub hG) hA q h) (gS_free (gS_sub hG) hA) (fun u t H1 locs1 ht hvm hp hB hz hk hS => kk H1 locs1 (gS_kept hG hk hS))
end STRINGS
def F_len (i : Nat) : Int32 := Int32.ofNat (gLen.getD i 0)
def F_chr (i : Nat) (k : Int32) : Int32 := (gByt.getD i []).getD k.toNatClampNeg 0
theorem len_shr : ∀ i : Nat, i < 12 → Int32.ofNat (gLen.getD i 0) >>> ((0 : Int32) &&& 31) = F_len i := by decide +kernel
set_option maxHeartbeats 4000000 in
set_option maxRecDepth 100000 in
theorem c_coder {l : Launch} {g : GG} {sz i : Nat} (hi : i < 12) : Met l yJ0_coder_7d493 (Cond.code yJ0_coder_7d493 cJ0_coder_7d493 1 (some .byte) :: TT) (rmL 1) (va_Pc [.ref (gA g (100 + i))] (gB g sz [])) (va_Qi (fun r (_ : Unit) => r = 0) (fun _ t => gC g (va_A [] sz) [] t) (va_A [] sz)) 0 0 (va_A [] sz) := by
  refine g_of (Qf := fun A => (va_Qi (fun r (_ : Unit) => r = 0) (fun _ t => gC g A [] t) A)) (cc := cJ0_coder_7d493) (maxL := 1) (ret := (some .byte)) (by decide) (Nat.le_of_ble_eq_true rfl) ?_
  intro p e s m below meth c A ls hx hb hml hr hlocks hts hown hA hG hl
  replace hown : s.vm.findClass RJ0 = some m.cls := hown
  replace hl : lv_has ls 1 [(0, .ref (gA g (100 + i)))] := hl
  show W p l e (rmL 1) s m ([.ref (gA g (100 + i))].toArray) below meth c s.heap [] 0 0 (MQ below (va_Qi (fun r (_ : Unit) => r = 0) (fun _ t => gC g A [] t) A) ([.ref (gA g (100 + i))].toArray) s 0 0 A) (F0 m 0 ls [])
  refine va_gets hx hb hG.1.2.2.2.2.1 hG.2.2.2 hown (hts _ tw_fl_RJ0_38) (fun _ h => h) dJ0_coder_7d493_0 ?_
  refine lv_if_eq (tgt := 13) hx hb dJ0_coder_7d493_3 (by decide) (fun q => absurd q (by decide)) (fun _ => ?_)
  refine lv_aload_n hx hb dJ0_coder_7d493_6 rfl (lv_at hl 0 rfl) ?_
  refine vk_getf hx hb (hG.1.2.2.1.1 i hi).2.1 hG.2.2.2 hown (hts _ tw_fl_RJ0_15) (fun _ h => h) dJ0_coder_7d493_7 ?_
  refine lv_goto (tgt := 14) hx hb dJ0_coder_7d493_10 (by decide) ?_
  exact g_nret hx hb hr hlocks hG rfl () rfl rfl dJ0_coder_7d493_14
set_option maxHeartbeats 4000000 in
set_option maxRecDepth 100000 in
theorem c_isLatin1 {l : Launch} {g : GG} {sz i : Nat} (hi : i < 12) : Met l yJ0_isLatin1_aae02 (Cond.code yJ0_isLatin1_aae02 cJ0_isLatin1_aae02 1 (some .boolean) :: TT) (rmL 1) (va_Pc [.ref (gA g (100 + i))] (gB g sz [])) (va_Qi (fun r (_ : Unit) => r = 1) (fun _ t => gC g (va_A [] sz) [] t) (va_A [] sz)) 0 0 (va_A [] sz) := by
  refine g_of (Qf := fun A => (va_Qi (fun r (_ : Unit) => r = 1) (fun _ t => gC g A [] t) A)) (cc := cJ0_isLatin1_aae02) (maxL := 1) (ret := (some .boolean)) (by decide) (Nat.le_of_ble_eq_true rfl) ?_
  intro p e s m below meth c A ls hx hb hml hr hlocks hts hown hA hG hl
  replace hown : s.vm.findClass RJ0 = some m.cls := hown
  replace hl : lv_has ls 1 [(0, .ref (gA g (100 + i)))] := hl
  show W p l e (rmL 1) s m ([.ref (gA g (100 + i))].toArray) below meth c s.heap [] 0 0 (MQ below (va_Qi (fun r (_ : Unit) => r = 1) (fun _ t => gC g A [] t) A) ([.ref (gA g (100 + i))].toArray) s 0 0 A) (F0 m 0 ls [])
  refine va_gets hx hb hG.1.2.2.2.2.1 hG.2.2.2 hown (hts _ tw_fl_RJ0_38) (fun _ h => h) dJ0_isLatin1_aae02_0 ?_
  refine lv_if_eq (tgt := 17) hx hb dJ0_isLatin1_aae02_3 (by decide) (fun q => absurd q (by decide)) (fun _ => ?_)
  refine lv_aload_n hx hb dJ0_isLatin1_aae02_6 rfl (lv_at hl 0 rfl) ?_
  refine vk_getf hx hb (hG.1.2.2.1.1 i hi).2.1 hG.2.2.2 hown (hts _ tw_fl_RJ0_15) (fun _ h => h) dJ0_isLatin1_aae02_7 ?_
  refine lv_if_ne (tgt := 17) hx hb dJ0_isLatin1_aae02_10 (by decide) (fun q => absurd q (by decide)) (fun _ => ?_)
  refine lv_iconst (v := 1) hx hb dJ0_isLatin1_aae02_13 (by decide) ?_
  refine lv_goto (tgt := 18) hx hb dJ0_isLatin1_aae02_14 (by decide) ?_
  exact g_nret hx hb hr hlocks hG rfl () rfl rfl dJ0_isLatin1_aae02_18
set_option maxHeartbeats 4000000 in
set_option maxRecDepth 100000 in
theorem c_length {l : Launch} {g : GG} {sz i : Nat} (hi : i < 12) : Met l yJ0_length_8abf5 (Cond.code yJ0_length_8abf5 cJ0_length_8abf5 1 (some .int) :: TT) (rmL 2) (va_Pc [.ref (gA g (100 + i))] (gB g sz [])) (va_Qi (fun r (_ : Unit) => r = F_len i) (fun _ t => gC g (va_A [] sz) [] t) (va_A [] sz)) 0 0 (va_A [] sz) := by
  refine g_of (Qf := fun A => (va_Qi (fun r (_ : Unit) => r = F_len i) (fun _ t => gC g A [] t) A)) (cc := cJ0_length_8abf5) (maxL := 1) (ret := (some .int)) (by decide) (Nat.le_of_ble_eq_true rfl) ?_
  intro p e s m below meth c A ls hx hb hml hr hlocks hts hown hA hG hl
  replace hown : s.vm.findClass RJ0 = some m.cls := hown
  replace hl : lv_has ls 1 [(0, .ref (gA g (100 + i)))] := hl
  show W p l e (rmL 2) s m ([.ref (gA g (100 + i))].toArray) below meth c s.heap [] 0 0 (MQ below (va_Qi (fun r (_ : Unit) => r = F_len i) (fun _ t => gC g A [] t) A) ([.ref (gA g (100 + i))].toArray) s 0 0 A) (F0 m 0 ls [])
  generalize hQ : MQ below (va_Qi (fun r (_ : Unit) => r = F_len i) (fun _ t => gC g A [] t) A) ([.ref (gA g (100 + i))].toArray) s 0 0 A = Q
  refine lv_aload_n hx hb dJ0_length_8abf5_0 rfl (lv_at hl 0 rfl) ?_
  refine vk_getf hx hb (hG.1.2.2.1.1 i hi).2.2.1 hG.2.2.2 hown (hts _ tw_fl_RJ0_9) (fun _ h => h) dJ0_length_8abf5_1 ?_
  refine va_tlen hx hb (hG.1.2.2.1.1 i hi).2.2.2 hG.2.2.2 rfl dJ0_length_8abf5_4 ?_
  refine lv_aload_n hx hb dJ0_length_8abf5_5 rfl (lv_at hl 0 rfl) ?_
  refine g_si (g_runK (i := i) (n := 0) (As := []) (rest := [.int (Int32.ofNat (gLen.getD i 0))]) hx hb hml hown hts hG (c_coder hi) tw_ml_RJ0_335 tw_im_J0_coder_7d493 tw_se_J0_coder_7d493 tw_in_RJ0 tw_cd_J0_coder_7d493 (by decide +kernel) ⟨rfl, rfl, Nat.le_of_ble_eq_true rfl, Nat.le_of_ble_eq_true rfl⟩ hi rfl rfl hl.1 rfl (Nat.le_of_ble_eq_true rfl) dJ0_length_8abf5_6 ⟨Nat.le_refl _, Nat.le_refl _⟩) hG hA (fun H locs hG => ?_)
  refine lv_ishr hx hb dJ0_length_8abf5_9 ?_
  rw [len_shr i hi]
  subst hQ
  exact g_iret hx hb hr hlocks hG () rfl rfl dJ0_length_8abf5_10
set_option maxHeartbeats 4000000 in
set_option maxRecDepth 100000 in
theorem c_preCheck {l : Launch} {g : GG} {sz : Nat} (p0 p1 : Int32) (v : Option Nat) (h0 : 0 ≤ p0.toInt) (h1 : p0.toInt < p1.toInt) : Met l yJ3_checkIndex_8e157 (Cond.code yJ3_checkIndex_8e157 cJ3_checkIndex_8e157 3 (some .int) :: TT) (rmL 1) (va_Pc [.int p0, .int p1, va_rf v] (gB g sz [])) (va_Qi (fun r (_ : Unit) => r = p0) (fun _ t => gC g (va_A [] sz) [] t) (va_A [] sz)) 0 0 (va_A [] sz) := by
  have e0 : (0 : Int32).toInt = 0 := rfl
  refine g_of (Qf := fun A => (va_Qi (fun r (_ : Unit) => r = p0) (fun _ t => gC g A [] t) A)) (cc := cJ3_checkIndex_8e157) (maxL := 3) (ret := (some .int)) (by decide) (by cases v <;> exact Nat.le_of_ble_eq_true rfl) ?_
  intro p e s m below meth c A ls hx hb hml hr hlocks hts hown hA hG hl
  replace hown : s.vm.findClass RJ3 = some m.cls := hown
  replace hl : lv_has ls 3 [(0, .int p0), (1, .int p1), (2, va_rf v)] := by cases v <;> exact hl
  refine lv_iload_n hx hb dJ3_checkIndex_8e157_0 rfl (lv_at hl 0 rfl) ?_
  refine lv_if_lt (tgt := 9) hx hb dJ3_checkIndex_8e157_1 (by decide) (fun q => ?_) (fun _ => ?_)
  · have := i_lt.mp q
    omega
  refine lv_iload_n hx hb dJ3_checkIndex_8e157_4 rfl (lv_at hl 0 rfl) ?_
  refine lv_iload_n hx hb dJ3_checkIndex_8e157_5 rfl (lv_at hl 1 rfl) ?_
  refine lv_icmp_lt (tgt := 16) hx hb dJ3_checkIndex_8e157_6 (by decide) (fun _ => ?_) (fun q => absurd (i_lt.mpr h1) q)
  refine lv_iload_n hx hb dJ3_checkIndex_8e157_16 rfl (lv_at hl 0 rfl) ?_
  exact g_iret hx hb hr hlocks hG () rfl rfl dJ3_checkIndex_8e157_17
set_option maxHeartbeats 4000000 in
set_option maxRecDepth 100000 in
theorem c_sCheck {l : Launch} {g : GG} {sz : Nat} (p0 p1 : Int32) (h0 : 0 ≤ p0.toInt) (h1 : p0.toInt < p1.toInt) : Met l yJ0_checkIndex_df160 (Cond.code yJ0_checkIndex_df160 cJ0_checkIndex_df160 2 none :: TT) (rmL 2) (va_Pc [.int p0, .int p1] (gB g sz [])) (va_Qv (fun (_ : Unit) => True) (fun _ t => gC g (va_A [] sz) [] t) (va_A [] sz)) 0 0 (va_A [] sz) := by
  refine g_of (Qf := fun A => (va_Qv (fun (_ : Unit) => True) (fun _ t => gC g A [] t) A)) (cc := cJ0_checkIndex_df160) (maxL := 2) (ret := none) (by decide) (Nat.le_of_ble_eq_true rfl) ?_
  intro p e s m below meth c A ls hx hb hml hr hlocks hts hown hA hG hl
  replace hown : s.vm.findClass RJ0 = some m.cls := hown
  replace hl : lv_has ls 2 [(0, .int p0), (1, .int p1)] := hl
  obtain ⟨v, hZ⟩ : ∃ v : Option Nat, va_Z "jdk/internal/util/Preconditions" "SIOOBE_FORMATTER" "Ljava/util/function/BiFunction;" (va_rf v) A s s.heap := by
    rcases hG.1.2.2.2.2.2.1 with h | ⟨t, h⟩
    · exact ⟨none, h⟩
    · exact ⟨some t, h⟩
  show W p l e (rmL 2) s m ([.int p0, .int p1].toArray) below meth c s.heap [] 0 0 (MQ below (va_Qv (fun (_ : Unit) => True) (fun _ t => gC g A [] t) A) ([.int p0, .int p1].toArray) s 0 0 A) (F0 m 0 ls [])
  generalize hQ : MQ below (va_Qv (fun (_ : Unit) => True) (fun _ t => gC g A [] t) A) ([.int p0, .int p1].toArray) s 0 0 A = Q
  refine lv_iload_n hx hb dJ0_checkIndex_df160_0 rfl (lv_at hl 0 rfl) ?_
  refine lv_iload_n hx hb dJ0_checkIndex_df160_1 rfl (lv_at hl 1 rfl) ?_
  refine va_gets hx hb hZ hG.2.2.2 hown (hts _ tw_fl_RJ0_1053) (fun _ h => h) dJ0_checkIndex_df160_2 ?_
  refine g_si (g_runS (n := 3) (As := [.int p0, .int p1, va_rf v]) (rest := []) hx hb hml hown hts hG (c_preCheck p0 p1 v h0 h1) tw_ml_RJ0_1059 tw_st_J3_checkIndex_8e157 tw_in_RJ3 tw_cd_J3_checkIndex_8e157 (by decide +kernel) ⟨rfl, rfl, Nat.le_of_ble_eq_true rfl, Nat.le_of_ble_eq_true rfl⟩ rfl hl.1 rfl (Nat.le_of_ble_eq_true rfl) dJ0_checkIndex_df160_5 ⟨Nat.le_refl _, Nat.le_refl _⟩) hG hA (fun H locs hG => ?_)
  refine lv_pop hx hb dJ0_checkIndex_df160_8 rfl ?_
  subst hQ
  exact g_vret hx hb hr hlocks hG () rfl trivial dJ0_checkIndex_df160_9
theorem chr_c : ∀ i : Nat, i < 12 → ∀ k : Nat, k < gLen.getD i 0 → ((((gByt.getD i []).getD k 0 &&& 255).toUInt32 % 65536).toInt32 = (gByt.getD i []).getD k 0 ∧ narrow .char (.int ((gByt.getD i []).getD k 0)) = .int ((gByt.getD i []).getD k 0)) := by decide +kernel
theorem len_i : ∀ i : Nat, i < 12 → (Int32.ofNat (gLen.getD i 0)).toInt = gLen.getD i 0 := by decide +kernel
set_option maxHeartbeats 4000000 in
set_option maxRecDepth 100000 in
theorem c_lcharAt {l : Launch} {g : GG} {sz i : Nat} (hi : i < 12) (k : Int32) (h0 : 0 ≤ k.toInt) (h1 : k.toInt < (F_len i).toInt) : Met l yJ1_charAt_3b067 (Cond.code yJ1_charAt_3b067 cJ1_charAt_3b067 2 (some .char) :: TT) (rmL 3) (va_Pc [.ref (gA g (200 + i)), .int k] (gB g sz [])) (va_Qi (fun r (_ : Unit) => r = F_chr i k) (fun _ t => gC g (va_A [] sz) [] t) (va_A [] sz)) 0 0 (va_A [] sz) := by
  have h2 : k.toNatClampNeg < gLen.getD i 0 := by
    have := len_i i hi
    unfold F_len at h1
    rw [tcn_i]
    omega
  refine g_of (Qf := fun A => (va_Qi (fun r (_ : Unit) => r = F_chr i k) (fun _ t => gC g A [] t) A)) (cc := cJ1_charAt_3b067) (maxL := 2) (ret := (some .char)) (by decide) (Nat.le_of_ble_eq_true rfl) ?_
  intro p e s m below meth c A ls hx hb hml hr hlocks hts hown hA hG hl
  replace hown : s.vm.findClass RJ1 = some m.cls := hown
  replace hl : lv_has ls 2 [(0, .ref (gA g (200 + i))), (1, .int k)] := hl
  show W p l e (rmL 3) s m ([.ref (gA g (200 + i)), .int k].toArray) below meth c s.heap [] 0 0 (MQ below (va_Qi (fun r (_ : Unit) => r = F_chr i k) (fun _ t => gC g A [] t) A) ([.ref (gA g (200 + i)), .int k].toArray) s 0 0 A) (F0 m 0 ls [])
  generalize hQ : MQ below (va_Qi (fun r (_ : Unit) => r = F_chr i k) (fun _ t => gC g A [] t) A) ([.ref (gA g (200 + i)), .int k].toArray) s 0 0 A = Q
  refine lv_iload_n hx hb dJ1_charAt_3b067_0 rfl (lv_at hl 1 rfl) ?_
  refine lv_aload_n hx hb dJ1_charAt_3b067_1 rfl (lv_at hl 0 rfl) ?_
  refine va_tlen hx hb (hG.1.2.2.1.1 i hi).2.2.2 hG.2.2.2 rfl dJ1_charAt_3b067_2 ?_
  refine g_sv (g_runS (n := 2) (As := [.int k, .int (Int32.ofNat (gLen.getD i 0))]) (rest := []) hx hb hml hown hts hG (c_sCheck k _ h0 h1) tw_ml_RJ1_9 tw_st_J0_checkIndex_df160 tw_in_RJ0 tw_cd_J0_checkIndex_df160 (by decide +kernel) ⟨rfl, rfl, Nat.le_of_ble_eq_true rfl, Nat.le_of_ble_eq_true rfl⟩ rfl hl.1 rfl (Nat.le_of_ble_eq_true rfl) dJ1_charAt_3b067_3 ⟨Nat.le_refl _, Nat.le_refl _⟩) hG hA (fun H locs hG => ?_)
  refine lv_aload_n hx hb dJ1_charAt_3b067_6 rfl (lv_at hl 0 rfl) ?_
  refine lv_iload_n hx hb dJ1_charAt_3b067_7 rfl (lv_at hl 1 rfl) ?_
  refine va_tb hx hb (hG.1.2.2.1.1 i hi).2.2.2 hG.2.2.2 (vp_i h0 (by rw [tcn_i] at h2; omega)) rfl dJ1_charAt_3b067_8 ?_
  refine lv_sipush (v := 255) hx hb dJ1_charAt_3b067_9 (by decide) ?_
  refine lv_iand hx hb dJ1_charAt_3b067_12 ?_
  refine lv_i2c (v := F_chr i k) hx hb dJ1_charAt_3b067_13 (chr_c i hi _ h2).1 ?_
  subst hQ
  exact g_nret hx hb hr hlocks hG (chr_c i hi _ h2).2 () rfl rfl dJ1_charAt_3b067_14
set_option maxHeartbeats 4000000 in
set_option maxRecDepth 100000 in
theorem c_charAt {l : Launch} {g : GG} {sz i : Nat} (hi : i < 12) (k : Int32) (h0 : 0 ≤ k.toInt) (h1 : k.toInt < (F_len i).toInt) : Met l yJ0_charAt_5068e (Cond.code yJ0_charAt_5068e cJ0_charAt_5068e 2 (some .char) :: TT) (rmL 4) (va_Pc [.ref (gA g (100 + i)), .int k] (gB g sz [])) (va_Qi (fun r (_ : Unit) => r = F_chr i k) (fun _ t => gC g (va_A [] sz) [] t) (va_A [] sz)) 0 0 (va_A [] sz) := by
  have h2 : k.toNatClampNeg < gLen.getD i 0 := by
    have := len_i i hi
    unfold F_len at h1
    rw [tcn_i]
    omega
  refine g_of (Qf := fun A => (va_Qi (fun r (_ : Unit) => r = F_chr i k) (fun _ t => gC g A [] t) A)) (cc := cJ0_charAt_5068e) (maxL := 2) (ret := (some .char)) (by decide) (Nat.le_of_ble_eq_true rfl) ?_
  intro p e s m below meth c A ls hx hb hml hr hlocks hts hown hA hG hl
  replace hown : s.vm.findClass RJ0 = some m.cls := hown
  replace hl : lv_has ls 2 [(0, .ref (gA g (100 + i))), (1, .int k)] := hl
  show W p l e (rmL 4) s m ([.ref (gA g (100 + i)), .int k].toArray) below meth c s.heap [] 0 0 (MQ below (va_Qi (fun r (_ : Unit) => r = F_chr i k) (fun _ t => gC g A [] t) A) ([.ref (gA g (100 + i)), .int k].toArray) s 0 0 A) (F0 m 0 ls [])
  generalize hQ : MQ below (va_Qi (fun r (_ : Unit) => r = F_chr i k) (fun _ t => gC g A [] t) A) ([.ref (gA g (100 + i)), .int k].toArray) s 0 0 A = Q
  refine lv_aload_n hx hb dJ0_charAt_5068e_0 rfl (lv_at hl 0 rfl) ?_
  refine g_si (g_runK (i := i) (n := 0) (As := []) (rest := []) hx hb hml hown hts hG (c_isLatin1 hi) tw_ml_RJ0_492 tw_im_J0_isLatin1_aae02 tw_se_J0_isLatin1_aae02 tw_in_RJ0 tw_cd_J0_isLatin1_aae02 (by decide +kernel) ⟨rfl, rfl, Nat.le_of_ble_eq_true rfl, Nat.le_of_ble_eq_true rfl⟩ hi rfl rfl hl.1 rfl (Nat.le_of_ble_eq_true rfl) dJ0_charAt_5068e_1 ⟨Nat.le_refl _, Nat.le_refl _⟩) hG hA (fun H locs hG => ?_)
  refine lv_if_eq (tgt := 16) hx hb dJ0_charAt_5068e_4 (by decide) (fun q => absurd q (by decide)) (fun _ => ?_)
  refine lv_aload_n hx hb dJ0_charAt_5068e_7 rfl (lv_at hl 0 rfl) ?_
  refine vk_getf hx hb (hG.1.2.2.1.1 i hi).2.2.1 hG.2.2.2 hown (hts _ tw_fl_RJ0_9) (fun _ h => h) dJ0_charAt_5068e_8 ?_
  refine lv_iload_n hx hb dJ0_charAt_5068e_11 rfl (lv_at hl 1 rfl) ?_
  refine g_si (g_runS (n := 2) (As := [.ref (gA g (200 + i)), .int k]) (rest := []) hx hb hml hown hts hG (c_lcharAt hi k h0 h1) tw_ml_RJ0_495 tw_st_J1_charAt_3b067 tw_in_RJ1 tw_cd_J1_charAt_3b067 (by decide +kernel) ⟨rfl, rfl, Nat.le_of_ble_eq_true rfl, Nat.le_of_ble_eq_true rfl⟩ rfl hl.1 rfl (Nat.le_of_ble_eq_true rfl) dJ0_charAt_5068e_12 ⟨Nat.le_refl _, Nat.le_refl _⟩) hG hA (fun H locs hG => ?_)
  subst hQ
  exact g_nret hx hb hr hlocks hG (chr_c i hi _ h2).2 () rfl rfl dJ0_charAt_5068e_15
