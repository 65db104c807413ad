-- THE LAW, A CALL EACH (laid by law.py)
theorem lg_same (x y : Int64) (h : x = y) : lg_cmp x y = 0 := by
  subst h
  unfold lg_cmp
  rw [if_neg (by simp), if_pos rfl]
section SRW
variable {bb : Ob} {tx rw : Nat → Ob} {sb : Ob} {tn : Nat → Ob} {m : Ob}
theorem SR.p0 (h : SR bb tx rw sb tn m) : 0 ≤ (sb.1 1).toInt := by rw [h.2.2.2.2.1.1]; exact h.2.2.2.2.1.2.1.1
theorem SR.p160 (h : SR bb tx rw sb tn m) : (sb.1 1).toInt ≤ 160 := by rw [h.2.2.2.2.1.1]; exact h.2.2.2.2.1.2.1.2
theorem SR.t66 (h : SR bb tx rw sb tn m) : 0 ≤ ((tn 0).1 6).toInt ∧ ((tn 0).1 6).toInt ≤ 6 := by rw [h.1.1.1]; exact h.1.1.2
theorem SR.t6 (h : SR bb tx rw sb tn m) : 0 ≤ ((tn 0).1 6).toInt := h.t66.1
theorem SR.m9 (h : SR bb tx rw sb tn m) : 0 ≤ (m.1 9).toInt ∧ (m.1 9).toInt ≤ 6 := by
  have := h.2.1.2.1
  omega
theorem SR.hrw (h : SR bb tx rw sb tn m) : ∀ s : Nat, s < 4 → 0 ≤ ((rw s).1 2).toInt ∧ ((rw s).1 2).toInt ≤ 40 := fun s hs => by
  obtain ⟨_, h2, h3, _⟩ := h.2.2.2.1 s hs
  rw [h2]
  exact h3
theorem SR.hsz (h : SR bb tx rw sb tn m) : ∀ s : Nat, s < 4 → 0 ≤ ((m.2 15) s).toInt ∧ ((m.2 15) s).toInt ≤ 40 := fun s hs => (h.2.2.2.1 s hs).2.2.1
theorem SR.hxs (h : SR bb tx rw sb tn m) : ∀ t : Nat, t < 6 → (t : Int) < (bb.1 7).toInt → xOK (tx t) := fun t t6 ht => by
  have e1 : (nI t).toInt = (t : Int) := nI_toInt (by omega)
  have k := (h.2.1.2.2.2 (nI t) (by omega) (by rw [e1, ← h.2.1.1]; exact ht)).1
  rw [nI_b t6] at k
  exact k
theorem SR.lEv (h : SR bb tx rw sb tn m) : lEv m := ⟨h.1.1.2, h.m9, fun t t0 t1 => (h.2.1.2.2.2 t t0 t1).2.1⟩
theorem SR.tn1 (h : SR bb tx rw sb tn m) (X : Ob) : SR bb tx rw sb (va_up tn 1 X) m := h
end SRW
set_option maxHeartbeats 4000000 in
set_option maxRecDepth 100000 in
theorem lc_count {p : Program} {l : Launch} {e : Env} {s : State} {m : MethodId} {below : List Frame} {meth : Method} {c : Code} {H : Heap} {locs : List Loc} {Q : State → Prop} {ls : Array Slot} {A : Nat → Prop} {g : GG} {b L : Nat} {xs : Nat → Int32} {i : Int32} {bb : Ob} {tx rw : Nat → Ob} {sb dy : Ob} {tn : Nat → Ob} {mo : Ob} {jk : Nat → Nat → Int32} (hx : p.tables.exec = Jvm.exec) (hb : c.code = cL_law) (hml : c.maxLocals = 4) (hts : ∀ w ∈ TT, w.before #[Value.ref b] s = true) (hown : s.vm.findClass RL = some m.cls) (hA : ∀ q, s.heap.size ≤ q → A q) (hX : va_X b L xs s s.heap) (hbl : b < s.heap.size) (hbA : ¬ A b) (hi : ∀ k : Int32, 0 ≤ k.toInt → k.toInt ≤ 6 → vp_in (i + k) L) (hS : SR bb tx rw sb tn mo) (hG : gS g A s H locs (gW g bb tx rw sb dy tn mo jk)) (hl : lv_has ls 4 [(0, .ref b), (1, .ref (gA g 0)), (2, .ref (gA g 58)), (3, .int i)])
    (kk : ∀ (bb : Ob) (tx rw : Nat → Ob) (sb dy : Ob) (tn : Nat → Ob) (mo : Ob) (jk : Nat → Nat → Int32) (H : Heap) (locs : List Loc), SR bb tx rw sb tn mo → gS g A s H locs (gW g bb tx rw sb dy tn mo jk) → W p l e room_1 s m #[Value.ref b] below meth c H locs 600000 7302250 Q (F0 m 1375 ls [])) :
    W p l e room_1 s m #[Value.ref b] below meth c H locs 600000 7302250 Q (F0 m 192 ls []) := by
  have hT := hS.1
  have hE := s_count hS (xs (Int32.toNatClampNeg (i + 1)))
  refine lv_aload_n hx hb dL_law_192 rfl (lv_at hl 1 rfl) ?_
  refine lv_aload_n hx hb dL_law_193 rfl (lv_at hl 0 rfl) ?_
  refine lv_iload_n hx hb dL_law_194 rfl (lv_at hl 3 rfl) ?_
  refine lv_iconst (v := 1) hx hb dL_law_195 (by decide) ?_
  refine lv_iadd hx hb dL_law_196 ?_
  refine va_sld hx hb hX hbl hbA hG.2.2.2 (hi 1 (by decide) (by decide)) dL_law_197 ?_
  refine g_ci (g_runV (n := 1) (rest := []) hx hb hml hown hts hG (c_X5_count (xs (Int32.toNatClampNeg (i + 1)))) tw_ml_RL_13 tw_im_X5_count tw_se_X5_count tw_in_RX5 tw_cd_X5_count (by decide +kernel) ⟨rfl, rfl, Nat.le_of_ble_eq_true rfl, Nat.le_of_ble_eq_true rfl⟩ gw_Bell rfl rfl hl.1 rfl (Nat.le_of_ble_eq_true rfl) dL_law_198 ⟨Nat.le_of_ble_eq_true rfl, Nat.le_of_ble_eq_true rfl⟩) hG hA (fun r u H locs hp hG => ?_)
  rw [← hp] at hE
  refine lv_aload_n hx hb dL_law_201 rfl (lv_at hl 2 rfl) ?_
  refine lv_aload_n hx hb dL_law_202 rfl (lv_at hl 0 rfl) ?_
  refine lv_iload_n hx hb dL_law_203 rfl (lv_at hl 3 rfl) ?_
  refine lv_iconst (v := 1) hx hb dL_law_204 (by decide) ?_
  refine lv_iadd hx hb dL_law_205 ?_
  refine va_sld hx hb hX hbl hbA hG.2.2.2 (hi 1 (by decide) (by decide)) dL_law_206 ?_
  refine g_ci (g_runV (n := 1) (rest := [.int r]) hx hb hml hown hts hG (c_X6_count (xs (Int32.toNatClampNeg (i + 1)))) tw_ml_RL_17 tw_im_X6_count tw_se_X6_count tw_in_RX6 tw_cd_X6_count (by decide +kernel) ⟨rfl, rfl, Nat.le_of_ble_eq_true rfl, Nat.le_of_ble_eq_true rfl⟩ gw_Model rfl rfl hl.1 rfl (Nat.le_of_ble_eq_true rfl) dL_law_207 ⟨Nat.le_of_ble_eq_true rfl, Nat.le_of_ble_eq_true rfl⟩) hG hA (fun r2 u2 H locs hq hG => ?_)
  rw [← hq] at hE
  refine lv_icmp_eq (tgt := 1375) hx hb dL_law_210 (by decide) (fun _ => ?_) (fun c => absurd hE c)
  exact kk _ _ _ _ _ _ _ _ _ _ (hS) hG
set_option maxHeartbeats 4000000 in
set_option maxRecDepth 100000 in
theorem lc_clock {p : Program} {l : Launch} {e : Env} {s : State} {m : MethodId} {below : List Frame} {meth : Method} {c : Code} {H : Heap} {locs : List Loc} {Q : State → Prop} {ls : Array Slot} {A : Nat → Prop} {g : GG} {b L : Nat} {xs : Nat → Int32} {i : Int32} {bb : Ob} {tx rw : Nat → Ob} {sb dy : Ob} {tn : Nat → Ob} {mo : Ob} {jk : Nat → Nat → Int32} (hx : p.tables.exec = Jvm.exec) (hb : c.code = cL_law) (hml : c.maxLocals = 4) (hts : ∀ w ∈ TT, w.before #[Value.ref b] s = true) (hown : s.vm.findClass RL = some m.cls) (hA : ∀ q, s.heap.size ≤ q → A q) (hX : va_X b L xs s s.heap) (hbl : b < s.heap.size) (hbA : ¬ A b) (hi : ∀ k : Int32, 0 ≤ k.toInt → k.toInt ≤ 6 → vp_in (i + k) L) (hS : SR bb tx rw sb tn mo) (hG : gS g A s H locs (gW g bb tx rw sb dy tn mo jk)) (hl : lv_has ls 4 [(0, .ref b), (1, .ref (gA g 0)), (2, .ref (gA g 58)), (3, .int i)])
    (kk : ∀ (bb : Ob) (tx rw : Nat → Ob) (sb dy : Ob) (tn : Nat → Ob) (mo : Ob) (jk : Nat → Nat → Int32) (H : Heap) (locs : List Loc), SR bb tx rw sb tn mo → gS g A s H locs (gW g bb tx rw sb dy tn mo jk) → W p l e room_1 s m #[Value.ref b] below meth c H locs 600000 7302250 Q (F0 m 1375 ls [])) :
    W p l e room_1 s m #[Value.ref b] below meth c H locs 600000 7302250 Q (F0 m 215 ls []) := by
  have hT := hS.1
  have hE := s_clock hS (xs (Int32.toNatClampNeg (i + 1)))
  refine lv_aload_n hx hb dL_law_215 rfl (lv_at hl 1 rfl) ?_
  refine lv_aload_n hx hb dL_law_216 rfl (lv_at hl 0 rfl) ?_
  refine lv_iload_n hx hb dL_law_217 rfl (lv_at hl 3 rfl) ?_
  refine lv_iconst (v := 1) hx hb dL_law_218 (by decide) ?_
  refine lv_iadd hx hb dL_law_219 ?_
  refine va_sld hx hb hX hbl hbA hG.2.2.2 (hi 1 (by decide) (by decide)) dL_law_220 ?_
  refine g_ci (g_runV (n := 1) (rest := []) hx hb hml hown hts hG (c_X5_clock (xs (Int32.toNatClampNeg (i + 1)))) tw_ml_RL_18 tw_im_X5_clock tw_se_X5_clock tw_in_RX5 tw_cd_X5_clock (by decide +kernel) ⟨rfl, rfl, Nat.le_of_ble_eq_true rfl, Nat.le_of_ble_eq_true rfl⟩ gw_Bell rfl rfl hl.1 rfl (Nat.le_of_ble_eq_true rfl) dL_law_221 ⟨Nat.le_of_ble_eq_true rfl, Nat.le_of_ble_eq_true rfl⟩) hG hA (fun r u H locs hp hG => ?_)
  rw [hp] at hE
  refine lv_aload_n hx hb dL_law_224 rfl (lv_at hl 2 rfl) ?_
  refine lv_aload_n hx hb dL_law_225 rfl (lv_at hl 0 rfl) ?_
  refine lv_iload_n hx hb dL_law_226 rfl (lv_at hl 3 rfl) ?_
  refine lv_iconst (v := 1) hx hb dL_law_227 (by decide) ?_
  refine lv_iadd hx hb dL_law_228 ?_
  refine va_sld hx hb hX hbl hbA hG.2.2.2 (hi 1 (by decide) (by decide)) dL_law_229 ?_
  refine g_ci (g_runV (n := 1) (rest := [.int r]) hx hb hml hown hts hG (c_X6_clock (xs (Int32.toNatClampNeg (i + 1)))) tw_ml_RL_21 tw_im_X6_clock tw_se_X6_clock tw_in_RX6 tw_cd_X6_clock (by decide +kernel) ⟨rfl, rfl, Nat.le_of_ble_eq_true rfl, Nat.le_of_ble_eq_true rfl⟩ gw_Model rfl rfl hl.1 rfl (Nat.le_of_ble_eq_true rfl) dL_law_230 ⟨Nat.le_of_ble_eq_true rfl, Nat.le_of_ble_eq_true rfl⟩) hG hA (fun r2 u2 H locs hq hG => ?_)
  rw [hq] at hE
  refine lv_icmp_eq (tgt := 1375) hx hb dL_law_233 (by decide) (fun _ => ?_) (fun c => absurd hE.1 c)
  exact kk _ _ _ _ _ _ _ _ _ _ (hE.2) hG
set_option maxHeartbeats 4000000 in
set_option maxRecDepth 100000 in
theorem lc_feed {p : Program} {l : Launch} {e : Env} {s : State} {m : MethodId} {below : List Frame} {meth : Method} {c : Code} {H : Heap} {locs : List Loc} {Q : State → Prop} {ls : Array Slot} {A : Nat → Prop} {g : GG} {b L : Nat} {xs : Nat → Int32} {i : Int32} {bb : Ob} {tx rw : Nat → Ob} {sb dy : Ob} {tn : Nat → Ob} {mo : Ob} {jk : Nat → Nat → Int32} (hx : p.tables.exec = Jvm.exec) (hb : c.code = cL_law) (hml : c.maxLocals = 4) (hts : ∀ w ∈ TT, w.before #[Value.ref b] s = true) (hown : s.vm.findClass RL = some m.cls) (hA : ∀ q, s.heap.size ≤ q → A q) (hX : va_X b L xs s s.heap) (hbl : b < s.heap.size) (hbA : ¬ A b) (hi : ∀ k : Int32, 0 ≤ k.toInt → k.toInt ≤ 6 → vp_in (i + k) L) (hS : SR bb tx rw sb tn mo) (hG : gS g A s H locs (gW g bb tx rw sb dy tn mo jk)) (hl : lv_has ls 4 [(0, .ref b), (1, .ref (gA g 0)), (2, .ref (gA g 58)), (3, .int i)])
    (kk : ∀ (bb : Ob) (tx rw : Nat → Ob) (sb dy : Ob) (tn : Nat → Ob) (mo : Ob) (jk : Nat → Nat → Int32) (H : Heap) (locs : List Loc), SR bb tx rw sb tn mo → gS g A s H locs (gW g bb tx rw sb dy tn mo jk) → W p l e room_1 s m #[Value.ref b] below meth c H locs 600000 7302250 Q (F0 m 1375 ls [])) :
    W p l e room_1 s m #[Value.ref b] below meth c H locs 600000 7302250 Q (F0 m 238 ls []) := by
  have hT := hS.1
  have hE := s_feed hS (xs (Int32.toNatClampNeg (i + 1))) (xs (Int32.toNatClampNeg (i + 2))) (xs (Int32.toNatClampNeg (i + 3))) (xs (Int32.toNatClampNeg (i + 4))) (xs (Int32.toNatClampNeg (i + 5))) (xs (Int32.toNatClampNeg (i + 6)))
  refine lv_aload_n hx hb dL_law_238 rfl (lv_at hl 1 rfl) ?_
  refine lv_aload_n hx hb dL_law_239 rfl (lv_at hl 0 rfl) ?_
  refine lv_iload_n hx hb dL_law_240 rfl (lv_at hl 3 rfl) ?_
  refine lv_iconst (v := 1) hx hb dL_law_241 (by decide) ?_
  refine lv_iadd hx hb dL_law_242 ?_
  refine va_sld hx hb hX hbl hbA hG.2.2.2 (hi 1 (by decide) (by decide)) dL_law_243 ?_
  refine lv_aload_n hx hb dL_law_244 rfl (lv_at hl 0 rfl) ?_
  refine lv_iload_n hx hb dL_law_245 rfl (lv_at hl 3 rfl) ?_
  refine lv_iconst (v := 2) hx hb dL_law_246 (by decide) ?_
  refine lv_iadd hx hb dL_law_247 ?_
  refine va_sld hx hb hX hbl hbA hG.2.2.2 (hi 2 (by decide) (by decide)) dL_law_248 ?_
  refine lv_aload_n hx hb dL_law_249 rfl (lv_at hl 0 rfl) ?_
  refine lv_iload_n hx hb dL_law_250 rfl (lv_at hl 3 rfl) ?_
  refine lv_iconst (v := 3) hx hb dL_law_251 (by decide) ?_
  refine lv_iadd hx hb dL_law_252 ?_
  refine va_sld hx hb hX hbl hbA hG.2.2.2 (hi 3 (by decide) (by decide)) dL_law_253 ?_
  refine lv_aload_n hx hb dL_law_254 rfl (lv_at hl 0 rfl) ?_
  refine lv_iload_n hx hb dL_law_255 rfl (lv_at hl 3 rfl) ?_
  refine lv_iconst (v := 4) hx hb dL_law_256 (by decide) ?_
  refine lv_iadd hx hb dL_law_257 ?_
  refine va_sld hx hb hX hbl hbA hG.2.2.2 (hi 4 (by decide) (by decide)) dL_law_258 ?_
  refine lv_aload_n hx hb dL_law_259 rfl (lv_at hl 0 rfl) ?_
  refine lv_iload_n hx hb dL_law_260 rfl (lv_at hl 3 rfl) ?_
  refine lv_iconst (v := 5) hx hb dL_law_261 (by decide) ?_
  refine lv_iadd hx hb dL_law_262 ?_
  refine va_sld hx hb hX hbl hbA hG.2.2.2 (hi 5 (by decide) (by decide)) dL_law_263 ?_
  refine lv_aload_n hx hb dL_law_264 rfl (lv_at hl 0 rfl) ?_
  refine lv_iload_n hx hb dL_law_265 rfl (lv_at hl 3 rfl) ?_
  refine lv_bipush (v := 6) hx hb dL_law_266 (by decide) ?_
  refine lv_iadd hx hb dL_law_268 ?_
  refine va_sld hx hb hX hbl hbA hG.2.2.2 (hi 6 (by decide) (by decide)) dL_law_269 ?_
  refine g_ci (g_runV (n := 6) (rest := []) hx hb hml hown hts hG (c_X5_feed (xs (Int32.toNatClampNeg (i + 1))) (xs (Int32.toNatClampNeg (i + 2))) (xs (Int32.toNatClampNeg (i + 3))) (xs (Int32.toNatClampNeg (i + 4))) (xs (Int32.toNatClampNeg (i + 5))) (xs (Int32.toNatClampNeg (i + 6))) hS.p0) tw_ml_RL_22 tw_im_X5_feed tw_se_X5_feed tw_in_RX5 tw_cd_X5_feed (by decide +kernel) ⟨rfl, rfl, Nat.le_of_ble_eq_true rfl, Nat.le_of_ble_eq_true rfl⟩ gw_Bell rfl rfl hl.1 rfl (Nat.le_of_ble_eq_true rfl) dL_law_270 ⟨Nat.le_of_ble_eq_true rfl, Nat.le_of_ble_eq_true rfl⟩) hG hA (fun r u H locs hp hG => ?_)
  rw [hp] at hE
  refine lv_aload_n hx hb dL_law_273 rfl (lv_at hl 2 rfl) ?_
  refine lv_aload_n hx hb dL_law_274 rfl (lv_at hl 0 rfl) ?_
  refine lv_iload_n hx hb dL_law_275 rfl (lv_at hl 3 rfl) ?_
  refine lv_iconst (v := 1) hx hb dL_law_276 (by decide) ?_
  refine lv_iadd hx hb dL_law_277 ?_
  refine va_sld hx hb hX hbl hbA hG.2.2.2 (hi 1 (by decide) (by decide)) dL_law_278 ?_
  refine lv_aload_n hx hb dL_law_279 rfl (lv_at hl 0 rfl) ?_
  refine lv_iload_n hx hb dL_law_280 rfl (lv_at hl 3 rfl) ?_
  refine lv_iconst (v := 2) hx hb dL_law_281 (by decide) ?_
  refine lv_iadd hx hb dL_law_282 ?_
  refine va_sld hx hb hX hbl hbA hG.2.2.2 (hi 2 (by decide) (by decide)) dL_law_283 ?_
  refine lv_aload_n hx hb dL_law_284 rfl (lv_at hl 0 rfl) ?_
  refine lv_iload_n hx hb dL_law_285 rfl (lv_at hl 3 rfl) ?_
  refine lv_iconst (v := 3) hx hb dL_law_286 (by decide) ?_
  refine lv_iadd hx hb dL_law_287 ?_
  refine va_sld hx hb hX hbl hbA hG.2.2.2 (hi 3 (by decide) (by decide)) dL_law_288 ?_
  refine lv_aload_n hx hb dL_law_289 rfl (lv_at hl 0 rfl) ?_
  refine lv_iload_n hx hb dL_law_290 rfl (lv_at hl 3 rfl) ?_
  refine lv_iconst (v := 4) hx hb dL_law_291 (by decide) ?_
  refine lv_iadd hx hb dL_law_292 ?_
  refine va_sld hx hb hX hbl hbA hG.2.2.2 (hi 4 (by decide) (by decide)) dL_law_293 ?_
  refine lv_aload_n hx hb dL_law_294 rfl (lv_at hl 0 rfl) ?_
  refine lv_iload_n hx hb dL_law_295 rfl (lv_at hl 3 rfl) ?_
  refine lv_iconst (v := 5) hx hb dL_law_296 (by decide) ?_
  refine lv_iadd hx hb dL_law_297 ?_
  refine va_sld hx hb hX hbl hbA hG.2.2.2 (hi 5 (by decide) (by decide)) dL_law_298 ?_
  refine lv_aload_n hx hb dL_law_299 rfl (lv_at hl 0 rfl) ?_
  refine lv_iload_n hx hb dL_law_300 rfl (lv_at hl 3 rfl) ?_
  refine lv_bipush (v := 6) hx hb dL_law_301 (by decide) ?_
  refine lv_iadd hx hb dL_law_303 ?_
  refine va_sld hx hb hX hbl hbA hG.2.2.2 (hi 6 (by decide) (by decide)) dL_law_304 ?_
  refine g_ci (g_runV (n := 6) (rest := [.int r]) hx hb hml hown hts hG (c_X6_feed (xs (Int32.toNatClampNeg (i + 1))) (xs (Int32.toNatClampNeg (i + 2))) (xs (Int32.toNatClampNeg (i + 3))) (xs (Int32.toNatClampNeg (i + 4))) (xs (Int32.toNatClampNeg (i + 5))) (xs (Int32.toNatClampNeg (i + 6))) hS.2.2.2.2.1.2.1) tw_ml_RL_26 tw_im_X6_feed tw_se_X6_feed tw_in_RX6 tw_cd_X6_feed (by decide +kernel) ⟨rfl, rfl, Nat.le_of_ble_eq_true rfl, Nat.le_of_ble_eq_true rfl⟩ gw_Model rfl rfl hl.1 rfl (Nat.le_of_ble_eq_true rfl) dL_law_305 ⟨Nat.le_of_ble_eq_true rfl, Nat.le_of_ble_eq_true rfl⟩) hG hA (fun r2 u2 H locs hq hG => ?_)
  rw [hq] at hE
  refine lv_icmp_eq (tgt := 1375) hx hb dL_law_308 (by decide) (fun _ => ?_) (fun c => absurd hE.1 c)
  exact kk _ _ _ _ _ _ _ _ _ _ (hE.2) hG
set_option maxHeartbeats 4000000 in
set_option maxRecDepth 100000 in
theorem lc_text {p : Program} {l : Launch} {e : Env} {s : State} {m : MethodId} {below : List Frame} {meth : Method} {c : Code} {H : Heap} {locs : List Loc} {Q : State → Prop} {ls : Array Slot} {A : Nat → Prop} {g : GG} {b L : Nat} {xs : Nat → Int32} {i : Int32} {bb : Ob} {tx rw : Nat → Ob} {sb dy : Ob} {tn : Nat → Ob} {mo : Ob} {jk : Nat → Nat → Int32} (hx : p.tables.exec = Jvm.exec) (hb : c.code = cL_law) (hml : c.maxLocals = 4) (hts : ∀ w ∈ TT, w.before #[Value.ref b] s = true) (hown : s.vm.findClass RL = some m.cls) (hA : ∀ q, s.heap.size ≤ q → A q) (hX : va_X b L xs s s.heap) (hbl : b < s.heap.size) (hbA : ¬ A b) (hi : ∀ k : Int32, 0 ≤ k.toInt → k.toInt ≤ 6 → vp_in (i + k) L) (hS : SR bb tx rw sb tn mo) (hG : gS g A s H locs (gW g bb tx rw sb dy tn mo jk)) (hl : lv_has ls 4 [(0, .ref b), (1, .ref (gA g 0)), (2, .ref (gA g 58)), (3, .int i)])
    (kk : ∀ (bb : Ob) (tx rw : Nat → Ob) (sb dy : Ob) (tn : Nat → Ob) (mo : Ob) (jk : Nat → Nat → Int32) (H : Heap) (locs : List Loc), SR bb tx rw sb tn mo → gS g A s H locs (gW g bb tx rw sb dy tn mo jk) → W p l e room_1 s m #[Value.ref b] below meth c H locs 600000 7302250 Q (F0 m 1375 ls [])) :
    W p l e room_1 s m #[Value.ref b] below meth c H locs 600000 7302250 Q (F0 m 313 ls []) := by
  have hT := hS.1
  have hE := s_text hS 
  refine lv_aload_n hx hb dL_law_313 rfl (lv_at hl 1 rfl) ?_
  refine g_ci (g_runV (n := 0) (rest := []) hx hb hml hown hts hG (c_X5_text hS.p160) tw_ml_RL_27 tw_im_X5_text tw_se_X5_text tw_in_RX5 tw_cd_X5_text (by decide +kernel) ⟨rfl, rfl, Nat.le_of_ble_eq_true rfl, Nat.le_of_ble_eq_true rfl⟩ gw_Bell rfl rfl hl.1 rfl (Nat.le_of_ble_eq_true rfl) dL_law_314 ⟨Nat.le_of_ble_eq_true rfl, Nat.le_of_ble_eq_true rfl⟩) hG hA (fun r u H locs hp hG => ?_)
  rw [hp] at hE
  refine lv_aload_n hx hb dL_law_317 rfl (lv_at hl 2 rfl) ?_
  refine g_ci (g_runV (n := 0) (rest := [.int r]) hx hb hml hown hts hG (c_X6_text hS.m9 hS.2.2.2.2.1.2.1) tw_ml_RL_31 tw_im_X6_text tw_se_X6_text tw_in_RX6 tw_cd_X6_text (by decide +kernel) ⟨rfl, rfl, Nat.le_of_ble_eq_true rfl, Nat.le_of_ble_eq_true rfl⟩ gw_Model rfl rfl hl.1 rfl (Nat.le_of_ble_eq_true rfl) dL_law_318 ⟨Nat.le_of_ble_eq_true rfl, Nat.le_of_ble_eq_true rfl⟩) hG hA (fun r2 u2 H locs hq hG => ?_)
  rw [hq] at hE
  refine lv_icmp_eq (tgt := 1375) hx hb dL_law_321 (by decide) (fun _ => ?_) (fun c => absurd hE.1 c)
  exact kk _ _ _ _ _ _ _ _ _ _ (hE.2) hG
set_option maxHeartbeats 4000000 in
set_option maxRecDepth 100000 in
theorem lc_force {p : Program} {l : Launch} {e : Env} {s : State} {m : MethodId} {below : List Frame} {meth : Method} {c : Code} {H : Heap} {locs : List Loc} {Q : State → Prop} {ls : Array Slot} {A : Nat → Prop} {g : GG} {b L : Nat} {xs : Nat → Int32} {i : Int32} {bb : Ob} {tx rw : Nat → Ob} {sb dy : Ob} {tn : Nat → Ob} {mo : Ob} {jk : Nat → Nat → Int32} (hx : p.tables.exec = Jvm.exec) (hb : c.code = cL_law) (hml : c.maxLocals = 4) (hts : ∀ w ∈ TT, w.before #[Value.ref b] s = true) (hown : s.vm.findClass RL = some m.cls) (hA : ∀ q, s.heap.size ≤ q → A q) (hX : va_X b L xs s s.heap) (hbl : b < s.heap.size) (hbA : ¬ A b) (hi : ∀ k : Int32, 0 ≤ k.toInt → k.toInt ≤ 6 → vp_in (i + k) L) (hS : SR bb tx rw sb tn mo) (hG : gS g A s H locs (gW g bb tx rw sb dy tn mo jk)) (hl : lv_has ls 4 [(0, .ref b), (1, .ref (gA g 0)), (2, .ref (gA g 58)), (3, .int i)])
    (kk : ∀ (bb : Ob) (tx rw : Nat → Ob) (sb dy : Ob) (tn : Nat → Ob) (mo : Ob) (jk : Nat → Nat → Int32) (H : Heap) (locs : List Loc), SR bb tx rw sb tn mo → gS g A s H locs (gW g bb tx rw sb dy tn mo jk) → W p l e room_1 s m #[Value.ref b] below meth c H locs 600000 7302250 Q (F0 m 1375 ls [])) :
    W p l e room_1 s m #[Value.ref b] below meth c H locs 600000 7302250 Q (F0 m 326 ls []) := by
  have hT := hS.1
  have hE := s_force hS (xs (Int32.toNatClampNeg (i + 1)))
  refine lv_aload_n hx hb dL_law_326 rfl (lv_at hl 1 rfl) ?_
  refine lv_aload_n hx hb dL_law_327 rfl (lv_at hl 0 rfl) ?_
  refine lv_iload_n hx hb dL_law_328 rfl (lv_at hl 3 rfl) ?_
  refine lv_iconst (v := 1) hx hb dL_law_329 (by decide) ?_
  refine lv_iadd hx hb dL_law_330 ?_
  refine va_sld hx hb hX hbl hbA hG.2.2.2 (hi 1 (by decide) (by decide)) dL_law_331 ?_
  refine g_ci (g_runV (n := 1) (rest := []) hx hb hml hown hts hG (c_X5_force (xs (Int32.toNatClampNeg (i + 1)))) tw_ml_RL_32 tw_im_X5_force tw_se_X5_force tw_in_RX5 tw_cd_X5_force (by decide +kernel) ⟨rfl, rfl, Nat.le_of_ble_eq_true rfl, Nat.le_of_ble_eq_true rfl⟩ gw_Bell rfl rfl hl.1 rfl (Nat.le_of_ble_eq_true rfl) dL_law_332 ⟨Nat.le_of_ble_eq_true rfl, Nat.le_of_ble_eq_true rfl⟩) hG hA (fun r u H locs hp hG => ?_)
  rw [hp] at hE
  refine lv_aload_n hx hb dL_law_335 rfl (lv_at hl 2 rfl) ?_
  refine lv_aload_n hx hb dL_law_336 rfl (lv_at hl 0 rfl) ?_
  refine lv_iload_n hx hb dL_law_337 rfl (lv_at hl 3 rfl) ?_
  refine lv_iconst (v := 1) hx hb dL_law_338 (by decide) ?_
  refine lv_iadd hx hb dL_law_339 ?_
  refine va_sld hx hb hX hbl hbA hG.2.2.2 (hi 1 (by decide) (by decide)) dL_law_340 ?_
  refine g_ci (g_runV (n := 1) (rest := [.int r]) hx hb hml hown hts hG (c_X6_force (xs (Int32.toNatClampNeg (i + 1)))) tw_ml_RL_35 tw_im_X6_force tw_se_X6_force tw_in_RX6 tw_cd_X6_force (by decide +kernel) ⟨rfl, rfl, Nat.le_of_ble_eq_true rfl, Nat.le_of_ble_eq_true rfl⟩ gw_Model rfl rfl hl.1 rfl (Nat.le_of_ble_eq_true rfl) dL_law_341 ⟨Nat.le_of_ble_eq_true rfl, Nat.le_of_ble_eq_true rfl⟩) hG hA (fun r2 u2 H locs hq hG => ?_)
  rw [hq] at hE
  refine lv_icmp_eq (tgt := 1375) hx hb dL_law_344 (by decide) (fun _ => ?_) (fun c => absurd hE.1 c)
  exact kk _ _ _ _ _ _ _ _ _ _ (hE.2) hG
set_option maxHeartbeats 4000000 in
set_option maxRecDepth 100000 in
theorem lc_asks {p : Program} {l : Launch} {e : Env} {s : State} {m : MethodId} {below : List Frame} {meth : Method} {c : Code} {H : Heap} {locs : List Loc} {Q : State → Prop} {ls : Array Slot} {A : Nat → Prop} {g : GG} {b L : Nat} {xs : Nat → Int32} {i : Int32} {bb : Ob} {tx rw : Nat → Ob} {sb dy : Ob} {tn : Nat → Ob} {mo : Ob} {jk : Nat → Nat → Int32} (hx : p.tables.exec = Jvm.exec) (hb : c.code = cL_law) (hml : c.maxLocals = 4) (hts : ∀ w ∈ TT, w.before #[Value.ref b] s = true) (hown : s.vm.findClass RL = some m.cls) (hA : ∀ q, s.heap.size ≤ q → A q) (hX : va_X b L xs s s.heap) (hbl : b < s.heap.size) (hbA : ¬ A b) (hi : ∀ k : Int32, 0 ≤ k.toInt → k.toInt ≤ 6 → vp_in (i + k) L) (hS : SR bb tx rw sb tn mo) (hG : gS g A s H locs (gW g bb tx rw sb dy tn mo jk)) (hl : lv_has ls 4 [(0, .ref b), (1, .ref (gA g 0)), (2, .ref (gA g 58)), (3, .int i)])
    (kk : ∀ (bb : Ob) (tx rw : Nat → Ob) (sb dy : Ob) (tn : Nat → Ob) (mo : Ob) (jk : Nat → Nat → Int32) (H : Heap) (locs : List Loc), SR bb tx rw sb tn mo → gS g A s H locs (gW g bb tx rw sb dy tn mo jk) → W p l e room_1 s m #[Value.ref b] below meth c H locs 600000 7302250 Q (F0 m 1375 ls [])) :
    W p l e room_1 s m #[Value.ref b] below meth c H locs 600000 7302250 Q (F0 m 349 ls []) := by
  have hT := hS.1
  have hE := s_asks hS (xs (Int32.toNatClampNeg (i + 1))) (xs (Int32.toNatClampNeg (i + 2)))
  refine lv_aload_n hx hb dL_law_349 rfl (lv_at hl 1 rfl) ?_
  refine lv_aload_n hx hb dL_law_350 rfl (lv_at hl 0 rfl) ?_
  refine lv_iload_n hx hb dL_law_351 rfl (lv_at hl 3 rfl) ?_
  refine lv_iconst (v := 1) hx hb dL_law_352 (by decide) ?_
  refine lv_iadd hx hb dL_law_353 ?_
  refine va_sld hx hb hX hbl hbA hG.2.2.2 (hi 1 (by decide) (by decide)) dL_law_354 ?_
  refine lv_aload_n hx hb dL_law_355 rfl (lv_at hl 0 rfl) ?_
  refine lv_iload_n hx hb dL_law_356 rfl (lv_at hl 3 rfl) ?_
  refine lv_iconst (v := 2) hx hb dL_law_357 (by decide) ?_
  refine lv_iadd hx hb dL_law_358 ?_
  refine va_sld hx hb hX hbl hbA hG.2.2.2 (hi 2 (by decide) (by decide)) dL_law_359 ?_
  refine g_ci (g_runV (n := 2) (rest := []) hx hb hml hown hts hG (c_X5_asks (xs (Int32.toNatClampNeg (i + 1))) (xs (Int32.toNatClampNeg (i + 2))) hT.tEv) tw_ml_RL_36 tw_im_X5_asks tw_se_X5_asks tw_in_RX5 tw_cd_X5_asks (by decide +kernel) ⟨rfl, rfl, Nat.le_of_ble_eq_true rfl, Nat.le_of_ble_eq_true rfl⟩ gw_Bell rfl rfl hl.1 rfl (Nat.le_of_ble_eq_true rfl) dL_law_360 ⟨Nat.le_of_ble_eq_true rfl, Nat.le_of_ble_eq_true rfl⟩) hG hA (fun r u H locs hp hG => ?_)
  rw [← hp] at hE
  refine lv_aload_n hx hb dL_law_363 rfl (lv_at hl 2 rfl) ?_
  refine lv_aload_n hx hb dL_law_364 rfl (lv_at hl 0 rfl) ?_
  refine lv_iload_n hx hb dL_law_365 rfl (lv_at hl 3 rfl) ?_
  refine lv_iconst (v := 1) hx hb dL_law_366 (by decide) ?_
  refine lv_iadd hx hb dL_law_367 ?_
  refine va_sld hx hb hX hbl hbA hG.2.2.2 (hi 1 (by decide) (by decide)) dL_law_368 ?_
  refine lv_aload_n hx hb dL_law_369 rfl (lv_at hl 0 rfl) ?_
  refine lv_iload_n hx hb dL_law_370 rfl (lv_at hl 3 rfl) ?_
  refine lv_iconst (v := 2) hx hb dL_law_371 (by decide) ?_
  refine lv_iadd hx hb dL_law_372 ?_
  refine va_sld hx hb hX hbl hbA hG.2.2.2 (hi 2 (by decide) (by decide)) dL_law_373 ?_
  refine g_ci (g_runV (n := 2) (rest := [.int r]) hx hb hml hown hts hG (c_X6_asks (xs (Int32.toNatClampNeg (i + 1))) (xs (Int32.toNatClampNeg (i + 2))) hT.mEv) tw_ml_RL_40 tw_im_X6_asks tw_se_X6_asks tw_in_RX6 tw_cd_X6_asks (by decide +kernel) ⟨rfl, rfl, Nat.le_of_ble_eq_true rfl, Nat.le_of_ble_eq_true rfl⟩ gw_Model rfl rfl hl.1 rfl (Nat.le_of_ble_eq_true rfl) dL_law_374 ⟨Nat.le_of_ble_eq_true rfl, Nat.le_of_ble_eq_true rfl⟩) hG hA (fun r2 u2 H locs hq hG => ?_)
  rw [← hq] at hE
  refine lv_icmp_eq (tgt := 1375) hx hb dL_law_377 (by decide) (fun _ => ?_) (fun c => absurd hE c)
  exact kk _ _ _ _ _ _ _ _ _ _ (hS) hG
set_option maxHeartbeats 4000000 in
set_option maxRecDepth 100000 in
theorem lc_person {p : Program} {l : Launch} {e : Env} {s : State} {m : MethodId} {below : List Frame} {meth : Method} {c : Code} {H : Heap} {locs : List Loc} {Q : State → Prop} {ls : Array Slot} {A : Nat → Prop} {g : GG} {b L : Nat} {xs : Nat → Int32} {i : Int32} {bb : Ob} {tx rw : Nat → Ob} {sb dy : Ob} {tn : Nat → Ob} {mo : Ob} {jk : Nat → Nat → Int32} (hx : p.tables.exec = Jvm.exec) (hb : c.code = cL_law) (hml : c.maxLocals = 4) (hts : ∀ w ∈ TT, w.before #[Value.ref b] s = true) (hown : s.vm.findClass RL = some m.cls) (hA : ∀ q, s.heap.size ≤ q → A q) (hX : va_X b L xs s s.heap) (hbl : b < s.heap.size) (hbA : ¬ A b) (hi : ∀ k : Int32, 0 ≤ k.toInt → k.toInt ≤ 6 → vp_in (i + k) L) (hS : SR bb tx rw sb tn mo) (hG : gS g A s H locs (gW g bb tx rw sb dy tn mo jk)) (hl : lv_has ls 4 [(0, .ref b), (1, .ref (gA g 0)), (2, .ref (gA g 58)), (3, .int i)])
    (kk : ∀ (bb : Ob) (tx rw : Nat → Ob) (sb dy : Ob) (tn : Nat → Ob) (mo : Ob) (jk : Nat → Nat → Int32) (H : Heap) (locs : List Loc), SR bb tx rw sb tn mo → gS g A s H locs (gW g bb tx rw sb dy tn mo jk) → W p l e room_1 s m #[Value.ref b] below meth c H locs 600000 7302250 Q (F0 m 1375 ls [])) :
    W p l e room_1 s m #[Value.ref b] below meth c H locs 600000 7302250 Q (F0 m 382 ls []) := by
  have hT := hS.1
  have hE := s_person hS (xs (Int32.toNatClampNeg (i + 1))) (xs (Int32.toNatClampNeg (i + 2))) (xs (Int32.toNatClampNeg (i + 3)))
  refine lv_aload_n hx hb dL_law_382 rfl (lv_at hl 1 rfl) ?_
  refine lv_aload_n hx hb dL_law_383 rfl (lv_at hl 0 rfl) ?_
  refine lv_iload_n hx hb dL_law_384 rfl (lv_at hl 3 rfl) ?_
  refine lv_iconst (v := 1) hx hb dL_law_385 (by decide) ?_
  refine lv_iadd hx hb dL_law_386 ?_
  refine va_sld hx hb hX hbl hbA hG.2.2.2 (hi 1 (by decide) (by decide)) dL_law_387 ?_
  refine lv_aload_n hx hb dL_law_388 rfl (lv_at hl 0 rfl) ?_
  refine lv_iload_n hx hb dL_law_389 rfl (lv_at hl 3 rfl) ?_
  refine lv_iconst (v := 2) hx hb dL_law_390 (by decide) ?_
  refine lv_iadd hx hb dL_law_391 ?_
  refine va_sld hx hb hX hbl hbA hG.2.2.2 (hi 2 (by decide) (by decide)) dL_law_392 ?_
  refine lv_aload_n hx hb dL_law_393 rfl (lv_at hl 0 rfl) ?_
  refine lv_iload_n hx hb dL_law_394 rfl (lv_at hl 3 rfl) ?_
  refine lv_iconst (v := 3) hx hb dL_law_395 (by decide) ?_
  refine lv_iadd hx hb dL_law_396 ?_
  refine va_sld hx hb hX hbl hbA hG.2.2.2 (hi 3 (by decide) (by decide)) dL_law_397 ?_
  refine g_ci (g_runV (n := 3) (rest := []) hx hb hml hown hts hG (c_X5_person (xs (Int32.toNatClampNeg (i + 1))) (xs (Int32.toNatClampNeg (i + 2))) (xs (Int32.toNatClampNeg (i + 3))) hS.t6) tw_ml_RL_41 tw_im_X5_person tw_se_X5_person tw_in_RX5 tw_cd_X5_person (by decide +kernel) ⟨rfl, rfl, Nat.le_of_ble_eq_true rfl, Nat.le_of_ble_eq_true rfl⟩ gw_Bell rfl rfl hl.1 rfl (Nat.le_of_ble_eq_true rfl) dL_law_398 ⟨Nat.le_of_ble_eq_true rfl, Nat.le_of_ble_eq_true rfl⟩) hG hA (fun r u H locs hp hG => ?_)
  rw [hp] at hE
  refine lv_aload_n hx hb dL_law_401 rfl (lv_at hl 2 rfl) ?_
  refine lv_aload_n hx hb dL_law_402 rfl (lv_at hl 0 rfl) ?_
  refine lv_iload_n hx hb dL_law_403 rfl (lv_at hl 3 rfl) ?_
  refine lv_iconst (v := 1) hx hb dL_law_404 (by decide) ?_
  refine lv_iadd hx hb dL_law_405 ?_
  refine va_sld hx hb hX hbl hbA hG.2.2.2 (hi 1 (by decide) (by decide)) dL_law_406 ?_
  refine lv_aload_n hx hb dL_law_407 rfl (lv_at hl 0 rfl) ?_
  refine lv_iload_n hx hb dL_law_408 rfl (lv_at hl 3 rfl) ?_
  refine lv_iconst (v := 2) hx hb dL_law_409 (by decide) ?_
  refine lv_iadd hx hb dL_law_410 ?_
  refine va_sld hx hb hX hbl hbA hG.2.2.2 (hi 2 (by decide) (by decide)) dL_law_411 ?_
  refine lv_aload_n hx hb dL_law_412 rfl (lv_at hl 0 rfl) ?_
  refine lv_iload_n hx hb dL_law_413 rfl (lv_at hl 3 rfl) ?_
  refine lv_iconst (v := 3) hx hb dL_law_414 (by decide) ?_
  refine lv_iadd hx hb dL_law_415 ?_
  refine va_sld hx hb hX hbl hbA hG.2.2.2 (hi 3 (by decide) (by decide)) dL_law_416 ?_
  refine g_ci (g_runV (n := 3) (rest := [.int r]) hx hb hml hown hts hG (c_X6_person (xs (Int32.toNatClampNeg (i + 1))) (xs (Int32.toNatClampNeg (i + 2))) (xs (Int32.toNatClampNeg (i + 3))) hT.1.2) tw_ml_RL_45 tw_im_X6_person tw_se_X6_person tw_in_RX6 tw_cd_X6_person (by decide +kernel) ⟨rfl, rfl, Nat.le_of_ble_eq_true rfl, Nat.le_of_ble_eq_true rfl⟩ gw_Model rfl rfl hl.1 rfl (Nat.le_of_ble_eq_true rfl) dL_law_417 ⟨Nat.le_of_ble_eq_true rfl, Nat.le_of_ble_eq_true rfl⟩) hG hA (fun r2 u2 H locs hq hG => ?_)
  rw [hq] at hE
  refine lv_icmp_eq (tgt := 1375) hx hb dL_law_420 (by decide) (fun _ => ?_) (fun c => absurd hE.1 c)
  exact kk _ _ _ _ _ _ _ _ _ _ (hE.2) hG
set_option maxHeartbeats 4000000 in
set_option maxRecDepth 100000 in
theorem lc_put {p : Program} {l : Launch} {e : Env} {s : State} {m : MethodId} {below : List Frame} {meth : Method} {c : Code} {H : Heap} {locs : List Loc} {Q : State → Prop} {ls : Array Slot} {A : Nat → Prop} {g : GG} {b L : Nat} {xs : Nat → Int32} {i : Int32} {bb : Ob} {tx rw : Nat → Ob} {sb dy : Ob} {tn : Nat → Ob} {mo : Ob} {jk : Nat → Nat → Int32} (hx : p.tables.exec = Jvm.exec) (hb : c.code = cL_law) (hml : c.maxLocals = 4) (hts : ∀ w ∈ TT, w.before #[Value.ref b] s = true) (hown : s.vm.findClass RL = some m.cls) (hA : ∀ q, s.heap.size ≤ q → A q) (hX : va_X b L xs s s.heap) (hbl : b < s.heap.size) (hbA : ¬ A b) (hi : ∀ k : Int32, 0 ≤ k.toInt → k.toInt ≤ 6 → vp_in (i + k) L) (hS : SR bb tx rw sb tn mo) (hG : gS g A s H locs (gW g bb tx rw sb dy tn mo jk)) (hl : lv_has ls 4 [(0, .ref b), (1, .ref (gA g 0)), (2, .ref (gA g 58)), (3, .int i)])
    (kk : ∀ (bb : Ob) (tx rw : Nat → Ob) (sb dy : Ob) (tn : Nat → Ob) (mo : Ob) (jk : Nat → Nat → Int32) (H : Heap) (locs : List Loc), SR bb tx rw sb tn mo → gS g A s H locs (gW g bb tx rw sb dy tn mo jk) → W p l e room_1 s m #[Value.ref b] below meth c H locs 600000 7302250 Q (F0 m 1375 ls [])) :
    W p l e room_1 s m #[Value.ref b] below meth c H locs 600000 7302250 Q (F0 m 425 ls []) := by
  have hT := hS.1
  have hE := s_put hS (xs (Int32.toNatClampNeg (i + 1))) (xs (Int32.toNatClampNeg (i + 2))) (xs (Int32.toNatClampNeg (i + 3)))
  refine lv_aload_n hx hb dL_law_425 rfl (lv_at hl 1 rfl) ?_
  refine lv_aload_n hx hb dL_law_426 rfl (lv_at hl 0 rfl) ?_
  refine lv_iload_n hx hb dL_law_427 rfl (lv_at hl 3 rfl) ?_
  refine lv_iconst (v := 1) hx hb dL_law_428 (by decide) ?_
  refine lv_iadd hx hb dL_law_429 ?_
  refine va_sld hx hb hX hbl hbA hG.2.2.2 (hi 1 (by decide) (by decide)) dL_law_430 ?_
  refine lv_aload_n hx hb dL_law_431 rfl (lv_at hl 0 rfl) ?_
  refine lv_iload_n hx hb dL_law_432 rfl (lv_at hl 3 rfl) ?_
  refine lv_iconst (v := 2) hx hb dL_law_433 (by decide) ?_
  refine lv_iadd hx hb dL_law_434 ?_
  refine va_sld hx hb hX hbl hbA hG.2.2.2 (hi 2 (by decide) (by decide)) dL_law_435 ?_
  refine lv_aload_n hx hb dL_law_436 rfl (lv_at hl 0 rfl) ?_
  refine lv_iload_n hx hb dL_law_437 rfl (lv_at hl 3 rfl) ?_
  refine lv_iconst (v := 3) hx hb dL_law_438 (by decide) ?_
  refine lv_iadd hx hb dL_law_439 ?_
  refine va_sld hx hb hX hbl hbA hG.2.2.2 (hi 3 (by decide) (by decide)) dL_law_440 ?_
  refine g_ci (g_runV (n := 3) (rest := []) hx hb hml hown hts hG (c_X5_put (xs (Int32.toNatClampNeg (i + 1))) (xs (Int32.toNatClampNeg (i + 2))) (xs (Int32.toNatClampNeg (i + 3)))) tw_ml_RL_46 tw_im_X5_put tw_se_X5_put tw_in_RX5 tw_cd_X5_put (by decide +kernel) ⟨rfl, rfl, Nat.le_of_ble_eq_true rfl, Nat.le_of_ble_eq_true rfl⟩ gw_Bell rfl rfl hl.1 rfl (Nat.le_of_ble_eq_true rfl) dL_law_441 ⟨Nat.le_of_ble_eq_true rfl, Nat.le_of_ble_eq_true rfl⟩) hG hA (fun r u H locs hp hG => ?_)
  rw [hp] at hE
  refine lv_aload_n hx hb dL_law_444 rfl (lv_at hl 2 rfl) ?_
  refine lv_aload_n hx hb dL_law_445 rfl (lv_at hl 0 rfl) ?_
  refine lv_iload_n hx hb dL_law_446 rfl (lv_at hl 3 rfl) ?_
  refine lv_iconst (v := 1) hx hb dL_law_447 (by decide) ?_
  refine lv_iadd hx hb dL_law_448 ?_
  refine va_sld hx hb hX hbl hbA hG.2.2.2 (hi 1 (by decide) (by decide)) dL_law_449 ?_
  refine lv_aload_n hx hb dL_law_450 rfl (lv_at hl 0 rfl) ?_
  refine lv_iload_n hx hb dL_law_451 rfl (lv_at hl 3 rfl) ?_
  refine lv_iconst (v := 2) hx hb dL_law_452 (by decide) ?_
  refine lv_iadd hx hb dL_law_453 ?_
  refine va_sld hx hb hX hbl hbA hG.2.2.2 (hi 2 (by decide) (by decide)) dL_law_454 ?_
  refine lv_aload_n hx hb dL_law_455 rfl (lv_at hl 0 rfl) ?_
  refine lv_iload_n hx hb dL_law_456 rfl (lv_at hl 3 rfl) ?_
  refine lv_iconst (v := 3) hx hb dL_law_457 (by decide) ?_
  refine lv_iadd hx hb dL_law_458 ?_
  refine va_sld hx hb hX hbl hbA hG.2.2.2 (hi 3 (by decide) (by decide)) dL_law_459 ?_
  refine g_ci (g_runV (n := 3) (rest := [.int r]) hx hb hml hown hts hG (c_X6_put (xs (Int32.toNatClampNeg (i + 1))) (xs (Int32.toNatClampNeg (i + 2))) (xs (Int32.toNatClampNeg (i + 3))) hT.1.2) tw_ml_RL_49 tw_im_X6_put tw_se_X6_put tw_in_RX6 tw_cd_X6_put (by decide +kernel) ⟨rfl, rfl, Nat.le_of_ble_eq_true rfl, Nat.le_of_ble_eq_true rfl⟩ gw_Model rfl rfl hl.1 rfl (Nat.le_of_ble_eq_true rfl) dL_law_460 ⟨Nat.le_of_ble_eq_true rfl, Nat.le_of_ble_eq_true rfl⟩) hG hA (fun r2 u2 H locs hq hG => ?_)
  rw [hq] at hE
  refine lv_icmp_eq (tgt := 1375) hx hb dL_law_463 (by decide) (fun _ => ?_) (fun c => absurd hE.1 c)
  exact kk _ _ _ _ _ _ _ _ _ _ (hE.2) hG
set_option maxHeartbeats 4000000 in
set_option maxRecDepth 100000 in
theorem lc_tells {p : Program} {l : Launch} {e : Env} {s : State} {m : MethodId} {below : List Frame} {meth : Method} {c : Code} {H : Heap} {locs : List Loc} {Q : State → Prop} {ls : Array Slot} {A : Nat → Prop} {g : GG} {b L : Nat} {xs : Nat → Int32} {i : Int32} {bb : Ob} {tx rw : Nat → Ob} {sb dy : Ob} {tn : Nat → Ob} {mo : Ob} {jk : Nat → Nat → Int32} (hx : p.tables.exec = Jvm.exec) (hb : c.code = cL_law) (hml : c.maxLocals = 4) (hts : ∀ w ∈ TT, w.before #[Value.ref b] s = true) (hown : s.vm.findClass RL = some m.cls) (hA : ∀ q, s.heap.size ≤ q → A q) (hX : va_X b L xs s s.heap) (hbl : b < s.heap.size) (hbA : ¬ A b) (hi : ∀ k : Int32, 0 ≤ k.toInt → k.toInt ≤ 6 → vp_in (i + k) L) (hS : SR bb tx rw sb tn mo) (hG : gS g A s H locs (gW g bb tx rw sb dy tn mo jk)) (hl : lv_has ls 4 [(0, .ref b), (1, .ref (gA g 0)), (2, .ref (gA g 58)), (3, .int i)])
    (kk : ∀ (bb : Ob) (tx rw : Nat → Ob) (sb dy : Ob) (tn : Nat → Ob) (mo : Ob) (jk : Nat → Nat → Int32) (H : Heap) (locs : List Loc), SR bb tx rw sb tn mo → gS g A s H locs (gW g bb tx rw sb dy tn mo jk) → W p l e room_1 s m #[Value.ref b] below meth c H locs 600000 7302250 Q (F0 m 1375 ls [])) :
    W p l e room_1 s m #[Value.ref b] below meth c H locs 600000 7302250 Q (F0 m 468 ls []) := by
  have hT := hS.1
  have hE := s_tells hS (xs (Int32.toNatClampNeg (i + 1))) (xs (Int32.toNatClampNeg (i + 2)))
  refine lv_aload_n hx hb dL_law_468 rfl (lv_at hl 1 rfl) ?_
  refine lv_aload_n hx hb dL_law_469 rfl (lv_at hl 0 rfl) ?_
  refine lv_iload_n hx hb dL_law_470 rfl (lv_at hl 3 rfl) ?_
  refine lv_iconst (v := 1) hx hb dL_law_471 (by decide) ?_
  refine lv_iadd hx hb dL_law_472 ?_
  refine va_sld hx hb hX hbl hbA hG.2.2.2 (hi 1 (by decide) (by decide)) dL_law_473 ?_
  refine lv_aload_n hx hb dL_law_474 rfl (lv_at hl 0 rfl) ?_
  refine lv_iload_n hx hb dL_law_475 rfl (lv_at hl 3 rfl) ?_
  refine lv_iconst (v := 2) hx hb dL_law_476 (by decide) ?_
  refine lv_iadd hx hb dL_law_477 ?_
  refine va_sld hx hb hX hbl hbA hG.2.2.2 (hi 2 (by decide) (by decide)) dL_law_478 ?_
  refine g_ci (g_runV (n := 2) (rest := []) hx hb hml hown hts hG (c_X5_tells (xs (Int32.toNatClampNeg (i + 1))) (xs (Int32.toNatClampNeg (i + 2))) hT.tEv) tw_ml_RL_50 tw_im_X5_tells tw_se_X5_tells tw_in_RX5 tw_cd_X5_tells (by decide +kernel) ⟨rfl, rfl, Nat.le_of_ble_eq_true rfl, Nat.le_of_ble_eq_true rfl⟩ gw_Bell rfl rfl hl.1 rfl (Nat.le_of_ble_eq_true rfl) dL_law_479 ⟨Nat.le_of_ble_eq_true rfl, Nat.le_of_ble_eq_true rfl⟩) hG hA (fun r u H locs hp hG => ?_)
  rw [← hp] at hE
  refine lv_aload_n hx hb dL_law_482 rfl (lv_at hl 2 rfl) ?_
  refine lv_aload_n hx hb dL_law_483 rfl (lv_at hl 0 rfl) ?_
  refine lv_iload_n hx hb dL_law_484 rfl (lv_at hl 3 rfl) ?_
  refine lv_iconst (v := 1) hx hb dL_law_485 (by decide) ?_
  refine lv_iadd hx hb dL_law_486 ?_
  refine va_sld hx hb hX hbl hbA hG.2.2.2 (hi 1 (by decide) (by decide)) dL_law_487 ?_
  refine lv_aload_n hx hb dL_law_488 rfl (lv_at hl 0 rfl) ?_
  refine lv_iload_n hx hb dL_law_489 rfl (lv_at hl 3 rfl) ?_
  refine lv_iconst (v := 2) hx hb dL_law_490 (by decide) ?_
  refine lv_iadd hx hb dL_law_491 ?_
  refine va_sld hx hb hX hbl hbA hG.2.2.2 (hi 2 (by decide) (by decide)) dL_law_492 ?_
  refine g_ci (g_runV (n := 2) (rest := [.int r]) hx hb hml hown hts hG (c_X6_tells (xs (Int32.toNatClampNeg (i + 1))) (xs (Int32.toNatClampNeg (i + 2))) hT.mEv) tw_ml_RL_53 tw_im_X6_tells tw_se_X6_tells tw_in_RX6 tw_cd_X6_tells (by decide +kernel) ⟨rfl, rfl, Nat.le_of_ble_eq_true rfl, Nat.le_of_ble_eq_true rfl⟩ gw_Model rfl rfl hl.1 rfl (Nat.le_of_ble_eq_true rfl) dL_law_493 ⟨Nat.le_of_ble_eq_true rfl, Nat.le_of_ble_eq_true rfl⟩) hG hA (fun r2 u2 H locs hq hG => ?_)
  rw [← hq] at hE
  refine lv_icmp_eq (tgt := 1375) hx hb dL_law_496 (by decide) (fun _ => ?_) (fun c => absurd hE c)
  exact kk _ _ _ _ _ _ _ _ _ _ (hS) hG
set_option maxHeartbeats 4000000 in
set_option maxRecDepth 100000 in
theorem lc_bell {p : Program} {l : Launch} {e : Env} {s : State} {m : MethodId} {below : List Frame} {meth : Method} {c : Code} {H : Heap} {locs : List Loc} {Q : State → Prop} {ls : Array Slot} {A : Nat → Prop} {g : GG} {b L : Nat} {xs : Nat → Int32} {i : Int32} {bb : Ob} {tx rw : Nat → Ob} {sb dy : Ob} {tn : Nat → Ob} {mo : Ob} {jk : Nat → Nat → Int32} (hx : p.tables.exec = Jvm.exec) (hb : c.code = cL_law) (hml : c.maxLocals = 4) (hts : ∀ w ∈ TT, w.before #[Value.ref b] s = true) (hown : s.vm.findClass RL = some m.cls) (hA : ∀ q, s.heap.size ≤ q → A q) (hX : va_X b L xs s s.heap) (hbl : b < s.heap.size) (hbA : ¬ A b) (hi : ∀ k : Int32, 0 ≤ k.toInt → k.toInt ≤ 6 → vp_in (i + k) L) (hS : SR bb tx rw sb tn mo) (hG : gS g A s H locs (gW g bb tx rw sb dy tn mo jk)) (hl : lv_has ls 4 [(0, .ref b), (1, .ref (gA g 0)), (2, .ref (gA g 58)), (3, .int i)])
    (kk : ∀ (bb : Ob) (tx rw : Nat → Ob) (sb dy : Ob) (tn : Nat → Ob) (mo : Ob) (jk : Nat → Nat → Int32) (H : Heap) (locs : List Loc), SR bb tx rw sb tn mo → gS g A s H locs (gW g bb tx rw sb dy tn mo jk) → W p l e room_1 s m #[Value.ref b] below meth c H locs 600000 7302250 Q (F0 m 1375 ls [])) :
    W p l e room_1 s m #[Value.ref b] below meth c H locs 600000 7302250 Q (F0 m 501 ls []) := by
  have hT := hS.1
  have hE := s_bell hS (xs (Int32.toNatClampNeg (i + 1)))
  refine lv_aload_n hx hb dL_law_501 rfl (lv_at hl 1 rfl) ?_
  refine lv_aload_n hx hb dL_law_502 rfl (lv_at hl 0 rfl) ?_
  refine lv_iload_n hx hb dL_law_503 rfl (lv_at hl 3 rfl) ?_
  refine lv_iconst (v := 1) hx hb dL_law_504 (by decide) ?_
  refine lv_iadd hx hb dL_law_505 ?_
  refine va_sld hx hb hX hbl hbA hG.2.2.2 (hi 1 (by decide) (by decide)) dL_law_506 ?_
  refine g_ci (g_runV (n := 1) (rest := []) hx hb hml hown hts hG (c_X5_bell (xs (Int32.toNatClampNeg (i + 1))) hT.tEv) tw_ml_RL_54 tw_im_X5_bell tw_se_X5_bell tw_in_RX5 tw_cd_X5_bell (by decide +kernel) ⟨rfl, rfl, Nat.le_of_ble_eq_true rfl, Nat.le_of_ble_eq_true rfl⟩ gw_Bell rfl rfl hl.1 rfl (Nat.le_of_ble_eq_true rfl) dL_law_507 ⟨Nat.le_of_ble_eq_true rfl, Nat.le_of_ble_eq_true rfl⟩) hG hA (fun r u H locs hp hG => ?_)
  rw [← hp] at hE
  refine lv_aload_n hx hb dL_law_510 rfl (lv_at hl 2 rfl) ?_
  refine lv_aload_n hx hb dL_law_511 rfl (lv_at hl 0 rfl) ?_
  refine lv_iload_n hx hb dL_law_512 rfl (lv_at hl 3 rfl) ?_
  refine lv_iconst (v := 1) hx hb dL_law_513 (by decide) ?_
  refine lv_iadd hx hb dL_law_514 ?_
  refine va_sld hx hb hX hbl hbA hG.2.2.2 (hi 1 (by decide) (by decide)) dL_law_515 ?_
  refine g_ci (g_runV (n := 1) (rest := [.int r]) hx hb hml hown hts hG (c_X6_bell (xs (Int32.toNatClampNeg (i + 1))) hT.mEv) tw_ml_RL_57 tw_im_X6_bell tw_se_X6_bell tw_in_RX6 tw_cd_X6_bell (by decide +kernel) ⟨rfl, rfl, Nat.le_of_ble_eq_true rfl, Nat.le_of_ble_eq_true rfl⟩ gw_Model rfl rfl hl.1 rfl (Nat.le_of_ble_eq_true rfl) dL_law_516 ⟨Nat.le_of_ble_eq_true rfl, Nat.le_of_ble_eq_true rfl⟩) hG hA (fun r2 u2 H locs hq hG => ?_)
  rw [← hq] at hE
  refine lv_icmp_eq (tgt := 1375) hx hb dL_law_519 (by decide) (fun _ => ?_) (fun c => absurd hE c)
  exact kk _ _ _ _ _ _ _ _ _ _ (hS) hG
set_option maxHeartbeats 4000000 in
set_option maxRecDepth 100000 in
theorem lc_strike {p : Program} {l : Launch} {e : Env} {s : State} {m : MethodId} {below : List Frame} {meth : Method} {c : Code} {H : Heap} {locs : List Loc} {Q : State → Prop} {ls : Array Slot} {A : Nat → Prop} {g : GG} {b L : Nat} {xs : Nat → Int32} {i : Int32} {bb : Ob} {tx rw : Nat → Ob} {sb dy : Ob} {tn : Nat → Ob} {mo : Ob} {jk : Nat → Nat → Int32} (hx : p.tables.exec = Jvm.exec) (hb : c.code = cL_law) (hml : c.maxLocals = 4) (hts : ∀ w ∈ TT, w.before #[Value.ref b] s = true) (hown : s.vm.findClass RL = some m.cls) (hA : ∀ q, s.heap.size ≤ q → A q) (hX : va_X b L xs s s.heap) (hbl : b < s.heap.size) (hbA : ¬ A b) (hi : ∀ k : Int32, 0 ≤ k.toInt → k.toInt ≤ 6 → vp_in (i + k) L) (hS : SR bb tx rw sb tn mo) (hG : gS g A s H locs (gW g bb tx rw sb dy tn mo jk)) (hl : lv_has ls 4 [(0, .ref b), (1, .ref (gA g 0)), (2, .ref (gA g 58)), (3, .int i)])
    (kk : ∀ (bb : Ob) (tx rw : Nat → Ob) (sb dy : Ob) (tn : Nat → Ob) (mo : Ob) (jk : Nat → Nat → Int32) (H : Heap) (locs : List Loc), SR bb tx rw sb tn mo → gS g A s H locs (gW g bb tx rw sb dy tn mo jk) → W p l e room_1 s m #[Value.ref b] below meth c H locs 600000 7302250 Q (F0 m 1375 ls [])) :
    W p l e room_1 s m #[Value.ref b] below meth c H locs 600000 7302250 Q (F0 m 524 ls []) := by
  have hT := hS.1
  have hE := s_strike hS 
  refine lv_aload_n hx hb dL_law_524 rfl (lv_at hl 1 rfl) ?_
  refine g_ci (g_runV (n := 0) (rest := []) hx hb hml hown hts hG (c_X5_strike hT.tEv) tw_ml_RL_58 tw_im_X5_strike tw_se_X5_strike tw_in_RX5 tw_cd_X5_strike (by decide +kernel) ⟨rfl, rfl, Nat.le_of_ble_eq_true rfl, Nat.le_of_ble_eq_true rfl⟩ gw_Bell rfl rfl hl.1 rfl (Nat.le_of_ble_eq_true rfl) dL_law_525 ⟨Nat.le_of_ble_eq_true rfl, Nat.le_of_ble_eq_true rfl⟩) hG hA (fun r u H locs hp hG => ?_)
  rw [hp] at hE
  refine lv_aload_n hx hb dL_law_528 rfl (lv_at hl 2 rfl) ?_
  refine g_ci (g_runV (n := 0) (rest := [.int r]) hx hb hml hown hts hG (c_X6_strike hT.mEv) tw_ml_RL_61 tw_im_X6_strike tw_se_X6_strike tw_in_RX6 tw_cd_X6_strike (by decide +kernel) ⟨rfl, rfl, Nat.le_of_ble_eq_true rfl, Nat.le_of_ble_eq_true rfl⟩ gw_Model rfl rfl hl.1 rfl (Nat.le_of_ble_eq_true rfl) dL_law_529 ⟨Nat.le_of_ble_eq_true rfl, Nat.le_of_ble_eq_true rfl⟩) hG hA (fun r2 u2 H locs hq hG => ?_)
  rw [hq] at hE
  refine lv_icmp_eq (tgt := 1375) hx hb dL_law_532 (by decide) (fun _ => ?_) (fun c => absurd hE.1 c)
  exact kk _ _ _ _ _ _ _ _ _ _ (hE.2) hG
set_option maxHeartbeats 4000000 in
set_option maxRecDepth 100000 in
theorem lc_run {p : Program} {l : Launch} {e : Env} {s : State} {m : MethodId} {below : List Frame} {meth : Method} {c : Code} {H : Heap} {locs : List Loc} {Q : State → Prop} {ls : Array Slot} {A : Nat → Prop} {g : GG} {b L : Nat} {xs : Nat → Int32} {i : Int32} {bb : Ob} {tx rw : Nat → Ob} {sb dy : Ob} {tn : Nat → Ob} {mo : Ob} {jk : Nat → Nat → Int32} (hx : p.tables.exec = Jvm.exec) (hb : c.code = cL_law) (hml : c.maxLocals = 4) (hts : ∀ w ∈ TT, w.before #[Value.ref b] s = true) (hown : s.vm.findClass RL = some m.cls) (hA : ∀ q, s.heap.size ≤ q → A q) (hX : va_X b L xs s s.heap) (hbl : b < s.heap.size) (hbA : ¬ A b) (hi : ∀ k : Int32, 0 ≤ k.toInt → k.toInt ≤ 6 → vp_in (i + k) L) (hS : SR bb tx rw sb tn mo) (hG : gS g A s H locs (gW g bb tx rw sb dy tn mo jk)) (hl : lv_has ls 4 [(0, .ref b), (1, .ref (gA g 0)), (2, .ref (gA g 58)), (3, .int i)])
    (kk : ∀ (bb : Ob) (tx rw : Nat → Ob) (sb dy : Ob) (tn : Nat → Ob) (mo : Ob) (jk : Nat → Nat → Int32) (H : Heap) (locs : List Loc), SR bb tx rw sb tn mo → gS g A s H locs (gW g bb tx rw sb dy tn mo jk) → W p l e room_1 s m #[Value.ref b] below meth c H locs 600000 7302250 Q (F0 m 1375 ls [])) :
    W p l e room_1 s m #[Value.ref b] below meth c H locs 600000 7302250 Q (F0 m 537 ls []) := by
  have hT := hS.1
  have hE := s_run hS (xs (Int32.toNatClampNeg (i + 1))) (xs (Int32.toNatClampNeg (i + 2)))
  refine lv_aload_n hx hb dL_law_537 rfl (lv_at hl 1 rfl) ?_
  refine lv_aload_n hx hb dL_law_538 rfl (lv_at hl 0 rfl) ?_
  refine lv_iload_n hx hb dL_law_539 rfl (lv_at hl 3 rfl) ?_
  refine lv_iconst (v := 1) hx hb dL_law_540 (by decide) ?_
  refine lv_iadd hx hb dL_law_541 ?_
  refine va_sld hx hb hX hbl hbA hG.2.2.2 (hi 1 (by decide) (by decide)) dL_law_542 ?_
  refine lv_aload_n hx hb dL_law_543 rfl (lv_at hl 0 rfl) ?_
  refine lv_iload_n hx hb dL_law_544 rfl (lv_at hl 3 rfl) ?_
  refine lv_iconst (v := 2) hx hb dL_law_545 (by decide) ?_
  refine lv_iadd hx hb dL_law_546 ?_
  refine va_sld hx hb hX hbl hbA hG.2.2.2 (hi 2 (by decide) (by decide)) dL_law_547 ?_
  refine g_ci (g_runV (n := 2) (rest := []) hx hb hml hown hts hG (c_X5_run (xs (Int32.toNatClampNeg (i + 1))) (xs (Int32.toNatClampNeg (i + 2))) hT.tEv) tw_ml_RL_62 tw_im_X5_run tw_se_X5_run tw_in_RX5 tw_cd_X5_run (by decide +kernel) ⟨rfl, rfl, Nat.le_of_ble_eq_true rfl, Nat.le_of_ble_eq_true rfl⟩ gw_Bell rfl rfl hl.1 rfl (Nat.le_of_ble_eq_true rfl) dL_law_548 ⟨Nat.le_of_ble_eq_true rfl, Nat.le_of_ble_eq_true rfl⟩) hG hA (fun r u H locs hp hG => ?_)
  rw [hp] at hE
  refine lv_aload_n hx hb dL_law_551 rfl (lv_at hl 2 rfl) ?_
  refine lv_aload_n hx hb dL_law_552 rfl (lv_at hl 0 rfl) ?_
  refine lv_iload_n hx hb dL_law_553 rfl (lv_at hl 3 rfl) ?_
  refine lv_iconst (v := 1) hx hb dL_law_554 (by decide) ?_
  refine lv_iadd hx hb dL_law_555 ?_
  refine va_sld hx hb hX hbl hbA hG.2.2.2 (hi 1 (by decide) (by decide)) dL_law_556 ?_
  refine lv_aload_n hx hb dL_law_557 rfl (lv_at hl 0 rfl) ?_
  refine lv_iload_n hx hb dL_law_558 rfl (lv_at hl 3 rfl) ?_
  refine lv_iconst (v := 2) hx hb dL_law_559 (by decide) ?_
  refine lv_iadd hx hb dL_law_560 ?_
  refine va_sld hx hb hX hbl hbA hG.2.2.2 (hi 2 (by decide) (by decide)) dL_law_561 ?_
  refine g_ci (g_runV (n := 2) (rest := [.int r]) hx hb hml hown hts hG (c_X6_run (xs (Int32.toNatClampNeg (i + 1))) (xs (Int32.toNatClampNeg (i + 2))) hT.mEv) tw_ml_RL_65 tw_im_X6_run tw_se_X6_run tw_in_RX6 tw_cd_X6_run (by decide +kernel) ⟨rfl, rfl, Nat.le_of_ble_eq_true rfl, Nat.le_of_ble_eq_true rfl⟩ gw_Model rfl rfl hl.1 rfl (Nat.le_of_ble_eq_true rfl) dL_law_562 ⟨Nat.le_of_ble_eq_true rfl, Nat.le_of_ble_eq_true rfl⟩) hG hA (fun r2 u2 H locs hq hG => ?_)
  rw [hq] at hE
  refine lv_icmp_eq (tgt := 1375) hx hb dL_law_565 (by decide) (fun _ => ?_) (fun c => absurd hE.1 c)
  exact kk _ _ _ _ _ _ _ _ _ _ ((hS.tn1 u.1).sM hE.2) hG
set_option maxHeartbeats 4000000 in
set_option maxRecDepth 100000 in
theorem lc_when {p : Program} {l : Launch} {e : Env} {s : State} {m : MethodId} {below : List Frame} {meth : Method} {c : Code} {H : Heap} {locs : List Loc} {Q : State → Prop} {ls : Array Slot} {A : Nat → Prop} {g : GG} {b L : Nat} {xs : Nat → Int32} {i : Int32} {bb : Ob} {tx rw : Nat → Ob} {sb dy : Ob} {tn : Nat → Ob} {mo : Ob} {jk : Nat → Nat → Int32} (hx : p.tables.exec = Jvm.exec) (hb : c.code = cL_law) (hml : c.maxLocals = 4) (hts : ∀ w ∈ TT, w.before #[Value.ref b] s = true) (hown : s.vm.findClass RL = some m.cls) (hA : ∀ q, s.heap.size ≤ q → A q) (hX : va_X b L xs s s.heap) (hbl : b < s.heap.size) (hbA : ¬ A b) (hi : ∀ k : Int32, 0 ≤ k.toInt → k.toInt ≤ 6 → vp_in (i + k) L) (hS : SR bb tx rw sb tn mo) (hG : gS g A s H locs (gW g bb tx rw sb dy tn mo jk)) (hl : lv_has ls 4 [(0, .ref b), (1, .ref (gA g 0)), (2, .ref (gA g 58)), (3, .int i)])
    (kk : ∀ (bb : Ob) (tx rw : Nat → Ob) (sb dy : Ob) (tn : Nat → Ob) (mo : Ob) (jk : Nat → Nat → Int32) (H : Heap) (locs : List Loc), SR bb tx rw sb tn mo → gS g A s H locs (gW g bb tx rw sb dy tn mo jk) → W p l e room_1 s m #[Value.ref b] below meth c H locs 600000 7302250 Q (F0 m 1375 ls [])) :
    W p l e room_1 s m #[Value.ref b] below meth c H locs 600000 7302250 Q (F0 m 570 ls []) := by
  have hT := hS.1
  have hE := s_when hS (xs (Int32.toNatClampNeg (i + 1)))
  refine lv_aload_n hx hb dL_law_570 rfl (lv_at hl 1 rfl) ?_
  refine lv_aload_n hx hb dL_law_571 rfl (lv_at hl 0 rfl) ?_
  refine lv_iload_n hx hb dL_law_572 rfl (lv_at hl 3 rfl) ?_
  refine lv_iconst (v := 1) hx hb dL_law_573 (by decide) ?_
  refine lv_iadd hx hb dL_law_574 ?_
  refine va_sld hx hb hX hbl hbA hG.2.2.2 (hi 1 (by decide) (by decide)) dL_law_575 ?_
  refine g_ci (g_runV (n := 1) (rest := []) hx hb hml hown hts hG (c_X5_when (xs (Int32.toNatClampNeg (i + 1))) hT.tEv) tw_ml_RL_66 tw_im_X5_when tw_se_X5_when tw_in_RX5 tw_cd_X5_when (by decide +kernel) ⟨rfl, rfl, Nat.le_of_ble_eq_true rfl, Nat.le_of_ble_eq_true rfl⟩ gw_Bell rfl rfl hl.1 rfl (Nat.le_of_ble_eq_true rfl) dL_law_576 ⟨Nat.le_of_ble_eq_true rfl, Nat.le_of_ble_eq_true rfl⟩) hG hA (fun r u H locs hp hG => ?_)
  rw [hp] at hE
  refine lv_aload_n hx hb dL_law_579 rfl (lv_at hl 2 rfl) ?_
  refine lv_aload_n hx hb dL_law_580 rfl (lv_at hl 0 rfl) ?_
  refine lv_iload_n hx hb dL_law_581 rfl (lv_at hl 3 rfl) ?_
  refine lv_iconst (v := 1) hx hb dL_law_582 (by decide) ?_
  refine lv_iadd hx hb dL_law_583 ?_
  refine va_sld hx hb hX hbl hbA hG.2.2.2 (hi 1 (by decide) (by decide)) dL_law_584 ?_
  refine g_ci (g_runV (n := 1) (rest := [.int r]) hx hb hml hown hts hG (c_X6_when (xs (Int32.toNatClampNeg (i + 1))) hT.mEv) tw_ml_RL_69 tw_im_X6_when tw_se_X6_when tw_in_RX6 tw_cd_X6_when (by decide +kernel) ⟨rfl, rfl, Nat.le_of_ble_eq_true rfl, Nat.le_of_ble_eq_true rfl⟩ gw_Model rfl rfl hl.1 rfl (Nat.le_of_ble_eq_true rfl) dL_law_585 ⟨Nat.le_of_ble_eq_true rfl, Nat.le_of_ble_eq_true rfl⟩) hG hA (fun r2 u2 H locs hq hG => ?_)
  rw [hq] at hE
  refine lv_icmp_eq (tgt := 1375) hx hb dL_law_588 (by decide) (fun _ => ?_) (fun c => absurd hE.1 c)
  exact kk _ _ _ _ _ _ _ _ _ _ ((hS.tn1 u.1).sM hE.2) hG
set_option maxHeartbeats 4000000 in
set_option maxRecDepth 100000 in
theorem lc_dial {p : Program} {l : Launch} {e : Env} {s : State} {m : MethodId} {below : List Frame} {meth : Method} {c : Code} {H : Heap} {locs : List Loc} {Q : State → Prop} {ls : Array Slot} {A : Nat → Prop} {g : GG} {b L : Nat} {xs : Nat → Int32} {i : Int32} {bb : Ob} {tx rw : Nat → Ob} {sb dy : Ob} {tn : Nat → Ob} {mo : Ob} {jk : Nat → Nat → Int32} (hx : p.tables.exec = Jvm.exec) (hb : c.code = cL_law) (hml : c.maxLocals = 4) (hts : ∀ w ∈ TT, w.before #[Value.ref b] s = true) (hown : s.vm.findClass RL = some m.cls) (hA : ∀ q, s.heap.size ≤ q → A q) (hX : va_X b L xs s s.heap) (hbl : b < s.heap.size) (hbA : ¬ A b) (hi : ∀ k : Int32, 0 ≤ k.toInt → k.toInt ≤ 6 → vp_in (i + k) L) (hS : SR bb tx rw sb tn mo) (hG : gS g A s H locs (gW g bb tx rw sb dy tn mo jk)) (hl : lv_has ls 4 [(0, .ref b), (1, .ref (gA g 0)), (2, .ref (gA g 58)), (3, .int i)])
    (kk : ∀ (bb : Ob) (tx rw : Nat → Ob) (sb dy : Ob) (tn : Nat → Ob) (mo : Ob) (jk : Nat → Nat → Int32) (H : Heap) (locs : List Loc), SR bb tx rw sb tn mo → gS g A s H locs (gW g bb tx rw sb dy tn mo jk) → W p l e room_1 s m #[Value.ref b] below meth c H locs 600000 7302250 Q (F0 m 1375 ls [])) :
    W p l e room_1 s m #[Value.ref b] below meth c H locs 600000 7302250 Q (F0 m 593 ls []) := by
  have hT := hS.1
  have hE := s_dial hS dy (xs (Int32.toNatClampNeg (i + 1)))
  refine lv_aload_n hx hb dL_law_593 rfl (lv_at hl 1 rfl) ?_
  refine lv_aload_n hx hb dL_law_594 rfl (lv_at hl 0 rfl) ?_
  refine lv_iload_n hx hb dL_law_595 rfl (lv_at hl 3 rfl) ?_
  refine lv_iconst (v := 1) hx hb dL_law_596 (by decide) ?_
  refine lv_iadd hx hb dL_law_597 ?_
  refine va_sld hx hb hX hbl hbA hG.2.2.2 (hi 1 (by decide) (by decide)) dL_law_598 ?_
  refine g_ci (g_runV (n := 1) (rest := []) hx hb hml hown hts hG (c_X5_dial (xs (Int32.toNatClampNeg (i + 1))) hT.tEv) tw_ml_RL_70 tw_im_X5_dial tw_se_X5_dial tw_in_RX5 tw_cd_X5_dial (by decide +kernel) ⟨rfl, rfl, Nat.le_of_ble_eq_true rfl, Nat.le_of_ble_eq_true rfl⟩ gw_Bell rfl rfl hl.1 rfl (Nat.le_of_ble_eq_true rfl) dL_law_599 ⟨Nat.le_of_ble_eq_true rfl, Nat.le_of_ble_eq_true rfl⟩) hG hA (fun r u H locs hp hG => ?_)
  rw [hp] at hE
  refine lv_aload_n hx hb dL_law_602 rfl (lv_at hl 2 rfl) ?_
  refine lv_aload_n hx hb dL_law_603 rfl (lv_at hl 0 rfl) ?_
  refine lv_iload_n hx hb dL_law_604 rfl (lv_at hl 3 rfl) ?_
  refine lv_iconst (v := 1) hx hb dL_law_605 (by decide) ?_
  refine lv_iadd hx hb dL_law_606 ?_
  refine va_sld hx hb hX hbl hbA hG.2.2.2 (hi 1 (by decide) (by decide)) dL_law_607 ?_
  refine g_ci (g_runV (n := 1) (rest := [.int r]) hx hb hml hown hts hG (c_X6_dial (xs (Int32.toNatClampNeg (i + 1))) hT.mEv) tw_ml_RL_73 tw_im_X6_dial tw_se_X6_dial tw_in_RX6 tw_cd_X6_dial (by decide +kernel) ⟨rfl, rfl, Nat.le_of_ble_eq_true rfl, Nat.le_of_ble_eq_true rfl⟩ gw_Model rfl rfl hl.1 rfl (Nat.le_of_ble_eq_true rfl) dL_law_608 ⟨Nat.le_of_ble_eq_true rfl, Nat.le_of_ble_eq_true rfl⟩) hG hA (fun r2 u2 H locs hq hG => ?_)
  rw [hq] at hE
  refine lv_icmp_eq (tgt := 1375) hx hb dL_law_611 (by decide) (fun _ => ?_) (fun c => absurd hE.1 c)
  exact kk _ _ _ _ _ _ _ _ _ _ ((hS.tn1 u.2.1).sM hE.2) hG
set_option maxHeartbeats 4000000 in
set_option maxRecDepth 100000 in
theorem lc_hush {p : Program} {l : Launch} {e : Env} {s : State} {m : MethodId} {below : List Frame} {meth : Method} {c : Code} {H : Heap} {locs : List Loc} {Q : State → Prop} {ls : Array Slot} {A : Nat → Prop} {g : GG} {b L : Nat} {xs : Nat → Int32} {i : Int32} {bb : Ob} {tx rw : Nat → Ob} {sb dy : Ob} {tn : Nat → Ob} {mo : Ob} {jk : Nat → Nat → Int32} (hx : p.tables.exec = Jvm.exec) (hb : c.code = cL_law) (hml : c.maxLocals = 4) (hts : ∀ w ∈ TT, w.before #[Value.ref b] s = true) (hown : s.vm.findClass RL = some m.cls) (hA : ∀ q, s.heap.size ≤ q → A q) (hX : va_X b L xs s s.heap) (hbl : b < s.heap.size) (hbA : ¬ A b) (hi : ∀ k : Int32, 0 ≤ k.toInt → k.toInt ≤ 6 → vp_in (i + k) L) (hS : SR bb tx rw sb tn mo) (hG : gS g A s H locs (gW g bb tx rw sb dy tn mo jk)) (hl : lv_has ls 4 [(0, .ref b), (1, .ref (gA g 0)), (2, .ref (gA g 58)), (3, .int i)])
    (kk : ∀ (bb : Ob) (tx rw : Nat → Ob) (sb dy : Ob) (tn : Nat → Ob) (mo : Ob) (jk : Nat → Nat → Int32) (H : Heap) (locs : List Loc), SR bb tx rw sb tn mo → gS g A s H locs (gW g bb tx rw sb dy tn mo jk) → W p l e room_1 s m #[Value.ref b] below meth c H locs 600000 7302250 Q (F0 m 1375 ls [])) :
    W p l e room_1 s m #[Value.ref b] below meth c H locs 600000 7302250 Q (F0 m 616 ls []) := by
  have hT := hS.1
  have hE := s_hush hS dy (xs (Int32.toNatClampNeg (i + 1)))
  refine lv_aload_n hx hb dL_law_616 rfl (lv_at hl 1 rfl) ?_
  refine lv_aload_n hx hb dL_law_617 rfl (lv_at hl 0 rfl) ?_
  refine lv_iload_n hx hb dL_law_618 rfl (lv_at hl 3 rfl) ?_
  refine lv_iconst (v := 1) hx hb dL_law_619 (by decide) ?_
  refine lv_iadd hx hb dL_law_620 ?_
  refine va_sld hx hb hX hbl hbA hG.2.2.2 (hi 1 (by decide) (by decide)) dL_law_621 ?_
  refine g_ci (g_runV (n := 1) (rest := []) hx hb hml hown hts hG (c_X5_hush (xs (Int32.toNatClampNeg (i + 1))) hT.tEv) tw_ml_RL_74 tw_im_X5_hush tw_se_X5_hush tw_in_RX5 tw_cd_X5_hush (by decide +kernel) ⟨rfl, rfl, Nat.le_of_ble_eq_true rfl, Nat.le_of_ble_eq_true rfl⟩ gw_Bell rfl rfl hl.1 rfl (Nat.le_of_ble_eq_true rfl) dL_law_622 ⟨Nat.le_of_ble_eq_true rfl, Nat.le_of_ble_eq_true rfl⟩) hG hA (fun r u H locs hp hG => ?_)
  rw [hp] at hE
  refine lv_aload_n hx hb dL_law_625 rfl (lv_at hl 2 rfl) ?_
  refine lv_aload_n hx hb dL_law_626 rfl (lv_at hl 0 rfl) ?_
  refine lv_iload_n hx hb dL_law_627 rfl (lv_at hl 3 rfl) ?_
  refine lv_iconst (v := 1) hx hb dL_law_628 (by decide) ?_
  refine lv_iadd hx hb dL_law_629 ?_
  refine va_sld hx hb hX hbl hbA hG.2.2.2 (hi 1 (by decide) (by decide)) dL_law_630 ?_
  refine g_ci (g_runV (n := 1) (rest := [.int r]) hx hb hml hown hts hG (c_X6_hush (xs (Int32.toNatClampNeg (i + 1))) hT.mEv) tw_ml_RL_77 tw_im_X6_hush tw_se_X6_hush tw_in_RX6 tw_cd_X6_hush (by decide +kernel) ⟨rfl, rfl, Nat.le_of_ble_eq_true rfl, Nat.le_of_ble_eq_true rfl⟩ gw_Model rfl rfl hl.1 rfl (Nat.le_of_ble_eq_true rfl) dL_law_631 ⟨Nat.le_of_ble_eq_true rfl, Nat.le_of_ble_eq_true rfl⟩) hG hA (fun r2 u2 H locs hq hG => ?_)
  rw [hq] at hE
  refine lv_icmp_eq (tgt := 1375) hx hb dL_law_634 (by decide) (fun _ => ?_) (fun c => absurd hE.1 c)
  exact kk _ _ _ _ _ _ _ _ _ _ ((hS.tn1 u.2.1).sM hE.2) hG
set_option maxHeartbeats 4000000 in
set_option maxRecDepth 100000 in
theorem lc_council {p : Program} {l : Launch} {e : Env} {s : State} {m : MethodId} {below : List Frame} {meth : Method} {c : Code} {H : Heap} {locs : List Loc} {Q : State → Prop} {ls : Array Slot} {A : Nat → Prop} {g : GG} {b L : Nat} {xs : Nat → Int32} {i : Int32} {bb : Ob} {tx rw : Nat → Ob} {sb dy : Ob} {tn : Nat → Ob} {mo : Ob} {jk : Nat → Nat → Int32} (hx : p.tables.exec = Jvm.exec) (hb : c.code = cL_law) (hml : c.maxLocals = 4) (hts : ∀ w ∈ TT, w.before #[Value.ref b] s = true) (hown : s.vm.findClass RL = some m.cls) (hA : ∀ q, s.heap.size ≤ q → A q) (hX : va_X b L xs s s.heap) (hbl : b < s.heap.size) (hbA : ¬ A b) (hi : ∀ k : Int32, 0 ≤ k.toInt → k.toInt ≤ 6 → vp_in (i + k) L) (hS : SR bb tx rw sb tn mo) (hG : gS g A s H locs (gW g bb tx rw sb dy tn mo jk)) (hl : lv_has ls 4 [(0, .ref b), (1, .ref (gA g 0)), (2, .ref (gA g 58)), (3, .int i)])
    (kk : ∀ (bb : Ob) (tx rw : Nat → Ob) (sb dy : Ob) (tn : Nat → Ob) (mo : Ob) (jk : Nat → Nat → Int32) (H : Heap) (locs : List Loc), SR bb tx rw sb tn mo → gS g A s H locs (gW g bb tx rw sb dy tn mo jk) → W p l e room_1 s m #[Value.ref b] below meth c H locs 600000 7302250 Q (F0 m 1375 ls [])) :
    W p l e room_1 s m #[Value.ref b] below meth c H locs 600000 7302250 Q (F0 m 639 ls []) := by
  have hT := hS.1
  have hE := s_council hS (xs (Int32.toNatClampNeg (i + 1))) (xs (Int32.toNatClampNeg (i + 2))) (xs (Int32.toNatClampNeg (i + 3)))
  refine lv_aload_n hx hb dL_law_639 rfl (lv_at hl 1 rfl) ?_
  refine lv_aload_n hx hb dL_law_640 rfl (lv_at hl 0 rfl) ?_
  refine lv_iload_n hx hb dL_law_641 rfl (lv_at hl 3 rfl) ?_
  refine lv_iconst (v := 1) hx hb dL_law_642 (by decide) ?_
  refine lv_iadd hx hb dL_law_643 ?_
  refine va_sld hx hb hX hbl hbA hG.2.2.2 (hi 1 (by decide) (by decide)) dL_law_644 ?_
  refine lv_aload_n hx hb dL_law_645 rfl (lv_at hl 0 rfl) ?_
  refine lv_iload_n hx hb dL_law_646 rfl (lv_at hl 3 rfl) ?_
  refine lv_iconst (v := 2) hx hb dL_law_647 (by decide) ?_
  refine lv_iadd hx hb dL_law_648 ?_
  refine va_sld hx hb hX hbl hbA hG.2.2.2 (hi 2 (by decide) (by decide)) dL_law_649 ?_
  refine lv_aload_n hx hb dL_law_650 rfl (lv_at hl 0 rfl) ?_
  refine lv_iload_n hx hb dL_law_651 rfl (lv_at hl 3 rfl) ?_
  refine lv_iconst (v := 3) hx hb dL_law_652 (by decide) ?_
  refine lv_iadd hx hb dL_law_653 ?_
  refine va_sld hx hb hX hbl hbA hG.2.2.2 (hi 3 (by decide) (by decide)) dL_law_654 ?_
  refine g_ci (g_runV (n := 3) (rest := []) hx hb hml hown hts hG (c_X5_council (xs (Int32.toNatClampNeg (i + 1))) (xs (Int32.toNatClampNeg (i + 2))) (xs (Int32.toNatClampNeg (i + 3))) hT.tEv) tw_ml_RL_78 tw_im_X5_council tw_se_X5_council tw_in_RX5 tw_cd_X5_council (by decide +kernel) ⟨rfl, rfl, Nat.le_of_ble_eq_true rfl, Nat.le_of_ble_eq_true rfl⟩ gw_Bell rfl rfl hl.1 rfl (Nat.le_of_ble_eq_true rfl) dL_law_655 ⟨Nat.le_of_ble_eq_true rfl, Nat.le_of_ble_eq_true rfl⟩) hG hA (fun r u H locs hp hG => ?_)
  rw [hp] at hE
  refine lv_aload_n hx hb dL_law_658 rfl (lv_at hl 2 rfl) ?_
  refine lv_aload_n hx hb dL_law_659 rfl (lv_at hl 0 rfl) ?_
  refine lv_iload_n hx hb dL_law_660 rfl (lv_at hl 3 rfl) ?_
  refine lv_iconst (v := 1) hx hb dL_law_661 (by decide) ?_
  refine lv_iadd hx hb dL_law_662 ?_
  refine va_sld hx hb hX hbl hbA hG.2.2.2 (hi 1 (by decide) (by decide)) dL_law_663 ?_
  refine lv_aload_n hx hb dL_law_664 rfl (lv_at hl 0 rfl) ?_
  refine lv_iload_n hx hb dL_law_665 rfl (lv_at hl 3 rfl) ?_
  refine lv_iconst (v := 2) hx hb dL_law_666 (by decide) ?_
  refine lv_iadd hx hb dL_law_667 ?_
  refine va_sld hx hb hX hbl hbA hG.2.2.2 (hi 2 (by decide) (by decide)) dL_law_668 ?_
  refine lv_aload_n hx hb dL_law_669 rfl (lv_at hl 0 rfl) ?_
  refine lv_iload_n hx hb dL_law_670 rfl (lv_at hl 3 rfl) ?_
  refine lv_iconst (v := 3) hx hb dL_law_671 (by decide) ?_
  refine lv_iadd hx hb dL_law_672 ?_
  refine va_sld hx hb hX hbl hbA hG.2.2.2 (hi 3 (by decide) (by decide)) dL_law_673 ?_
  refine g_ci (g_runV (n := 3) (rest := [.int r]) hx hb hml hown hts hG (c_X6_council (xs (Int32.toNatClampNeg (i + 1))) (xs (Int32.toNatClampNeg (i + 2))) (xs (Int32.toNatClampNeg (i + 3))) hT.mEv) tw_ml_RL_81 tw_im_X6_council tw_se_X6_council tw_in_RX6 tw_cd_X6_council (by decide +kernel) ⟨rfl, rfl, Nat.le_of_ble_eq_true rfl, Nat.le_of_ble_eq_true rfl⟩ gw_Model rfl rfl hl.1 rfl (Nat.le_of_ble_eq_true rfl) dL_law_674 ⟨Nat.le_of_ble_eq_true rfl, Nat.le_of_ble_eq_true rfl⟩) hG hA (fun r2 u2 H locs hq hG => ?_)
  rw [hq] at hE
  refine lv_icmp_eq (tgt := 1375) hx hb dL_law_677 (by decide) (fun _ => ?_) (fun c => absurd hE.1 c)
  exact kk _ _ _ _ _ _ _ _ _ _ ((hS.tn1 u.1).sM hE.2) hG
set_option maxHeartbeats 4000000 in
set_option maxRecDepth 100000 in
theorem lc_lesson {p : Program} {l : Launch} {e : Env} {s : State} {m : MethodId} {below : List Frame} {meth : Method} {c : Code} {H : Heap} {locs : List Loc} {Q : State → Prop} {ls : Array Slot} {A : Nat → Prop} {g : GG} {b L : Nat} {xs : Nat → Int32} {i : Int32} {bb : Ob} {tx rw : Nat → Ob} {sb dy : Ob} {tn : Nat → Ob} {mo : Ob} {jk : Nat → Nat → Int32} (hx : p.tables.exec = Jvm.exec) (hb : c.code = cL_law) (hml : c.maxLocals = 4) (hts : ∀ w ∈ TT, w.before #[Value.ref b] s = true) (hown : s.vm.findClass RL = some m.cls) (hA : ∀ q, s.heap.size ≤ q → A q) (hX : va_X b L xs s s.heap) (hbl : b < s.heap.size) (hbA : ¬ A b) (hi : ∀ k : Int32, 0 ≤ k.toInt → k.toInt ≤ 6 → vp_in (i + k) L) (hS : SR bb tx rw sb tn mo) (hG : gS g A s H locs (gW g bb tx rw sb dy tn mo jk)) (hl : lv_has ls 4 [(0, .ref b), (1, .ref (gA g 0)), (2, .ref (gA g 58)), (3, .int i)])
    (kk : ∀ (bb : Ob) (tx rw : Nat → Ob) (sb dy : Ob) (tn : Nat → Ob) (mo : Ob) (jk : Nat → Nat → Int32) (H : Heap) (locs : List Loc), SR bb tx rw sb tn mo → gS g A s H locs (gW g bb tx rw sb dy tn mo jk) → W p l e room_1 s m #[Value.ref b] below meth c H locs 600000 7302250 Q (F0 m 1375 ls [])) :
    W p l e room_1 s m #[Value.ref b] below meth c H locs 600000 7302250 Q (F0 m 682 ls []) := by
  have hT := hS.1
  have hE := s_lesson hS (xs (Int32.toNatClampNeg (i + 1))) (xs (Int32.toNatClampNeg (i + 2)))
  refine lv_aload_n hx hb dL_law_682 rfl (lv_at hl 1 rfl) ?_
  refine lv_aload_n hx hb dL_law_683 rfl (lv_at hl 0 rfl) ?_
  refine lv_iload_n hx hb dL_law_684 rfl (lv_at hl 3 rfl) ?_
  refine lv_iconst (v := 1) hx hb dL_law_685 (by decide) ?_
  refine lv_iadd hx hb dL_law_686 ?_
  refine va_sld hx hb hX hbl hbA hG.2.2.2 (hi 1 (by decide) (by decide)) dL_law_687 ?_
  refine lv_aload_n hx hb dL_law_688 rfl (lv_at hl 0 rfl) ?_
  refine lv_iload_n hx hb dL_law_689 rfl (lv_at hl 3 rfl) ?_
  refine lv_iconst (v := 2) hx hb dL_law_690 (by decide) ?_
  refine lv_iadd hx hb dL_law_691 ?_
  refine va_sld hx hb hX hbl hbA hG.2.2.2 (hi 2 (by decide) (by decide)) dL_law_692 ?_
  refine g_ci (g_runV (n := 2) (rest := []) hx hb hml hown hts hG (c_X5_lesson (xs (Int32.toNatClampNeg (i + 1))) (xs (Int32.toNatClampNeg (i + 2))) hT.tEv) tw_ml_RL_82 tw_im_X5_lesson tw_se_X5_lesson tw_in_RX5 tw_cd_X5_lesson (by decide +kernel) ⟨rfl, rfl, Nat.le_of_ble_eq_true rfl, Nat.le_of_ble_eq_true rfl⟩ gw_Bell rfl rfl hl.1 rfl (Nat.le_of_ble_eq_true rfl) dL_law_693 ⟨Nat.le_of_ble_eq_true rfl, Nat.le_of_ble_eq_true rfl⟩) hG hA (fun r u H locs hp hG => ?_)
  rw [hp] at hE
  refine lv_aload_n hx hb dL_law_696 rfl (lv_at hl 2 rfl) ?_
  refine lv_aload_n hx hb dL_law_697 rfl (lv_at hl 0 rfl) ?_
  refine lv_iload_n hx hb dL_law_698 rfl (lv_at hl 3 rfl) ?_
  refine lv_iconst (v := 1) hx hb dL_law_699 (by decide) ?_
  refine lv_iadd hx hb dL_law_700 ?_
  refine va_sld hx hb hX hbl hbA hG.2.2.2 (hi 1 (by decide) (by decide)) dL_law_701 ?_
  refine lv_aload_n hx hb dL_law_702 rfl (lv_at hl 0 rfl) ?_
  refine lv_iload_n hx hb dL_law_703 rfl (lv_at hl 3 rfl) ?_
  refine lv_iconst (v := 2) hx hb dL_law_704 (by decide) ?_
  refine lv_iadd hx hb dL_law_705 ?_
  refine va_sld hx hb hX hbl hbA hG.2.2.2 (hi 2 (by decide) (by decide)) dL_law_706 ?_
  refine g_ci (g_runV (n := 2) (rest := [.int r]) hx hb hml hown hts hG (c_X6_lesson (xs (Int32.toNatClampNeg (i + 1))) (xs (Int32.toNatClampNeg (i + 2))) hT.mEv) tw_ml_RL_85 tw_im_X6_lesson tw_se_X6_lesson tw_in_RX6 tw_cd_X6_lesson (by decide +kernel) ⟨rfl, rfl, Nat.le_of_ble_eq_true rfl, Nat.le_of_ble_eq_true rfl⟩ gw_Model rfl rfl hl.1 rfl (Nat.le_of_ble_eq_true rfl) dL_law_707 ⟨Nat.le_of_ble_eq_true rfl, Nat.le_of_ble_eq_true rfl⟩) hG hA (fun r2 u2 H locs hq hG => ?_)
  rw [hq] at hE
  refine lv_icmp_eq (tgt := 1375) hx hb dL_law_710 (by decide) (fun _ => ?_) (fun c => absurd hE.1 c)
  exact kk _ _ _ _ _ _ _ _ _ _ ((hS.tn1 u.1).sM hE.2) hG
set_option maxHeartbeats 4000000 in
set_option maxRecDepth 100000 in
theorem lc_pair {p : Program} {l : Launch} {e : Env} {s : State} {m : MethodId} {below : List Frame} {meth : Method} {c : Code} {H : Heap} {locs : List Loc} {Q : State → Prop} {ls : Array Slot} {A : Nat → Prop} {g : GG} {b L : Nat} {xs : Nat → Int32} {i : Int32} {bb : Ob} {tx rw : Nat → Ob} {sb dy : Ob} {tn : Nat → Ob} {mo : Ob} {jk : Nat → Nat → Int32} (hx : p.tables.exec = Jvm.exec) (hb : c.code = cL_law) (hml : c.maxLocals = 4) (hts : ∀ w ∈ TT, w.before #[Value.ref b] s = true) (hown : s.vm.findClass RL = some m.cls) (hA : ∀ q, s.heap.size ≤ q → A q) (hX : va_X b L xs s s.heap) (hbl : b < s.heap.size) (hbA : ¬ A b) (hi : ∀ k : Int32, 0 ≤ k.toInt → k.toInt ≤ 6 → vp_in (i + k) L) (hS : SR bb tx rw sb tn mo) (hG : gS g A s H locs (gW g bb tx rw sb dy tn mo jk)) (hl : lv_has ls 4 [(0, .ref b), (1, .ref (gA g 0)), (2, .ref (gA g 58)), (3, .int i)])
    (kk : ∀ (bb : Ob) (tx rw : Nat → Ob) (sb dy : Ob) (tn : Nat → Ob) (mo : Ob) (jk : Nat → Nat → Int32) (H : Heap) (locs : List Loc), SR bb tx rw sb tn mo → gS g A s H locs (gW g bb tx rw sb dy tn mo jk) → W p l e room_1 s m #[Value.ref b] below meth c H locs 600000 7302250 Q (F0 m 1375 ls [])) :
    W p l e room_1 s m #[Value.ref b] below meth c H locs 600000 7302250 Q (F0 m 715 ls []) := by
  have hT := hS.1
  have hE := s_pair hS dy (xs (Int32.toNatClampNeg (i + 1)))
  refine lv_aload_n hx hb dL_law_715 rfl (lv_at hl 1 rfl) ?_
  refine lv_aload_n hx hb dL_law_716 rfl (lv_at hl 0 rfl) ?_
  refine lv_iload_n hx hb dL_law_717 rfl (lv_at hl 3 rfl) ?_
  refine lv_iconst (v := 1) hx hb dL_law_718 (by decide) ?_
  refine lv_iadd hx hb dL_law_719 ?_
  refine va_sld hx hb hX hbl hbA hG.2.2.2 (hi 1 (by decide) (by decide)) dL_law_720 ?_
  refine g_ci (g_runV (n := 1) (rest := []) hx hb hml hown hts hG (c_X5_pair (xs (Int32.toNatClampNeg (i + 1))) hT.tEv) tw_ml_RL_86 tw_im_X5_pair tw_se_X5_pair tw_in_RX5 tw_cd_X5_pair (by decide +kernel) ⟨rfl, rfl, Nat.le_of_ble_eq_true rfl, Nat.le_of_ble_eq_true rfl⟩ gw_Bell rfl rfl hl.1 rfl (Nat.le_of_ble_eq_true rfl) dL_law_721 ⟨Nat.le_of_ble_eq_true rfl, Nat.le_of_ble_eq_true rfl⟩) hG hA (fun r u H locs hp hG => ?_)
  rw [hp] at hE
  refine lv_aload_n hx hb dL_law_724 rfl (lv_at hl 2 rfl) ?_
  refine lv_aload_n hx hb dL_law_725 rfl (lv_at hl 0 rfl) ?_
  refine lv_iload_n hx hb dL_law_726 rfl (lv_at hl 3 rfl) ?_
  refine lv_iconst (v := 1) hx hb dL_law_727 (by decide) ?_
  refine lv_iadd hx hb dL_law_728 ?_
  refine va_sld hx hb hX hbl hbA hG.2.2.2 (hi 1 (by decide) (by decide)) dL_law_729 ?_
  refine g_ci (g_runV (n := 1) (rest := [.int r]) hx hb hml hown hts hG (c_X6_pair (xs (Int32.toNatClampNeg (i + 1))) hT.mEv) tw_ml_RL_89 tw_im_X6_pair tw_se_X6_pair tw_in_RX6 tw_cd_X6_pair (by decide +kernel) ⟨rfl, rfl, Nat.le_of_ble_eq_true rfl, Nat.le_of_ble_eq_true rfl⟩ gw_Model rfl rfl hl.1 rfl (Nat.le_of_ble_eq_true rfl) dL_law_730 ⟨Nat.le_of_ble_eq_true rfl, Nat.le_of_ble_eq_true rfl⟩) hG hA (fun r2 u2 H locs hq hG => ?_)
  rw [hq] at hE
  refine lv_icmp_eq (tgt := 1375) hx hb dL_law_733 (by decide) (fun _ => ?_) (fun c => absurd hE.1 c)
  exact kk _ _ _ _ _ _ _ _ _ _ ((hS.tn1 u.2.1).sM hE.2) hG
set_option maxHeartbeats 4000000 in
set_option maxRecDepth 100000 in
theorem lc_mean {p : Program} {l : Launch} {e : Env} {s : State} {m : MethodId} {below : List Frame} {meth : Method} {c : Code} {H : Heap} {locs : List Loc} {Q : State → Prop} {ls : Array Slot} {A : Nat → Prop} {g : GG} {b L : Nat} {xs : Nat → Int32} {i : Int32} {bb : Ob} {tx rw : Nat → Ob} {sb dy : Ob} {tn : Nat → Ob} {mo : Ob} {jk : Nat → Nat → Int32} (hx : p.tables.exec = Jvm.exec) (hb : c.code = cL_law) (hml : c.maxLocals = 4) (hts : ∀ w ∈ TT, w.before #[Value.ref b] s = true) (hown : s.vm.findClass RL = some m.cls) (hA : ∀ q, s.heap.size ≤ q → A q) (hX : va_X b L xs s s.heap) (hbl : b < s.heap.size) (hbA : ¬ A b) (hi : ∀ k : Int32, 0 ≤ k.toInt → k.toInt ≤ 6 → vp_in (i + k) L) (hS : SR bb tx rw sb tn mo) (hG : gS g A s H locs (gW g bb tx rw sb dy tn mo jk)) (hl : lv_has ls 4 [(0, .ref b), (1, .ref (gA g 0)), (2, .ref (gA g 58)), (3, .int i)])
    (kk : ∀ (bb : Ob) (tx rw : Nat → Ob) (sb dy : Ob) (tn : Nat → Ob) (mo : Ob) (jk : Nat → Nat → Int32) (H : Heap) (locs : List Loc), SR bb tx rw sb tn mo → gS g A s H locs (gW g bb tx rw sb dy tn mo jk) → W p l e room_1 s m #[Value.ref b] below meth c H locs 600000 7302250 Q (F0 m 1375 ls [])) :
    W p l e room_1 s m #[Value.ref b] below meth c H locs 600000 7302250 Q (F0 m 738 ls []) := by
  have hT := hS.1
  have hE := s_mean hS (xs (Int32.toNatClampNeg (i + 1))) (xs (Int32.toNatClampNeg (i + 2)))
  refine lv_aload_n hx hb dL_law_738 rfl (lv_at hl 1 rfl) ?_
  refine lv_aload_n hx hb dL_law_739 rfl (lv_at hl 0 rfl) ?_
  refine lv_iload_n hx hb dL_law_740 rfl (lv_at hl 3 rfl) ?_
  refine lv_iconst (v := 1) hx hb dL_law_741 (by decide) ?_
  refine lv_iadd hx hb dL_law_742 ?_
  refine va_sld hx hb hX hbl hbA hG.2.2.2 (hi 1 (by decide) (by decide)) dL_law_743 ?_
  refine lv_aload_n hx hb dL_law_744 rfl (lv_at hl 0 rfl) ?_
  refine lv_iload_n hx hb dL_law_745 rfl (lv_at hl 3 rfl) ?_
  refine lv_iconst (v := 2) hx hb dL_law_746 (by decide) ?_
  refine lv_iadd hx hb dL_law_747 ?_
  refine va_sld hx hb hX hbl hbA hG.2.2.2 (hi 2 (by decide) (by decide)) dL_law_748 ?_
  refine g_cl (g_runV (n := 2) (rest := []) hx hb hml hown hts hG (c_X5_mean (xs (Int32.toNatClampNeg (i + 1))) (xs (Int32.toNatClampNeg (i + 2))) hT.tEv) tw_ml_RL_90 tw_im_X5_mean tw_se_X5_mean tw_in_RX5 tw_cd_X5_mean (by decide +kernel) ⟨rfl, rfl, Nat.le_of_ble_eq_true rfl, Nat.le_of_ble_eq_true rfl⟩ gw_Bell rfl rfl hl.1 rfl (Nat.le_of_ble_eq_true rfl) dL_law_749 ⟨Nat.le_of_ble_eq_true rfl, Nat.le_of_ble_eq_true rfl⟩) hG hA (fun r u H locs hp hG => ?_)
  rw [hp] at hE
  refine lv_aload_n hx hb dL_law_752 rfl (lv_at hl 2 rfl) ?_
  refine lv_aload_n hx hb dL_law_753 rfl (lv_at hl 0 rfl) ?_
  refine lv_iload_n hx hb dL_law_754 rfl (lv_at hl 3 rfl) ?_
  refine lv_iconst (v := 1) hx hb dL_law_755 (by decide) ?_
  refine lv_iadd hx hb dL_law_756 ?_
  refine va_sld hx hb hX hbl hbA hG.2.2.2 (hi 1 (by decide) (by decide)) dL_law_757 ?_
  refine lv_aload_n hx hb dL_law_758 rfl (lv_at hl 0 rfl) ?_
  refine lv_iload_n hx hb dL_law_759 rfl (lv_at hl 3 rfl) ?_
  refine lv_iconst (v := 2) hx hb dL_law_760 (by decide) ?_
  refine lv_iadd hx hb dL_law_761 ?_
  refine va_sld hx hb hX hbl hbA hG.2.2.2 (hi 2 (by decide) (by decide)) dL_law_762 ?_
  refine g_cl (g_runV (n := 2) (rest := [.long r]) hx hb hml hown hts hG (c_X6_mean (xs (Int32.toNatClampNeg (i + 1))) (xs (Int32.toNatClampNeg (i + 2))) hT.mEv) tw_ml_RL_94 tw_im_X6_mean tw_se_X6_mean tw_in_RX6 tw_cd_X6_mean (by decide +kernel) ⟨rfl, rfl, Nat.le_of_ble_eq_true rfl, Nat.le_of_ble_eq_true rfl⟩ gw_Model rfl rfl hl.1 rfl (Nat.le_of_ble_eq_true rfl) dL_law_763 ⟨Nat.le_of_ble_eq_true rfl, Nat.le_of_ble_eq_true rfl⟩) hG hA (fun r2 u2 H locs hq hG => ?_)
  rw [hq] at hE
  refine W.lcmp hx hb dL_law_766 ?_
  refine lv_if_eq (tgt := 1375) hx hb dL_law_767 (by decide) (fun _ => ?_) (fun c => absurd (lg_same _ _ hE.1) c)
  exact kk _ _ _ _ _ _ _ _ _ _ ((hS.tn1 u.1).sM hE.2) hG
set_option maxHeartbeats 4000000 in
set_option maxRecDepth 100000 in
theorem lc_share {p : Program} {l : Launch} {e : Env} {s : State} {m : MethodId} {below : List Frame} {meth : Method} {c : Code} {H : Heap} {locs : List Loc} {Q : State → Prop} {ls : Array Slot} {A : Nat → Prop} {g : GG} {b L : Nat} {xs : Nat → Int32} {i : Int32} {bb : Ob} {tx rw : Nat → Ob} {sb dy : Ob} {tn : Nat → Ob} {mo : Ob} {jk : Nat → Nat → Int32} (hx : p.tables.exec = Jvm.exec) (hb : c.code = cL_law) (hml : c.maxLocals = 4) (hts : ∀ w ∈ TT, w.before #[Value.ref b] s = true) (hown : s.vm.findClass RL = some m.cls) (hA : ∀ q, s.heap.size ≤ q → A q) (hX : va_X b L xs s s.heap) (hbl : b < s.heap.size) (hbA : ¬ A b) (hi : ∀ k : Int32, 0 ≤ k.toInt → k.toInt ≤ 6 → vp_in (i + k) L) (hS : SR bb tx rw sb tn mo) (hG : gS g A s H locs (gW g bb tx rw sb dy tn mo jk)) (hl : lv_has ls 4 [(0, .ref b), (1, .ref (gA g 0)), (2, .ref (gA g 58)), (3, .int i)])
    (kk : ∀ (bb : Ob) (tx rw : Nat → Ob) (sb dy : Ob) (tn : Nat → Ob) (mo : Ob) (jk : Nat → Nat → Int32) (H : Heap) (locs : List Loc), SR bb tx rw sb tn mo → gS g A s H locs (gW g bb tx rw sb dy tn mo jk) → W p l e room_1 s m #[Value.ref b] below meth c H locs 600000 7302250 Q (F0 m 1375 ls [])) :
    W p l e room_1 s m #[Value.ref b] below meth c H locs 600000 7302250 Q (F0 m 772 ls []) := by
  have hT := hS.1
  have hE := s_share hS (xs (Int32.toNatClampNeg (i + 1))) (xs (Int32.toNatClampNeg (i + 2)))
  refine lv_aload_n hx hb dL_law_772 rfl (lv_at hl 1 rfl) ?_
  refine lv_aload_n hx hb dL_law_773 rfl (lv_at hl 0 rfl) ?_
  refine lv_iload_n hx hb dL_law_774 rfl (lv_at hl 3 rfl) ?_
  refine lv_iconst (v := 1) hx hb dL_law_775 (by decide) ?_
  refine lv_iadd hx hb dL_law_776 ?_
  refine va_sld hx hb hX hbl hbA hG.2.2.2 (hi 1 (by decide) (by decide)) dL_law_777 ?_
  refine lv_aload_n hx hb dL_law_778 rfl (lv_at hl 0 rfl) ?_
  refine lv_iload_n hx hb dL_law_779 rfl (lv_at hl 3 rfl) ?_
  refine lv_iconst (v := 2) hx hb dL_law_780 (by decide) ?_
  refine lv_iadd hx hb dL_law_781 ?_
  refine va_sld hx hb hX hbl hbA hG.2.2.2 (hi 2 (by decide) (by decide)) dL_law_782 ?_
  refine g_cl (g_runV (n := 2) (rest := []) hx hb hml hown hts hG (c_X5_share (xs (Int32.toNatClampNeg (i + 1))) (xs (Int32.toNatClampNeg (i + 2))) hS.t66) tw_ml_RL_95 tw_im_X5_share tw_se_X5_share tw_in_RX5 tw_cd_X5_share (by decide +kernel) ⟨rfl, rfl, Nat.le_of_ble_eq_true rfl, Nat.le_of_ble_eq_true rfl⟩ gw_Bell rfl rfl hl.1 rfl (Nat.le_of_ble_eq_true rfl) dL_law_783 ⟨Nat.le_of_ble_eq_true rfl, Nat.le_of_ble_eq_true rfl⟩) hG hA (fun r u H locs hp hG => ?_)
  rw [← hp] at hE
  refine lv_aload_n hx hb dL_law_786 rfl (lv_at hl 2 rfl) ?_
  refine lv_aload_n hx hb dL_law_787 rfl (lv_at hl 0 rfl) ?_
  refine lv_iload_n hx hb dL_law_788 rfl (lv_at hl 3 rfl) ?_
  refine lv_iconst (v := 1) hx hb dL_law_789 (by decide) ?_
  refine lv_iadd hx hb dL_law_790 ?_
  refine va_sld hx hb hX hbl hbA hG.2.2.2 (hi 1 (by decide) (by decide)) dL_law_791 ?_
  refine lv_aload_n hx hb dL_law_792 rfl (lv_at hl 0 rfl) ?_
  refine lv_iload_n hx hb dL_law_793 rfl (lv_at hl 3 rfl) ?_
  refine lv_iconst (v := 2) hx hb dL_law_794 (by decide) ?_
  refine lv_iadd hx hb dL_law_795 ?_
  refine va_sld hx hb hX hbl hbA hG.2.2.2 (hi 2 (by decide) (by decide)) dL_law_796 ?_
  refine g_cl (g_runV (n := 2) (rest := [.long r]) hx hb hml hown hts hG (c_X6_share (xs (Int32.toNatClampNeg (i + 1))) (xs (Int32.toNatClampNeg (i + 2))) hT.1.2) tw_ml_RL_98 tw_im_X6_share tw_se_X6_share tw_in_RX6 tw_cd_X6_share (by decide +kernel) ⟨rfl, rfl, Nat.le_of_ble_eq_true rfl, Nat.le_of_ble_eq_true rfl⟩ gw_Model rfl rfl hl.1 rfl (Nat.le_of_ble_eq_true rfl) dL_law_797 ⟨Nat.le_of_ble_eq_true rfl, Nat.le_of_ble_eq_true rfl⟩) hG hA (fun r2 u2 H locs hq hG => ?_)
  rw [← hq] at hE
  refine W.lcmp hx hb dL_law_800 ?_
  refine lv_if_eq (tgt := 1375) hx hb dL_law_801 (by decide) (fun _ => ?_) (fun c => absurd (lg_same _ _ hE) c)
  exact kk _ _ _ _ _ _ _ _ _ _ (hS) hG
set_option maxHeartbeats 4000000 in
set_option maxRecDepth 100000 in
theorem lc_judge {p : Program} {l : Launch} {e : Env} {s : State} {m : MethodId} {below : List Frame} {meth : Method} {c : Code} {H : Heap} {locs : List Loc} {Q : State → Prop} {ls : Array Slot} {A : Nat → Prop} {g : GG} {b L : Nat} {xs : Nat → Int32} {i : Int32} {bb : Ob} {tx rw : Nat → Ob} {sb dy : Ob} {tn : Nat → Ob} {mo : Ob} {jk : Nat → Nat → Int32} (hx : p.tables.exec = Jvm.exec) (hb : c.code = cL_law) (hml : c.maxLocals = 4) (hts : ∀ w ∈ TT, w.before #[Value.ref b] s = true) (hown : s.vm.findClass RL = some m.cls) (hA : ∀ q, s.heap.size ≤ q → A q) (hX : va_X b L xs s s.heap) (hbl : b < s.heap.size) (hbA : ¬ A b) (hi : ∀ k : Int32, 0 ≤ k.toInt → k.toInt ≤ 6 → vp_in (i + k) L) (hS : SR bb tx rw sb tn mo) (hG : gS g A s H locs (gW g bb tx rw sb dy tn mo jk)) (hl : lv_has ls 4 [(0, .ref b), (1, .ref (gA g 0)), (2, .ref (gA g 58)), (3, .int i)])
    (kk : ∀ (bb : Ob) (tx rw : Nat → Ob) (sb dy : Ob) (tn : Nat → Ob) (mo : Ob) (jk : Nat → Nat → Int32) (H : Heap) (locs : List Loc), SR bb tx rw sb tn mo → gS g A s H locs (gW g bb tx rw sb dy tn mo jk) → W p l e room_1 s m #[Value.ref b] below meth c H locs 600000 7302250 Q (F0 m 1375 ls [])) :
    W p l e room_1 s m #[Value.ref b] below meth c H locs 600000 7302250 Q (F0 m 806 ls []) := by
  have hT := hS.1
  have hE := s_judge hS (xs (Int32.toNatClampNeg (i + 1)))
  refine lv_aload_n hx hb dL_law_806 rfl (lv_at hl 1 rfl) ?_
  refine lv_aload_n hx hb dL_law_807 rfl (lv_at hl 0 rfl) ?_
  refine lv_iload_n hx hb dL_law_808 rfl (lv_at hl 3 rfl) ?_
  refine lv_iconst (v := 1) hx hb dL_law_809 (by decide) ?_
  refine lv_iadd hx hb dL_law_810 ?_
  refine va_sld hx hb hX hbl hbA hG.2.2.2 (hi 1 (by decide) (by decide)) dL_law_811 ?_
  refine g_ci (g_runV (n := 1) (rest := []) hx hb hml hown hts hG (c_X5_judge (xs (Int32.toNatClampNeg (i + 1))) hT.tEv) tw_ml_RL_99 tw_im_X5_judge tw_se_X5_judge tw_in_RX5 tw_cd_X5_judge (by decide +kernel) ⟨rfl, rfl, Nat.le_of_ble_eq_true rfl, Nat.le_of_ble_eq_true rfl⟩ gw_Bell rfl rfl hl.1 rfl (Nat.le_of_ble_eq_true rfl) dL_law_812 ⟨Nat.le_of_ble_eq_true rfl, Nat.le_of_ble_eq_true rfl⟩) hG hA (fun r u H locs hp hG => ?_)
  rw [hp] at hE
  refine lv_aload_n hx hb dL_law_815 rfl (lv_at hl 2 rfl) ?_
  refine lv_aload_n hx hb dL_law_816 rfl (lv_at hl 0 rfl) ?_
  refine lv_iload_n hx hb dL_law_817 rfl (lv_at hl 3 rfl) ?_
  refine lv_iconst (v := 1) hx hb dL_law_818 (by decide) ?_
  refine lv_iadd hx hb dL_law_819 ?_
  refine va_sld hx hb hX hbl hbA hG.2.2.2 (hi 1 (by decide) (by decide)) dL_law_820 ?_
  refine g_ci (g_runV (n := 1) (rest := [.int r]) hx hb hml hown hts hG (c_X6_judge (xs (Int32.toNatClampNeg (i + 1))) hT.mEv) tw_ml_RL_102 tw_im_X6_judge tw_se_X6_judge tw_in_RX6 tw_cd_X6_judge (by decide +kernel) ⟨rfl, rfl, Nat.le_of_ble_eq_true rfl, Nat.le_of_ble_eq_true rfl⟩ gw_Model rfl rfl hl.1 rfl (Nat.le_of_ble_eq_true rfl) dL_law_821 ⟨Nat.le_of_ble_eq_true rfl, Nat.le_of_ble_eq_true rfl⟩) hG hA (fun r2 u2 H locs hq hG => ?_)
  rw [hq] at hE
  refine lv_icmp_eq (tgt := 1375) hx hb dL_law_824 (by decide) (fun _ => ?_) (fun c => absurd hE.1 c)
  exact kk _ _ _ _ _ _ _ _ _ _ ((hS.tn1 u.1).sM hE.2) hG
set_option maxHeartbeats 4000000 in
set_option maxRecDepth 100000 in
theorem lc_kinds {p : Program} {l : Launch} {e : Env} {s : State} {m : MethodId} {below : List Frame} {meth : Method} {c : Code} {H : Heap} {locs : List Loc} {Q : State → Prop} {ls : Array Slot} {A : Nat → Prop} {g : GG} {b L : Nat} {xs : Nat → Int32} {i : Int32} {bb : Ob} {tx rw : Nat → Ob} {sb dy : Ob} {tn : Nat → Ob} {mo : Ob} {jk : Nat → Nat → Int32} (hx : p.tables.exec = Jvm.exec) (hb : c.code = cL_law) (hml : c.maxLocals = 4) (hts : ∀ w ∈ TT, w.before #[Value.ref b] s = true) (hown : s.vm.findClass RL = some m.cls) (hA : ∀ q, s.heap.size ≤ q → A q) (hX : va_X b L xs s s.heap) (hbl : b < s.heap.size) (hbA : ¬ A b) (hi : ∀ k : Int32, 0 ≤ k.toInt → k.toInt ≤ 6 → vp_in (i + k) L) (hS : SR bb tx rw sb tn mo) (hG : gS g A s H locs (gW g bb tx rw sb dy tn mo jk)) (hl : lv_has ls 4 [(0, .ref b), (1, .ref (gA g 0)), (2, .ref (gA g 58)), (3, .int i)])
    (kk : ∀ (bb : Ob) (tx rw : Nat → Ob) (sb dy : Ob) (tn : Nat → Ob) (mo : Ob) (jk : Nat → Nat → Int32) (H : Heap) (locs : List Loc), SR bb tx rw sb tn mo → gS g A s H locs (gW g bb tx rw sb dy tn mo jk) → W p l e room_1 s m #[Value.ref b] below meth c H locs 600000 7302250 Q (F0 m 1375 ls [])) :
    W p l e room_1 s m #[Value.ref b] below meth c H locs 600000 7302250 Q (F0 m 829 ls []) := by
  have hT := hS.1
  have hE := s_kinds hS (xs (Int32.toNatClampNeg (i + 1))) (xs (Int32.toNatClampNeg (i + 2))) (xs (Int32.toNatClampNeg (i + 3)))
  refine lv_aload_n hx hb dL_law_829 rfl (lv_at hl 1 rfl) ?_
  refine lv_aload_n hx hb dL_law_830 rfl (lv_at hl 0 rfl) ?_
  refine lv_iload_n hx hb dL_law_831 rfl (lv_at hl 3 rfl) ?_
  refine lv_iconst (v := 1) hx hb dL_law_832 (by decide) ?_
  refine lv_iadd hx hb dL_law_833 ?_
  refine va_sld hx hb hX hbl hbA hG.2.2.2 (hi 1 (by decide) (by decide)) dL_law_834 ?_
  refine lv_aload_n hx hb dL_law_835 rfl (lv_at hl 0 rfl) ?_
  refine lv_iload_n hx hb dL_law_836 rfl (lv_at hl 3 rfl) ?_
  refine lv_iconst (v := 2) hx hb dL_law_837 (by decide) ?_
  refine lv_iadd hx hb dL_law_838 ?_
  refine va_sld hx hb hX hbl hbA hG.2.2.2 (hi 2 (by decide) (by decide)) dL_law_839 ?_
  refine lv_aload_n hx hb dL_law_840 rfl (lv_at hl 0 rfl) ?_
  refine lv_iload_n hx hb dL_law_841 rfl (lv_at hl 3 rfl) ?_
  refine lv_iconst (v := 3) hx hb dL_law_842 (by decide) ?_
  refine lv_iadd hx hb dL_law_843 ?_
  refine va_sld hx hb hX hbl hbA hG.2.2.2 (hi 3 (by decide) (by decide)) dL_law_844 ?_
  refine g_ci (g_runV (n := 3) (rest := []) hx hb hml hown hts hG (c_X5_kinds (xs (Int32.toNatClampNeg (i + 1))) (xs (Int32.toNatClampNeg (i + 2))) (xs (Int32.toNatClampNeg (i + 3))) hT.tEv) tw_ml_RL_103 tw_im_X5_kinds tw_se_X5_kinds tw_in_RX5 tw_cd_X5_kinds (by decide +kernel) ⟨rfl, rfl, Nat.le_of_ble_eq_true rfl, Nat.le_of_ble_eq_true rfl⟩ gw_Bell rfl rfl hl.1 rfl (Nat.le_of_ble_eq_true rfl) dL_law_845 ⟨Nat.le_of_ble_eq_true rfl, Nat.le_of_ble_eq_true rfl⟩) hG hA (fun r u H locs hp hG => ?_)
  rw [hp] at hE
  refine lv_aload_n hx hb dL_law_848 rfl (lv_at hl 2 rfl) ?_
  refine lv_aload_n hx hb dL_law_849 rfl (lv_at hl 0 rfl) ?_
  refine lv_iload_n hx hb dL_law_850 rfl (lv_at hl 3 rfl) ?_
  refine lv_iconst (v := 1) hx hb dL_law_851 (by decide) ?_
  refine lv_iadd hx hb dL_law_852 ?_
  refine va_sld hx hb hX hbl hbA hG.2.2.2 (hi 1 (by decide) (by decide)) dL_law_853 ?_
  refine lv_aload_n hx hb dL_law_854 rfl (lv_at hl 0 rfl) ?_
  refine lv_iload_n hx hb dL_law_855 rfl (lv_at hl 3 rfl) ?_
  refine lv_iconst (v := 2) hx hb dL_law_856 (by decide) ?_
  refine lv_iadd hx hb dL_law_857 ?_
  refine va_sld hx hb hX hbl hbA hG.2.2.2 (hi 2 (by decide) (by decide)) dL_law_858 ?_
  refine lv_aload_n hx hb dL_law_859 rfl (lv_at hl 0 rfl) ?_
  refine lv_iload_n hx hb dL_law_860 rfl (lv_at hl 3 rfl) ?_
  refine lv_iconst (v := 3) hx hb dL_law_861 (by decide) ?_
  refine lv_iadd hx hb dL_law_862 ?_
  refine va_sld hx hb hX hbl hbA hG.2.2.2 (hi 3 (by decide) (by decide)) dL_law_863 ?_
  refine g_ci (g_runV (n := 3) (rest := [.int r]) hx hb hml hown hts hG (c_X6_kinds (xs (Int32.toNatClampNeg (i + 1))) (xs (Int32.toNatClampNeg (i + 2))) (xs (Int32.toNatClampNeg (i + 3))) hT.mEv) tw_ml_RL_106 tw_im_X6_kinds tw_se_X6_kinds tw_in_RX6 tw_cd_X6_kinds (by decide +kernel) ⟨rfl, rfl, Nat.le_of_ble_eq_true rfl, Nat.le_of_ble_eq_true rfl⟩ gw_Model rfl rfl hl.1 rfl (Nat.le_of_ble_eq_true rfl) dL_law_864 ⟨Nat.le_of_ble_eq_true rfl, Nat.le_of_ble_eq_true rfl⟩) hG hA (fun r2 u2 H locs hq hG => ?_)
  rw [hq] at hE
  refine lv_icmp_eq (tgt := 1375) hx hb dL_law_867 (by decide) (fun _ => ?_) (fun c => absurd hE.1 c)
  exact kk _ _ _ _ _ _ _ _ _ _ ((hS.tn1 u.1).sM hE.2) hG
set_option maxHeartbeats 4000000 in
set_option maxRecDepth 100000 in
theorem lc_nerves {p : Program} {l : Launch} {e : Env} {s : State} {m : MethodId} {below : List Frame} {meth : Method} {c : Code} {H : Heap} {locs : List Loc} {Q : State → Prop} {ls : Array Slot} {A : Nat → Prop} {g : GG} {b L : Nat} {xs : Nat → Int32} {i : Int32} {bb : Ob} {tx rw : Nat → Ob} {sb dy : Ob} {tn : Nat → Ob} {mo : Ob} {jk : Nat → Nat → Int32} (hx : p.tables.exec = Jvm.exec) (hb : c.code = cL_law) (hml : c.maxLocals = 4) (hts : ∀ w ∈ TT, w.before #[Value.ref b] s = true) (hown : s.vm.findClass RL = some m.cls) (hA : ∀ q, s.heap.size ≤ q → A q) (hX : va_X b L xs s s.heap) (hbl : b < s.heap.size) (hbA : ¬ A b) (hi : ∀ k : Int32, 0 ≤ k.toInt → k.toInt ≤ 6 → vp_in (i + k) L) (hS : SR bb tx rw sb tn mo) (hG : gS g A s H locs (gW g bb tx rw sb dy tn mo jk)) (hl : lv_has ls 4 [(0, .ref b), (1, .ref (gA g 0)), (2, .ref (gA g 58)), (3, .int i)])
    (kk : ∀ (bb : Ob) (tx rw : Nat → Ob) (sb dy : Ob) (tn : Nat → Ob) (mo : Ob) (jk : Nat → Nat → Int32) (H : Heap) (locs : List Loc), SR bb tx rw sb tn mo → gS g A s H locs (gW g bb tx rw sb dy tn mo jk) → W p l e room_1 s m #[Value.ref b] below meth c H locs 600000 7302250 Q (F0 m 1375 ls [])) :
    W p l e room_1 s m #[Value.ref b] below meth c H locs 600000 7302250 Q (F0 m 872 ls []) := by
  have hT := hS.1
  have hE := s_nerves hS (xs (Int32.toNatClampNeg (i + 1))) (xs (Int32.toNatClampNeg (i + 2))) (xs (Int32.toNatClampNeg (i + 3)))
  refine lv_aload_n hx hb dL_law_872 rfl (lv_at hl 1 rfl) ?_
  refine lv_aload_n hx hb dL_law_873 rfl (lv_at hl 0 rfl) ?_
  refine lv_iload_n hx hb dL_law_874 rfl (lv_at hl 3 rfl) ?_
  refine lv_iconst (v := 1) hx hb dL_law_875 (by decide) ?_
  refine lv_iadd hx hb dL_law_876 ?_
  refine va_sld hx hb hX hbl hbA hG.2.2.2 (hi 1 (by decide) (by decide)) dL_law_877 ?_
  refine lv_aload_n hx hb dL_law_878 rfl (lv_at hl 0 rfl) ?_
  refine lv_iload_n hx hb dL_law_879 rfl (lv_at hl 3 rfl) ?_
  refine lv_iconst (v := 2) hx hb dL_law_880 (by decide) ?_
  refine lv_iadd hx hb dL_law_881 ?_
  refine va_sld hx hb hX hbl hbA hG.2.2.2 (hi 2 (by decide) (by decide)) dL_law_882 ?_
  refine lv_aload_n hx hb dL_law_883 rfl (lv_at hl 0 rfl) ?_
  refine lv_iload_n hx hb dL_law_884 rfl (lv_at hl 3 rfl) ?_
  refine lv_iconst (v := 3) hx hb dL_law_885 (by decide) ?_
  refine lv_iadd hx hb dL_law_886 ?_
  refine va_sld hx hb hX hbl hbA hG.2.2.2 (hi 3 (by decide) (by decide)) dL_law_887 ?_
  refine g_ci (g_runV (n := 3) (rest := []) hx hb hml hown hts hG (c_X5_nerves (xs (Int32.toNatClampNeg (i + 1))) (xs (Int32.toNatClampNeg (i + 2))) (xs (Int32.toNatClampNeg (i + 3))) hT.tEv) tw_ml_RL_107 tw_im_X5_nerves tw_se_X5_nerves tw_in_RX5 tw_cd_X5_nerves (by decide +kernel) ⟨rfl, rfl, Nat.le_of_ble_eq_true rfl, Nat.le_of_ble_eq_true rfl⟩ gw_Bell rfl rfl hl.1 rfl (Nat.le_of_ble_eq_true rfl) dL_law_888 ⟨Nat.le_of_ble_eq_true rfl, Nat.le_of_ble_eq_true rfl⟩) hG hA (fun r u H locs hp hG => ?_)
  rw [hp] at hE
  refine lv_aload_n hx hb dL_law_891 rfl (lv_at hl 2 rfl) ?_
  refine lv_aload_n hx hb dL_law_892 rfl (lv_at hl 0 rfl) ?_
  refine lv_iload_n hx hb dL_law_893 rfl (lv_at hl 3 rfl) ?_
  refine lv_iconst (v := 1) hx hb dL_law_894 (by decide) ?_
  refine lv_iadd hx hb dL_law_895 ?_
  refine va_sld hx hb hX hbl hbA hG.2.2.2 (hi 1 (by decide) (by decide)) dL_law_896 ?_
  refine lv_aload_n hx hb dL_law_897 rfl (lv_at hl 0 rfl) ?_
  refine lv_iload_n hx hb dL_law_898 rfl (lv_at hl 3 rfl) ?_
  refine lv_iconst (v := 2) hx hb dL_law_899 (by decide) ?_
  refine lv_iadd hx hb dL_law_900 ?_
  refine va_sld hx hb hX hbl hbA hG.2.2.2 (hi 2 (by decide) (by decide)) dL_law_901 ?_
  refine lv_aload_n hx hb dL_law_902 rfl (lv_at hl 0 rfl) ?_
  refine lv_iload_n hx hb dL_law_903 rfl (lv_at hl 3 rfl) ?_
  refine lv_iconst (v := 3) hx hb dL_law_904 (by decide) ?_
  refine lv_iadd hx hb dL_law_905 ?_
  refine va_sld hx hb hX hbl hbA hG.2.2.2 (hi 3 (by decide) (by decide)) dL_law_906 ?_
  refine g_ci (g_runV (n := 3) (rest := [.int r]) hx hb hml hown hts hG (c_X6_nerves (xs (Int32.toNatClampNeg (i + 1))) (xs (Int32.toNatClampNeg (i + 2))) (xs (Int32.toNatClampNeg (i + 3))) hT.mEv) tw_ml_RL_110 tw_im_X6_nerves tw_se_X6_nerves tw_in_RX6 tw_cd_X6_nerves (by decide +kernel) ⟨rfl, rfl, Nat.le_of_ble_eq_true rfl, Nat.le_of_ble_eq_true rfl⟩ gw_Model rfl rfl hl.1 rfl (Nat.le_of_ble_eq_true rfl) dL_law_907 ⟨Nat.le_of_ble_eq_true rfl, Nat.le_of_ble_eq_true rfl⟩) hG hA (fun r2 u2 H locs hq hG => ?_)
  rw [hq] at hE
  refine lv_icmp_eq (tgt := 1375) hx hb dL_law_910 (by decide) (fun _ => ?_) (fun c => absurd hE.1 c)
  exact kk _ _ _ _ _ _ _ _ _ _ ((hS.tn1 u.1).sM hE.2) hG
set_option maxHeartbeats 4000000 in
set_option maxRecDepth 100000 in
theorem lc_turned {p : Program} {l : Launch} {e : Env} {s : State} {m : MethodId} {below : List Frame} {meth : Method} {c : Code} {H : Heap} {locs : List Loc} {Q : State → Prop} {ls : Array Slot} {A : Nat → Prop} {g : GG} {b L : Nat} {xs : Nat → Int32} {i : Int32} {bb : Ob} {tx rw : Nat → Ob} {sb dy : Ob} {tn : Nat → Ob} {mo : Ob} {jk : Nat → Nat → Int32} (hx : p.tables.exec = Jvm.exec) (hb : c.code = cL_law) (hml : c.maxLocals = 4) (hts : ∀ w ∈ TT, w.before #[Value.ref b] s = true) (hown : s.vm.findClass RL = some m.cls) (hA : ∀ q, s.heap.size ≤ q → A q) (hX : va_X b L xs s s.heap) (hbl : b < s.heap.size) (hbA : ¬ A b) (hi : ∀ k : Int32, 0 ≤ k.toInt → k.toInt ≤ 6 → vp_in (i + k) L) (hS : SR bb tx rw sb tn mo) (hG : gS g A s H locs (gW g bb tx rw sb dy tn mo jk)) (hl : lv_has ls 4 [(0, .ref b), (1, .ref (gA g 0)), (2, .ref (gA g 58)), (3, .int i)])
    (kk : ∀ (bb : Ob) (tx rw : Nat → Ob) (sb dy : Ob) (tn : Nat → Ob) (mo : Ob) (jk : Nat → Nat → Int32) (H : Heap) (locs : List Loc), SR bb tx rw sb tn mo → gS g A s H locs (gW g bb tx rw sb dy tn mo jk) → W p l e room_1 s m #[Value.ref b] below meth c H locs 600000 7302250 Q (F0 m 1375 ls [])) :
    W p l e room_1 s m #[Value.ref b] below meth c H locs 600000 7302250 Q (F0 m 915 ls []) := by
  have hT := hS.1
  have hE := s_turned hS (xs (Int32.toNatClampNeg (i + 1)))
  refine lv_aload_n hx hb dL_law_915 rfl (lv_at hl 1 rfl) ?_
  refine lv_aload_n hx hb dL_law_916 rfl (lv_at hl 0 rfl) ?_
  refine lv_iload_n hx hb dL_law_917 rfl (lv_at hl 3 rfl) ?_
  refine lv_iconst (v := 1) hx hb dL_law_918 (by decide) ?_
  refine lv_iadd hx hb dL_law_919 ?_
  refine va_sld hx hb hX hbl hbA hG.2.2.2 (hi 1 (by decide) (by decide)) dL_law_920 ?_
  refine g_ci (g_runV (n := 1) (rest := []) hx hb hml hown hts hG (c_X5_turned (xs (Int32.toNatClampNeg (i + 1))) hT.tEv) tw_ml_RL_111 tw_im_X5_turned tw_se_X5_turned tw_in_RX5 tw_cd_X5_turned (by decide +kernel) ⟨rfl, rfl, Nat.le_of_ble_eq_true rfl, Nat.le_of_ble_eq_true rfl⟩ gw_Bell rfl rfl hl.1 rfl (Nat.le_of_ble_eq_true rfl) dL_law_921 ⟨Nat.le_of_ble_eq_true rfl, Nat.le_of_ble_eq_true rfl⟩) hG hA (fun r u H locs hp hG => ?_)
  rw [hp] at hE
  refine lv_aload_n hx hb dL_law_924 rfl (lv_at hl 2 rfl) ?_
  refine lv_aload_n hx hb dL_law_925 rfl (lv_at hl 0 rfl) ?_
  refine lv_iload_n hx hb dL_law_926 rfl (lv_at hl 3 rfl) ?_
  refine lv_iconst (v := 1) hx hb dL_law_927 (by decide) ?_
  refine lv_iadd hx hb dL_law_928 ?_
  refine va_sld hx hb hX hbl hbA hG.2.2.2 (hi 1 (by decide) (by decide)) dL_law_929 ?_
  refine g_ci (g_runV (n := 1) (rest := [.int r]) hx hb hml hown hts hG (c_X6_turned (xs (Int32.toNatClampNeg (i + 1))) hT.mEv) tw_ml_RL_114 tw_im_X6_turned tw_se_X6_turned tw_in_RX6 tw_cd_X6_turned (by decide +kernel) ⟨rfl, rfl, Nat.le_of_ble_eq_true rfl, Nat.le_of_ble_eq_true rfl⟩ gw_Model rfl rfl hl.1 rfl (Nat.le_of_ble_eq_true rfl) dL_law_930 ⟨Nat.le_of_ble_eq_true rfl, Nat.le_of_ble_eq_true rfl⟩) hG hA (fun r2 u2 H locs hq hG => ?_)
  rw [hq] at hE
  refine lv_icmp_eq (tgt := 1375) hx hb dL_law_933 (by decide) (fun _ => ?_) (fun c => absurd hE.1 c)
  exact kk _ _ _ _ _ _ _ _ _ _ ((hS.tn1 u.1).sM hE.2) hG
set_option maxHeartbeats 4000000 in
set_option maxRecDepth 100000 in
theorem lc_hours {p : Program} {l : Launch} {e : Env} {s : State} {m : MethodId} {below : List Frame} {meth : Method} {c : Code} {H : Heap} {locs : List Loc} {Q : State → Prop} {ls : Array Slot} {A : Nat → Prop} {g : GG} {b L : Nat} {xs : Nat → Int32} {i : Int32} {bb : Ob} {tx rw : Nat → Ob} {sb dy : Ob} {tn : Nat → Ob} {mo : Ob} {jk : Nat → Nat → Int32} (hx : p.tables.exec = Jvm.exec) (hb : c.code = cL_law) (hml : c.maxLocals = 4) (hts : ∀ w ∈ TT, w.before #[Value.ref b] s = true) (hown : s.vm.findClass RL = some m.cls) (hA : ∀ q, s.heap.size ≤ q → A q) (hX : va_X b L xs s s.heap) (hbl : b < s.heap.size) (hbA : ¬ A b) (hi : ∀ k : Int32, 0 ≤ k.toInt → k.toInt ≤ 6 → vp_in (i + k) L) (hS : SR bb tx rw sb tn mo) (hG : gS g A s H locs (gW g bb tx rw sb dy tn mo jk)) (hl : lv_has ls 4 [(0, .ref b), (1, .ref (gA g 0)), (2, .ref (gA g 58)), (3, .int i)])
    (kk : ∀ (bb : Ob) (tx rw : Nat → Ob) (sb dy : Ob) (tn : Nat → Ob) (mo : Ob) (jk : Nat → Nat → Int32) (H : Heap) (locs : List Loc), SR bb tx rw sb tn mo → gS g A s H locs (gW g bb tx rw sb dy tn mo jk) → W p l e room_1 s m #[Value.ref b] below meth c H locs 600000 7302250 Q (F0 m 1375 ls [])) :
    W p l e room_1 s m #[Value.ref b] below meth c H locs 600000 7302250 Q (F0 m 938 ls []) := by
  have hT := hS.1
  have hE := s_hours hS (xs (Int32.toNatClampNeg (i + 1)))
  refine lv_aload_n hx hb dL_law_938 rfl (lv_at hl 1 rfl) ?_
  refine lv_aload_n hx hb dL_law_939 rfl (lv_at hl 0 rfl) ?_
  refine lv_iload_n hx hb dL_law_940 rfl (lv_at hl 3 rfl) ?_
  refine lv_iconst (v := 1) hx hb dL_law_941 (by decide) ?_
  refine lv_iadd hx hb dL_law_942 ?_
  refine va_sld hx hb hX hbl hbA hG.2.2.2 (hi 1 (by decide) (by decide)) dL_law_943 ?_
  refine g_ci (g_runV (n := 1) (rest := []) hx hb hml hown hts hG (c_X5_hours (xs (Int32.toNatClampNeg (i + 1))) hT.tEv) tw_ml_RL_115 tw_im_X5_hours tw_se_X5_hours tw_in_RX5 tw_cd_X5_hours (by decide +kernel) ⟨rfl, rfl, Nat.le_of_ble_eq_true rfl, Nat.le_of_ble_eq_true rfl⟩ gw_Bell rfl rfl hl.1 rfl (Nat.le_of_ble_eq_true rfl) dL_law_944 ⟨Nat.le_of_ble_eq_true rfl, Nat.le_of_ble_eq_true rfl⟩) hG hA (fun r u H locs hp hG => ?_)
  rw [hp] at hE
  refine lv_aload_n hx hb dL_law_947 rfl (lv_at hl 2 rfl) ?_
  refine lv_aload_n hx hb dL_law_948 rfl (lv_at hl 0 rfl) ?_
  refine lv_iload_n hx hb dL_law_949 rfl (lv_at hl 3 rfl) ?_
  refine lv_iconst (v := 1) hx hb dL_law_950 (by decide) ?_
  refine lv_iadd hx hb dL_law_951 ?_
  refine va_sld hx hb hX hbl hbA hG.2.2.2 (hi 1 (by decide) (by decide)) dL_law_952 ?_
  refine g_ci (g_runV (n := 1) (rest := [.int r]) hx hb hml hown hts hG (c_X6_hours (xs (Int32.toNatClampNeg (i + 1))) hT.mEv) tw_ml_RL_118 tw_im_X6_hours tw_se_X6_hours tw_in_RX6 tw_cd_X6_hours (by decide +kernel) ⟨rfl, rfl, Nat.le_of_ble_eq_true rfl, Nat.le_of_ble_eq_true rfl⟩ gw_Model rfl rfl hl.1 rfl (Nat.le_of_ble_eq_true rfl) dL_law_953 ⟨Nat.le_of_ble_eq_true rfl, Nat.le_of_ble_eq_true rfl⟩) hG hA (fun r2 u2 H locs hq hG => ?_)
  rw [hq] at hE
  refine lv_icmp_eq (tgt := 1375) hx hb dL_law_956 (by decide) (fun _ => ?_) (fun c => absurd hE.1 c)
  exact kk _ _ _ _ _ _ _ _ _ _ ((hS.tn1 u.1).sM hE.2) hG
set_option maxHeartbeats 4000000 in
set_option maxRecDepth 100000 in
theorem lc_laws {p : Program} {l : Launch} {e : Env} {s : State} {m : MethodId} {below : List Frame} {meth : Method} {c : Code} {H : Heap} {locs : List Loc} {Q : State → Prop} {ls : Array Slot} {A : Nat → Prop} {g : GG} {b L : Nat} {xs : Nat → Int32} {i : Int32} {bb : Ob} {tx rw : Nat → Ob} {sb dy : Ob} {tn : Nat → Ob} {mo : Ob} {jk : Nat → Nat → Int32} (hx : p.tables.exec = Jvm.exec) (hb : c.code = cL_law) (hml : c.maxLocals = 4) (hts : ∀ w ∈ TT, w.before #[Value.ref b] s = true) (hown : s.vm.findClass RL = some m.cls) (hA : ∀ q, s.heap.size ≤ q → A q) (hX : va_X b L xs s s.heap) (hbl : b < s.heap.size) (hbA : ¬ A b) (hi : ∀ k : Int32, 0 ≤ k.toInt → k.toInt ≤ 6 → vp_in (i + k) L) (hS : SR bb tx rw sb tn mo) (hG : gS g A s H locs (gW g bb tx rw sb dy tn mo jk)) (hl : lv_has ls 4 [(0, .ref b), (1, .ref (gA g 0)), (2, .ref (gA g 58)), (3, .int i)])
    (kk : ∀ (bb : Ob) (tx rw : Nat → Ob) (sb dy : Ob) (tn : Nat → Ob) (mo : Ob) (jk : Nat → Nat → Int32) (H : Heap) (locs : List Loc), SR bb tx rw sb tn mo → gS g A s H locs (gW g bb tx rw sb dy tn mo jk) → W p l e room_1 s m #[Value.ref b] below meth c H locs 600000 7302250 Q (F0 m 1375 ls [])) :
    W p l e room_1 s m #[Value.ref b] below meth c H locs 600000 7302250 Q (F0 m 961 ls []) := by
  have hT := hS.1
  have hE := s_laws hS (xs (Int32.toNatClampNeg (i + 1)))
  refine lv_aload_n hx hb dL_law_961 rfl (lv_at hl 1 rfl) ?_
  refine lv_aload_n hx hb dL_law_962 rfl (lv_at hl 0 rfl) ?_
  refine lv_iload_n hx hb dL_law_963 rfl (lv_at hl 3 rfl) ?_
  refine lv_iconst (v := 1) hx hb dL_law_964 (by decide) ?_
  refine lv_iadd hx hb dL_law_965 ?_
  refine va_sld hx hb hX hbl hbA hG.2.2.2 (hi 1 (by decide) (by decide)) dL_law_966 ?_
  refine g_ci (g_runV (n := 1) (rest := []) hx hb hml hown hts hG (c_X5_laws (xs (Int32.toNatClampNeg (i + 1))) hT.tEv hS.hxs) tw_ml_RL_119 tw_im_X5_laws tw_se_X5_laws tw_in_RX5 tw_cd_X5_laws (by decide +kernel) ⟨rfl, rfl, Nat.le_of_ble_eq_true rfl, Nat.le_of_ble_eq_true rfl⟩ gw_Bell rfl rfl hl.1 rfl (Nat.le_of_ble_eq_true rfl) dL_law_967 ⟨Nat.le_of_ble_eq_true rfl, Nat.le_of_ble_eq_true rfl⟩) hG hA (fun r u H locs hp hG => ?_)
  rw [hp] at hE
  refine lv_aload_n hx hb dL_law_970 rfl (lv_at hl 2 rfl) ?_
  refine lv_aload_n hx hb dL_law_971 rfl (lv_at hl 0 rfl) ?_
  refine lv_iload_n hx hb dL_law_972 rfl (lv_at hl 3 rfl) ?_
  refine lv_iconst (v := 1) hx hb dL_law_973 (by decide) ?_
  refine lv_iadd hx hb dL_law_974 ?_
  refine va_sld hx hb hX hbl hbA hG.2.2.2 (hi 1 (by decide) (by decide)) dL_law_975 ?_
  refine g_ci (g_runV (n := 1) (rest := [.int r]) hx hb hml hown hts hG (c_X6_laws (xs (Int32.toNatClampNeg (i + 1))) hS.lEv) tw_ml_RL_122 tw_im_X6_laws tw_se_X6_laws tw_in_RX6 tw_cd_X6_laws (by decide +kernel) ⟨rfl, rfl, Nat.le_of_ble_eq_true rfl, Nat.le_of_ble_eq_true rfl⟩ gw_Model rfl rfl hl.1 rfl (Nat.le_of_ble_eq_true rfl) dL_law_976 ⟨Nat.le_of_ble_eq_true rfl, Nat.le_of_ble_eq_true rfl⟩) hG hA (fun r2 u2 H locs hq hG => ?_)
  rw [hq] at hE
  refine lv_icmp_eq (tgt := 1375) hx hb dL_law_979 (by decide) (fun _ => ?_) (fun c => absurd hE.1 c)
  exact kk _ _ _ _ _ _ _ _ _ _ ((hS.tn1 u.1).sM hE.2) hG
set_option maxHeartbeats 4000000 in
set_option maxRecDepth 100000 in
theorem lc_film {p : Program} {l : Launch} {e : Env} {s : State} {m : MethodId} {below : List Frame} {meth : Method} {c : Code} {H : Heap} {locs : List Loc} {Q : State → Prop} {ls : Array Slot} {A : Nat → Prop} {g : GG} {b L : Nat} {xs : Nat → Int32} {i : Int32} {bb : Ob} {tx rw : Nat → Ob} {sb dy : Ob} {tn : Nat → Ob} {mo : Ob} {jk : Nat → Nat → Int32} (hx : p.tables.exec = Jvm.exec) (hb : c.code = cL_law) (hml : c.maxLocals = 4) (hts : ∀ w ∈ TT, w.before #[Value.ref b] s = true) (hown : s.vm.findClass RL = some m.cls) (hA : ∀ q, s.heap.size ≤ q → A q) (hX : va_X b L xs s s.heap) (hbl : b < s.heap.size) (hbA : ¬ A b) (hi : ∀ k : Int32, 0 ≤ k.toInt → k.toInt ≤ 6 → vp_in (i + k) L) (hS : SR bb tx rw sb tn mo) (hG : gS g A s H locs (gW g bb tx rw sb dy tn mo jk)) (hl : lv_has ls 4 [(0, .ref b), (1, .ref (gA g 0)), (2, .ref (gA g 58)), (3, .int i)])
    (kk : ∀ (bb : Ob) (tx rw : Nat → Ob) (sb dy : Ob) (tn : Nat → Ob) (mo : Ob) (jk : Nat → Nat → Int32) (H : Heap) (locs : List Loc), SR bb tx rw sb tn mo → gS g A s H locs (gW g bb tx rw sb dy tn mo jk) → W p l e room_1 s m #[Value.ref b] below meth c H locs 600000 7302250 Q (F0 m 1375 ls [])) :
    W p l e room_1 s m #[Value.ref b] below meth c H locs 600000 7302250 Q (F0 m 984 ls []) := by
  have hT := hS.1
  have hE := s_film hS (xs (Int32.toNatClampNeg (i + 1))) (xs (Int32.toNatClampNeg (i + 2)))
  refine lv_aload_n hx hb dL_law_984 rfl (lv_at hl 1 rfl) ?_
  refine lv_aload_n hx hb dL_law_985 rfl (lv_at hl 0 rfl) ?_
  refine lv_iload_n hx hb dL_law_986 rfl (lv_at hl 3 rfl) ?_
  refine lv_iconst (v := 1) hx hb dL_law_987 (by decide) ?_
  refine lv_iadd hx hb dL_law_988 ?_
  refine va_sld hx hb hX hbl hbA hG.2.2.2 (hi 1 (by decide) (by decide)) dL_law_989 ?_
  refine lv_aload_n hx hb dL_law_990 rfl (lv_at hl 0 rfl) ?_
  refine lv_iload_n hx hb dL_law_991 rfl (lv_at hl 3 rfl) ?_
  refine lv_iconst (v := 2) hx hb dL_law_992 (by decide) ?_
  refine lv_iadd hx hb dL_law_993 ?_
  refine va_sld hx hb hX hbl hbA hG.2.2.2 (hi 2 (by decide) (by decide)) dL_law_994 ?_
  refine g_ci (g_runV (n := 2) (rest := []) hx hb hml hown hts hG (c_X5_film (xs (Int32.toNatClampNeg (i + 1))) (xs (Int32.toNatClampNeg (i + 2))) hT.tEv) tw_ml_RL_123 tw_im_X5_film tw_se_X5_film tw_in_RX5 tw_cd_X5_film (by decide +kernel) ⟨rfl, rfl, Nat.le_of_ble_eq_true rfl, Nat.le_of_ble_eq_true rfl⟩ gw_Bell rfl rfl hl.1 rfl (Nat.le_of_ble_eq_true rfl) dL_law_995 ⟨Nat.le_of_ble_eq_true rfl, Nat.le_of_ble_eq_true rfl⟩) hG hA (fun r u H locs hp hG => ?_)
  rw [hp] at hE
  refine lv_aload_n hx hb dL_law_998 rfl (lv_at hl 2 rfl) ?_
  refine lv_aload_n hx hb dL_law_999 rfl (lv_at hl 0 rfl) ?_
  refine lv_iload_n hx hb dL_law_1000 rfl (lv_at hl 3 rfl) ?_
  refine lv_iconst (v := 1) hx hb dL_law_1001 (by decide) ?_
  refine lv_iadd hx hb dL_law_1002 ?_
  refine va_sld hx hb hX hbl hbA hG.2.2.2 (hi 1 (by decide) (by decide)) dL_law_1003 ?_
  refine lv_aload_n hx hb dL_law_1004 rfl (lv_at hl 0 rfl) ?_
  refine lv_iload_n hx hb dL_law_1005 rfl (lv_at hl 3 rfl) ?_
  refine lv_iconst (v := 2) hx hb dL_law_1006 (by decide) ?_
  refine lv_iadd hx hb dL_law_1007 ?_
  refine va_sld hx hb hX hbl hbA hG.2.2.2 (hi 2 (by decide) (by decide)) dL_law_1008 ?_
  refine g_ci (g_runV (n := 2) (rest := [.int r]) hx hb hml hown hts hG (c_X6_film (xs (Int32.toNatClampNeg (i + 1))) (xs (Int32.toNatClampNeg (i + 2))) hT.mEv) tw_ml_RL_126 tw_im_X6_film tw_se_X6_film tw_in_RX6 tw_cd_X6_film (by decide +kernel) ⟨rfl, rfl, Nat.le_of_ble_eq_true rfl, Nat.le_of_ble_eq_true rfl⟩ gw_Model rfl rfl hl.1 rfl (Nat.le_of_ble_eq_true rfl) dL_law_1009 ⟨Nat.le_of_ble_eq_true rfl, Nat.le_of_ble_eq_true rfl⟩) hG hA (fun r2 u2 H locs hq hG => ?_)
  rw [hq] at hE
  refine lv_icmp_eq (tgt := 1375) hx hb dL_law_1012 (by decide) (fun _ => ?_) (fun c => absurd hE.1 c)
  exact kk _ _ _ _ _ _ _ _ _ _ (SR.tn1 hE.2 u.2.1) hG
set_option maxHeartbeats 4000000 in
set_option maxRecDepth 100000 in
theorem lc_drawn {p : Program} {l : Launch} {e : Env} {s : State} {m : MethodId} {below : List Frame} {meth : Method} {c : Code} {H : Heap} {locs : List Loc} {Q : State → Prop} {ls : Array Slot} {A : Nat → Prop} {g : GG} {b L : Nat} {xs : Nat → Int32} {i : Int32} {bb : Ob} {tx rw : Nat → Ob} {sb dy : Ob} {tn : Nat → Ob} {mo : Ob} {jk : Nat → Nat → Int32} (hx : p.tables.exec = Jvm.exec) (hb : c.code = cL_law) (hml : c.maxLocals = 4) (hts : ∀ w ∈ TT, w.before #[Value.ref b] s = true) (hown : s.vm.findClass RL = some m.cls) (hA : ∀ q, s.heap.size ≤ q → A q) (hX : va_X b L xs s s.heap) (hbl : b < s.heap.size) (hbA : ¬ A b) (hi : ∀ k : Int32, 0 ≤ k.toInt → k.toInt ≤ 6 → vp_in (i + k) L) (hS : SR bb tx rw sb tn mo) (hG : gS g A s H locs (gW g bb tx rw sb dy tn mo jk)) (hl : lv_has ls 4 [(0, .ref b), (1, .ref (gA g 0)), (2, .ref (gA g 58)), (3, .int i)])
    (kk : ∀ (bb : Ob) (tx rw : Nat → Ob) (sb dy : Ob) (tn : Nat → Ob) (mo : Ob) (jk : Nat → Nat → Int32) (H : Heap) (locs : List Loc), SR bb tx rw sb tn mo → gS g A s H locs (gW g bb tx rw sb dy tn mo jk) → W p l e room_1 s m #[Value.ref b] below meth c H locs 600000 7302250 Q (F0 m 1375 ls [])) :
    W p l e room_1 s m #[Value.ref b] below meth c H locs 600000 7302250 Q (F0 m 1017 ls []) := by
  have hT := hS.1
  have hE := s_drawn hS (xs (Int32.toNatClampNeg (i + 1))) (xs (Int32.toNatClampNeg (i + 2))) (xs (Int32.toNatClampNeg (i + 3)))
  refine lv_aload_n hx hb dL_law_1017 rfl (lv_at hl 1 rfl) ?_
  refine lv_aload_n hx hb dL_law_1018 rfl (lv_at hl 0 rfl) ?_
  refine lv_iload_n hx hb dL_law_1019 rfl (lv_at hl 3 rfl) ?_
  refine lv_iconst (v := 1) hx hb dL_law_1020 (by decide) ?_
  refine lv_iadd hx hb dL_law_1021 ?_
  refine va_sld hx hb hX hbl hbA hG.2.2.2 (hi 1 (by decide) (by decide)) dL_law_1022 ?_
  refine lv_aload_n hx hb dL_law_1023 rfl (lv_at hl 0 rfl) ?_
  refine lv_iload_n hx hb dL_law_1024 rfl (lv_at hl 3 rfl) ?_
  refine lv_iconst (v := 2) hx hb dL_law_1025 (by decide) ?_
  refine lv_iadd hx hb dL_law_1026 ?_
  refine va_sld hx hb hX hbl hbA hG.2.2.2 (hi 2 (by decide) (by decide)) dL_law_1027 ?_
  refine lv_aload_n hx hb dL_law_1028 rfl (lv_at hl 0 rfl) ?_
  refine lv_iload_n hx hb dL_law_1029 rfl (lv_at hl 3 rfl) ?_
  refine lv_iconst (v := 3) hx hb dL_law_1030 (by decide) ?_
  refine lv_iadd hx hb dL_law_1031 ?_
  refine va_sld hx hb hX hbl hbA hG.2.2.2 (hi 3 (by decide) (by decide)) dL_law_1032 ?_
  refine g_ci (g_runV (n := 3) (rest := []) hx hb hml hown hts hG (c_X5_drawn (xs (Int32.toNatClampNeg (i + 1))) (xs (Int32.toNatClampNeg (i + 2))) (xs (Int32.toNatClampNeg (i + 3))) hT.tEv) tw_ml_RL_127 tw_im_X5_drawn tw_se_X5_drawn tw_in_RX5 tw_cd_X5_drawn (by decide +kernel) ⟨rfl, rfl, Nat.le_of_ble_eq_true rfl, Nat.le_of_ble_eq_true rfl⟩ gw_Bell rfl rfl hl.1 rfl (Nat.le_of_ble_eq_true rfl) dL_law_1033 ⟨Nat.le_of_ble_eq_true rfl, Nat.le_of_ble_eq_true rfl⟩) hG hA (fun r u H locs hp hG => ?_)
  rw [hp] at hE
  refine lv_aload_n hx hb dL_law_1036 rfl (lv_at hl 2 rfl) ?_
  refine lv_aload_n hx hb dL_law_1037 rfl (lv_at hl 0 rfl) ?_
  refine lv_iload_n hx hb dL_law_1038 rfl (lv_at hl 3 rfl) ?_
  refine lv_iconst (v := 1) hx hb dL_law_1039 (by decide) ?_
  refine lv_iadd hx hb dL_law_1040 ?_
  refine va_sld hx hb hX hbl hbA hG.2.2.2 (hi 1 (by decide) (by decide)) dL_law_1041 ?_
  refine lv_aload_n hx hb dL_law_1042 rfl (lv_at hl 0 rfl) ?_
  refine lv_iload_n hx hb dL_law_1043 rfl (lv_at hl 3 rfl) ?_
  refine lv_iconst (v := 2) hx hb dL_law_1044 (by decide) ?_
  refine lv_iadd hx hb dL_law_1045 ?_
  refine va_sld hx hb hX hbl hbA hG.2.2.2 (hi 2 (by decide) (by decide)) dL_law_1046 ?_
  refine lv_aload_n hx hb dL_law_1047 rfl (lv_at hl 0 rfl) ?_
  refine lv_iload_n hx hb dL_law_1048 rfl (lv_at hl 3 rfl) ?_
  refine lv_iconst (v := 3) hx hb dL_law_1049 (by decide) ?_
  refine lv_iadd hx hb dL_law_1050 ?_
  refine va_sld hx hb hX hbl hbA hG.2.2.2 (hi 3 (by decide) (by decide)) dL_law_1051 ?_
  refine g_ci (g_runV (n := 3) (rest := [.int r]) hx hb hml hown hts hG (c_X6_drawn (xs (Int32.toNatClampNeg (i + 1))) (xs (Int32.toNatClampNeg (i + 2))) (xs (Int32.toNatClampNeg (i + 3))) hT.mEv) tw_ml_RL_130 tw_im_X6_drawn tw_se_X6_drawn tw_in_RX6 tw_cd_X6_drawn (by decide +kernel) ⟨rfl, rfl, Nat.le_of_ble_eq_true rfl, Nat.le_of_ble_eq_true rfl⟩ gw_Model rfl rfl hl.1 rfl (Nat.le_of_ble_eq_true rfl) dL_law_1052 ⟨Nat.le_of_ble_eq_true rfl, Nat.le_of_ble_eq_true rfl⟩) hG hA (fun r2 u2 H locs hq hG => ?_)
  rw [hq] at hE
  refine lv_icmp_eq (tgt := 1375) hx hb dL_law_1055 (by decide) (fun _ => ?_) (fun c => absurd hE.1 c)
  exact kk _ _ _ _ _ _ _ _ _ _ ((hS.tn1 u.1).sM hE.2) hG
set_option maxHeartbeats 4000000 in
set_option maxRecDepth 100000 in
theorem lc_odds {p : Program} {l : Launch} {e : Env} {s : State} {m : MethodId} {below : List Frame} {meth : Method} {c : Code} {H : Heap} {locs : List Loc} {Q : State → Prop} {ls : Array Slot} {A : Nat → Prop} {g : GG} {b L : Nat} {xs : Nat → Int32} {i : Int32} {bb : Ob} {tx rw : Nat → Ob} {sb dy : Ob} {tn : Nat → Ob} {mo : Ob} {jk : Nat → Nat → Int32} (hx : p.tables.exec = Jvm.exec) (hb : c.code = cL_law) (hml : c.maxLocals = 4) (hts : ∀ w ∈ TT, w.before #[Value.ref b] s = true) (hown : s.vm.findClass RL = some m.cls) (hA : ∀ q, s.heap.size ≤ q → A q) (hX : va_X b L xs s s.heap) (hbl : b < s.heap.size) (hbA : ¬ A b) (hi : ∀ k : Int32, 0 ≤ k.toInt → k.toInt ≤ 6 → vp_in (i + k) L) (hS : SR bb tx rw sb tn mo) (hG : gS g A s H locs (gW g bb tx rw sb dy tn mo jk)) (hl : lv_has ls 4 [(0, .ref b), (1, .ref (gA g 0)), (2, .ref (gA g 58)), (3, .int i)])
    (kk : ∀ (bb : Ob) (tx rw : Nat → Ob) (sb dy : Ob) (tn : Nat → Ob) (mo : Ob) (jk : Nat → Nat → Int32) (H : Heap) (locs : List Loc), SR bb tx rw sb tn mo → gS g A s H locs (gW g bb tx rw sb dy tn mo jk) → W p l e room_1 s m #[Value.ref b] below meth c H locs 600000 7302250 Q (F0 m 1375 ls [])) :
    W p l e room_1 s m #[Value.ref b] below meth c H locs 600000 7302250 Q (F0 m 1060 ls []) := by
  have hT := hS.1
  have hE := s_odds hS (xs (Int32.toNatClampNeg (i + 1))) (xs (Int32.toNatClampNeg (i + 2))) (xs (Int32.toNatClampNeg (i + 3))) (xs (Int32.toNatClampNeg (i + 4)))
  refine lv_aload_n hx hb dL_law_1060 rfl (lv_at hl 1 rfl) ?_
  refine lv_aload_n hx hb dL_law_1061 rfl (lv_at hl 0 rfl) ?_
  refine lv_iload_n hx hb dL_law_1062 rfl (lv_at hl 3 rfl) ?_
  refine lv_iconst (v := 1) hx hb dL_law_1063 (by decide) ?_
  refine lv_iadd hx hb dL_law_1064 ?_
  refine va_sld hx hb hX hbl hbA hG.2.2.2 (hi 1 (by decide) (by decide)) dL_law_1065 ?_
  refine lv_aload_n hx hb dL_law_1066 rfl (lv_at hl 0 rfl) ?_
  refine lv_iload_n hx hb dL_law_1067 rfl (lv_at hl 3 rfl) ?_
  refine lv_iconst (v := 2) hx hb dL_law_1068 (by decide) ?_
  refine lv_iadd hx hb dL_law_1069 ?_
  refine va_sld hx hb hX hbl hbA hG.2.2.2 (hi 2 (by decide) (by decide)) dL_law_1070 ?_
  refine lv_aload_n hx hb dL_law_1071 rfl (lv_at hl 0 rfl) ?_
  refine lv_iload_n hx hb dL_law_1072 rfl (lv_at hl 3 rfl) ?_
  refine lv_iconst (v := 3) hx hb dL_law_1073 (by decide) ?_
  refine lv_iadd hx hb dL_law_1074 ?_
  refine va_sld hx hb hX hbl hbA hG.2.2.2 (hi 3 (by decide) (by decide)) dL_law_1075 ?_
  refine lv_aload_n hx hb dL_law_1076 rfl (lv_at hl 0 rfl) ?_
  refine lv_iload_n hx hb dL_law_1077 rfl (lv_at hl 3 rfl) ?_
  refine lv_iconst (v := 4) hx hb dL_law_1078 (by decide) ?_
  refine lv_iadd hx hb dL_law_1079 ?_
  refine va_sld hx hb hX hbl hbA hG.2.2.2 (hi 4 (by decide) (by decide)) dL_law_1080 ?_
  refine g_cl (g_runV (n := 4) (rest := []) hx hb hml hown hts hG (c_X5_odds (xs (Int32.toNatClampNeg (i + 1))) (xs (Int32.toNatClampNeg (i + 2))) (xs (Int32.toNatClampNeg (i + 3))) (xs (Int32.toNatClampNeg (i + 4))) hT.tEv) tw_ml_RL_131 tw_im_X5_odds tw_se_X5_odds tw_in_RX5 tw_cd_X5_odds (by decide +kernel) ⟨rfl, rfl, Nat.le_of_ble_eq_true rfl, Nat.le_of_ble_eq_true rfl⟩ gw_Bell rfl rfl hl.1 rfl (Nat.le_of_ble_eq_true rfl) dL_law_1081 ⟨Nat.le_of_ble_eq_true rfl, Nat.le_of_ble_eq_true rfl⟩) hG hA (fun r u H locs hp hG => ?_)
  rw [hp] at hE
  refine lv_aload_n hx hb dL_law_1084 rfl (lv_at hl 2 rfl) ?_
  refine lv_aload_n hx hb dL_law_1085 rfl (lv_at hl 0 rfl) ?_
  refine lv_iload_n hx hb dL_law_1086 rfl (lv_at hl 3 rfl) ?_
  refine lv_iconst (v := 1) hx hb dL_law_1087 (by decide) ?_
  refine lv_iadd hx hb dL_law_1088 ?_
  refine va_sld hx hb hX hbl hbA hG.2.2.2 (hi 1 (by decide) (by decide)) dL_law_1089 ?_
  refine lv_aload_n hx hb dL_law_1090 rfl (lv_at hl 0 rfl) ?_
  refine lv_iload_n hx hb dL_law_1091 rfl (lv_at hl 3 rfl) ?_
  refine lv_iconst (v := 2) hx hb dL_law_1092 (by decide) ?_
  refine lv_iadd hx hb dL_law_1093 ?_
  refine va_sld hx hb hX hbl hbA hG.2.2.2 (hi 2 (by decide) (by decide)) dL_law_1094 ?_
  refine lv_aload_n hx hb dL_law_1095 rfl (lv_at hl 0 rfl) ?_
  refine lv_iload_n hx hb dL_law_1096 rfl (lv_at hl 3 rfl) ?_
  refine lv_iconst (v := 3) hx hb dL_law_1097 (by decide) ?_
  refine lv_iadd hx hb dL_law_1098 ?_
  refine va_sld hx hb hX hbl hbA hG.2.2.2 (hi 3 (by decide) (by decide)) dL_law_1099 ?_
  refine lv_aload_n hx hb dL_law_1100 rfl (lv_at hl 0 rfl) ?_
  refine lv_iload_n hx hb dL_law_1101 rfl (lv_at hl 3 rfl) ?_
  refine lv_iconst (v := 4) hx hb dL_law_1102 (by decide) ?_
  refine lv_iadd hx hb dL_law_1103 ?_
  refine va_sld hx hb hX hbl hbA hG.2.2.2 (hi 4 (by decide) (by decide)) dL_law_1104 ?_
  refine g_cl (g_runV (n := 4) (rest := [.long r]) hx hb hml hown hts hG (c_X6_odds (xs (Int32.toNatClampNeg (i + 1))) (xs (Int32.toNatClampNeg (i + 2))) (xs (Int32.toNatClampNeg (i + 3))) (xs (Int32.toNatClampNeg (i + 4))) hT.mEv) tw_ml_RL_135 tw_im_X6_odds tw_se_X6_odds tw_in_RX6 tw_cd_X6_odds (by decide +kernel) ⟨rfl, rfl, Nat.le_of_ble_eq_true rfl, Nat.le_of_ble_eq_true rfl⟩ gw_Model rfl rfl hl.1 rfl (Nat.le_of_ble_eq_true rfl) dL_law_1105 ⟨Nat.le_of_ble_eq_true rfl, Nat.le_of_ble_eq_true rfl⟩) hG hA (fun r2 u2 H locs hq hG => ?_)
  rw [hq] at hE
  refine W.lcmp hx hb dL_law_1108 ?_
  refine lv_if_eq (tgt := 1375) hx hb dL_law_1109 (by decide) (fun _ => ?_) (fun c => absurd (lg_same _ _ hE.1) c)
  exact kk _ _ _ _ _ _ _ _ _ _ ((hS.tn1 u.1).sM hE.2) hG
set_option maxHeartbeats 4000000 in
set_option maxRecDepth 100000 in
theorem lc_image {p : Program} {l : Launch} {e : Env} {s : State} {m : MethodId} {below : List Frame} {meth : Method} {c : Code} {H : Heap} {locs : List Loc} {Q : State → Prop} {ls : Array Slot} {A : Nat → Prop} {g : GG} {b L : Nat} {xs : Nat → Int32} {i : Int32} {bb : Ob} {tx rw : Nat → Ob} {sb dy : Ob} {tn : Nat → Ob} {mo : Ob} {jk : Nat → Nat → Int32} (hx : p.tables.exec = Jvm.exec) (hb : c.code = cL_law) (hml : c.maxLocals = 4) (hts : ∀ w ∈ TT, w.before #[Value.ref b] s = true) (hown : s.vm.findClass RL = some m.cls) (hA : ∀ q, s.heap.size ≤ q → A q) (hX : va_X b L xs s s.heap) (hbl : b < s.heap.size) (hbA : ¬ A b) (hi : ∀ k : Int32, 0 ≤ k.toInt → k.toInt ≤ 6 → vp_in (i + k) L) (hS : SR bb tx rw sb tn mo) (hG : gS g A s H locs (gW g bb tx rw sb dy tn mo jk)) (hl : lv_has ls 4 [(0, .ref b), (1, .ref (gA g 0)), (2, .ref (gA g 58)), (3, .int i)])
    (kk : ∀ (bb : Ob) (tx rw : Nat → Ob) (sb dy : Ob) (tn : Nat → Ob) (mo : Ob) (jk : Nat → Nat → Int32) (H : Heap) (locs : List Loc), SR bb tx rw sb tn mo → gS g A s H locs (gW g bb tx rw sb dy tn mo jk) → W p l e room_1 s m #[Value.ref b] below meth c H locs 600000 7302250 Q (F0 m 1375 ls [])) :
    W p l e room_1 s m #[Value.ref b] below meth c H locs 600000 7302250 Q (F0 m 1114 ls []) := by
  have hT := hS.1
  have hE := s_image hS 
  refine lv_aload_n hx hb dL_law_1114 rfl (lv_at hl 1 rfl) ?_
  refine g_ci (g_runV (n := 0) (rest := []) hx hb hml hown hts hG (c_X5_image hT.tEv.2.1) tw_ml_RL_136 tw_im_X5_image tw_se_X5_image tw_in_RX5 tw_cd_X5_image (by decide +kernel) ⟨rfl, rfl, Nat.le_of_ble_eq_true rfl, Nat.le_of_ble_eq_true rfl⟩ gw_Bell rfl rfl hl.1 rfl (Nat.le_of_ble_eq_true rfl) dL_law_1115 ⟨Nat.le_of_ble_eq_true rfl, Nat.le_of_ble_eq_true rfl⟩) hG hA (fun r u H locs hp hG => ?_)
  rw [hp] at hE
  refine lv_aload_n hx hb dL_law_1118 rfl (lv_at hl 2 rfl) ?_
  refine g_ci (g_runV (n := 0) (rest := [.int r]) hx hb hml hown hts hG (c_X6_image) tw_ml_RL_139 tw_im_X6_image tw_se_X6_image tw_in_RX6 tw_cd_X6_image (by decide +kernel) ⟨rfl, rfl, Nat.le_of_ble_eq_true rfl, Nat.le_of_ble_eq_true rfl⟩ gw_Model rfl rfl hl.1 rfl (Nat.le_of_ble_eq_true rfl) dL_law_1119 ⟨Nat.le_of_ble_eq_true rfl, Nat.le_of_ble_eq_true rfl⟩) hG hA (fun r2 u2 H locs hq hG => ?_)
  rw [hq] at hE
  refine lv_icmp_eq (tgt := 1375) hx hb dL_law_1122 (by decide) (fun _ => ?_) (fun c => absurd hE.1 c)
  exact kk _ _ _ _ _ _ _ _ _ _ (hE.2) hG
set_option maxHeartbeats 4000000 in
set_option maxRecDepth 100000 in
theorem lc_back {p : Program} {l : Launch} {e : Env} {s : State} {m : MethodId} {below : List Frame} {meth : Method} {c : Code} {H : Heap} {locs : List Loc} {Q : State → Prop} {ls : Array Slot} {A : Nat → Prop} {g : GG} {b L : Nat} {xs : Nat → Int32} {i : Int32} {bb : Ob} {tx rw : Nat → Ob} {sb dy : Ob} {tn : Nat → Ob} {mo : Ob} {jk : Nat → Nat → Int32} (hx : p.tables.exec = Jvm.exec) (hb : c.code = cL_law) (hml : c.maxLocals = 4) (hts : ∀ w ∈ TT, w.before #[Value.ref b] s = true) (hown : s.vm.findClass RL = some m.cls) (hA : ∀ q, s.heap.size ≤ q → A q) (hX : va_X b L xs s s.heap) (hbl : b < s.heap.size) (hbA : ¬ A b) (hi : ∀ k : Int32, 0 ≤ k.toInt → k.toInt ≤ 6 → vp_in (i + k) L) (hS : SR bb tx rw sb tn mo) (hG : gS g A s H locs (gW g bb tx rw sb dy tn mo jk)) (hl : lv_has ls 4 [(0, .ref b), (1, .ref (gA g 0)), (2, .ref (gA g 58)), (3, .int i)])
    (kk : ∀ (bb : Ob) (tx rw : Nat → Ob) (sb dy : Ob) (tn : Nat → Ob) (mo : Ob) (jk : Nat → Nat → Int32) (H : Heap) (locs : List Loc), SR bb tx rw sb tn mo → gS g A s H locs (gW g bb tx rw sb dy tn mo jk) → W p l e room_1 s m #[Value.ref b] below meth c H locs 600000 7302250 Q (F0 m 1375 ls [])) :
    W p l e room_1 s m #[Value.ref b] below meth c H locs 600000 7302250 Q (F0 m 1127 ls []) := by
  have hT := hS.1
  have hE := s_back hS 
  refine lv_aload_n hx hb dL_law_1127 rfl (lv_at hl 1 rfl) ?_
  refine g_ci (g_runV (n := 0) (rest := []) hx hb hml hown hts hG (c_X5_back hS.2.2.1.2.1) tw_ml_RL_140 tw_im_X5_back tw_se_X5_back tw_in_RX5 tw_cd_X5_back (by decide +kernel) ⟨rfl, rfl, Nat.le_of_ble_eq_true rfl, Nat.le_of_ble_eq_true rfl⟩ gw_Bell rfl rfl hl.1 rfl (Nat.le_of_ble_eq_true rfl) dL_law_1128 ⟨Nat.le_of_ble_eq_true rfl, Nat.le_of_ble_eq_true rfl⟩) hG hA (fun r u H locs hp hG => ?_)
  rw [hp] at hE
  refine lv_aload_n hx hb dL_law_1131 rfl (lv_at hl 2 rfl) ?_
  refine g_ci (g_runV (n := 0) (rest := [.int r]) hx hb hml hown hts hG (c_X6_back) tw_ml_RL_143 tw_im_X6_back tw_se_X6_back tw_in_RX6 tw_cd_X6_back (by decide +kernel) ⟨rfl, rfl, Nat.le_of_ble_eq_true rfl, Nat.le_of_ble_eq_true rfl⟩ gw_Model rfl rfl hl.1 rfl (Nat.le_of_ble_eq_true rfl) dL_law_1132 ⟨Nat.le_of_ble_eq_true rfl, Nat.le_of_ble_eq_true rfl⟩) hG hA (fun r2 u2 H locs hq hG => ?_)
  rw [hq] at hE
  refine lv_icmp_eq (tgt := 1375) hx hb dL_law_1135 (by decide) (fun _ => ?_) (fun c => absurd hE.1 c)
  exact kk _ _ _ _ _ _ _ _ _ _ (hE.2) hG
set_option maxHeartbeats 4000000 in
set_option maxRecDepth 100000 in
theorem lc_sheet {p : Program} {l : Launch} {e : Env} {s : State} {m : MethodId} {below : List Frame} {meth : Method} {c : Code} {H : Heap} {locs : List Loc} {Q : State → Prop} {ls : Array Slot} {A : Nat → Prop} {g : GG} {b L : Nat} {xs : Nat → Int32} {i : Int32} {bb : Ob} {tx rw : Nat → Ob} {sb dy : Ob} {tn : Nat → Ob} {mo : Ob} {jk : Nat → Nat → Int32} (hx : p.tables.exec = Jvm.exec) (hb : c.code = cL_law) (hml : c.maxLocals = 4) (hts : ∀ w ∈ TT, w.before #[Value.ref b] s = true) (hown : s.vm.findClass RL = some m.cls) (hA : ∀ q, s.heap.size ≤ q → A q) (hX : va_X b L xs s s.heap) (hbl : b < s.heap.size) (hbA : ¬ A b) (hi : ∀ k : Int32, 0 ≤ k.toInt → k.toInt ≤ 6 → vp_in (i + k) L) (hS : SR bb tx rw sb tn mo) (hG : gS g A s H locs (gW g bb tx rw sb dy tn mo jk)) (hl : lv_has ls 4 [(0, .ref b), (1, .ref (gA g 0)), (2, .ref (gA g 58)), (3, .int i)])
    (kk : ∀ (bb : Ob) (tx rw : Nat → Ob) (sb dy : Ob) (tn : Nat → Ob) (mo : Ob) (jk : Nat → Nat → Int32) (H : Heap) (locs : List Loc), SR bb tx rw sb tn mo → gS g A s H locs (gW g bb tx rw sb dy tn mo jk) → W p l e room_1 s m #[Value.ref b] below meth c H locs 600000 7302250 Q (F0 m 1375 ls [])) :
    W p l e room_1 s m #[Value.ref b] below meth c H locs 600000 7302250 Q (F0 m 1140 ls []) := by
  have hT := hS.1
  have hE := s_sheet hS (xs (Int32.toNatClampNeg (i + 1))) (xs (Int32.toNatClampNeg (i + 2))) (xs (Int32.toNatClampNeg (i + 3)))
  refine lv_aload_n hx hb dL_law_1140 rfl (lv_at hl 1 rfl) ?_
  refine lv_aload_n hx hb dL_law_1141 rfl (lv_at hl 0 rfl) ?_
  refine lv_iload_n hx hb dL_law_1142 rfl (lv_at hl 3 rfl) ?_
  refine lv_iconst (v := 1) hx hb dL_law_1143 (by decide) ?_
  refine lv_iadd hx hb dL_law_1144 ?_
  refine va_sld hx hb hX hbl hbA hG.2.2.2 (hi 1 (by decide) (by decide)) dL_law_1145 ?_
  refine lv_aload_n hx hb dL_law_1146 rfl (lv_at hl 0 rfl) ?_
  refine lv_iload_n hx hb dL_law_1147 rfl (lv_at hl 3 rfl) ?_
  refine lv_iconst (v := 2) hx hb dL_law_1148 (by decide) ?_
  refine lv_iadd hx hb dL_law_1149 ?_
  refine va_sld hx hb hX hbl hbA hG.2.2.2 (hi 2 (by decide) (by decide)) dL_law_1150 ?_
  refine lv_aload_n hx hb dL_law_1151 rfl (lv_at hl 0 rfl) ?_
  refine lv_iload_n hx hb dL_law_1152 rfl (lv_at hl 3 rfl) ?_
  refine lv_iconst (v := 3) hx hb dL_law_1153 (by decide) ?_
  refine lv_iadd hx hb dL_law_1154 ?_
  refine va_sld hx hb hX hbl hbA hG.2.2.2 (hi 3 (by decide) (by decide)) dL_law_1155 ?_
  refine g_ci (g_runV (n := 3) (rest := []) hx hb hml hown hts hG (c_X5_sheet (xs (Int32.toNatClampNeg (i + 1))) (xs (Int32.toNatClampNeg (i + 2))) (xs (Int32.toNatClampNeg (i + 3)))) tw_ml_RL_144 tw_im_X5_sheet tw_se_X5_sheet tw_in_RX5 tw_cd_X5_sheet (by decide +kernel) ⟨rfl, rfl, Nat.le_of_ble_eq_true rfl, Nat.le_of_ble_eq_true rfl⟩ gw_Bell rfl rfl hl.1 rfl (Nat.le_of_ble_eq_true rfl) dL_law_1156 ⟨Nat.le_of_ble_eq_true rfl, Nat.le_of_ble_eq_true rfl⟩) hG hA (fun r u H locs hp hG => ?_)
  rw [hp] at hE
  refine lv_aload_n hx hb dL_law_1159 rfl (lv_at hl 2 rfl) ?_
  refine lv_aload_n hx hb dL_law_1160 rfl (lv_at hl 0 rfl) ?_
  refine lv_iload_n hx hb dL_law_1161 rfl (lv_at hl 3 rfl) ?_
  refine lv_iconst (v := 1) hx hb dL_law_1162 (by decide) ?_
  refine lv_iadd hx hb dL_law_1163 ?_
  refine va_sld hx hb hX hbl hbA hG.2.2.2 (hi 1 (by decide) (by decide)) dL_law_1164 ?_
  refine lv_aload_n hx hb dL_law_1165 rfl (lv_at hl 0 rfl) ?_
  refine lv_iload_n hx hb dL_law_1166 rfl (lv_at hl 3 rfl) ?_
  refine lv_iconst (v := 2) hx hb dL_law_1167 (by decide) ?_
  refine lv_iadd hx hb dL_law_1168 ?_
  refine va_sld hx hb hX hbl hbA hG.2.2.2 (hi 2 (by decide) (by decide)) dL_law_1169 ?_
  refine lv_aload_n hx hb dL_law_1170 rfl (lv_at hl 0 rfl) ?_
  refine lv_iload_n hx hb dL_law_1171 rfl (lv_at hl 3 rfl) ?_
  refine lv_iconst (v := 3) hx hb dL_law_1172 (by decide) ?_
  refine lv_iadd hx hb dL_law_1173 ?_
  refine va_sld hx hb hX hbl hbA hG.2.2.2 (hi 3 (by decide) (by decide)) dL_law_1174 ?_
  refine g_ci (g_runV (n := 3) (rest := [.int r]) hx hb hml hown hts hG (c_X6_sheet (xs (Int32.toNatClampNeg (i + 1))) (xs (Int32.toNatClampNeg (i + 2))) (xs (Int32.toNatClampNeg (i + 3)))) tw_ml_RL_147 tw_im_X6_sheet tw_se_X6_sheet tw_in_RX6 tw_cd_X6_sheet (by decide +kernel) ⟨rfl, rfl, Nat.le_of_ble_eq_true rfl, Nat.le_of_ble_eq_true rfl⟩ gw_Model rfl rfl hl.1 rfl (Nat.le_of_ble_eq_true rfl) dL_law_1175 ⟨Nat.le_of_ble_eq_true rfl, Nat.le_of_ble_eq_true rfl⟩) hG hA (fun r2 u2 H locs hq hG => ?_)
  rw [hq] at hE
  refine lv_icmp_eq (tgt := 1375) hx hb dL_law_1178 (by decide) (fun _ => ?_) (fun c => absurd hE.1 c)
  exact kk _ _ _ _ _ _ _ _ _ _ (hE.2) hG
set_option maxHeartbeats 4000000 in
set_option maxRecDepth 100000 in
theorem lc_cell {p : Program} {l : Launch} {e : Env} {s : State} {m : MethodId} {below : List Frame} {meth : Method} {c : Code} {H : Heap} {locs : List Loc} {Q : State → Prop} {ls : Array Slot} {A : Nat → Prop} {g : GG} {b L : Nat} {xs : Nat → Int32} {i : Int32} {bb : Ob} {tx rw : Nat → Ob} {sb dy : Ob} {tn : Nat → Ob} {mo : Ob} {jk : Nat → Nat → Int32} (hx : p.tables.exec = Jvm.exec) (hb : c.code = cL_law) (hml : c.maxLocals = 4) (hts : ∀ w ∈ TT, w.before #[Value.ref b] s = true) (hown : s.vm.findClass RL = some m.cls) (hA : ∀ q, s.heap.size ≤ q → A q) (hX : va_X b L xs s s.heap) (hbl : b < s.heap.size) (hbA : ¬ A b) (hi : ∀ k : Int32, 0 ≤ k.toInt → k.toInt ≤ 6 → vp_in (i + k) L) (hS : SR bb tx rw sb tn mo) (hG : gS g A s H locs (gW g bb tx rw sb dy tn mo jk)) (hl : lv_has ls 4 [(0, .ref b), (1, .ref (gA g 0)), (2, .ref (gA g 58)), (3, .int i)])
    (kk : ∀ (bb : Ob) (tx rw : Nat → Ob) (sb dy : Ob) (tn : Nat → Ob) (mo : Ob) (jk : Nat → Nat → Int32) (H : Heap) (locs : List Loc), SR bb tx rw sb tn mo → gS g A s H locs (gW g bb tx rw sb dy tn mo jk) → W p l e room_1 s m #[Value.ref b] below meth c H locs 600000 7302250 Q (F0 m 1375 ls [])) :
    W p l e room_1 s m #[Value.ref b] below meth c H locs 600000 7302250 Q (F0 m 1183 ls []) := by
  have hT := hS.1
  have hE := s_cell hS (xs (Int32.toNatClampNeg (i + 1))) (xs (Int32.toNatClampNeg (i + 2))) (xs (Int32.toNatClampNeg (i + 3)))
  refine lv_aload_n hx hb dL_law_1183 rfl (lv_at hl 1 rfl) ?_
  refine lv_aload_n hx hb dL_law_1184 rfl (lv_at hl 0 rfl) ?_
  refine lv_iload_n hx hb dL_law_1185 rfl (lv_at hl 3 rfl) ?_
  refine lv_iconst (v := 1) hx hb dL_law_1186 (by decide) ?_
  refine lv_iadd hx hb dL_law_1187 ?_
  refine va_sld hx hb hX hbl hbA hG.2.2.2 (hi 1 (by decide) (by decide)) dL_law_1188 ?_
  refine lv_aload_n hx hb dL_law_1189 rfl (lv_at hl 0 rfl) ?_
  refine lv_iload_n hx hb dL_law_1190 rfl (lv_at hl 3 rfl) ?_
  refine lv_iconst (v := 2) hx hb dL_law_1191 (by decide) ?_
  refine lv_iadd hx hb dL_law_1192 ?_
  refine va_sld hx hb hX hbl hbA hG.2.2.2 (hi 2 (by decide) (by decide)) dL_law_1193 ?_
  refine lv_aload_n hx hb dL_law_1194 rfl (lv_at hl 0 rfl) ?_
  refine lv_iload_n hx hb dL_law_1195 rfl (lv_at hl 3 rfl) ?_
  refine lv_iconst (v := 3) hx hb dL_law_1196 (by decide) ?_
  refine lv_iadd hx hb dL_law_1197 ?_
  refine va_sld hx hb hX hbl hbA hG.2.2.2 (hi 3 (by decide) (by decide)) dL_law_1198 ?_
  refine g_ci (g_runV (n := 3) (rest := []) hx hb hml hown hts hG (c_X5_cell (xs (Int32.toNatClampNeg (i + 1))) (xs (Int32.toNatClampNeg (i + 2))) (xs (Int32.toNatClampNeg (i + 3)))) tw_ml_RL_148 tw_im_X5_cell tw_se_X5_cell tw_in_RX5 tw_cd_X5_cell (by decide +kernel) ⟨rfl, rfl, Nat.le_of_ble_eq_true rfl, Nat.le_of_ble_eq_true rfl⟩ gw_Bell rfl rfl hl.1 rfl (Nat.le_of_ble_eq_true rfl) dL_law_1199 ⟨Nat.le_of_ble_eq_true rfl, Nat.le_of_ble_eq_true rfl⟩) hG hA (fun r u H locs hp hG => ?_)
  rw [hp] at hE
  refine lv_aload_n hx hb dL_law_1202 rfl (lv_at hl 2 rfl) ?_
  refine lv_aload_n hx hb dL_law_1203 rfl (lv_at hl 0 rfl) ?_
  refine lv_iload_n hx hb dL_law_1204 rfl (lv_at hl 3 rfl) ?_
  refine lv_iconst (v := 1) hx hb dL_law_1205 (by decide) ?_
  refine lv_iadd hx hb dL_law_1206 ?_
  refine va_sld hx hb hX hbl hbA hG.2.2.2 (hi 1 (by decide) (by decide)) dL_law_1207 ?_
  refine lv_aload_n hx hb dL_law_1208 rfl (lv_at hl 0 rfl) ?_
  refine lv_iload_n hx hb dL_law_1209 rfl (lv_at hl 3 rfl) ?_
  refine lv_iconst (v := 2) hx hb dL_law_1210 (by decide) ?_
  refine lv_iadd hx hb dL_law_1211 ?_
  refine va_sld hx hb hX hbl hbA hG.2.2.2 (hi 2 (by decide) (by decide)) dL_law_1212 ?_
  refine lv_aload_n hx hb dL_law_1213 rfl (lv_at hl 0 rfl) ?_
  refine lv_iload_n hx hb dL_law_1214 rfl (lv_at hl 3 rfl) ?_
  refine lv_iconst (v := 3) hx hb dL_law_1215 (by decide) ?_
  refine lv_iadd hx hb dL_law_1216 ?_
  refine va_sld hx hb hX hbl hbA hG.2.2.2 (hi 3 (by decide) (by decide)) dL_law_1217 ?_
  refine g_ci (g_runV (n := 3) (rest := [.int r]) hx hb hml hown hts hG (c_X6_cell (xs (Int32.toNatClampNeg (i + 1))) (xs (Int32.toNatClampNeg (i + 2))) (xs (Int32.toNatClampNeg (i + 3))) hS.hsz) tw_ml_RL_151 tw_im_X6_cell tw_se_X6_cell tw_in_RX6 tw_cd_X6_cell (by decide +kernel) ⟨rfl, rfl, Nat.le_of_ble_eq_true rfl, Nat.le_of_ble_eq_true rfl⟩ gw_Model rfl rfl hl.1 rfl (Nat.le_of_ble_eq_true rfl) dL_law_1218 ⟨Nat.le_of_ble_eq_true rfl, Nat.le_of_ble_eq_true rfl⟩) hG hA (fun r2 u2 H locs hq hG => ?_)
  rw [hq] at hE
  refine lv_icmp_eq (tgt := 1375) hx hb dL_law_1221 (by decide) (fun _ => ?_) (fun c => absurd hE.1 c)
  exact kk _ _ _ _ _ _ _ _ _ _ (hE.2) hG
set_option maxHeartbeats 4000000 in
set_option maxRecDepth 100000 in
theorem lc_copy {p : Program} {l : Launch} {e : Env} {s : State} {m : MethodId} {below : List Frame} {meth : Method} {c : Code} {H : Heap} {locs : List Loc} {Q : State → Prop} {ls : Array Slot} {A : Nat → Prop} {g : GG} {b L : Nat} {xs : Nat → Int32} {i : Int32} {bb : Ob} {tx rw : Nat → Ob} {sb dy : Ob} {tn : Nat → Ob} {mo : Ob} {jk : Nat → Nat → Int32} (hx : p.tables.exec = Jvm.exec) (hb : c.code = cL_law) (hml : c.maxLocals = 4) (hts : ∀ w ∈ TT, w.before #[Value.ref b] s = true) (hown : s.vm.findClass RL = some m.cls) (hA : ∀ q, s.heap.size ≤ q → A q) (hX : va_X b L xs s s.heap) (hbl : b < s.heap.size) (hbA : ¬ A b) (hi : ∀ k : Int32, 0 ≤ k.toInt → k.toInt ≤ 6 → vp_in (i + k) L) (hS : SR bb tx rw sb tn mo) (hG : gS g A s H locs (gW g bb tx rw sb dy tn mo jk)) (hl : lv_has ls 4 [(0, .ref b), (1, .ref (gA g 0)), (2, .ref (gA g 58)), (3, .int i)])
    (kk : ∀ (bb : Ob) (tx rw : Nat → Ob) (sb dy : Ob) (tn : Nat → Ob) (mo : Ob) (jk : Nat → Nat → Int32) (H : Heap) (locs : List Loc), SR bb tx rw sb tn mo → gS g A s H locs (gW g bb tx rw sb dy tn mo jk) → W p l e room_1 s m #[Value.ref b] below meth c H locs 600000 7302250 Q (F0 m 1375 ls [])) :
    W p l e room_1 s m #[Value.ref b] below meth c H locs 600000 7302250 Q (F0 m 1226 ls []) := by
  have hT := hS.1
  have hE := s_copy hS (xs (Int32.toNatClampNeg (i + 1))) (xs (Int32.toNatClampNeg (i + 2))) (xs (Int32.toNatClampNeg (i + 3))) (xs (Int32.toNatClampNeg (i + 4))) (xs (Int32.toNatClampNeg (i + 5)))
  refine lv_aload_n hx hb dL_law_1226 rfl (lv_at hl 1 rfl) ?_
  refine lv_aload_n hx hb dL_law_1227 rfl (lv_at hl 0 rfl) ?_
  refine lv_iload_n hx hb dL_law_1228 rfl (lv_at hl 3 rfl) ?_
  refine lv_iconst (v := 1) hx hb dL_law_1229 (by decide) ?_
  refine lv_iadd hx hb dL_law_1230 ?_
  refine va_sld hx hb hX hbl hbA hG.2.2.2 (hi 1 (by decide) (by decide)) dL_law_1231 ?_
  refine lv_aload_n hx hb dL_law_1232 rfl (lv_at hl 0 rfl) ?_
  refine lv_iload_n hx hb dL_law_1233 rfl (lv_at hl 3 rfl) ?_
  refine lv_iconst (v := 2) hx hb dL_law_1234 (by decide) ?_
  refine lv_iadd hx hb dL_law_1235 ?_
  refine va_sld hx hb hX hbl hbA hG.2.2.2 (hi 2 (by decide) (by decide)) dL_law_1236 ?_
  refine lv_aload_n hx hb dL_law_1237 rfl (lv_at hl 0 rfl) ?_
  refine lv_iload_n hx hb dL_law_1238 rfl (lv_at hl 3 rfl) ?_
  refine lv_iconst (v := 3) hx hb dL_law_1239 (by decide) ?_
  refine lv_iadd hx hb dL_law_1240 ?_
  refine va_sld hx hb hX hbl hbA hG.2.2.2 (hi 3 (by decide) (by decide)) dL_law_1241 ?_
  refine lv_aload_n hx hb dL_law_1242 rfl (lv_at hl 0 rfl) ?_
  refine lv_iload_n hx hb dL_law_1243 rfl (lv_at hl 3 rfl) ?_
  refine lv_iconst (v := 4) hx hb dL_law_1244 (by decide) ?_
  refine lv_iadd hx hb dL_law_1245 ?_
  refine va_sld hx hb hX hbl hbA hG.2.2.2 (hi 4 (by decide) (by decide)) dL_law_1246 ?_
  refine lv_aload_n hx hb dL_law_1247 rfl (lv_at hl 0 rfl) ?_
  refine lv_iload_n hx hb dL_law_1248 rfl (lv_at hl 3 rfl) ?_
  refine lv_iconst (v := 5) hx hb dL_law_1249 (by decide) ?_
  refine lv_iadd hx hb dL_law_1250 ?_
  refine va_sld hx hb hX hbl hbA hG.2.2.2 (hi 5 (by decide) (by decide)) dL_law_1251 ?_
  refine g_ci (g_runV (n := 5) (rest := []) hx hb hml hown hts hG (c_X5_copy (xs (Int32.toNatClampNeg (i + 1))) (xs (Int32.toNatClampNeg (i + 2))) (xs (Int32.toNatClampNeg (i + 3))) (xs (Int32.toNatClampNeg (i + 4))) (xs (Int32.toNatClampNeg (i + 5))) hS.hrw) tw_ml_RL_152 tw_im_X5_copy tw_se_X5_copy tw_in_RX5 tw_cd_X5_copy (by decide +kernel) ⟨rfl, rfl, Nat.le_of_ble_eq_true rfl, Nat.le_of_ble_eq_true rfl⟩ gw_Bell rfl rfl hl.1 rfl (Nat.le_of_ble_eq_true rfl) dL_law_1252 ⟨Nat.le_of_ble_eq_true rfl, Nat.le_of_ble_eq_true rfl⟩) hG hA (fun r u H locs hp hG => ?_)
  rw [hp] at hE
  refine lv_aload_n hx hb dL_law_1255 rfl (lv_at hl 2 rfl) ?_
  refine lv_aload_n hx hb dL_law_1256 rfl (lv_at hl 0 rfl) ?_
  refine lv_iload_n hx hb dL_law_1257 rfl (lv_at hl 3 rfl) ?_
  refine lv_iconst (v := 1) hx hb dL_law_1258 (by decide) ?_
  refine lv_iadd hx hb dL_law_1259 ?_
  refine va_sld hx hb hX hbl hbA hG.2.2.2 (hi 1 (by decide) (by decide)) dL_law_1260 ?_
  refine lv_aload_n hx hb dL_law_1261 rfl (lv_at hl 0 rfl) ?_
  refine lv_iload_n hx hb dL_law_1262 rfl (lv_at hl 3 rfl) ?_
  refine lv_iconst (v := 2) hx hb dL_law_1263 (by decide) ?_
  refine lv_iadd hx hb dL_law_1264 ?_
  refine va_sld hx hb hX hbl hbA hG.2.2.2 (hi 2 (by decide) (by decide)) dL_law_1265 ?_
  refine lv_aload_n hx hb dL_law_1266 rfl (lv_at hl 0 rfl) ?_
  refine lv_iload_n hx hb dL_law_1267 rfl (lv_at hl 3 rfl) ?_
  refine lv_iconst (v := 3) hx hb dL_law_1268 (by decide) ?_
  refine lv_iadd hx hb dL_law_1269 ?_
  refine va_sld hx hb hX hbl hbA hG.2.2.2 (hi 3 (by decide) (by decide)) dL_law_1270 ?_
  refine lv_aload_n hx hb dL_law_1271 rfl (lv_at hl 0 rfl) ?_
  refine lv_iload_n hx hb dL_law_1272 rfl (lv_at hl 3 rfl) ?_
  refine lv_iconst (v := 4) hx hb dL_law_1273 (by decide) ?_
  refine lv_iadd hx hb dL_law_1274 ?_
  refine va_sld hx hb hX hbl hbA hG.2.2.2 (hi 4 (by decide) (by decide)) dL_law_1275 ?_
  refine lv_aload_n hx hb dL_law_1276 rfl (lv_at hl 0 rfl) ?_
  refine lv_iload_n hx hb dL_law_1277 rfl (lv_at hl 3 rfl) ?_
  refine lv_iconst (v := 5) hx hb dL_law_1278 (by decide) ?_
  refine lv_iadd hx hb dL_law_1279 ?_
  refine va_sld hx hb hX hbl hbA hG.2.2.2 (hi 5 (by decide) (by decide)) dL_law_1280 ?_
  refine g_ci (g_runV (n := 5) (rest := [.int r]) hx hb hml hown hts hG (c_X6_copy (xs (Int32.toNatClampNeg (i + 1))) (xs (Int32.toNatClampNeg (i + 2))) (xs (Int32.toNatClampNeg (i + 3))) (xs (Int32.toNatClampNeg (i + 4))) (xs (Int32.toNatClampNeg (i + 5))) hS.hsz) tw_ml_RL_156 tw_im_X6_copy tw_se_X6_copy tw_in_RX6 tw_cd_X6_copy (by decide +kernel) ⟨rfl, rfl, Nat.le_of_ble_eq_true rfl, Nat.le_of_ble_eq_true rfl⟩ gw_Model rfl rfl hl.1 rfl (Nat.le_of_ble_eq_true rfl) dL_law_1281 ⟨Nat.le_of_ble_eq_true rfl, Nat.le_of_ble_eq_true rfl⟩) hG hA (fun r2 u2 H locs hq hG => ?_)
  rw [hq] at hE
  refine lv_icmp_eq (tgt := 1375) hx hb dL_law_1284 (by decide) (fun _ => ?_) (fun c => absurd hE.1 c)
  exact kk _ _ _ _ _ _ _ _ _ _ (hE.2) hG
set_option maxHeartbeats 4000000 in
set_option maxRecDepth 100000 in
theorem lc_townBy {p : Program} {l : Launch} {e : Env} {s : State} {m : MethodId} {below : List Frame} {meth : Method} {c : Code} {H : Heap} {locs : List Loc} {Q : State → Prop} {ls : Array Slot} {A : Nat → Prop} {g : GG} {b L : Nat} {xs : Nat → Int32} {i : Int32} {bb : Ob} {tx rw : Nat → Ob} {sb dy : Ob} {tn : Nat → Ob} {mo : Ob} {jk : Nat → Nat → Int32} (hx : p.tables.exec = Jvm.exec) (hb : c.code = cL_law) (hml : c.maxLocals = 4) (hts : ∀ w ∈ TT, w.before #[Value.ref b] s = true) (hown : s.vm.findClass RL = some m.cls) (hA : ∀ q, s.heap.size ≤ q → A q) (hX : va_X b L xs s s.heap) (hbl : b < s.heap.size) (hbA : ¬ A b) (hi : ∀ k : Int32, 0 ≤ k.toInt → k.toInt ≤ 6 → vp_in (i + k) L) (hS : SR bb tx rw sb tn mo) (hG : gS g A s H locs (gW g bb tx rw sb dy tn mo jk)) (hl : lv_has ls 4 [(0, .ref b), (1, .ref (gA g 0)), (2, .ref (gA g 58)), (3, .int i)])
    (kk : ∀ (bb : Ob) (tx rw : Nat → Ob) (sb dy : Ob) (tn : Nat → Ob) (mo : Ob) (jk : Nat → Nat → Int32) (H : Heap) (locs : List Loc), SR bb tx rw sb tn mo → gS g A s H locs (gW g bb tx rw sb dy tn mo jk) → W p l e room_1 s m #[Value.ref b] below meth c H locs 600000 7302250 Q (F0 m 1375 ls [])) :
    W p l e room_1 s m #[Value.ref b] below meth c H locs 600000 7302250 Q (F0 m 1289 ls []) := by
  have hT := hS.1
  have hE := s_townBy hS (xs (Int32.toNatClampNeg (i + 1))) (xs (Int32.toNatClampNeg (i + 2))) (xs (Int32.toNatClampNeg (i + 3))) (xs (Int32.toNatClampNeg (i + 4)))
  refine lv_aload_n hx hb dL_law_1289 rfl (lv_at hl 1 rfl) ?_
  refine lv_aload_n hx hb dL_law_1290 rfl (lv_at hl 0 rfl) ?_
  refine lv_iload_n hx hb dL_law_1291 rfl (lv_at hl 3 rfl) ?_
  refine lv_iconst (v := 1) hx hb dL_law_1292 (by decide) ?_
  refine lv_iadd hx hb dL_law_1293 ?_
  refine va_sld hx hb hX hbl hbA hG.2.2.2 (hi 1 (by decide) (by decide)) dL_law_1294 ?_
  refine lv_aload_n hx hb dL_law_1295 rfl (lv_at hl 0 rfl) ?_
  refine lv_iload_n hx hb dL_law_1296 rfl (lv_at hl 3 rfl) ?_
  refine lv_iconst (v := 2) hx hb dL_law_1297 (by decide) ?_
  refine lv_iadd hx hb dL_law_1298 ?_
  refine va_sld hx hb hX hbl hbA hG.2.2.2 (hi 2 (by decide) (by decide)) dL_law_1299 ?_
  refine lv_aload_n hx hb dL_law_1300 rfl (lv_at hl 0 rfl) ?_
  refine lv_iload_n hx hb dL_law_1301 rfl (lv_at hl 3 rfl) ?_
  refine lv_iconst (v := 3) hx hb dL_law_1302 (by decide) ?_
  refine lv_iadd hx hb dL_law_1303 ?_
  refine va_sld hx hb hX hbl hbA hG.2.2.2 (hi 3 (by decide) (by decide)) dL_law_1304 ?_
  refine lv_aload_n hx hb dL_law_1305 rfl (lv_at hl 0 rfl) ?_
  refine lv_iload_n hx hb dL_law_1306 rfl (lv_at hl 3 rfl) ?_
  refine lv_iconst (v := 4) hx hb dL_law_1307 (by decide) ?_
  refine lv_iadd hx hb dL_law_1308 ?_
  refine va_sld hx hb hX hbl hbA hG.2.2.2 (hi 4 (by decide) (by decide)) dL_law_1309 ?_
  refine g_ci (g_runV (n := 4) (rest := []) hx hb hml hown hts hG (c_X5_townBy (xs (Int32.toNatClampNeg (i + 1))) (xs (Int32.toNatClampNeg (i + 2))) (xs (Int32.toNatClampNeg (i + 3))) (xs (Int32.toNatClampNeg (i + 4))) hS.hrw hS.t6) tw_ml_RL_157 tw_im_X5_townBy tw_se_X5_townBy tw_in_RX5 tw_cd_X5_townBy (by decide +kernel) ⟨rfl, rfl, Nat.le_of_ble_eq_true rfl, Nat.le_of_ble_eq_true rfl⟩ gw_Bell rfl rfl hl.1 rfl (Nat.le_of_ble_eq_true rfl) dL_law_1310 ⟨Nat.le_of_ble_eq_true rfl, Nat.le_of_ble_eq_true rfl⟩) hG hA (fun r u H locs hp hG => ?_)
  rw [hp] at hE
  refine lv_aload_n hx hb dL_law_1313 rfl (lv_at hl 2 rfl) ?_
  refine lv_aload_n hx hb dL_law_1314 rfl (lv_at hl 0 rfl) ?_
  refine lv_iload_n hx hb dL_law_1315 rfl (lv_at hl 3 rfl) ?_
  refine lv_iconst (v := 1) hx hb dL_law_1316 (by decide) ?_
  refine lv_iadd hx hb dL_law_1317 ?_
  refine va_sld hx hb hX hbl hbA hG.2.2.2 (hi 1 (by decide) (by decide)) dL_law_1318 ?_
  refine lv_aload_n hx hb dL_law_1319 rfl (lv_at hl 0 rfl) ?_
  refine lv_iload_n hx hb dL_law_1320 rfl (lv_at hl 3 rfl) ?_
  refine lv_iconst (v := 2) hx hb dL_law_1321 (by decide) ?_
  refine lv_iadd hx hb dL_law_1322 ?_
  refine va_sld hx hb hX hbl hbA hG.2.2.2 (hi 2 (by decide) (by decide)) dL_law_1323 ?_
  refine lv_aload_n hx hb dL_law_1324 rfl (lv_at hl 0 rfl) ?_
  refine lv_iload_n hx hb dL_law_1325 rfl (lv_at hl 3 rfl) ?_
  refine lv_iconst (v := 3) hx hb dL_law_1326 (by decide) ?_
  refine lv_iadd hx hb dL_law_1327 ?_
  refine va_sld hx hb hX hbl hbA hG.2.2.2 (hi 3 (by decide) (by decide)) dL_law_1328 ?_
  refine lv_aload_n hx hb dL_law_1329 rfl (lv_at hl 0 rfl) ?_
  refine lv_iload_n hx hb dL_law_1330 rfl (lv_at hl 3 rfl) ?_
  refine lv_iconst (v := 4) hx hb dL_law_1331 (by decide) ?_
  refine lv_iadd hx hb dL_law_1332 ?_
  refine va_sld hx hb hX hbl hbA hG.2.2.2 (hi 4 (by decide) (by decide)) dL_law_1333 ?_
  refine g_ci (g_runV (n := 4) (rest := [.int r]) hx hb hml hown hts hG (c_X6_townBy (xs (Int32.toNatClampNeg (i + 1))) (xs (Int32.toNatClampNeg (i + 2))) (xs (Int32.toNatClampNeg (i + 3))) (xs (Int32.toNatClampNeg (i + 4))) hS.hsz hT.1.2) tw_ml_RL_161 tw_im_X6_townBy tw_se_X6_townBy tw_in_RX6 tw_cd_X6_townBy (by decide +kernel) ⟨rfl, rfl, Nat.le_of_ble_eq_true rfl, Nat.le_of_ble_eq_true rfl⟩ gw_Model rfl rfl hl.1 rfl (Nat.le_of_ble_eq_true rfl) dL_law_1334 ⟨Nat.le_of_ble_eq_true rfl, Nat.le_of_ble_eq_true rfl⟩) hG hA (fun r2 u2 H locs hq hG => ?_)
  rw [hq] at hE
  refine lv_icmp_eq (tgt := 1375) hx hb dL_law_1337 (by decide) (fun _ => ?_) (fun c => absurd hE.1 c)
  exact kk _ _ _ _ _ _ _ _ _ _ (hE.2) hG
set_option maxHeartbeats 4000000 in
set_option maxRecDepth 100000 in
theorem lc_taken {p : Program} {l : Launch} {e : Env} {s : State} {m : MethodId} {below : List Frame} {meth : Method} {c : Code} {H : Heap} {locs : List Loc} {Q : State → Prop} {ls : Array Slot} {A : Nat → Prop} {g : GG} {b L : Nat} {xs : Nat → Int32} {i : Int32} {bb : Ob} {tx rw : Nat → Ob} {sb dy : Ob} {tn : Nat → Ob} {mo : Ob} {jk : Nat → Nat → Int32} (hx : p.tables.exec = Jvm.exec) (hb : c.code = cL_law) (hml : c.maxLocals = 4) (hts : ∀ w ∈ TT, w.before #[Value.ref b] s = true) (hown : s.vm.findClass RL = some m.cls) (hA : ∀ q, s.heap.size ≤ q → A q) (hX : va_X b L xs s s.heap) (hbl : b < s.heap.size) (hbA : ¬ A b) (hi : ∀ k : Int32, 0 ≤ k.toInt → k.toInt ≤ 6 → vp_in (i + k) L) (hS : SR bb tx rw sb tn mo) (hG : gS g A s H locs (gW g bb tx rw sb dy tn mo jk)) (hl : lv_has ls 4 [(0, .ref b), (1, .ref (gA g 0)), (2, .ref (gA g 58)), (3, .int i)])
    (kk : ∀ (bb : Ob) (tx rw : Nat → Ob) (sb dy : Ob) (tn : Nat → Ob) (mo : Ob) (jk : Nat → Nat → Int32) (H : Heap) (locs : List Loc), SR bb tx rw sb tn mo → gS g A s H locs (gW g bb tx rw sb dy tn mo jk) → W p l e room_1 s m #[Value.ref b] below meth c H locs 600000 7302250 Q (F0 m 1375 ls [])) :
    W p l e room_1 s m #[Value.ref b] below meth c H locs 600000 7302250 Q (F0 m 1342 ls []) := by
  have hT := hS.1
  have hE := s_taken hS (xs (Int32.toNatClampNeg (i + 1))) (xs (Int32.toNatClampNeg (i + 2)))
  refine lv_aload_n hx hb dL_law_1342 rfl (lv_at hl 1 rfl) ?_
  refine lv_aload_n hx hb dL_law_1343 rfl (lv_at hl 0 rfl) ?_
  refine lv_iload_n hx hb dL_law_1344 rfl (lv_at hl 3 rfl) ?_
  refine lv_iconst (v := 1) hx hb dL_law_1345 (by decide) ?_
  refine lv_iadd hx hb dL_law_1346 ?_
  refine va_sld hx hb hX hbl hbA hG.2.2.2 (hi 1 (by decide) (by decide)) dL_law_1347 ?_
  refine lv_aload_n hx hb dL_law_1348 rfl (lv_at hl 0 rfl) ?_
  refine lv_iload_n hx hb dL_law_1349 rfl (lv_at hl 3 rfl) ?_
  refine lv_iconst (v := 2) hx hb dL_law_1350 (by decide) ?_
  refine lv_iadd hx hb dL_law_1351 ?_
  refine va_sld hx hb hX hbl hbA hG.2.2.2 (hi 2 (by decide) (by decide)) dL_law_1352 ?_
  refine g_ci (g_runV (n := 2) (rest := []) hx hb hml hown hts hG (c_X5_taken (xs (Int32.toNatClampNeg (i + 1))) (xs (Int32.toNatClampNeg (i + 2)))) tw_ml_RL_162 tw_im_X5_taken tw_se_X5_taken tw_in_RX5 tw_cd_X5_taken (by decide +kernel) ⟨rfl, rfl, Nat.le_of_ble_eq_true rfl, Nat.le_of_ble_eq_true rfl⟩ gw_Bell rfl rfl hl.1 rfl (Nat.le_of_ble_eq_true rfl) dL_law_1353 ⟨Nat.le_of_ble_eq_true rfl, Nat.le_of_ble_eq_true rfl⟩) hG hA (fun r u H locs hp hG => ?_)
  rw [← hp] at hE
  refine lv_aload_n hx hb dL_law_1356 rfl (lv_at hl 2 rfl) ?_
  refine lv_aload_n hx hb dL_law_1357 rfl (lv_at hl 0 rfl) ?_
  refine lv_iload_n hx hb dL_law_1358 rfl (lv_at hl 3 rfl) ?_
  refine lv_iconst (v := 1) hx hb dL_law_1359 (by decide) ?_
  refine lv_iadd hx hb dL_law_1360 ?_
  refine va_sld hx hb hX hbl hbA hG.2.2.2 (hi 1 (by decide) (by decide)) dL_law_1361 ?_
  refine lv_aload_n hx hb dL_law_1362 rfl (lv_at hl 0 rfl) ?_
  refine lv_iload_n hx hb dL_law_1363 rfl (lv_at hl 3 rfl) ?_
  refine lv_iconst (v := 2) hx hb dL_law_1364 (by decide) ?_
  refine lv_iadd hx hb dL_law_1365 ?_
  refine va_sld hx hb hX hbl hbA hG.2.2.2 (hi 2 (by decide) (by decide)) dL_law_1366 ?_
  refine g_ci (g_runV (n := 2) (rest := [.int r]) hx hb hml hown hts hG (c_X6_taken (xs (Int32.toNatClampNeg (i + 1))) (xs (Int32.toNatClampNeg (i + 2))) hT.1.2) tw_ml_RL_165 tw_im_X6_taken tw_se_X6_taken tw_in_RX6 tw_cd_X6_taken (by decide +kernel) ⟨rfl, rfl, Nat.le_of_ble_eq_true rfl, Nat.le_of_ble_eq_true rfl⟩ gw_Model rfl rfl hl.1 rfl (Nat.le_of_ble_eq_true rfl) dL_law_1367 ⟨Nat.le_of_ble_eq_true rfl, Nat.le_of_ble_eq_true rfl⟩) hG hA (fun r2 u2 H locs hq hG => ?_)
  rw [← hq] at hE
  refine lv_icmp_eq (tgt := 1375) hx hb dL_law_1370 (by decide) (fun _ => ?_) (fun c => absurd hE c)
  exact kk _ _ _ _ _ _ _ _ _ _ (hS) hG
