-- THE LAW, A CALL EACH (laid by law.py)
theorem lg_same (x y : Int64) (h : x = y) : lg_cmp x y = 0 := by
  subst h
  unfold lg_cmp
  rw [if_neg (by simp), if_pos rfl]
section SRW
variable {bb : Ob} {tx rw : Nat → Ob} {sb : Ob} {tn : Nat → Ob} {m : Ob}
theorem SR.p0 (h : SR bb tx rw sb tn m) : 0 ≤ (sb.1 1).toInt := by rw [h.2.2.2.2.1.1]; exact h.2.2.2.2.1.2.1.1
theorem SR.p160 (h : SR bb tx rw sb tn m) : (sb.1 1).toInt ≤ 160 := by rw [h.2.2.2.2.1.1]; exact h.2.2.2.2.1.2.1.2
theorem SR.t66 (h : SR bb tx rw sb tn m) : 0 ≤ ((tn 0).1 6).toInt ∧ ((tn 0).1 6).toInt ≤ 6 := by rw [h.1.1.1]; exact h.1.1.2
theorem SR.t6 (h : SR bb tx rw sb tn m) : 0 ≤ ((tn 0).1 6).toInt := h.t66.1
theorem SR.m9 (h : SR bb tx rw sb tn m) : 0 ≤ (m.1 9).toInt ∧ (m.1 9).toInt ≤ 6 := by
  have := h.2.1.2.1
  omega
theorem SR.hrw (h : SR bb tx rw sb tn m) : ∀ s : Nat, s < 4 → 0 ≤ ((rw s).1 2).toInt ∧ ((rw s).1 2).toInt ≤ 40 := fun s hs => by
  obtain ⟨_, h2, h3, _⟩ := h.2.2.2.1 s hs
  rw [h2]
  exact h3
theorem SR.hsz (h : SR bb tx rw sb tn m) : ∀ s : Nat, s < 4 → 0 ≤ ((m.2 15) s).toInt ∧ ((m.2 15) s).toInt ≤ 40 := fun s hs => (h.2.2.2.1 s hs).2.2.1
theorem SR.hxs (h : SR bb tx rw sb tn m) : ∀ t : Nat, t < 6 → (t : Int) < (bb.1 7).toInt → xOK (tx t) := fun t t6 ht => by
  have e1 : (nI t).toInt = (t : Int) := nI_toInt (by omega)
  have k := (h.2.1.2.2.2 (nI t) (by omega) (by rw [e1, ← h.2.1.1]; exact ht)).1
  rw [nI_b t6] at k
  exact k
theorem SR.lEv (h : SR bb tx rw sb tn m) : lEv m := ⟨h.1.1.2, h.m9, fun t t0 t1 => (h.2.1.2.2.2 t t0 t1).2.1⟩
theorem SR.tn1 (h : SR bb tx rw sb tn m) (X : Ob) : SR bb tx rw sb (va_up tn 1 X) m := h
end SRW
set_option maxHeartbeats 4000000 in
set_option maxRecDepth 100000 in
theorem lc_count {p : Program} {l : Launch} {e : Env} {s : State} {m : MethodId} {below : List Frame} {meth : Method} {c : Code} {H : Heap} {locs : List Loc} {Q : State → Prop} {ls : Array Slot} {A : Nat → Prop} {g : GG} {b L : Nat} {xs : Nat → Int32} {i : Int32} {bb : Ob} {tx rw : Nat → Ob} {sb dy : Ob} {tn : Nat → Ob} {mo : Ob} {jk : Nat → Nat → Int32} (hx : p.tables.exec = Jvm.exec) (hb : c.code = cL_law) (hml : c.maxLocals = 4) (hts : ∀ w ∈ TT, w.before #[Value.ref b] s = true) (hown : s.vm.findClass RL = some m.cls) (hA : ∀ q, s.heap.size ≤ q → A q) (hX : va_X b L xs s s.heap) (hbl : b < s.heap.size) (hbA : ¬ A b) (hi : ∀ k : Int32, 0 ≤ k.toInt → k.toInt ≤ 6 → vp_in (i + k) L) (hS : SR bb tx rw sb tn mo) (hG : gS g A s H locs (gW g bb tx rw sb dy tn mo jk)) (hl : lv_has ls 4 [(0, .ref b), (1, .ref (gA g 0)), (2, .ref (gA g 58)), (3, .int i)])
    (kk : ∀ (bb : Ob) (tx rw : Nat → Ob) (sb dy : Ob) (tn : Nat → Ob) (mo : Ob) (jk : Nat → Nat → Int32) (H : Heap) (locs : List Loc), SR bb tx rw sb tn mo → gS g A s H locs (gW g bb tx rw sb dy tn mo jk) → W p l e room_1 s m #[Value.ref b] below meth c H locs 600000 7302250 Q (F0 m 1375 ls [])) :
    W p l e room_1 s m #[Value.ref b] below meth c H locs 600000 7302250 Q (F0 m 192 ls []) := by
  have hT := hS.1
  have hE := s_count hS (xs (Int32.toNatClampNeg (i + 1)))
  refine lv_aload_n hx hb dL_law_192 rfl (lv_at hl 1 rfl) ?_
  refine lv_aload_n hx hb dL_law_193 rfl (lv_at hl 0 rfl) ?_
  refine lv_iload_n hx hb dL_law_194 rfl (lv_at hl 3 rfl) ?_
  refine lv_iconst (v := 1) hx hb dL_law_195 (by decide) ?_
  refine lv_iadd hx hb dL_law_196 ?_
  refine va_sld hx hb hX hbl hbA hG.2.2.2 (hi 1 (by decide) (by decide)) dL_law_197 ?_
  refine g_ci (g_runV (n := 1) (rest := []) hx hb hml hown hts hG (c_X5_count (xs (Int32.toNatClampNeg (i + 1)))) tw_ml_RL_13 tw_im_X5_count tw_se_X5_count tw_in_RX5 tw_cd_X5_count (by decide +kernel) ⟨rfl, rfl, Nat.le_of_ble_eq_true rfl, Nat.le_of_ble_eq_true rfl⟩ gw_Bell rfl rfl hl.1 rfl (Nat.le_of_ble_eq_true rfl) dL_law_198 ⟨Nat.le_of_ble_eq_true rfl, Nat.le_of_ble_eq_true rfl⟩) hG hA (fun r u H locs hp hG => ?_)
  rw [← hp] at hE
  refine lv_aload_n hx hb dL_law_201 rfl (lv_at hl 2 rfl) ?_
  refine lv_aload_n hx hb dL_law_202 rfl (lv_at hl 0 rfl) ?_
  refine lv_iload_n hx hb dL_law_203 rfl (lv_at hl 3 rfl) ?_
  refine lv_iconst (v := 1) hx hb dL_law_204 (by decide) ?_
  refine lv_iadd hx hb dL_law_205 ?_
  refine va_sld hx hb hX hbl hbA hG.2.2.2 (hi 1 (by decide) (by decide)) dL_law_206 ?_
  refine g_ci (g_runV (n := 1) (rest := [.int r]) hx hb hml hown hts hG (c_X6_count (xs (Int32.toNatClampNeg (i + 1)))) tw_ml_RL_17 tw_im_X6_count tw_se_X6_count tw_in_RX6 tw_cd_X6_count (by decide +kernel) ⟨rfl, rfl, Nat.le_of_ble_eq_true rfl, Nat.le_of_ble_eq_true rfl⟩ gw_Model rfl rfl hl.1 rfl (Nat.le_of_ble_eq_true rfl) dL_law_207 ⟨Nat.le_of_ble_eq_true rfl, Nat.le_of_ble_eq_true rfl⟩) hG hA (fun r2 u2 H locs hq hG => ?_)
  rw [← hq] at hE
  refine lv_icmp_eq (tgt := 1375) hx hb dL_law_210 (by decide) (fun _ => ?_) (fun c => absurd hE c)
  exact kk _ _ _ _ _ _ _ _ _ _ (hS) hG
set_option maxHeartbeats 4000000 in
set_option maxRecDepth 100000 in
theorem lc_clock {p : Program} {l : Launch} {e : Env} {s : State} {m : MethodId} {below : List Frame} {meth : Method} {c : Code} {H : Heap} {locs : List Loc} {Q : State → Prop} {ls : Array Slot} {A : Nat → Prop} {g : GG} {b L : Nat} {xs : Nat → Int32} {i : Int32} {bb : Ob} {tx rw : Nat → Ob} {sb dy : Ob} {tn : Nat → Ob} {mo : Ob} {jk : Nat → Nat → Int32} (hx : p.tables.exec = Jvm.exec) (hb : c.code = cL_law) (hml : c.maxLocals = 4) (hts : ∀ w ∈ TT, w.before #[Value.ref b] s = true) (hown : s.vm.findClass RL = some m.cls) (hA : ∀ q, s.heap.size ≤ q → A q) (hX : va_X b L xs s s.heap) (hbl : b < s.heap.size) (hbA : ¬ A b) (hi : ∀ k : Int32, 0 ≤ k.toInt → k.toInt ≤ 6 → vp_in (i + k) L) (hS : SR bb tx rw sb tn mo) (hG : gS g A s H locs (gW g bb tx rw sb dy tn mo jk)) (hl : lv_has ls 4 [(0, .ref b), (1, .ref (gA g 0)), (2, .ref (gA g 58)), (3, .int i)])
    (kk : ∀ (bb : Ob) (tx rw : Nat → Ob) (sb dy : Ob) (tn : Nat → Ob) (mo : Ob) (jk : Nat → Nat → Int32) (H : Heap) (locs : List Loc), SR bb tx rw sb tn mo → gS g A s H locs (gW g bb tx rw sb dy tn mo jk) → W p l e room_1 s m #[Value.ref b] below meth c H locs 600000 7302250 Q (F0 m 1375 ls [])) :
    W p l e room_1 s m #[Value.ref b] below meth c H locs 600000 7302250 Q (F0 m 215 ls []) := by
  have hT := hS.1
  have hE := s_clock hS (xs (Int32.toNatClampNeg (i + 1)))
  refine lv_aload_n hx hb dL_law_215 rfl (lv_at hl 1 rfl) ?_
  refine lv_aload_n hx hb dL_law_216 rfl (lv_at hl 0 rfl) ?_
  refine lv_iload_n hx hb dL_law_217 rfl (lv_at hl 3 rfl) ?_
  refine lv_iconst (v := 1) hx hb dL_law_218 (by decide) ?_
  refine lv_iadd hx hb dL_law_219 ?_
  refine va_sld hx hb hX hbl hbA hG.2.2.2 (hi 1 (by decide) (by decide)) dL_law_220 ?_
  refine g_ci (g_runV (n := 1) (rest := []) hx hb hml hown hts hG (c_X5_clock (xs (Int32.toNatClampNeg (i + 1)))) tw_ml_RL_18 tw_im_X5_clock tw_se_X5_clock tw_in_RX5 tw_cd_X5_clock (by decide +kernel) ⟨rfl, rfl, Nat.le_of_ble_eq_true rfl, Nat.le_of_ble_eq_true rfl⟩ gw_Bell rfl rfl hl.1 rfl (Nat.le_of_ble_eq_true rfl) dL_law_221 ⟨Nat.le_of_ble_eq_true rfl, Nat.le_of_ble_eq_true rfl⟩) hG hA (fun r u H locs hp hG => ?_)
  rw [hp] at hE
  refine lv_aload_n hx hb dL_law_224 rfl (lv_at hl 2 rfl) ?_
  refine lv_aload_n hx hb dL_law_225 rfl (lv_at hl 0 rfl) ?_
  refine lv_iload_n hx hb dL_law_226 rfl (lv_at hl 3 rfl) ?_
  refine lv_iconst (v := 1) hx hb dL_law_227 (by decide) ?_
  refine lv_iadd hx hb dL_law_228 ?_
  refine va_sld hx hb hX hbl hbA hG.2.2.2 (hi 1 (by decide) (by decide)) dL_law_229 ?_
  refine g_ci (g_runV (n := 1) (rest := [.int r]) hx hb hml hown hts hG (c_X6_clock (xs (Int32.toNatClampNeg (i + 1)))) tw_ml_RL_21 tw_im_X6_clock tw_se_X6_clock tw_in_RX6 tw_cd_X6_clock (by decide +kernel) ⟨rfl, rfl, Nat.le_of_ble_eq_true rfl, Nat.le_of_ble_eq_true rfl⟩ gw_Model rfl rfl hl.1 rfl (Nat.le_of_ble_eq_true rfl) dL_law_230 ⟨Nat.le_of_ble_eq_true rfl, Nat.le_of_ble_eq_true rfl⟩) hG hA (fun r2 u2 H locs hq hG => ?_)
  rw [hq] at hE
  refine lv_icmp_eq (tgt := 1375) hx hb dL_law_233 (by decide) (fun _ => ?_) (fun c => absurd hE.1 c)
  exact kk _ _ _ _ _ _ _ _ _ _ (hE.2) hG
set_option maxHeartbeats 4000000 in
set_option maxRecDepth 100000 in
theorem lc_feed {p : Program} {l : Launch} {e : Env} {s : State} {m : MethodId} {below : List Frame} {meth : Method} {c : Code} {H : Heap} {locs : List Loc} {Q : State → Prop} {ls : Array Slot} {A : Nat → Prop} {g : GG} {b L : Nat} {xs : Nat → Int32} {i : Int32} {bb : Ob} {tx rw : Nat → Ob} {sb dy : Ob} {tn : Nat → Ob} {mo : Ob} {jk : Nat → Nat → Int32} (hx : p.tables.exec = Jvm.exec) (hb : c.code = cL_law) (hml : c.maxLocals = 4) (hts : ∀ w ∈ TT, w.before #[Value.ref b] s = true) (hown : s.vm.findClass RL = some m.cls) (hA : ∀ q, s.heap.size ≤ q → A q) (hX : va_X b L xs s s.heap) (hbl : b < s.heap.size) (hbA : ¬ A b) (hi : ∀ k : Int32, 0 ≤ k.toInt → k.toInt ≤ 6 → vp_in (i + k) L) (hS : SR bb tx rw sb tn mo) (hG : gS g A s H locs (gW g bb tx rw sb dy tn mo jk)) (hl : lv_has ls 4 [(0, .ref b), (1, .ref (gA g 0)), (2, .ref (gA g 58)), (3, .int i)])
    (kk : ∀ (bb : Ob) (tx rw : Nat → Ob) (sb dy : Ob) (tn : Nat → Ob) (mo : Ob) (jk : Nat → Nat → Int32) (H : Heap) (locs : List Loc), SR bb tx rw sb tn mo → gS g A s H locs (gW g bb tx rw sb dy tn mo jk) → W p l e room_1 s m #[Value.ref b] below meth c H locs 600000 7302250 Q (F0 m 1375 ls [])) :
    W p l e room_1 s m #[Value.ref b] below meth c H locs 600000 7302250 Q (F0 m 238 ls []) := by
  have hT := hS.1
  have hE := s_feed hS (xs (Int32.toNatClampNeg (i + 1))) (xs (Int32.toNatClampNeg (i + 2))) (xs (Int32.toNatClampNeg (i + 3))) (xs (Int32.toNatClampNeg (i + 4))) (xs (Int32.toNatClampNeg (i + 5))) (xs (Int32.toNatClampNeg (i + 6)))
  refine lv_aload_n hx hb dL_law_238 rfl (lv_at hl 1 rfl) ?_
  refine lv_aload_n hx hb dL_law_239 rfl (lv_at hl 0 rfl) ?_
  refine lv_iload_n hx hb dL_law_240 rfl (lv_at hl 3 rfl) ?_
  refine lv_iconst (v := 1) hx hb dL_law_241 (by decide) ?_
  refine lv_iadd hx hb dL_law_242 ?_
  refine va_sld hx hb hX hbl hbA hG.2.2.2 (hi 1 (by decide) (by decide)) dL_law_243 ?_
  refine lv_aload_n hx hb dL_law_244 rfl (lv_at hl 0 rfl) ?_
  refine lv_iload_n hx hb dL_law_245 rfl (lv_at hl 3 rfl) ?_
  refine lv_iconst (v := 2) hx hb dL_law_246 (by decide) ?_
  refine lv_iadd hx hb dL_law_247 ?_
  refine va_sld hx hb hX hbl hbA hG.2.2.2 (hi 2 (by decide) (by decide)) dL_law_248 ?_
  refine lv_aload_n hx hb dL_law_249 rfl (lv_at hl 0 rfl) ?_
  refine lv_iload_n hx hb dL_law_250 rfl (lv_at hl 3 rfl) ?_
  refine lv_iconst (v := 3) hx hb dL_law_251 (by decide) ?_
  refine lv_iadd hx hb dL_law_252 ?_
  refine va_sld hx hb hX hbl hbA hG.2.2.2 (hi 3 (by decide) (by decide)) dL_law_253 ?_
  refine lv_aload_n hx hb dL_law_254 rfl (lv_at hl 0 rfl) ?_
  refine lv_iload_n hx hb dL_law_255 rfl (lv_at hl 3 rfl) ?_
  refine lv_iconst (v := 4) hx hb dL_law_256 (by decide) ?_
  refine lv_iadd hx hb dL_law_257 ?_
  refine va_sld hx hb hX hbl hbA hG.2.2.2 (hi 4 (by decide) (by decide)) dL_law_258 ?_
  refine lv_aload_n hx hb dL_law_259 rfl (lv_at hl 0 rfl) ?_
  refine lv_iload_n hx hb dL_law_260 rfl (lv_at hl 3 rfl) ?_
  refine lv_iconst (v := 5) hx hb dL_law_261 (by decide) ?_
  refine lv_iadd hx hb dL_law_262 ?_
  refine va_sld hx hb hX hbl hbA hG.2.2.2 (hi 5 (by decide) (by decide)) dL_law_263 ?_
  refine lv_aload_n hx hb dL_law_264 rfl (lv_at hl 0 rfl) ?_
  refine lv_iload_n hx hb dL_law_265 rfl (lv_at hl 3 rfl) ?_
  refine lv_bipush (v := 6) hx hb dL_law_266 (by decide) ?_
  refine lv_iadd hx hb dL_law_268 ?_
  refine va_sld hx hb hX hbl hbA hG.2.2.2 (hi 6 (by decide) (by decide)) dL_law_269 ?_
  refine g_ci (g_runV (n := 6) (rest := []) hx hb hml hown hts hG (c_X5_feed (xs (Int32.toNatClampNeg (i + 1))) (xs (Int32.toNatClampNeg (i + 2))) (xs (Int32.toNatClampNeg (i + 3))) (xs (Int32.toNatClampNeg (i + 4))) (xs (Int32.toNatClampNeg (i + 5))) (xs (Int32.toNatClampNeg (i + 6))) hS.p0) tw_ml_RL_22 tw_im_X5_feed tw_se_X5_feed tw_in_RX5 tw_cd_X5_feed (by decide +kernel) ⟨rfl, rfl, Nat.le_of_ble_eq_true rfl, Nat.le_of_ble_eq_true rfl⟩ gw_Bell rfl rfl hl.1 rfl (Nat.le_of_ble_eq_true rfl) dL_law_270 ⟨Nat.le_of_ble_eq_true rfl, Nat.le_of_ble_eq_true rfl⟩) hG hA (fun r u H locs hp hG => ?_)
  rw [hp] at hE
  refine lv_aload_n hx hb dL_law_273 rfl (lv_at hl 2 rfl) ?_
  refine lv_aload_n hx hb dL_law_274 rfl (lv_at hl 0 rfl) ?_
  refine lv_iload_n hx hb dL_law_275 rfl (lv_at hl 3 rfl) ?_
  refine lv_iconst (v := 1) hx hb dL_law_276 (by decide) ?_
  refine lv_iadd hx hb dL_law_277 ?_
  refine va_sld hx hb hX hbl hbA hG.2.2.2 (hi 1 (by decide) (by decide)) dL_law_278 ?_
  refine lv_aload_n hx hb dL_law_279 rfl (lv_at hl 0 rfl) ?_
  refine lv_iload_n hx hb dL_law_280 rfl (lv_at hl 3 rfl) ?_
  refine lv_iconst (v := 2) hx hb dL_law_281 (by decide) ?_
  refine lv_iadd hx hb dL_law_282 ?_
  refine va_sld hx hb hX hbl hbA hG.2.2.2 (hi 2 (by decide) (by decide)) dL_law_283 ?_
  refine lv_aload_n hx hb dL_law_284 rfl (lv_at hl 0 rfl) ?_
  refine lv_iload_n hx hb dL_law_285 rfl (lv_at hl 3 rfl) ?_
  refine lv_iconst (v := 3) hx hb dL_law_286 (by decide) ?_
  refine lv_iadd hx hb dL_law_287 ?_
  refine va_sld hx hb hX hbl hbA hG.2.2.2 (hi 3 (by decide) (by decide)) dL_law_288 ?_
  refine lv_aload_n hx hb dL_law_289 rfl (lv_at hl 0 rfl) ?_
  refine lv_iload_n hx hb dL_law_290 rfl (lv_at hl 3 rfl) ?_
  refine lv_iconst (v := 4) hx hb dL_law_291 (by decide) ?_
  refine lv_iadd hx hb dL_law_292 ?_
  refine va_sld hx hb hX hbl hbA hG.2.2.2 (hi 4 (by decide) (by decide)) dL_law_293 ?_
  refine lv_aload_n hx hb dL_law_294 rfl (lv_at hl 0 rfl) ?_
  refine lv_iload_n hx hb dL_law_295 rfl (lv_at hl 3 rfl) ?_
  refine lv_iconst (v := 5) hx hb dL_law_296 (by decide) ?_
  refine lv_iadd hx hb dL_law_297 ?_
  refine va_sld hx hb hX hbl hbA hG.2.2.2 (hi 5 (by decide) (by decide)) dL_law_298 ?_
  refine lv_aload_n hx hb dL_law_299 rfl (lv_at hl 0 rfl) ?_
  refine lv_iload_n hx hb dL_law_300 rfl (lv_at hl 3 rfl) ?_
  refine lv_bipush (v := 6) hx hb dL_law_301 (by decide) ?_
  refine lv_iadd hx hb dL_law_303 ?_
  refine va_sld hx hb hX hbl hbA hG.2.2.2 (hi 6 (by decide) (by decide)) dL_law_304 ?_
  refine g_ci (g_runV (n := 6) (rest := [.int r]) hx hb hml hown hts hG (c_X6_feed (xs (Int32.toNatClampNeg (i + 1))) (xs (Int32.toNatClampNeg (i + 2))) (xs (Int32.toNatClampNeg (i + 3))) (xs (Int32.toNatClampNeg (i + 4))) (xs (Int32.toNatClampNeg (i + 5))) (xs (Int32.toNatClampNeg (i + 6))) hS.2.2.2.2.1.2.1) tw_ml_RL_26 tw_im_X6_feed tw_se_X6_feed tw_in_RX6 tw_cd_X6_feed (by decide +kernel) ⟨rfl, rfl, Nat.le_of_ble_eq_true rfl, Nat.le_of_ble_eq_true rfl⟩ gw_Model rfl rfl hl.1 rfl (Nat.le_of_ble_eq_true rfl) dL_law_305 ⟨Nat.le_of_ble_eq_true rfl, Nat.le_of_ble_eq_true rfl⟩) hG hA (fun r2 u2 H locs hq hG => ?_)
  rw [hq] at hE
  refine lv_icmp_eq (tgt := 1375) hx hb dL_law_308 (by decide) (fun _ => ?_) (fun c => absurd hE.1 c)
  exact kk _ _ _ _ _ _ _ _ _ _ (hE.2) hG
set_option maxHeartbeats 4000000 in
set_option maxRecDepth 100000 in
theorem lc_text {p : Program} {l : Launch} {e : Env} {s : State} {m : MethodId} {below : List Frame} {meth : Method} {c : Code} {H : Heap} {locs : List Loc} {Q : State → Prop} {ls : Array Slot} {A : Nat → Prop} {g : GG} {b L : Nat} {xs : Nat → Int32} {i : Int32} {bb : Ob} {tx rw : Nat → Ob} {sb dy : Ob} {tn : Nat → Ob} {mo : Ob} {jk : Nat → Nat → Int32} (hx : p.tables.exec = Jvm.exec) (hb : c.code = cL_law) (hml : c.maxLocals = 4) (hts : ∀ w ∈ TT, w.before #[Value.ref b] s = true) (hown : s.vm.findClass RL = some m.cls) (hA : ∀ q, s.heap.size ≤ q → A q) (hX : va_X b L xs s s.heap) (hbl : b < s.heap.size) (hbA : ¬ A b) (hi : ∀ k : Int32, 0 ≤ k.toInt → k.toInt ≤ 6 → vp_in (i + k) L) (hS : SR bb tx rw sb tn mo) (hG : gS g A s H locs (gW g bb tx rw sb dy tn mo jk)) (hl : lv_has ls 4 [(0, .ref b), (1, .ref (gA g 0)), (2, .ref (gA g 58)), (3, .int i)])
    (kk : ∀ (bb : Ob) (tx rw : Nat → Ob) (sb dy : Ob) (tn : Nat → Ob) (mo : Ob) (jk : Nat → Nat → Int32) (H : Heap) (locs : List Loc), SR bb tx rw sb tn mo → gS g A s H locs (gW g bb tx rw sb dy tn mo jk) → W p l e room_1 s m #[Value.ref b] below meth c H locs 600000 7302250 Q (F0 m 1375 ls [])) :
    W p l e room_1 s m #[Value.ref b] below meth c H locs 600000 7302250 Q (F0 m 313 ls []) := by
  have hT := hS.1
  have hE := s_text hS 
  refine lv_aload_n hx hb dL_law_313 rfl (lv_at hl 1 rfl) ?_
  refine g_ci (g_runV (n := 0) (rest := []) hx hb hml hown hts hG (c_X5_text hS.p160) tw_ml_RL_27 tw_im_X5_text tw_se_X5_text tw_in_RX5 tw_cd_X5_text (by decide +kernel) ⟨rfl, rfl, Nat.le_of_ble_eq_true rfl, Nat.le_of_ble_eq_true rfl⟩ gw_Bell rfl rfl hl.1 rfl (Nat.le_of_ble_eq_true rfl) dL_law_314 ⟨Nat.le_of_ble_eq_true rfl, Nat.le_of_ble_eq_true rfl⟩) hG hA (fun r u H locs hp hG => ?_)
  rw [hp] at hE
  refine lv_aload_n hx hb dL_law_317 rfl (lv_at hl 2 rfl) ?_
  refine g_ci (g_runV (n := 0) (rest := [.int r]) hx hb hml hown hts hG (c_X6_text hS.m9 hS.2.2.2.2.1.2.1) tw_ml_RL_31 tw_im_X6_text tw_se_X6_text tw_in_RX6 tw_cd_X6_text (by decide +kernel) ⟨rfl, rfl, Nat.le_of_ble_eq_true rfl, Nat.le_of_ble_eq_true rfl⟩ gw_Model rfl rfl hl.1 rfl (Nat.le_of_ble_eq_true rfl) dL_law_318 ⟨Nat.le_of_ble_eq_true rfl, Nat.le_of_ble_eq_true rfl⟩) hG hA (fun r2 u2 H locs hq hG => ?_)
  rw [hq] at hE
  refine lv_icmp_eq (tgt := 1375) hx hb dL_law_321 (by decide) (fun _ => ?_) (fun c => absurd hE.1 c)
  exact kk _ _ _ _ _ _ _ _ _ _ (hE.2) hG
set_option maxHeartbeats 4000000 in
set_option maxRecDepth 100000 in
theorem lc_force {p : Program} {l : Launch} {e : Env} {s : State} {m : MethodId} {below : List Frame} {meth : Method} {c : Code} {H : Heap} {locs : List Loc} {Q : State → Prop} {ls : Array Slot} {A : Nat → Prop} {g : GG} {b L : Nat} {xs : Nat → Int32} {i : Int32} {bb : Ob} {tx rw : Nat → Ob} {sb dy : Ob} {tn : Nat → Ob} {mo : Ob} {jk : Nat → Nat → Int32} (hx : p.tables.exec = Jvm.exec) (hb : c.code = cL_law) (hml : c.maxLocals = 4) (hts : ∀ w ∈ TT, w.before #[Value.ref b] s = true) (hown : s.vm.findClass RL = some m.cls) (hA : ∀ q, s.heap.size ≤ q → A q) (hX : va_X b L xs s s.heap) (hbl : b < s.heap.size) (hbA : ¬ A b) (hi : ∀ k : Int32, 0 ≤ k.toInt → k.toInt ≤ 6 → vp_in (i + k) L) (hS : SR bb tx rw sb tn mo) (hG : gS g A s H locs (gW g bb tx rw sb dy tn mo jk)) (hl : lv_has ls 4 [(0, .ref b), (1, .ref (gA g 0)), (2, .ref (gA g 58)), (3, .int i)])
    (kk : ∀ (bb : Ob) (tx rw : Nat → Ob) (sb dy : Ob) (tn : Nat → Ob) (mo : Ob) (jk : Nat → Nat → Int32) (H : Heap) (locs : List Loc), SR bb tx rw sb tn mo → gS g A s H locs (gW g bb tx rw sb dy tn mo jk) → W p l e room_1 s m #[Value.ref b] below meth c H locs 600000 7302250 Q (F0 m 1375 ls [])) :
    W p l e room_1 s m #[Value.ref b] below meth c H locs 600000 7302250 Q (F0 m 326 ls []) := by
  have hT := hS.1
  have hE := s_force hS (xs (Int32.toNatClampNeg (i + 1)))
  refine lv_aload_n hx hb dL_law_326 rfl (lv_at hl 1 rfl) ?_
  refine lv_aload_n hx hb dL_law_327 rfl (lv_at hl 0 rfl) ?_
  refine lv_iload_n hx hb dL_law_328 rfl (lv_at hl 3 rfl) ?_
  refine lv_iconst (v := 1) hx hb dL_law_329 (by decide) ?_
  refine lv_iadd hx hb dL_law_330 ?_
  refine va_sld hx hb hX hbl hbA hG.2.2.2 (hi 1 (by decide) (by decide)) dL_law_331 ?_
  refine g_ci (g_runV (n := 1) (rest := []) hx hb hml hown hts hG (c_X5_force (xs (Int32.toNatClampNeg (i + 1)))) tw_ml_RL_32 tw_im_X5_force tw_se_X5_force tw_in_RX5 tw_cd_X5_force (by decide +kernel) ⟨rfl, rfl, Nat.le_of_ble_eq_true rfl, Nat.le_of_ble_eq_true rfl⟩ gw_Bell rfl rfl hl.1 rfl (Nat.le_of_ble_eq_true rfl) dL_law_332 ⟨Nat.le_of_ble_eq_true rfl, Nat.le_of_ble_eq_true rfl⟩) hG hA (fun r u H locs hp hG => ?_)
  rw [hp] at hE
  refine lv_aload_n hx hb dL_law_335 rfl (lv_at hl 2 rfl) ?_
  refine lv_aload_n hx hb dL_law_336 rfl (lv_at hl 0 rfl) ?_
  refine lv_iload_n hx hb dL_law_337 rfl (lv_at hl 3 rfl) ?_
  refine lv_iconst (v := 1) hx hb dL_law_338 (by decide) ?_
  refine lv_iadd hx hb dL_law_339 ?_
  refine va_sld hx hb hX hbl hbA hG.2.2.2 (hi 1 (by decide) (by decide)) dL_law_340 ?_
  refine g_ci (g_runV (n := 1) (rest := [.int r]) hx hb hml hown hts hG (c_X6_force (xs (Int32.toNatClampNeg (i + 1)))) tw_ml_RL_35 tw_im_X6_force tw_se_X6_force tw_in_RX6 tw_cd_X6_force (by decide +kernel) ⟨rfl, rfl, Nat.le_of_ble_eq_true rfl, Nat.le_of_ble_eq_true rfl⟩ gw_Model rfl rfl hl.1 rfl (Nat.le_of_ble_eq_true rfl) dL_law_341 ⟨Nat.le_of_ble_eq_true rfl, Nat.le_of_ble_eq_true rfl⟩) hG hA (fun r2 u2 H locs hq hG => ?_)
  rw [hq] at hE
  refine lv_icmp_eq (tgt := 1375) hx hb dL_law_344 (by decide) (fun _ => ?_) (fun c => absurd hE.1 c)
  exact kk _ _ _ _ _ _ _ _ _ _ (hE.2) hG
