def F_bitCount (p0 : Int32) : Int32 :=
  ((((((((p0 - (((Int32.toUInt32 p0 >>> (Int32.toUInt32 1 &&& Int32.toUInt32 31)).toInt32) &&& 1431655765)) &&& 858993459) + (((Int32.toUInt32 (p0 - (((Int32.toUInt32 p0 >>> (Int32.toUInt32 1 &&& Int32.toUInt32 31)).toInt32) &&& 1431655765)) >>> (Int32.toUInt32 2 &&& Int32.toUInt32 31)).toInt32) &&& 858993459)) + ((Int32.toUInt32 (((p0 - (((Int32.toUInt32 p0 >>> (Int32.toUInt32 1 &&& Int32.toUInt32 31)).toInt32) &&& 1431655765)) &&& 858993459) + (((Int32.toUInt32 (p0 - (((Int32.toUInt32 p0 >>> (Int32.toUInt32 1 &&& Int32.toUInt32 31)).toInt32) &&& 1431655765)) >>> (Int32.toUInt32 2 &&& Int32.toUInt32 31)).toInt32) &&& 858993459)) >>> (Int32.toUInt32 4 &&& Int32.toUInt32 31)).toInt32)) &&& 252645135) + ((Int32.toUInt32 (((((p0 - (((Int32.toUInt32 p0 >>> (Int32.toUInt32 1 &&& Int32.toUInt32 31)).toInt32) &&& 1431655765)) &&& 858993459) + (((Int32.toUInt32 (p0 - (((Int32.toUInt32 p0 >>> (Int32.toUInt32 1 &&& Int32.toUInt32 31)).toInt32) &&& 1431655765)) >>> (Int32.toUInt32 2 &&& Int32.toUInt32 31)).toInt32) &&& 858993459)) + ((Int32.toUInt32 (((p0 - (((Int32.toUInt32 p0 >>> (Int32.toUInt32 1 &&& Int32.toUInt32 31)).toInt32) &&& 1431655765)) &&& 858993459) + (((Int32.toUInt32 (p0 - (((Int32.toUInt32 p0 >>> (Int32.toUInt32 1 &&& Int32.toUInt32 31)).toInt32) &&& 1431655765)) >>> (Int32.toUInt32 2 &&& Int32.toUInt32 31)).toInt32) &&& 858993459)) >>> (Int32.toUInt32 4 &&& Int32.toUInt32 31)).toInt32)) &&& 252645135) >>> (Int32.toUInt32 8 &&& Int32.toUInt32 31)).toInt32)) + ((Int32.toUInt32 ((((((p0 - (((Int32.toUInt32 p0 >>> (Int32.toUInt32 1 &&& Int32.toUInt32 31)).toInt32) &&& 1431655765)) &&& 858993459) + (((Int32.toUInt32 (p0 - (((Int32.toUInt32 p0 >>> (Int32.toUInt32 1 &&& Int32.toUInt32 31)).toInt32) &&& 1431655765)) >>> (Int32.toUInt32 2 &&& Int32.toUInt32 31)).toInt32) &&& 858993459)) + ((Int32.toUInt32 (((p0 - (((Int32.toUInt32 p0 >>> (Int32.toUInt32 1 &&& Int32.toUInt32 31)).toInt32) &&& 1431655765)) &&& 858993459) + (((Int32.toUInt32 (p0 - (((Int32.toUInt32 p0 >>> (Int32.toUInt32 1 &&& Int32.toUInt32 31)).toInt32) &&& 1431655765)) >>> (Int32.toUInt32 2 &&& Int32.toUInt32 31)).toInt32) &&& 858993459)) >>> (Int32.toUInt32 4 &&& Int32.toUInt32 31)).toInt32)) &&& 252645135) + ((Int32.toUInt32 (((((p0 - (((Int32.toUInt32 p0 >>> (Int32.toUInt32 1 &&& Int32.toUInt32 31)).toInt32) &&& 1431655765)) &&& 858993459) + (((Int32.toUInt32 (p0 - (((Int32.toUInt32 p0 >>> (Int32.toUInt32 1 &&& Int32.toUInt32 31)).toInt32) &&& 1431655765)) >>> (Int32.toUInt32 2 &&& Int32.toUInt32 31)).toInt32) &&& 858993459)) + ((Int32.toUInt32 (((p0 - (((Int32.toUInt32 p0 >>> (Int32.toUInt32 1 &&& Int32.toUInt32 31)).toInt32) &&& 1431655765)) &&& 858993459) + (((Int32.toUInt32 (p0 - (((Int32.toUInt32 p0 >>> (Int32.toUInt32 1 &&& Int32.toUInt32 31)).toInt32) &&& 1431655765)) >>> (Int32.toUInt32 2 &&& Int32.toUInt32 31)).toInt32) &&& 858993459)) >>> (Int32.toUInt32 4 &&& Int32.toUInt32 31)).toInt32)) &&& 252645135) >>> (Int32.toUInt32 8 &&& Int32.toUInt32 31)).toInt32)) >>> (Int32.toUInt32 16 &&& Int32.toUInt32 31)).toInt32)) &&& 63)
set_option maxHeartbeats 4000000 in
set_option maxRecDepth 100000 in
theorem c_bitCount {l : Launch} {g : GG} {sz : Nat}  (p0 : Int32)  : Met l yJ6_bitCount_0f7a4 (Cond.code yJ6_bitCount_0f7a4 cJ6_bitCount_0f7a4 1 (some .int) :: TT) (rmL 1) (va_Pc [.int p0] (gB g sz [])) (va_Qi (fun r (_ : Unit) => r = (F_bitCount p0)) (fun u t => gC g (va_A [] sz) [] t) (va_A [] sz)) 0 0 (va_A [] sz) := by
  generalize hE : F_bitCount p0 = EE
  refine g_of (Qf := fun A => (va_Qi (fun r (_ : Unit) => r = EE) (fun u t => gC g A [] t) A)) (cc := cJ6_bitCount_0f7a4) (maxL := 1) (ret := (some .int)) (by decide) (Nat.le_of_ble_eq_true rfl) ?_
  intro p e s m below meth c A ls hx hb hml hr hlocks hts hown hA hG hl
  replace hown : s.vm.findClass RJ6 = some m.cls := hown
  replace hl : lv_has ls 1 [(0, .int p0)] := hl
  show W p l e (rmL 1) s m [.int p0].toArray below meth c s.heap [] 0 0 (MQ below (va_Qi (fun r (_ : Unit) => r = EE) (fun u t => gC g A [] t) A) [.int p0].toArray s 0 0 A) (F0 m 0 ls [])
  generalize hQ : MQ below (va_Qi (fun r (_ : Unit) => r = EE) (fun u t => gC g A [] t) A) [.int p0].toArray s 0 0 A = Q
  unfold F_bitCount at hE
  refine lv_iload_n hx hb dJ6_bitCount_0f7a4_0 rfl (lv_at hl 0 rfl) ?_
  refine lv_iload_n hx hb dJ6_bitCount_0f7a4_1 rfl (lv_at hl 0 rfl) ?_
  refine lv_iconst (v := 1) hx hb dJ6_bitCount_0f7a4_2 (by decide) ?_
  refine lv_iushr (v := ((Int32.toUInt32 p0 >>> (Int32.toUInt32 1 &&& Int32.toUInt32 31)).toInt32)) hx hb dJ6_bitCount_0f7a4_3 rfl ?_
  refine lv_ldcw (v := 1431655765) hx hb hown (hts _ tw_co_RJ6_265) dJ6_bitCount_0f7a4_4 ?_
  refine lv_iand hx hb dJ6_bitCount_0f7a4_7 ?_
  refine lv_isub hx hb dJ6_bitCount_0f7a4_8 ?_
  refine lv_istore_n (lv' := [(0, .int (p0 - (((Int32.toUInt32 p0 >>> (Int32.toUInt32 1 &&& Int32.toUInt32 31)).toInt32) &&& 1431655765)))]) hx hb dJ6_bitCount_0f7a4_9 rfl hl (by decide) rfl (fun ls hl => ?_)
  refine lv_iload_n hx hb dJ6_bitCount_0f7a4_10 rfl (lv_at hl 0 rfl) ?_
  refine lv_ldcw (v := 858993459) hx hb hown (hts _ tw_co_RJ6_266) dJ6_bitCount_0f7a4_11 ?_
  refine lv_iand hx hb dJ6_bitCount_0f7a4_14 ?_
  refine lv_iload_n hx hb dJ6_bitCount_0f7a4_15 rfl (lv_at hl 0 rfl) ?_
  refine lv_iconst (v := 2) hx hb dJ6_bitCount_0f7a4_16 (by decide) ?_
  refine lv_iushr (v := ((Int32.toUInt32 (p0 - (((Int32.toUInt32 p0 >>> (Int32.toUInt32 1 &&& Int32.toUInt32 31)).toInt32) &&& 1431655765)) >>> (Int32.toUInt32 2 &&& Int32.toUInt32 31)).toInt32)) hx hb dJ6_bitCount_0f7a4_17 rfl ?_
  refine lv_ldcw (v := 858993459) hx hb hown (hts _ tw_co_RJ6_266) dJ6_bitCount_0f7a4_18 ?_
  refine lv_iand hx hb dJ6_bitCount_0f7a4_21 ?_
  refine lv_iadd hx hb dJ6_bitCount_0f7a4_22 ?_
  refine lv_istore_n (lv' := [(0, .int (((p0 - (((Int32.toUInt32 p0 >>> (Int32.toUInt32 1 &&& Int32.toUInt32 31)).toInt32) &&& 1431655765)) &&& 858993459) + (((Int32.toUInt32 (p0 - (((Int32.toUInt32 p0 >>> (Int32.toUInt32 1 &&& Int32.toUInt32 31)).toInt32) &&& 1431655765)) >>> (Int32.toUInt32 2 &&& Int32.toUInt32 31)).toInt32) &&& 858993459)))]) hx hb dJ6_bitCount_0f7a4_23 rfl hl (by decide) rfl (fun ls hl => ?_)
  refine lv_iload_n hx hb dJ6_bitCount_0f7a4_24 rfl (lv_at hl 0 rfl) ?_
  refine lv_iload_n hx hb dJ6_bitCount_0f7a4_25 rfl (lv_at hl 0 rfl) ?_
  refine lv_iconst (v := 4) hx hb dJ6_bitCount_0f7a4_26 (by decide) ?_
  refine lv_iushr (v := ((Int32.toUInt32 (((p0 - (((Int32.toUInt32 p0 >>> (Int32.toUInt32 1 &&& Int32.toUInt32 31)).toInt32) &&& 1431655765)) &&& 858993459) + (((Int32.toUInt32 (p0 - (((Int32.toUInt32 p0 >>> (Int32.toUInt32 1 &&& Int32.toUInt32 31)).toInt32) &&& 1431655765)) >>> (Int32.toUInt32 2 &&& Int32.toUInt32 31)).toInt32) &&& 858993459)) >>> (Int32.toUInt32 4 &&& Int32.toUInt32 31)).toInt32)) hx hb dJ6_bitCount_0f7a4_27 rfl ?_
  refine lv_iadd hx hb dJ6_bitCount_0f7a4_28 ?_
  refine lv_ldcw (v := 252645135) hx hb hown (hts _ tw_co_RJ6_267) dJ6_bitCount_0f7a4_29 ?_
  refine lv_iand hx hb dJ6_bitCount_0f7a4_32 ?_
  refine lv_istore_n (lv' := [(0, .int (((((p0 - (((Int32.toUInt32 p0 >>> (Int32.toUInt32 1 &&& Int32.toUInt32 31)).toInt32) &&& 1431655765)) &&& 858993459) + (((Int32.toUInt32 (p0 - (((Int32.toUInt32 p0 >>> (Int32.toUInt32 1 &&& Int32.toUInt32 31)).toInt32) &&& 1431655765)) >>> (Int32.toUInt32 2 &&& Int32.toUInt32 31)).toInt32) &&& 858993459)) + ((Int32.toUInt32 (((p0 - (((Int32.toUInt32 p0 >>> (Int32.toUInt32 1 &&& Int32.toUInt32 31)).toInt32) &&& 1431655765)) &&& 858993459) + (((Int32.toUInt32 (p0 - (((Int32.toUInt32 p0 >>> (Int32.toUInt32 1 &&& Int32.toUInt32 31)).toInt32) &&& 1431655765)) >>> (Int32.toUInt32 2 &&& Int32.toUInt32 31)).toInt32) &&& 858993459)) >>> (Int32.toUInt32 4 &&& Int32.toUInt32 31)).toInt32)) &&& 252645135))]) hx hb dJ6_bitCount_0f7a4_33 rfl hl (by decide) rfl (fun ls hl => ?_)
  refine lv_iload_n hx hb dJ6_bitCount_0f7a4_34 rfl (lv_at hl 0 rfl) ?_
  refine lv_iload_n hx hb dJ6_bitCount_0f7a4_35 rfl (lv_at hl 0 rfl) ?_
  refine lv_bipush (v := 8) hx hb dJ6_bitCount_0f7a4_36 (by decide) ?_
  refine lv_iushr (v := ((Int32.toUInt32 (((((p0 - (((Int32.toUInt32 p0 >>> (Int32.toUInt32 1 &&& Int32.toUInt32 31)).toInt32) &&& 1431655765)) &&& 858993459) + (((Int32.toUInt32 (p0 - (((Int32.toUInt32 p0 >>> (Int32.toUInt32 1 &&& Int32.toUInt32 31)).toInt32) &&& 1431655765)) >>> (Int32.toUInt32 2 &&& Int32.toUInt32 31)).toInt32) &&& 858993459)) + ((Int32.toUInt32 (((p0 - (((Int32.toUInt32 p0 >>> (Int32.toUInt32 1 &&& Int32.toUInt32 31)).toInt32) &&& 1431655765)) &&& 858993459) + (((Int32.toUInt32 (p0 - (((Int32.toUInt32 p0 >>> (Int32.toUInt32 1 &&& Int32.toUInt32 31)).toInt32) &&& 1431655765)) >>> (Int32.toUInt32 2 &&& Int32.toUInt32 31)).toInt32) &&& 858993459)) >>> (Int32.toUInt32 4 &&& Int32.toUInt32 31)).toInt32)) &&& 252645135) >>> (Int32.toUInt32 8 &&& Int32.toUInt32 31)).toInt32)) hx hb dJ6_bitCount_0f7a4_38 rfl ?_
  refine lv_iadd hx hb dJ6_bitCount_0f7a4_39 ?_
  refine lv_istore_n (lv' := [(0, .int ((((((p0 - (((Int32.toUInt32 p0 >>> (Int32.toUInt32 1 &&& Int32.toUInt32 31)).toInt32) &&& 1431655765)) &&& 858993459) + (((Int32.toUInt32 (p0 - (((Int32.toUInt32 p0 >>> (Int32.toUInt32 1 &&& Int32.toUInt32 31)).toInt32) &&& 1431655765)) >>> (Int32.toUInt32 2 &&& Int32.toUInt32 31)).toInt32) &&& 858993459)) + ((Int32.toUInt32 (((p0 - (((Int32.toUInt32 p0 >>> (Int32.toUInt32 1 &&& Int32.toUInt32 31)).toInt32) &&& 1431655765)) &&& 858993459) + (((Int32.toUInt32 (p0 - (((Int32.toUInt32 p0 >>> (Int32.toUInt32 1 &&& Int32.toUInt32 31)).toInt32) &&& 1431655765)) >>> (Int32.toUInt32 2 &&& Int32.toUInt32 31)).toInt32) &&& 858993459)) >>> (Int32.toUInt32 4 &&& Int32.toUInt32 31)).toInt32)) &&& 252645135) + ((Int32.toUInt32 (((((p0 - (((Int32.toUInt32 p0 >>> (Int32.toUInt32 1 &&& Int32.toUInt32 31)).toInt32) &&& 1431655765)) &&& 858993459) + (((Int32.toUInt32 (p0 - (((Int32.toUInt32 p0 >>> (Int32.toUInt32 1 &&& Int32.toUInt32 31)).toInt32) &&& 1431655765)) >>> (Int32.toUInt32 2 &&& Int32.toUInt32 31)).toInt32) &&& 858993459)) + ((Int32.toUInt32 (((p0 - (((Int32.toUInt32 p0 >>> (Int32.toUInt32 1 &&& Int32.toUInt32 31)).toInt32) &&& 1431655765)) &&& 858993459) + (((Int32.toUInt32 (p0 - (((Int32.toUInt32 p0 >>> (Int32.toUInt32 1 &&& Int32.toUInt32 31)).toInt32) &&& 1431655765)) >>> (Int32.toUInt32 2 &&& Int32.toUInt32 31)).toInt32) &&& 858993459)) >>> (Int32.toUInt32 4 &&& Int32.toUInt32 31)).toInt32)) &&& 252645135) >>> (Int32.toUInt32 8 &&& Int32.toUInt32 31)).toInt32)))]) hx hb dJ6_bitCount_0f7a4_40 rfl hl (by decide) rfl (fun ls hl => ?_)
  refine lv_iload_n hx hb dJ6_bitCount_0f7a4_41 rfl (lv_at hl 0 rfl) ?_
  refine lv_iload_n hx hb dJ6_bitCount_0f7a4_42 rfl (lv_at hl 0 rfl) ?_
  refine lv_bipush (v := 16) hx hb dJ6_bitCount_0f7a4_43 (by decide) ?_
  refine lv_iushr (v := ((Int32.toUInt32 ((((((p0 - (((Int32.toUInt32 p0 >>> (Int32.toUInt32 1 &&& Int32.toUInt32 31)).toInt32) &&& 1431655765)) &&& 858993459) + (((Int32.toUInt32 (p0 - (((Int32.toUInt32 p0 >>> (Int32.toUInt32 1 &&& Int32.toUInt32 31)).toInt32) &&& 1431655765)) >>> (Int32.toUInt32 2 &&& Int32.toUInt32 31)).toInt32) &&& 858993459)) + ((Int32.toUInt32 (((p0 - (((Int32.toUInt32 p0 >>> (Int32.toUInt32 1 &&& Int32.toUInt32 31)).toInt32) &&& 1431655765)) &&& 858993459) + (((Int32.toUInt32 (p0 - (((Int32.toUInt32 p0 >>> (Int32.toUInt32 1 &&& Int32.toUInt32 31)).toInt32) &&& 1431655765)) >>> (Int32.toUInt32 2 &&& Int32.toUInt32 31)).toInt32) &&& 858993459)) >>> (Int32.toUInt32 4 &&& Int32.toUInt32 31)).toInt32)) &&& 252645135) + ((Int32.toUInt32 (((((p0 - (((Int32.toUInt32 p0 >>> (Int32.toUInt32 1 &&& Int32.toUInt32 31)).toInt32) &&& 1431655765)) &&& 858993459) + (((Int32.toUInt32 (p0 - (((Int32.toUInt32 p0 >>> (Int32.toUInt32 1 &&& Int32.toUInt32 31)).toInt32) &&& 1431655765)) >>> (Int32.toUInt32 2 &&& Int32.toUInt32 31)).toInt32) &&& 858993459)) + ((Int32.toUInt32 (((p0 - (((Int32.toUInt32 p0 >>> (Int32.toUInt32 1 &&& Int32.toUInt32 31)).toInt32) &&& 1431655765)) &&& 858993459) + (((Int32.toUInt32 (p0 - (((Int32.toUInt32 p0 >>> (Int32.toUInt32 1 &&& Int32.toUInt32 31)).toInt32) &&& 1431655765)) >>> (Int32.toUInt32 2 &&& Int32.toUInt32 31)).toInt32) &&& 858993459)) >>> (Int32.toUInt32 4 &&& Int32.toUInt32 31)).toInt32)) &&& 252645135) >>> (Int32.toUInt32 8 &&& Int32.toUInt32 31)).toInt32)) >>> (Int32.toUInt32 16 &&& Int32.toUInt32 31)).toInt32)) hx hb dJ6_bitCount_0f7a4_45 rfl ?_
  refine lv_iadd hx hb dJ6_bitCount_0f7a4_46 ?_
  refine lv_istore_n (lv' := [(0, .int (((((((p0 - (((Int32.toUInt32 p0 >>> (Int32.toUInt32 1 &&& Int32.toUInt32 31)).toInt32) &&& 1431655765)) &&& 858993459) + (((Int32.toUInt32 (p0 - (((Int32.toUInt32 p0 >>> (Int32.toUInt32 1 &&& Int32.toUInt32 31)).toInt32) &&& 1431655765)) >>> (Int32.toUInt32 2 &&& Int32.toUInt32 31)).toInt32) &&& 858993459)) + ((Int32.toUInt32 (((p0 - (((Int32.toUInt32 p0 >>> (Int32.toUInt32 1 &&& Int32.toUInt32 31)).toInt32) &&& 1431655765)) &&& 858993459) + (((Int32.toUInt32 (p0 - (((Int32.toUInt32 p0 >>> (Int32.toUInt32 1 &&& Int32.toUInt32 31)).toInt32) &&& 1431655765)) >>> (Int32.toUInt32 2 &&& Int32.toUInt32 31)).toInt32) &&& 858993459)) >>> (Int32.toUInt32 4 &&& Int32.toUInt32 31)).toInt32)) &&& 252645135) + ((Int32.toUInt32 (((((p0 - (((Int32.toUInt32 p0 >>> (Int32.toUInt32 1 &&& Int32.toUInt32 31)).toInt32) &&& 1431655765)) &&& 858993459) + (((Int32.toUInt32 (p0 - (((Int32.toUInt32 p0 >>> (Int32.toUInt32 1 &&& Int32.toUInt32 31)).toInt32) &&& 1431655765)) >>> (Int32.toUInt32 2 &&& Int32.toUInt32 31)).toInt32) &&& 858993459)) + ((Int32.toUInt32 (((p0 - (((Int32.toUInt32 p0 >>> (Int32.toUInt32 1 &&& Int32.toUInt32 31)).toInt32) &&& 1431655765)) &&& 858993459) + (((Int32.toUInt32 (p0 - (((Int32.toUInt32 p0 >>> (Int32.toUInt32 1 &&& Int32.toUInt32 31)).toInt32) &&& 1431655765)) >>> (Int32.toUInt32 2 &&& Int32.toUInt32 31)).toInt32) &&& 858993459)) >>> (Int32.toUInt32 4 &&& Int32.toUInt32 31)).toInt32)) &&& 252645135) >>> (Int32.toUInt32 8 &&& Int32.toUInt32 31)).toInt32)) + ((Int32.toUInt32 ((((((p0 - (((Int32.toUInt32 p0 >>> (Int32.toUInt32 1 &&& Int32.toUInt32 31)).toInt32) &&& 1431655765)) &&& 858993459) + (((Int32.toUInt32 (p0 - (((Int32.toUInt32 p0 >>> (Int32.toUInt32 1 &&& Int32.toUInt32 31)).toInt32) &&& 1431655765)) >>> (Int32.toUInt32 2 &&& Int32.toUInt32 31)).toInt32) &&& 858993459)) + ((Int32.toUInt32 (((p0 - (((Int32.toUInt32 p0 >>> (Int32.toUInt32 1 &&& Int32.toUInt32 31)).toInt32) &&& 1431655765)) &&& 858993459) + (((Int32.toUInt32 (p0 - (((Int32.toUInt32 p0 >>> (Int32.toUInt32 1 &&& Int32.toUInt32 31)).toInt32) &&& 1431655765)) >>> (Int32.toUInt32 2 &&& Int32.toUInt32 31)).toInt32) &&& 858993459)) >>> (Int32.toUInt32 4 &&& Int32.toUInt32 31)).toInt32)) &&& 252645135) + ((Int32.toUInt32 (((((p0 - (((Int32.toUInt32 p0 >>> (Int32.toUInt32 1 &&& Int32.toUInt32 31)).toInt32) &&& 1431655765)) &&& 858993459) + (((Int32.toUInt32 (p0 - (((Int32.toUInt32 p0 >>> (Int32.toUInt32 1 &&& Int32.toUInt32 31)).toInt32) &&& 1431655765)) >>> (Int32.toUInt32 2 &&& Int32.toUInt32 31)).toInt32) &&& 858993459)) + ((Int32.toUInt32 (((p0 - (((Int32.toUInt32 p0 >>> (Int32.toUInt32 1 &&& Int32.toUInt32 31)).toInt32) &&& 1431655765)) &&& 858993459) + (((Int32.toUInt32 (p0 - (((Int32.toUInt32 p0 >>> (Int32.toUInt32 1 &&& Int32.toUInt32 31)).toInt32) &&& 1431655765)) >>> (Int32.toUInt32 2 &&& Int32.toUInt32 31)).toInt32) &&& 858993459)) >>> (Int32.toUInt32 4 &&& Int32.toUInt32 31)).toInt32)) &&& 252645135) >>> (Int32.toUInt32 8 &&& Int32.toUInt32 31)).toInt32)) >>> (Int32.toUInt32 16 &&& Int32.toUInt32 31)).toInt32)))]) hx hb dJ6_bitCount_0f7a4_47 rfl hl (by decide) rfl (fun ls hl => ?_)
  refine lv_iload_n hx hb dJ6_bitCount_0f7a4_48 rfl (lv_at hl 0 rfl) ?_
  refine lv_bipush (v := 63) hx hb dJ6_bitCount_0f7a4_49 (by decide) ?_
  refine lv_iand hx hb dJ6_bitCount_0f7a4_51 ?_
  subst hQ
  exact g_iret hx hb hr hlocks hG () rfl hE dJ6_bitCount_0f7a4_52
def F_X5_council_b134 (K43 : (Nat → Ob) → (Nat → Ob) → Ob → Int32 → Int32 → Int32 → Int32 → Int32 → Int32 → Int32 × Ob) (tx : Nat → Ob) (tn : Nat → Ob) (t_m : Ob) (x1 : Int32) (x2 : Int32) (x3 : Int32) (x4 : Int32) (x5 : Int32) (x6 : Int32) : Int32 × Ob :=
  (K43 tx tn t_m x1 x2 x3 x4 x5 (x6 + 1))
def F_X5_council_c108 (K43 : (Nat → Ob) → (Nat → Ob) → Ob → Int32 → Int32 → Int32 → Int32 → Int32 → Int32 → Int32 × Ob) (u : Int32 × Ob) (tx : Nat → Ob) (tn : Nat → Ob) (x1 : Int32) (x2 : Int32) (x3 : Int32) (x4 : Int32) (x5 : Int32) (x6 : Int32) (x7 : Int32) : Int32 × Ob :=
  (if (F_X4_strikesOf tx u.2 (F_X4_liars tx u.2)) = x2 then (F_X5_council_b134 K43 tx tn u.2 x1 x2 x3 x6 x7 x6) else (F_X5_council_b134 K43 tx tn u.2 x1 x2 x3 x4 x5 x6))
def F_X5_council_c88 (K43 : (Nat → Ob) → (Nat → Ob) → Ob → Int32 → Int32 → Int32 → Int32 → Int32 → Int32 → Int32 × Ob) (u : Ob) (tx : Nat → Ob) (tn : Nat → Ob) (x1 : Int32) (x2 : Int32) (x3 : Int32) (x4 : Int32) (x5 : Int32) (x6 : Int32) (x7 : Int32) : Int32 × Ob :=
  (F_X5_council_c108 K43 (F_X4_passHours tx (setS u 5 ((u.1 5) ||| x6)) x1) tx tn x1 x2 x3 x4 x5 x6 x7)
def F_X5_council_l43 : Nat → (Nat → Ob) → (Nat → Ob) → Ob → Int32 → Int32 → Int32 → Int32 → Int32 → Int32 → Int32 × Ob
  | 0, _, _, t_m, _, _, _, _, _, _ => (0, t_m)
  | n + 1, tx, tn, t_m, x1, x2, x3, x4, x5, x6 =>
    (if (1 <<< (((tn 0).1 6) &&& 31)) ≤ x6 then (if x4 = (-1) then ((-1), t_m) else (if x3 = 0 then (x4, t_m) else (x5, t_m))) else (if (x6 &&& ((tn 0).1 5)) = 0 then (if (F_bitCount x6) < x5 then (F_X5_council_c88 (F_X5_council_l43 n ) (F_X5_startThought (va_up tn 1 t_m)) tx tn x1 x2 x3 x4 x5 x6 (F_bitCount x6)) else (F_X5_council_b134 (F_X5_council_l43 n ) tx tn t_m x1 x2 x3 x4 x5 x6)) else (F_X5_council_b134 (F_X5_council_l43 n ) tx tn t_m x1 x2 x3 x4 x5 x6)))
def F_X5_council (tx : Nat → Ob) (tn : Nat → Ob) (p1 : Int32) (p2 : Int32) (p3 : Int32) : Int32 × Ob :=
  (if (F_X5_isWithin p1 0 24) = 0 then ((-2), (tn 1)) else (if (F_X5_isWithin p2 0 999) = 0 then ((-2), (tn 1)) else (if (F_X5_isWithin p3 0 1) = 0 then ((-2), (tn 1)) else (F_X5_council_l43 65  tx tn (tn 1) p1 p2 p3 (-1) 7 0))))
set_option maxHeartbeats 4000000 in
set_option maxRecDepth 100000 in
theorem c_X5_council {l : Launch} {g : GG} {sz : Nat} {bb : Ob} {tx rw : Nat → Ob} {sb dy : Ob} {tn : Nat → Ob} {mo : Ob} {jk : Nat → Nat → Int32}  (p1 : Int32) (p2 : Int32) (p3 : Int32) (hv : tEv tx (tn 0)) : Met l yX5_council (Cond.code yX5_council cX5_council 9 (some .int) :: TT) (rmL 9) (va_Pc [.ref (gA g 0), .int p1, .int p2, .int p3] (gB g sz (gW g bb tx rw sb dy tn mo jk))) (va_Qi (fun r (u : Ob × (Nat → Nat → Int32)) => (F_X5_council tx tn p1 p2 p3) = (r, u.1)) (fun u t => gC g (va_A (gW g bb tx rw sb dy tn mo jk) sz) (gW g bb tx rw sb dy (va_up tn 1 u.1) mo u.2) t) (va_A (gW g bb tx rw sb dy tn mo jk) sz)) 0 0 (va_A (gW g bb tx rw sb dy tn mo jk) sz) := by
  generalize hE : F_X5_council tx tn p1 p2 p3 = EE
  refine g_of (Qf := fun A => (va_Qi (fun r (u : Ob × (Nat → Nat → Int32)) => EE = (r, u.1)) (fun u t => gC g A (gW g bb tx rw sb dy (va_up tn 1 u.1) mo u.2) t) A)) (cc := cX5_council) (maxL := 9) (ret := (some .int)) (by decide) (Nat.le_of_ble_eq_true rfl) ?_
  intro p e s m below meth c A ls hx hb hml hr hlocks hts hown hA hG hl
  replace hown : s.vm.findClass RX5 = some m.cls := hown
  replace hl : lv_has ls 9 [(0, .ref (gA g 0)), (1, .int p1), (2, .int p2), (3, .int p3)] := hl
  show W p l e (rmL 9) s m [.ref (gA g 0), .int p1, .int p2, .int p3].toArray below meth c s.heap [] 0 0 (MQ below (va_Qi (fun r (u : Ob × (Nat → Nat → Int32)) => EE = (r, u.1)) (fun u t => gC g A (gW g bb tx rw sb dy (va_up tn 1 u.1) mo u.2) t) A) [.ref (gA g 0), .int p1, .int p2, .int p3].toArray s 0 0 A) (F0 m 0 ls [])
  generalize hQ : MQ below (va_Qi (fun r (u : Ob × (Nat → Nat → Int32)) => EE = (r, u.1)) (fun u t => gC g A (gW g bb tx rw sb dy (va_up tn 1 u.1) mo u.2) t) A) [.ref (gA g 0), .int p1, .int p2, .int p3].toArray s 0 0 A = Q
  replace hG : gS g A s s.heap [] (gW g bb tx rw sb dy (va_up tn 1 (tn 1)) mo jk) := by simpa only [up_self] using hG
  have hpo := hv.1
  have hsl := shl_le hpo
  unfold F_X5_council at hE
  refine lv_iload_n hx hb dX5_council_0 rfl (lv_at hl 1 rfl) ?_
  refine lv_iconst (v := 0) hx hb dX5_council_1 (by decide) ?_
  refine lv_bipush (v := 24) hx hb dX5_council_2 (by decide) ?_
  refine g_si (g_runS (n := 3) (rest := []) hx hb hml hown hts hG (c_X5_isWithin p1 0 24) tw_ml_RX5_81 tw_st_X5_isWithin tw_in_RX5 tw_cd_X5_isWithin (by decide +kernel) ⟨rfl, rfl, Nat.le_of_ble_eq_true rfl, Nat.le_of_ble_eq_true rfl⟩ rfl hl.1 rfl (Nat.le_of_ble_eq_true rfl) dX5_council_4 ⟨Nat.le_refl _, Nat.le_refl _⟩) hG hA (fun H locs hG => ?_)
  refine lv_if_eq (tgt := 30) hx hb dX5_council_7 (by decide) (fun c_7 => ?_) (fun c_7 => ?_)
  · replace hE := (if_pos c_7).symm.trans hE
    refine lv_bipush (v := (-2)) hx hb dX5_council_30 (by decide) ?_
    subst hQ
    exact g_iret hx hb hr hlocks hG (((tn 1), jk) : Ob × (Nat → Nat → Int32)) rfl hE.symm dX5_council_32
  replace hE := (if_neg c_7).symm.trans hE
  have i_7 : 0 ≤ p1.toInt ∧ p1.toInt ≤ 24 := within_f c_7
  refine lv_iload_n hx hb dX5_council_10 rfl (lv_at hl 2 rfl) ?_
  refine lv_iconst (v := 0) hx hb dX5_council_11 (by decide) ?_
  refine lv_sipush (v := 999) hx hb dX5_council_12 (by decide) ?_
  refine g_si (g_runS (n := 3) (rest := []) hx hb hml hown hts hG (c_X5_isWithin p2 0 999) tw_ml_RX5_81 tw_st_X5_isWithin tw_in_RX5 tw_cd_X5_isWithin (by decide +kernel) ⟨rfl, rfl, Nat.le_of_ble_eq_true rfl, Nat.le_of_ble_eq_true rfl⟩ rfl hl.1 rfl (Nat.le_of_ble_eq_true rfl) dX5_council_15 ⟨Nat.le_refl _, Nat.le_refl _⟩) hG hA (fun H locs hG => ?_)
  refine lv_if_eq (tgt := 30) hx hb dX5_council_18 (by decide) (fun c_18 => ?_) (fun c_18 => ?_)
  · replace hE := (if_pos c_18).symm.trans hE
    refine lv_bipush (v := (-2)) hx hb dX5_council_30 (by decide) ?_
    subst hQ
    exact g_iret hx hb hr hlocks hG (((tn 1), jk) : Ob × (Nat → Nat → Int32)) rfl hE.symm dX5_council_32
  replace hE := (if_neg c_18).symm.trans hE
  have i_18 : 0 ≤ p2.toInt ∧ p2.toInt ≤ 999 := within_f c_18
  refine lv_iload_n hx hb dX5_council_21 rfl (lv_at hl 3 rfl) ?_
  refine lv_iconst (v := 0) hx hb dX5_council_22 (by decide) ?_
  refine lv_iconst (v := 1) hx hb dX5_council_23 (by decide) ?_
  refine g_si (g_runS (n := 3) (rest := []) hx hb hml hown hts hG (c_X5_isWithin p3 0 1) tw_ml_RX5_81 tw_st_X5_isWithin tw_in_RX5 tw_cd_X5_isWithin (by decide +kernel) ⟨rfl, rfl, Nat.le_of_ble_eq_true rfl, Nat.le_of_ble_eq_true rfl⟩ rfl hl.1 rfl (Nat.le_of_ble_eq_true rfl) dX5_council_24 ⟨Nat.le_refl _, Nat.le_refl _⟩) hG hA (fun H locs hG => ?_)
  refine lv_if_ne (tgt := 33) hx hb dX5_council_27 (by decide) (fun c_27 => ?_) (fun c_27 => ?_)
  · replace hE := (if_neg c_27).symm.trans hE
    have i_27 : 0 ≤ p3.toInt ∧ p3.toInt ≤ 1 := within_f c_27
    refine lv_iconst (v := (-1)) hx hb dX5_council_33 (by decide) ?_
    refine lv_istore (lv' := [(4, .int (-1)), (0, .ref (gA g 0)), (1, .int p1), (2, .int p2), (3, .int p3)]) hx hb dX5_council_34 hl (by decide) rfl (fun ls hl => ?_)
    replace hl := lv_sub hl [1, 2, 3, 4, 0] (l' := [(0, .ref (gA g 0)), (1, .int p1), (2, .int p2), (3, .int p3), (4, .int (-1))]) rfl
    refine lv_bipush (v := 7) hx hb dX5_council_36 (by decide) ?_
    refine lv_istore (lv' := [(5, .int 7), (0, .ref (gA g 0)), (1, .int p1), (2, .int p2), (3, .int p3), (4, .int (-1))]) hx hb dX5_council_38 hl (by decide) rfl (fun ls hl => ?_)
    replace hl := lv_sub hl [1, 2, 3, 4, 5, 0] (l' := [(0, .ref (gA g 0)), (1, .int p1), (2, .int p2), (3, .int p3), (4, .int (-1)), (5, .int 7)]) rfl
    refine lv_iconst (v := 0) hx hb dX5_council_40 (by decide) ?_
    refine lv_istore (lv' := [(6, .int 0), (0, .ref (gA g 0)), (1, .int p1), (2, .int p2), (3, .int p3), (4, .int (-1)), (5, .int 7)]) hx hb dX5_council_41 hl (by decide) rfl (fun ls hl => ?_)
    replace hl := lv_sub hl [1, 2, 3, 4, 5, 6, 0] (l' := [(0, .ref (gA g 0)), (1, .int p1), (2, .int p2), (3, .int p3), (4, .int (-1)), (5, .int 7), (6, .int 0)]) rfl
    have L43 : ∀ (n43 : Nat) (x4_43 : Int32) (x5_43 : Int32) (x6_43 : Int32) (t_m_43 : Ob) (jk : (Nat → Nat → Int32)) (H : Heap) (locs : List Loc), gS g A s H locs (gW g bb tx rw sb dy (va_up tn 1 t_m_43) mo jk) → ∀ ls : Array Slot, lv_has ls 9 [(0, .ref (gA g 0)), (1, .int p1), (2, .int p2), (3, .int p3), (4, .int x4_43), (5, .int x5_43), (6, .int x6_43)] → 0 ≤ x6_43.toInt → x6_43.toInt ≤ 64 → 64 < x6_43.toInt + n43 → F_X5_council_l43 n43  tx tn t_m_43 p1 p2 p3 x4_43 x5_43 x6_43 = EE → W p l e (rmL 9) s m [.ref (gA g 0), .int p1, .int p2, .int p3].toArray below meth c H locs 0 0 Q (F0 m 43 ls []) := by
      intro n43
      induction n43 with
      | zero =>
        intro x4_43 x5_43 x6_43 t_m_43 jk H locs hG ls hl h0_43 h1_43 hm_43 hE
        clear hE; omega
      | succ n43 ih43 =>
        intro x4_43 x5_43 x6_43 t_m_43 jk H locs hG ls hl h0_43 h1_43 hm_43 hE
        unfold F_X5_council_l43 at hE
        refine lv_iload hx hb dX5_council_43 (lv_at hl 6 rfl) ?_
        refine lv_iconst (v := 1) hx hb dX5_council_45 (by decide) ?_
        refine lv_aload_n hx hb dX5_council_46 rfl (lv_at hl 0 rfl) ?_
        refine g_get hx hb hts hiX5 hown hG gw_Bell rfl 4 (by decide) (index := 53) tw_fl_RX5_53 (v := .ref (gA g (40 + 6 * 0))) rfl dX5_council_47 ?_
        refine g_get hx hb hts hiX4 hown hG (gw_Town (o := 0) (by decide) (show _ = (tn 0) from rfl)) rfl 6 (by decide) (index := 63) tw_fl_RX5_63 (v := .int ((tn 0).1 6)) rfl dX5_council_50 ?_
        refine lv_ishl hx hb dX5_council_53 ?_
        refine lv_icmp_ge (tgt := 140) hx hb dX5_council_54 (by decide) (fun c_54 => ?_) (fun c_54 => ?_)
        · replace hE := (if_pos c_54).symm.trans hE
          have i_54 : (1 <<< (((tn 0).1 6) &&& 31)).toInt ≤ x6_43.toInt := i_le.mp c_54
          refine lv_iload hx hb dX5_council_140 (lv_at hl 4 rfl) ?_
          refine lv_iconst (v := (-1)) hx hb dX5_council_142 (by decide) ?_
          refine lv_icmp_ne (tgt := 148) hx hb dX5_council_143 (by decide) (fun c_143 => ?_) (fun c_143 => ?_)
          · replace hE := (if_neg c_143).symm.trans hE
            have i_143 : x4_43.toInt ≠ (-1) := fun h => c_143 (Int32.toInt_inj.mp h)
            refine lv_iload_n hx hb dX5_council_148 rfl (lv_at hl 3 rfl) ?_
            refine lv_if_ne (tgt := 157) hx hb dX5_council_149 (by decide) (fun c_149 => ?_) (fun c_149 => ?_)
            · replace hE := (if_neg c_149).symm.trans hE
              have i_149 : p3.toInt ≠ 0 := fun h => c_149 (Int32.toInt_inj.mp h)
              refine lv_iload hx hb dX5_council_157 (lv_at hl 5 rfl) ?_
              subst hQ
              exact g_iret hx hb hr hlocks hG ((t_m_43, jk) : Ob × (Nat → Nat → Int32)) rfl hE.symm dX5_council_159
            replace hE := (if_pos c_149).symm.trans hE
            have i_149 : p3.toInt = 0 := congrArg Int32.toInt c_149
            refine lv_iload hx hb dX5_council_152 (lv_at hl 4 rfl) ?_
            refine lv_goto (tgt := 159) hx hb dX5_council_154 (by decide) ?_
            subst hQ
            exact g_iret hx hb hr hlocks hG ((t_m_43, jk) : Ob × (Nat → Nat → Int32)) rfl hE.symm dX5_council_159
          replace hE := (if_pos c_143).symm.trans hE
          have i_143 : x4_43.toInt = (-1) := congrArg Int32.toInt c_143
          refine lv_iconst (v := (-1)) hx hb dX5_council_146 (by decide) ?_
          subst hQ
          exact g_iret hx hb hr hlocks hG ((t_m_43, jk) : Ob × (Nat → Nat → Int32)) rfl hE.symm dX5_council_147
        replace hE := (if_neg c_54).symm.trans hE
        have i_54 : x6_43.toInt < (1 <<< (((tn 0).1 6) &&& 31)).toInt := i_nle c_54
        refine lv_iload hx hb dX5_council_57 (lv_at hl 6 rfl) ?_
        refine g_si (g_runS (n := 1) (rest := []) hx hb hml hown hts hG (c_bitCount _) tw_ml_RX5_186 tw_st_J6_bitCount_0f7a4 tw_in_RJ6 tw_cd_J6_bitCount_0f7a4 (by decide +kernel) ⟨rfl, rfl, Nat.le_of_ble_eq_true rfl, Nat.le_of_ble_eq_true rfl⟩ rfl hl.1 rfl (Nat.le_of_ble_eq_true rfl) dX5_council_59 ⟨Nat.le_refl _, Nat.le_refl _⟩) hG hA (fun H locs hG => ?_)
        refine lv_istore (lv' := [(7, .int (F_bitCount x6_43)), (0, .ref (gA g 0)), (1, .int p1), (2, .int p2), (3, .int p3), (4, .int x4_43), (5, .int x5_43), (6, .int x6_43)]) hx hb dX5_council_62 hl (by decide) rfl (fun ls hl => ?_)
        replace hl := lv_sub hl [1, 2, 3, 4, 5, 6, 7, 0] (l' := [(0, .ref (gA g 0)), (1, .int p1), (2, .int p2), (3, .int p3), (4, .int x4_43), (5, .int x5_43), (6, .int x6_43), (7, .int (F_bitCount x6_43))]) rfl
        refine lv_iload hx hb dX5_council_64 (lv_at hl 6 rfl) ?_
        refine lv_aload_n hx hb dX5_council_66 rfl (lv_at hl 0 rfl) ?_
        refine g_get hx hb hts hiX5 hown hG gw_Bell rfl 4 (by decide) (index := 53) tw_fl_RX5_53 (v := .ref (gA g (40 + 6 * 0))) rfl dX5_council_67 ?_
        refine g_get hx hb hts hiX4 hown hG (gw_Town (o := 0) (by decide) (show _ = (tn 0) from rfl)) rfl 5 (by decide) (index := 151) tw_fl_RX5_151 (v := .int ((tn 0).1 5)) rfl dX5_council_70 ?_
        refine lv_iand hx hb dX5_council_73 ?_
        have J134 : ∀ (x4_134 : Int32) (x5_134 : Int32) (t_m_134 : Ob) (jk : (Nat → Nat → Int32)) (H : Heap) (locs : List Loc), gS g A s H locs (gW g bb tx rw sb dy (va_up tn 1 t_m_134) mo jk) → ∀ ls : Array Slot, lv_has ls 9 [(0, .ref (gA g 0)), (1, .int p1), (2, .int p2), (3, .int p3), (4, .int x4_134), (5, .int x5_134), (6, .int x6_43)] → F_X5_council_b134  (F_X5_council_l43 n43 ) tx tn t_m_134 p1 p2 p3 x4_134 x5_134 x6_43 = EE → W p l e (rmL 9) s m [.ref (gA g 0), .int p1, .int p2, .int p3].toArray below meth c H locs 0 0 Q (F0 m 134 ls []) := by
          intro x4_134 x5_134 t_m_134 jk H locs hG ls hl  hE
          unfold F_X5_council_b134 at hE
          refine lv_iinc (v := (x6_43 + 1)) (lv' := [(6, .int (x6_43 + 1)), (0, .ref (gA g 0)), (1, .int p1), (2, .int p2), (3, .int p3), (4, .int x4_134), (5, .int x5_134)]) hx hb dX5_council_134 hl (k := 6) rfl rfl (by decide) rfl (fun ls hl => ?_)
          replace hl := lv_sub hl [1, 2, 3, 4, 5, 6, 0] (l' := [(0, .ref (gA g 0)), (1, .int p1), (2, .int p2), (3, .int p3), (4, .int x4_134), (5, .int x5_134), (6, .int (x6_43 + 1))]) rfl
          refine lv_goto (tgt := 43) hx hb dX5_council_137 (by decide) ?_
          have e1 : (x6_43 + 1).toInt = x6_43.toInt + 1 := addL (k := 1) (by decide +kernel) (by clear hE; omega) (by clear hE; omega)
          exact ih43 x4_134 x5_134 (x6_43 + 1) t_m_134 _ _ _ hG _ (lv_sub hl [0, 1, 2, 3, 4, 5, 6] rfl) (by clear hE; omega) (by clear hE; omega) (by clear hE; omega) hE
        refine lv_if_ne (tgt := 134) hx hb dX5_council_74 (by decide) (fun c_74 => ?_) (fun c_74 => ?_)
        · replace hE := (if_neg c_74).symm.trans hE
          have i_74 : (x6_43 &&& ((tn 0).1 5)).toInt ≠ 0 := fun h => c_74 (Int32.toInt_inj.mp h)
          exact J134 x4_43 x5_43 t_m_43 _ _ _ hG _ (lv_sub hl [0, 1, 2, 3, 4, 5, 6] rfl) hE
        replace hE := (if_pos c_74).symm.trans hE
        have i_74 : (x6_43 &&& ((tn 0).1 5)).toInt = 0 := congrArg Int32.toInt c_74
        refine lv_iload hx hb dX5_council_77 (lv_at hl 7 rfl) ?_
        refine lv_iload hx hb dX5_council_79 (lv_at hl 5 rfl) ?_
        refine lv_icmp_lt (tgt := 87) hx hb dX5_council_81 (by decide) (fun c_81 => ?_) (fun c_81 => ?_)
        · replace hE := (if_pos c_81).symm.trans hE
          have i_81 : (F_bitCount x6_43).toInt < x5_43.toInt := i_lt.mp c_81
          refine lv_aload_n hx hb dX5_council_87 rfl (lv_at hl 0 rfl) ?_
          refine g_cr (g_runV (n := 0) (rest := []) hx hb hml hown hts hG (c_X5_startThought hv.2.1) tw_ml_RX5_157 tw_im_X5_startThought tw_se_X5_startThought tw_in_RX5 tw_cd_X5_startThought (by decide +kernel) ⟨rfl, rfl, Nat.le_of_ble_eq_true rfl, Nat.le_of_ble_eq_true rfl⟩ gw_Bell rfl rfl hl.1 rfl (Nat.le_of_ble_eq_true rfl) dX5_council_88 ⟨Nat.le_refl _, Nat.le_refl _⟩) hG hA (fun u H locs hp hG => ?_)
          obtain ⟨t_m_88, rfl⟩ : ∃ z, z = u := ⟨u, rfl⟩
          replace hG : gS g A s H locs (gW g bb tx rw sb dy (va_up tn 1 t_m_88) mo jk) := by simpa only [up_up] using hG
          have hp_88 := hp
          rw [hp] at hE
          unfold F_X5_council_c88 at hE
          try dsimp only at hE
          have hv88 : tEv tx t_m_88 := tEv_st hp_88 hv
          refine lv_astore (lv' := [(8, .ref (gA g (40 + 6 * 1))), (0, .ref (gA g 0)), (1, .int p1), (2, .int p2), (3, .int p3), (4, .int x4_43), (5, .int x5_43), (6, .int x6_43), (7, .int (F_bitCount x6_43))]) hx hb dX5_council_91 hl (by decide) rfl (fun ls hl => ?_)
          replace hl := lv_sub hl [1, 2, 3, 4, 5, 6, 7, 8, 0] (l' := [(0, .ref (gA g 0)), (1, .int p1), (2, .int p2), (3, .int p3), (4, .int x4_43), (5, .int x5_43), (6, .int x6_43), (7, .int (F_bitCount x6_43)), (8, .ref (gA g (40 + 6 * 1)))]) rfl
          refine lv_aload hx hb dX5_council_93 (lv_at hl 8 rfl) ?_
          refine lv_dup hx hb dX5_council_95 rfl ?_
          refine g_get hx hb hts hiX4 hown hG (gw_Town (o := 1) (by decide) (up_same _ _ _)) rfl 5 (by decide) (index := 151) tw_fl_RX5_151 (v := .int (t_m_88.1 5)) rfl dX5_council_96 ?_
          refine lv_iload hx hb dX5_council_99 (lv_at hl 6 rfl) ?_
          refine lv_ior hx hb dX5_council_101 ?_
          refine g_put hx hb hts hiX4 tyX4 tyX4_ok nmX4 hown hG (gw_Town (o := 1) (by decide) (up_same _ _ _)) rfl 5 (by decide) (index := 151) tw_fl_RX5_151 rfl rfl rfl (Nat.le_of_ble_eq_true rfl) (gt_Town_f5 (o := 1) (by decide)) dX5_council_102 (fun H locs hG => ?_)
          refine lv_aload hx hb dX5_council_105 (lv_at hl 8 rfl) ?_
          refine lv_iload_n hx hb dX5_council_107 rfl (lv_at hl 1 rfl) ?_
          refine g_ci (g_runV (n := 1) (rest := []) hx hb hml hown hts hG (c_X4_passHours (by decide) (up_same _ _ _) p1 hv88 (by clear hE; omega)) tw_ml_RX5_161 tw_im_X4_passHours tw_se_X4_passHours tw_in_RX4 tw_cd_X4_passHours (by decide +kernel) ⟨rfl, rfl, Nat.le_of_ble_eq_true rfl, Nat.le_of_ble_eq_true rfl⟩ (gw_Town (o := 1) (by decide) (up_same _ _ _)) rfl rfl hl.1 rfl (Nat.le_of_ble_eq_true rfl) dX5_council_108 ⟨Nat.le_refl _, Nat.le_refl _⟩) hG hA (fun r_108 u H locs hp hG => ?_)
          obtain ⟨t_m_108, jk⟩ := u
          replace hG : gS g A s H locs (gW g bb tx rw sb dy (va_up tn 1 t_m_108) mo jk) := by simpa only [up_up] using hG
          have hp_108 := hp
          rw [hp] at hE
          unfold F_X5_council_c108 at hE
          try dsimp only at hE
          have hv108 : tEv tx t_m_108 := tEv_pHs hp_108 hv88
          refine lv_pop hx hb dX5_council_111 rfl ?_
          refine lv_aload hx hb dX5_council_112 (lv_at hl 8 rfl) ?_
          refine lv_aload hx hb dX5_council_114 (lv_at hl 8 rfl) ?_
          refine g_ci (g_runV (n := 0) (rest := [.ref (gA g (40 + 6 * 1))]) hx hb hml hown hts hG (c_X4_liars (by decide) (up_same _ _ _) hv108) tw_ml_RX5_144 tw_im_X4_liars tw_se_X4_liars tw_in_RX4 tw_cd_X4_liars (by decide +kernel) ⟨rfl, rfl, Nat.le_of_ble_eq_true rfl, Nat.le_of_ble_eq_true rfl⟩ (gw_Town (o := 1) (by decide) (up_same _ _ _)) rfl rfl hl.1 rfl (Nat.le_of_ble_eq_true rfl) dX5_council_116 ⟨Nat.le_refl _, Nat.le_refl _⟩) hG hA (fun r jk H locs hp hG => ?_)
          subst hp
          replace hG : gS g A s H locs (gW g bb tx rw sb dy (va_up tn 1 t_m_108) mo jk) := hG
          refine g_ci (g_runV (n := 1) (rest := []) hx hb hml hown hts hG (c_X4_strikesOf (by decide) (up_same _ _ _) (F_X4_liars tx t_m_108) hv108) tw_ml_RX5_148 tw_im_X4_strikesOf tw_se_X4_strikesOf tw_in_RX4 tw_cd_X4_strikesOf (by decide +kernel) ⟨rfl, rfl, Nat.le_of_ble_eq_true rfl, Nat.le_of_ble_eq_true rfl⟩ (gw_Town (o := 1) (by decide) (up_same _ _ _)) rfl rfl hl.1 rfl (Nat.le_of_ble_eq_true rfl) dX5_council_119 ⟨Nat.le_refl _, Nat.le_refl _⟩) hG hA (fun r jk H locs hp hG => ?_)
          subst hp
          replace hG : gS g A s H locs (gW g bb tx rw sb dy (va_up tn 1 t_m_108) mo jk) := hG
          refine lv_iload_n hx hb dX5_council_122 rfl (lv_at hl 2 rfl) ?_
          refine lv_icmp_ne (tgt := 134) hx hb dX5_council_123 (by decide) (fun c_123 => ?_) (fun c_123 => ?_)
          · replace hE := (if_neg c_123).symm.trans hE
            exact J134 x4_43 x5_43 t_m_108 _ _ _ hG _ (lv_sub hl [0, 1, 2, 3, 4, 5, 6] rfl) hE
          replace hE := (if_pos c_123).symm.trans hE
          refine lv_iload hx hb dX5_council_126 (lv_at hl 6 rfl) ?_
          refine lv_istore (lv' := [(4, .int x6_43), (0, .ref (gA g 0)), (1, .int p1), (2, .int p2), (3, .int p3), (5, .int x5_43), (6, .int x6_43), (7, .int (F_bitCount x6_43)), (8, .ref (gA g (40 + 6 * 1)))]) hx hb dX5_council_128 hl (by decide) rfl (fun ls hl => ?_)
          replace hl := lv_sub hl [1, 2, 3, 4, 0, 5, 6, 7, 8] (l' := [(0, .ref (gA g 0)), (1, .int p1), (2, .int p2), (3, .int p3), (4, .int x6_43), (5, .int x5_43), (6, .int x6_43), (7, .int (F_bitCount x6_43)), (8, .ref (gA g (40 + 6 * 1)))]) rfl
          refine lv_iload hx hb dX5_council_130 (lv_at hl 7 rfl) ?_
          refine lv_istore (lv' := [(5, .int (F_bitCount x6_43)), (0, .ref (gA g 0)), (1, .int p1), (2, .int p2), (3, .int p3), (4, .int x6_43), (6, .int x6_43), (7, .int (F_bitCount x6_43)), (8, .ref (gA g (40 + 6 * 1)))]) hx hb dX5_council_132 hl (by decide) rfl (fun ls hl => ?_)
          replace hl := lv_sub hl [1, 2, 3, 4, 5, 0, 6, 7, 8] (l' := [(0, .ref (gA g 0)), (1, .int p1), (2, .int p2), (3, .int p3), (4, .int x6_43), (5, .int (F_bitCount x6_43)), (6, .int x6_43), (7, .int (F_bitCount x6_43)), (8, .ref (gA g (40 + 6 * 1)))]) rfl
          exact J134 x6_43 (F_bitCount x6_43) t_m_108 _ _ _ hG _ (lv_sub hl [0, 1, 2, 3, 4, 5, 6] rfl) hE
        replace hE := (if_neg c_81).symm.trans hE
        have i_81 : x5_43.toInt ≤ (F_bitCount x6_43).toInt := i_nlt c_81
        refine lv_goto (tgt := 134) hx hb dX5_council_84 (by decide) ?_
        exact J134 x4_43 x5_43 t_m_43 _ _ _ hG _ (lv_sub hl [0, 1, 2, 3, 4, 5, 6] rfl) hE
    exact L43 65 (-1) 7 0 (tn 1) _ _ _ hG _ (lv_sub hl [0, 1, 2, 3, 4, 5, 6] rfl) (by decide) (by decide) (by decide) hE
  replace hE := (if_pos c_27).symm.trans hE
  refine lv_bipush (v := (-2)) hx hb dX5_council_30 (by decide) ?_
  subst hQ
  exact g_iret hx hb hr hlocks hG (((tn 1), jk) : Ob × (Nat → Nat → Int32)) rfl hE.symm dX5_council_32
def F_X5_inCrowd_c74 (K21 : (Nat → Ob) → (Nat → Ob) → Ob → Int32 → Int32 → Int64 → Int32 → Int32 → Int32 → Int32 × Ob) (u : Int32 × Ob) (tx : Nat → Ob) (tn : Nat → Ob) (x2 : Int32) (x3 : Int32) (y5 : Int64) (x8 : Int32) (x9 : Int32) (z0 : Int32) : Int32 × Ob :=
  (K21 tx tn u.2 x2 x3 y5 (z0 + u.1) x8 (x9 + 1))
def F_X5_inCrowd_c48 (K21 : (Nat → Ob) → (Nat → Ob) → Ob → Int32 → Int32 → Int64 → Int32 → Int32 → Int32 → Int32 × Ob) (u : Ob) (tx : Nat → Ob) (tn : Nat → Ob) (x2 : Int32) (x3 : Int32) (y5 : Int64) (x7 : Int32) (x8 : Int32) (x9 : Int32) : Int32 × Ob :=
  (F_X5_inCrowd_c74 K21 (F_X4_passHour tx u (F_X4_liars tx u)) tx tn x2 x3 y5 (x8 + (F_bitCount (F_X4_liars tx u))) x9 x7)
def F_X5_inCrowd_l21 : Nat → (Nat → Ob) → (Nat → Ob) → Ob → Int32 → Int32 → Int64 → Int32 → Int32 → Int32 → Int32 × Ob
  | 0, _, _, t_m, _, _, _, _, _, _ => (0, t_m)
  | n + 1, tx, tn, t_m, x2, x3, y5, x7, x8, x9 =>
    (if x2 ≤ x9 then (if x3 = 0 then (x7, t_m) else (x8, t_m)) else (F_X5_inCrowd_c48 (F_X5_inCrowd_l21 n ) (F_X4_turnVow t_m (Int64.toInt32 (((y5 * 48271) - (y5 * 48271) / 2147483647 * 2147483647) - ((y5 * 48271) - (y5 * 48271) / 2147483647 * 2147483647) / 8 * 8))) tx tn x2 x3 ((y5 * 48271) - (y5 * 48271) / 2147483647 * 2147483647) x7 x8 x9))
def F_X5_inCrowd_c1 (u : Ob) (tx : Nat → Ob) (tn : Nat → Ob) (x1 : Int32) (x2 : Int32) (x3 : Int32) : Int32 × Ob :=
  (F_X5_inCrowd_l21 49  tx tn u x2 x3 ((Int32.toInt64 x1) + 1) 0 0 0)
def F_X5_inCrowd (tx : Nat → Ob) (tn : Nat → Ob) (p1 : Int32) (p2 : Int32) (p3 : Int32) : Int32 × Ob :=
  (F_X5_inCrowd_c1 (F_X5_startThought (va_up tn 1 (tn 1))) tx tn p1 p2 p3)
set_option maxHeartbeats 4000000 in
set_option maxRecDepth 100000 in
theorem c_X5_inCrowd {l : Launch} {g : GG} {sz : Nat} {bb : Ob} {tx rw : Nat → Ob} {sb dy : Ob} {tn : Nat → Ob} {mo : Ob} {jk : Nat → Nat → Int32}  (p1 : Int32) (p2 : Int32) (p3 : Int32) (hv : tEv tx (tn 0)) (hn : p2.toInt ≤ 48) : Met l yX5_inCrowd (Cond.code yX5_inCrowd cX5_inCrowd 11 (some .int) :: TT) (rmL 9) (va_Pc [.ref (gA g 0), .int p1, .int p2, .int p3] (gB g sz (gW g bb tx rw sb dy tn mo jk))) (va_Qi (fun r (u : Ob × (Nat → Nat → Int32)) => (F_X5_inCrowd tx tn p1 p2 p3) = (r, u.1)) (fun u t => gC g (va_A (gW g bb tx rw sb dy tn mo jk) sz) (gW g bb tx rw sb dy (va_up tn 1 u.1) mo u.2) t) (va_A (gW g bb tx rw sb dy tn mo jk) sz)) 0 0 (va_A (gW g bb tx rw sb dy tn mo jk) sz) := by
  generalize hE : F_X5_inCrowd tx tn p1 p2 p3 = EE
  refine g_of (Qf := fun A => (va_Qi (fun r (u : Ob × (Nat → Nat → Int32)) => EE = (r, u.1)) (fun u t => gC g A (gW g bb tx rw sb dy (va_up tn 1 u.1) mo u.2) t) A)) (cc := cX5_inCrowd) (maxL := 11) (ret := (some .int)) (by decide) (Nat.le_of_ble_eq_true rfl) ?_
  intro p e s m below meth c A ls hx hb hml hr hlocks hts hown hA hG hl
  replace hown : s.vm.findClass RX5 = some m.cls := hown
  replace hl : lv_has ls 11 [(0, .ref (gA g 0)), (1, .int p1), (2, .int p2), (3, .int p3)] := hl
  show W p l e (rmL 9) s m [.ref (gA g 0), .int p1, .int p2, .int p3].toArray below meth c s.heap [] 0 0 (MQ below (va_Qi (fun r (u : Ob × (Nat → Nat → Int32)) => EE = (r, u.1)) (fun u t => gC g A (gW g bb tx rw sb dy (va_up tn 1 u.1) mo u.2) t) A) [.ref (gA g 0), .int p1, .int p2, .int p3].toArray s 0 0 A) (F0 m 0 ls [])
  generalize hQ : MQ below (va_Qi (fun r (u : Ob × (Nat → Nat → Int32)) => EE = (r, u.1)) (fun u t => gC g A (gW g bb tx rw sb dy (va_up tn 1 u.1) mo u.2) t) A) [.ref (gA g 0), .int p1, .int p2, .int p3].toArray s 0 0 A = Q
  replace hG : gS g A s s.heap [] (gW g bb tx rw sb dy (va_up tn 1 (tn 1)) mo jk) := by simpa only [up_self] using hG
  unfold F_X5_inCrowd at hE
  refine lv_aload_n hx hb dX5_inCrowd_0 rfl (lv_at hl 0 rfl) ?_
  refine g_cr (g_runV (n := 0) (rest := []) hx hb hml hown hts hG (c_X5_startThought hv.2.1) tw_ml_RX5_157 tw_im_X5_startThought tw_se_X5_startThought tw_in_RX5 tw_cd_X5_startThought (by decide +kernel) ⟨rfl, rfl, Nat.le_of_ble_eq_true rfl, Nat.le_of_ble_eq_true rfl⟩ gw_Bell rfl rfl hl.1 rfl (Nat.le_of_ble_eq_true rfl) dX5_inCrowd_1 ⟨Nat.le_refl _, Nat.le_refl _⟩) hG hA (fun u H locs hp hG => ?_)
  obtain ⟨t_m_1, rfl⟩ : ∃ z, z = u := ⟨u, rfl⟩
  replace hG : gS g A s H locs (gW g bb tx rw sb dy (va_up tn 1 t_m_1) mo jk) := by simpa only [up_up] using hG
  have hp_1 := hp
  rw [hp] at hE
  unfold F_X5_inCrowd_c1 at hE
  try dsimp only at hE
  have hv1 : tEv tx t_m_1 := tEv_st hp_1 hv
  refine lv_astore (lv' := [(4, .ref (gA g (40 + 6 * 1))), (0, .ref (gA g 0)), (1, .int p1), (2, .int p2), (3, .int p3)]) hx hb dX5_inCrowd_4 hl (by decide) rfl (fun ls hl => ?_)
  replace hl := lv_sub hl [1, 2, 3, 4, 0] (l' := [(0, .ref (gA g 0)), (1, .int p1), (2, .int p2), (3, .int p3), (4, .ref (gA g (40 + 6 * 1)))]) rfl
  refine lv_iload_n hx hb dX5_inCrowd_6 rfl (lv_at hl 1 rfl) ?_
  refine lv_i2l (v := (Int32.toInt64 p1)) hx hb dX5_inCrowd_7 rfl ?_
  refine lv_lconst (v := 1) hx hb dX5_inCrowd_8 (by decide) ?_
  refine lv_ladd hx hb dX5_inCrowd_9 ?_
  refine lv_lstore (lv' := [(5, .long ((Int32.toInt64 p1) + 1)), (0, .ref (gA g 0)), (1, .int p1), (2, .int p2), (3, .int p3), (4, .ref (gA g (40 + 6 * 1)))]) hx hb dX5_inCrowd_10 hl (by decide) rfl (fun ls hl => ?_)
  replace hl := lv_sub hl [1, 2, 3, 4, 5, 0] (l' := [(0, .ref (gA g 0)), (1, .int p1), (2, .int p2), (3, .int p3), (4, .ref (gA g (40 + 6 * 1))), (5, .long ((Int32.toInt64 p1) + 1))]) rfl
  refine lv_iconst (v := 0) hx hb dX5_inCrowd_12 (by decide) ?_
  refine lv_istore (lv' := [(7, .int 0), (0, .ref (gA g 0)), (1, .int p1), (2, .int p2), (3, .int p3), (4, .ref (gA g (40 + 6 * 1))), (5, .long ((Int32.toInt64 p1) + 1))]) hx hb dX5_inCrowd_13 hl (by decide) rfl (fun ls hl => ?_)
  replace hl := lv_sub hl [1, 2, 3, 4, 5, 6, 0] (l' := [(0, .ref (gA g 0)), (1, .int p1), (2, .int p2), (3, .int p3), (4, .ref (gA g (40 + 6 * 1))), (5, .long ((Int32.toInt64 p1) + 1)), (7, .int 0)]) rfl
  refine lv_iconst (v := 0) hx hb dX5_inCrowd_15 (by decide) ?_
  refine lv_istore (lv' := [(8, .int 0), (0, .ref (gA g 0)), (1, .int p1), (2, .int p2), (3, .int p3), (4, .ref (gA g (40 + 6 * 1))), (5, .long ((Int32.toInt64 p1) + 1)), (7, .int 0)]) hx hb dX5_inCrowd_16 hl (by decide) rfl (fun ls hl => ?_)
  replace hl := lv_sub hl [1, 2, 3, 4, 5, 6, 7, 0] (l' := [(0, .ref (gA g 0)), (1, .int p1), (2, .int p2), (3, .int p3), (4, .ref (gA g (40 + 6 * 1))), (5, .long ((Int32.toInt64 p1) + 1)), (7, .int 0), (8, .int 0)]) rfl
  refine lv_iconst (v := 0) hx hb dX5_inCrowd_18 (by decide) ?_
  refine lv_istore (lv' := [(9, .int 0), (0, .ref (gA g 0)), (1, .int p1), (2, .int p2), (3, .int p3), (4, .ref (gA g (40 + 6 * 1))), (5, .long ((Int32.toInt64 p1) + 1)), (7, .int 0), (8, .int 0)]) hx hb dX5_inCrowd_19 hl (by decide) rfl (fun ls hl => ?_)
  replace hl := lv_sub hl [1, 2, 3, 4, 5, 6, 7, 8, 0] (l' := [(0, .ref (gA g 0)), (1, .int p1), (2, .int p2), (3, .int p3), (4, .ref (gA g (40 + 6 * 1))), (5, .long ((Int32.toInt64 p1) + 1)), (7, .int 0), (8, .int 0), (9, .int 0)]) rfl
  have L21 : ∀ (n21 : Nat) (y5_21 : Int64) (x7_21 : Int32) (x8_21 : Int32) (x9_21 : Int32) (t_m_21 : Ob) (jk : (Nat → Nat → Int32)) (H : Heap) (locs : List Loc), gS g A s H locs (gW g bb tx rw sb dy (va_up tn 1 t_m_21) mo jk) → ∀ ls : Array Slot, lv_has ls 11 [(2, .int p2), (3, .int p3), (4, .ref (gA g (40 + 6 * 1))), (5, .long y5_21), (7, .int x7_21), (8, .int x8_21), (9, .int x9_21)] → 0 ≤ x9_21.toInt → x9_21.toInt ≤ 48 → 48 < x9_21.toInt + n21 → tEv tx t_m_21 → F_X5_inCrowd_l21 n21  tx tn t_m_21 p2 p3 y5_21 x7_21 x8_21 x9_21 = EE → W p l e (rmL 9) s m [.ref (gA g 0), .int p1, .int p2, .int p3].toArray below meth c H locs 0 0 Q (F0 m 21 ls []) := by
    intro n21
    induction n21 with
    | zero =>
      intro y5_21 x7_21 x8_21 x9_21 t_m_21 jk H locs hG ls hl h0_21 h1_21 hm_21 hv21 hE
      clear hE; omega
    | succ n21 ih21 =>
      intro y5_21 x7_21 x8_21 x9_21 t_m_21 jk H locs hG ls hl h0_21 h1_21 hm_21 hv21 hE
      unfold F_X5_inCrowd_l21 at hE
      refine lv_iload hx hb dX5_inCrowd_21 (lv_at hl 6 rfl) ?_
      refine lv_iload_n hx hb dX5_inCrowd_23 rfl (lv_at hl 0 rfl) ?_
      refine lv_icmp_ge (tgt := 86) hx hb dX5_inCrowd_24 (by decide) (fun c_24 => ?_) (fun c_24 => ?_)
      · replace hE := (if_pos c_24).symm.trans hE
        have i_24 : p2.toInt ≤ x9_21.toInt := i_le.mp c_24
        refine lv_iload_n hx hb dX5_inCrowd_86 rfl (lv_at hl 1 rfl) ?_
        refine lv_if_ne (tgt := 95) hx hb dX5_inCrowd_87 (by decide) (fun c_87 => ?_) (fun c_87 => ?_)
        · replace hE := (if_neg c_87).symm.trans hE
          have i_87 : p3.toInt ≠ 0 := fun h => c_87 (Int32.toInt_inj.mp h)
          refine lv_iload hx hb dX5_inCrowd_95 (lv_at hl 5 rfl) ?_
          subst hQ
          exact g_iret hx hb hr hlocks hG ((t_m_21, jk) : Ob × (Nat → Nat → Int32)) rfl hE.symm dX5_inCrowd_97
        replace hE := (if_pos c_87).symm.trans hE
        have i_87 : p3.toInt = 0 := congrArg Int32.toInt c_87
        refine lv_iload hx hb dX5_inCrowd_90 (lv_at hl 4 rfl) ?_
        refine lv_goto (tgt := 97) hx hb dX5_inCrowd_92 (by decide) ?_
        subst hQ
        exact g_iret hx hb hr hlocks hG ((t_m_21, jk) : Ob × (Nat → Nat → Int32)) rfl hE.symm dX5_inCrowd_97
      replace hE := (if_neg c_24).symm.trans hE
      have i_24 : x9_21.toInt < p2.toInt := i_nle c_24
      refine lv_lload hx hb dX5_inCrowd_27 (lv_at hl 3 rfl) ?_
      refine lv_ldc2 (v := 48271) hx hb hown (hts _ tw_cg_RX5_259) dX5_inCrowd_29 ?_
      refine lv_lmul hx hb dX5_inCrowd_32 ?_
      refine lv_ldc2 (v := 2147483647) hx hb hown (hts _ tw_cg_RX5_261) dX5_inCrowd_33 ?_
      refine lv_lrem hx hb dX5_inCrowd_36 (by decide) ?_
      refine lv_lstore (lv' := [(5, .long ((y5_21 * 48271) - (y5_21 * 48271) / 2147483647 * 2147483647)), (2, .int p2), (3, .int p3), (4, .ref (gA g (40 + 6 * 1))), (7, .int x7_21), (8, .int x8_21), (9, .int x9_21)]) hx hb dX5_inCrowd_37 hl (by decide) rfl (fun ls hl => ?_)
      replace hl := lv_sub hl [1, 2, 3, 0, 4, 5, 6] (l' := [(2, .int p2), (3, .int p3), (4, .ref (gA g (40 + 6 * 1))), (5, .long ((y5_21 * 48271) - (y5_21 * 48271) / 2147483647 * 2147483647)), (7, .int x7_21), (8, .int x8_21), (9, .int x9_21)]) rfl
      refine lv_aload hx hb dX5_inCrowd_39 (lv_at hl 2 rfl) ?_
      refine lv_lload hx hb dX5_inCrowd_41 (lv_at hl 3 rfl) ?_
      refine lv_ldc2 (v := 8) hx hb hown (hts _ tw_cg_RX5_263) dX5_inCrowd_43 ?_
      refine lv_lrem hx hb dX5_inCrowd_46 (by decide) ?_
      refine lv_l2i (v := (Int64.toInt32 (((y5_21 * 48271) - (y5_21 * 48271) / 2147483647 * 2147483647) - ((y5_21 * 48271) - (y5_21 * 48271) / 2147483647 * 2147483647) / 8 * 8))) hx hb dX5_inCrowd_47 rfl ?_
      refine g_cv (g_runV (n := 1) (rest := []) hx hb hml hown hts hG (c_X4_turnVow (by decide) (up_same _ _ _) (Int64.toInt32 (((y5_21 * 48271) - (y5_21 * 48271) / 2147483647 * 2147483647) - ((y5_21 * 48271) - (y5_21 * 48271) / 2147483647 * 2147483647) / 8 * 8))) tw_ml_RX5_183 tw_im_X4_turnVow tw_se_X4_turnVow tw_in_RX4 tw_cd_X4_turnVow (by decide +kernel) ⟨rfl, rfl, Nat.le_of_ble_eq_true rfl, Nat.le_of_ble_eq_true rfl⟩ (gw_Town (o := 1) (by decide) (up_same _ _ _)) rfl rfl hl.1 rfl (Nat.le_of_ble_eq_true rfl) dX5_inCrowd_48 ⟨Nat.le_refl _, Nat.le_refl _⟩) hG hA (fun u H locs hp hG => ?_)
      obtain ⟨t_m_48, rfl⟩ : ∃ z, z = u := ⟨u, rfl⟩
      replace hG : gS g A s H locs (gW g bb tx rw sb dy (va_up tn 1 t_m_48) mo jk) := by simpa only [up_up] using hG
      have hp_48 := hp
      rw [hp] at hE
      unfold F_X5_inCrowd_c48 at hE
      try dsimp only at hE
      have hv48 : tEv tx t_m_48 := tEv_tv hp_48 hv21
      refine lv_aload hx hb dX5_inCrowd_51 (lv_at hl 2 rfl) ?_
      refine g_ci (g_runV (n := 0) (rest := []) hx hb hml hown hts hG (c_X4_liars (by decide) (up_same _ _ _) hv48) tw_ml_RX5_144 tw_im_X4_liars tw_se_X4_liars tw_in_RX4 tw_cd_X4_liars (by decide +kernel) ⟨rfl, rfl, Nat.le_of_ble_eq_true rfl, Nat.le_of_ble_eq_true rfl⟩ (gw_Town (o := 1) (by decide) (up_same _ _ _)) rfl rfl hl.1 rfl (Nat.le_of_ble_eq_true rfl) dX5_inCrowd_53 ⟨Nat.le_refl _, Nat.le_refl _⟩) hG hA (fun r jk H locs hp hG => ?_)
      subst hp
      replace hG : gS g A s H locs (gW g bb tx rw sb dy (va_up tn 1 t_m_48) mo jk) := hG
      refine lv_istore (lv' := [(10, .int (F_X4_liars tx t_m_48)), (2, .int p2), (3, .int p3), (4, .ref (gA g (40 + 6 * 1))), (5, .long ((y5_21 * 48271) - (y5_21 * 48271) / 2147483647 * 2147483647)), (7, .int x7_21), (8, .int x8_21), (9, .int x9_21)]) hx hb dX5_inCrowd_56 hl (by decide) rfl (fun ls hl => ?_)
      replace hl := lv_sub hl [1, 2, 3, 4, 5, 6, 7, 0] (l' := [(2, .int p2), (3, .int p3), (4, .ref (gA g (40 + 6 * 1))), (5, .long ((y5_21 * 48271) - (y5_21 * 48271) / 2147483647 * 2147483647)), (7, .int x7_21), (8, .int x8_21), (9, .int x9_21), (10, .int (F_X4_liars tx t_m_48))]) rfl
      refine lv_iload hx hb dX5_inCrowd_58 (lv_at hl 5 rfl) ?_
      refine lv_iload hx hb dX5_inCrowd_60 (lv_at hl 7 rfl) ?_
      refine g_si (g_runS (n := 1) (rest := [.int x8_21]) hx hb hml hown hts hG (c_bitCount _) tw_ml_RX5_186 tw_st_J6_bitCount_0f7a4 tw_in_RJ6 tw_cd_J6_bitCount_0f7a4 (by decide +kernel) ⟨rfl, rfl, Nat.le_of_ble_eq_true rfl, Nat.le_of_ble_eq_true rfl⟩ rfl hl.1 rfl (Nat.le_of_ble_eq_true rfl) dX5_inCrowd_62 ⟨Nat.le_refl _, Nat.le_refl _⟩) hG hA (fun H locs hG => ?_)
      refine lv_iadd hx hb dX5_inCrowd_65 ?_
      refine lv_istore (lv' := [(8, .int (x8_21 + (F_bitCount (F_X4_liars tx t_m_48)))), (2, .int p2), (3, .int p3), (4, .ref (gA g (40 + 6 * 1))), (5, .long ((y5_21 * 48271) - (y5_21 * 48271) / 2147483647 * 2147483647)), (7, .int x7_21), (9, .int x9_21), (10, .int (F_X4_liars tx t_m_48))]) hx hb dX5_inCrowd_66 hl (by decide) rfl (fun ls hl => ?_)
      replace hl := lv_sub hl [1, 2, 3, 4, 5, 0, 6, 7] (l' := [(2, .int p2), (3, .int p3), (4, .ref (gA g (40 + 6 * 1))), (5, .long ((y5_21 * 48271) - (y5_21 * 48271) / 2147483647 * 2147483647)), (7, .int x7_21), (8, .int (x8_21 + (F_bitCount (F_X4_liars tx t_m_48)))), (9, .int x9_21), (10, .int (F_X4_liars tx t_m_48))]) rfl
      refine lv_iload hx hb dX5_inCrowd_68 (lv_at hl 4 rfl) ?_
      refine lv_aload hx hb dX5_inCrowd_70 (lv_at hl 2 rfl) ?_
      refine lv_iload hx hb dX5_inCrowd_72 (lv_at hl 7 rfl) ?_
      refine g_ci (g_runV (n := 1) (rest := [.int x7_21]) hx hb hml hown hts hG (c_X4_passHour (by decide) (up_same _ _ _) (F_X4_liars tx t_m_48) hv48) tw_ml_RX5_154 tw_im_X4_passHour tw_se_X4_passHour tw_in_RX4 tw_cd_X4_passHour (by decide +kernel) ⟨rfl, rfl, Nat.le_of_ble_eq_true rfl, Nat.le_of_ble_eq_true rfl⟩ (gw_Town (o := 1) (by decide) (up_same _ _ _)) rfl rfl hl.1 rfl (Nat.le_of_ble_eq_true rfl) dX5_inCrowd_74 ⟨Nat.le_refl _, Nat.le_refl _⟩) hG hA (fun r_74 u H locs hp hG => ?_)
      obtain ⟨t_m_74, jk⟩ := u
      replace hG : gS g A s H locs (gW g bb tx rw sb dy (va_up tn 1 t_m_74) mo jk) := by simpa only [up_up] using hG
      have hp_74 := hp
      rw [hp] at hE
      unfold F_X5_inCrowd_c74 at hE
      try dsimp only at hE
      have hv74 : tEv tx t_m_74 := tEv_pH hp_74 hv48
      refine lv_iadd hx hb dX5_inCrowd_77 ?_
      refine lv_istore (lv' := [(7, .int (x7_21 + r_74)), (2, .int p2), (3, .int p3), (4, .ref (gA g (40 + 6 * 1))), (5, .long ((y5_21 * 48271) - (y5_21 * 48271) / 2147483647 * 2147483647)), (8, .int (x8_21 + (F_bitCount (F_X4_liars tx t_m_48)))), (9, .int x9_21), (10, .int (F_X4_liars tx t_m_48))]) hx hb dX5_inCrowd_78 hl (by decide) rfl (fun ls hl => ?_)
      replace hl := lv_sub hl [1, 2, 3, 4, 0, 5, 6, 7] (l' := [(2, .int p2), (3, .int p3), (4, .ref (gA g (40 + 6 * 1))), (5, .long ((y5_21 * 48271) - (y5_21 * 48271) / 2147483647 * 2147483647)), (7, .int (x7_21 + r_74)), (8, .int (x8_21 + (F_bitCount (F_X4_liars tx t_m_48)))), (9, .int x9_21), (10, .int (F_X4_liars tx t_m_48))]) rfl
      refine lv_iinc (v := (x9_21 + 1)) (lv' := [(9, .int (x9_21 + 1)), (2, .int p2), (3, .int p3), (4, .ref (gA g (40 + 6 * 1))), (5, .long ((y5_21 * 48271) - (y5_21 * 48271) / 2147483647 * 2147483647)), (7, .int (x7_21 + r_74)), (8, .int (x8_21 + (F_bitCount (F_X4_liars tx t_m_48)))), (10, .int (F_X4_liars tx t_m_48))]) hx hb dX5_inCrowd_80 hl (k := 6) rfl rfl (by decide) rfl (fun ls hl => ?_)
      replace hl := lv_sub hl [1, 2, 3, 4, 5, 6, 0, 7] (l' := [(2, .int p2), (3, .int p3), (4, .ref (gA g (40 + 6 * 1))), (5, .long ((y5_21 * 48271) - (y5_21 * 48271) / 2147483647 * 2147483647)), (7, .int (x7_21 + r_74)), (8, .int (x8_21 + (F_bitCount (F_X4_liars tx t_m_48)))), (9, .int (x9_21 + 1)), (10, .int (F_X4_liars tx t_m_48))]) rfl
      refine lv_goto (tgt := 21) hx hb dX5_inCrowd_83 (by decide) ?_
      have e1 : (x9_21 + 1).toInt = x9_21.toInt + 1 := addL (k := 1) (by decide +kernel) (by clear hE; omega) (by clear hE; omega)
      exact ih21 ((y5_21 * 48271) - (y5_21 * 48271) / 2147483647 * 2147483647) (x7_21 + r_74) (x8_21 + (F_bitCount (F_X4_liars tx t_m_48))) (x9_21 + 1) t_m_74 _ _ _ hG _ (lv_sub hl [0, 1, 2, 3, 4, 5, 6] rfl) (by clear hE; omega) (by clear hE; omega) (by clear hE; omega) hv74 hE
  exact L21 49 ((Int32.toInt64 p1) + 1) 0 0 0 t_m_1 _ _ _ hG _ (lv_sub hl [2, 3, 4, 5, 6, 7, 8] rfl) (by decide) (by decide) (by decide) hv1 hE
def F_X5_drawn_c36 (u : Int32 × Ob) (tx : Nat → Ob) (tn : Nat → Ob) : Int32 × Ob :=
  (u.1, u.2)
def F_X5_drawn (tx : Nat → Ob) (tn : Nat → Ob) (p1 : Int32) (p2 : Int32) (p3 : Int32) : Int32 × Ob :=
  (if (F_X5_isWithin p1 0 99999) = 0 then ((-2), (tn 1)) else (if (F_X5_isWithin p2 0 48) = 0 then ((-2), (tn 1)) else (if (F_X5_isWithin p3 0 1) = 0 then ((-2), (tn 1)) else (F_X5_drawn_c36 (F_X5_inCrowd tx (va_up tn 1 (tn 1)) p1 p2 p3) tx tn))))
set_option maxHeartbeats 4000000 in
set_option maxRecDepth 100000 in
theorem c_X5_drawn {l : Launch} {g : GG} {sz : Nat} {bb : Ob} {tx rw : Nat → Ob} {sb dy : Ob} {tn : Nat → Ob} {mo : Ob} {jk : Nat → Nat → Int32}  (p1 : Int32) (p2 : Int32) (p3 : Int32) (hv : tEv tx (tn 0)) : Met l yX5_drawn (Cond.code yX5_drawn cX5_drawn 4 (some .int) :: TT) (rmL 10) (va_Pc [.ref (gA g 0), .int p1, .int p2, .int p3] (gB g sz (gW g bb tx rw sb dy tn mo jk))) (va_Qi (fun r (u : Ob × (Nat → Nat → Int32)) => (F_X5_drawn tx tn p1 p2 p3) = (r, u.1)) (fun u t => gC g (va_A (gW g bb tx rw sb dy tn mo jk) sz) (gW g bb tx rw sb dy (va_up tn 1 u.1) mo u.2) t) (va_A (gW g bb tx rw sb dy tn mo jk) sz)) 0 0 (va_A (gW g bb tx rw sb dy tn mo jk) sz) := by
  generalize hE : F_X5_drawn tx tn p1 p2 p3 = EE
  refine g_of (Qf := fun A => (va_Qi (fun r (u : Ob × (Nat → Nat → Int32)) => EE = (r, u.1)) (fun u t => gC g A (gW g bb tx rw sb dy (va_up tn 1 u.1) mo u.2) t) A)) (cc := cX5_drawn) (maxL := 4) (ret := (some .int)) (by decide) (Nat.le_of_ble_eq_true rfl) ?_
  intro p e s m below meth c A ls hx hb hml hr hlocks hts hown hA hG hl
  replace hown : s.vm.findClass RX5 = some m.cls := hown
  replace hl : lv_has ls 4 [(0, .ref (gA g 0)), (1, .int p1), (2, .int p2), (3, .int p3)] := hl
  show W p l e (rmL 10) s m [.ref (gA g 0), .int p1, .int p2, .int p3].toArray below meth c s.heap [] 0 0 (MQ below (va_Qi (fun r (u : Ob × (Nat → Nat → Int32)) => EE = (r, u.1)) (fun u t => gC g A (gW g bb tx rw sb dy (va_up tn 1 u.1) mo u.2) t) A) [.ref (gA g 0), .int p1, .int p2, .int p3].toArray s 0 0 A) (F0 m 0 ls [])
  generalize hQ : MQ below (va_Qi (fun r (u : Ob × (Nat → Nat → Int32)) => EE = (r, u.1)) (fun u t => gC g A (gW g bb tx rw sb dy (va_up tn 1 u.1) mo u.2) t) A) [.ref (gA g 0), .int p1, .int p2, .int p3].toArray s 0 0 A = Q
  replace hG : gS g A s s.heap [] (gW g bb tx rw sb dy (va_up tn 1 (tn 1)) mo jk) := by simpa only [up_self] using hG
  unfold F_X5_drawn at hE
  refine lv_iload_n hx hb dX5_drawn_0 rfl (lv_at hl 1 rfl) ?_
  refine lv_iconst (v := 0) hx hb dX5_drawn_1 (by decide) ?_
  refine lv_ldc (v := 99999) hx hb hown (hts _ tw_co_RX5_226) dX5_drawn_2 ?_
  refine g_si (g_runS (n := 3) (rest := []) hx hb hml hown hts hG (c_X5_isWithin p1 0 99999) tw_ml_RX5_81 tw_st_X5_isWithin tw_in_RX5 tw_cd_X5_isWithin (by decide +kernel) ⟨rfl, rfl, Nat.le_of_ble_eq_true rfl, Nat.le_of_ble_eq_true rfl⟩ rfl hl.1 rfl (Nat.le_of_ble_eq_true rfl) dX5_drawn_4 ⟨Nat.le_refl _, Nat.le_refl _⟩) hG hA (fun H locs hG => ?_)
  refine lv_if_eq (tgt := 29) hx hb dX5_drawn_7 (by decide) (fun c_7 => ?_) (fun c_7 => ?_)
  · replace hE := (if_pos c_7).symm.trans hE
    refine lv_bipush (v := (-2)) hx hb dX5_drawn_29 (by decide) ?_
    subst hQ
    exact g_iret hx hb hr hlocks hG (((tn 1), jk) : Ob × (Nat → Nat → Int32)) rfl hE.symm dX5_drawn_31
  replace hE := (if_neg c_7).symm.trans hE
  have i_7 : 0 ≤ p1.toInt ∧ p1.toInt ≤ 99999 := within_f c_7
  refine lv_iload_n hx hb dX5_drawn_10 rfl (lv_at hl 2 rfl) ?_
  refine lv_iconst (v := 0) hx hb dX5_drawn_11 (by decide) ?_
  refine lv_bipush (v := 48) hx hb dX5_drawn_12 (by decide) ?_
  refine g_si (g_runS (n := 3) (rest := []) hx hb hml hown hts hG (c_X5_isWithin p2 0 48) tw_ml_RX5_81 tw_st_X5_isWithin tw_in_RX5 tw_cd_X5_isWithin (by decide +kernel) ⟨rfl, rfl, Nat.le_of_ble_eq_true rfl, Nat.le_of_ble_eq_true rfl⟩ rfl hl.1 rfl (Nat.le_of_ble_eq_true rfl) dX5_drawn_14 ⟨Nat.le_refl _, Nat.le_refl _⟩) hG hA (fun H locs hG => ?_)
  refine lv_if_eq (tgt := 29) hx hb dX5_drawn_17 (by decide) (fun c_17 => ?_) (fun c_17 => ?_)
  · replace hE := (if_pos c_17).symm.trans hE
    refine lv_bipush (v := (-2)) hx hb dX5_drawn_29 (by decide) ?_
    subst hQ
    exact g_iret hx hb hr hlocks hG (((tn 1), jk) : Ob × (Nat → Nat → Int32)) rfl hE.symm dX5_drawn_31
  replace hE := (if_neg c_17).symm.trans hE
  have i_17 : 0 ≤ p2.toInt ∧ p2.toInt ≤ 48 := within_f c_17
  refine lv_iload_n hx hb dX5_drawn_20 rfl (lv_at hl 3 rfl) ?_
  refine lv_iconst (v := 0) hx hb dX5_drawn_21 (by decide) ?_
  refine lv_iconst (v := 1) hx hb dX5_drawn_22 (by decide) ?_
  refine g_si (g_runS (n := 3) (rest := []) hx hb hml hown hts hG (c_X5_isWithin p3 0 1) tw_ml_RX5_81 tw_st_X5_isWithin tw_in_RX5 tw_cd_X5_isWithin (by decide +kernel) ⟨rfl, rfl, Nat.le_of_ble_eq_true rfl, Nat.le_of_ble_eq_true rfl⟩ rfl hl.1 rfl (Nat.le_of_ble_eq_true rfl) dX5_drawn_23 ⟨Nat.le_refl _, Nat.le_refl _⟩) hG hA (fun H locs hG => ?_)
  refine lv_if_ne (tgt := 32) hx hb dX5_drawn_26 (by decide) (fun c_26 => ?_) (fun c_26 => ?_)
  · replace hE := (if_neg c_26).symm.trans hE
    have i_26 : 0 ≤ p3.toInt ∧ p3.toInt ≤ 1 := within_f c_26
    refine lv_aload_n hx hb dX5_drawn_32 rfl (lv_at hl 0 rfl) ?_
    refine lv_iload_n hx hb dX5_drawn_33 rfl (lv_at hl 1 rfl) ?_
    refine lv_iload_n hx hb dX5_drawn_34 rfl (lv_at hl 2 rfl) ?_
    refine lv_iload_n hx hb dX5_drawn_35 rfl (lv_at hl 3 rfl) ?_
    refine g_ci (g_runV (n := 3) (rest := []) hx hb hml hown hts hG (c_X5_inCrowd p1 p2 p3 hv (by clear hE; omega)) tw_ml_RX5_227 tw_im_X5_inCrowd tw_se_X5_inCrowd tw_in_RX5 tw_cd_X5_inCrowd (by decide +kernel) ⟨rfl, rfl, Nat.le_of_ble_eq_true rfl, Nat.le_of_ble_eq_true rfl⟩ gw_Bell rfl rfl hl.1 rfl (Nat.le_of_ble_eq_true rfl) dX5_drawn_36 ⟨Nat.le_refl _, Nat.le_refl _⟩) hG hA (fun r_36 u H locs hp hG => ?_)
    obtain ⟨t_m_36, jk⟩ := u
    replace hG : gS g A s H locs (gW g bb tx rw sb dy (va_up tn 1 t_m_36) mo jk) := by simpa only [up_up] using hG
    have hp_36 := hp
    rw [hp] at hE
    unfold F_X5_drawn_c36 at hE
    try dsimp only at hE
    subst hQ
    exact g_iret hx hb hr hlocks hG ((t_m_36, jk) : Ob × (Nat → Nat → Int32)) rfl hE.symm dX5_drawn_39
  replace hE := (if_pos c_26).symm.trans hE
  refine lv_bipush (v := (-2)) hx hb dX5_drawn_29 (by decide) ?_
  subst hQ
  exact g_iret hx hb hr hlocks hG (((tn 1), jk) : Ob × (Nat → Nat → Int32)) rfl hE.symm dX5_drawn_31
def F_X5_odds_b75 (K51 : (Nat → Ob) → (Nat → Ob) → Ob → Int32 → Int32 → Int32 → Int32 → Int32 → Int32 → Int64 × Ob) (tx : Nat → Ob) (tn : Nat → Ob) (t_m : Ob) (x1 : Int32) (x2 : Int32) (x3 : Int32) (x4 : Int32) (x5 : Int32) (x6 : Int32) : Int64 × Ob :=
  (K51 tx tn t_m x1 x2 x3 x4 x5 (x6 + 1))
def F_X5_odds_c65 (K51 : (Nat → Ob) → (Nat → Ob) → Ob → Int32 → Int32 → Int32 → Int32 → Int32 → Int32 → Int64 × Ob) (u : Int32 × Ob) (tx : Nat → Ob) (tn : Nat → Ob) (x1 : Int32) (x2 : Int32) (x3 : Int32) (x4 : Int32) (x5 : Int32) (x6 : Int32) : Int64 × Ob :=
  (if u.1 < x3 then (F_X5_odds_b75 K51 tx tn u.2 x1 x2 x3 x4 x5 x6) else (F_X5_odds_b75 K51 tx tn u.2 x1 x2 x3 x4 (x5 + 1) x6))
def F_X5_odds_l51 : Nat → (Nat → Ob) → (Nat → Ob) → Ob → Int32 → Int32 → Int32 → Int32 → Int32 → Int32 → Int64 × Ob
  | 0, _, _, t_m, _, _, _, _, _, _ => (0, t_m)
  | n + 1, tx, tn, t_m, x1, x2, x3, x4, x5, x6 =>
    (if x2 ≤ x6 then ((F_X5_lowestTerms (Int32.toInt64 x5) (Int32.toInt64 x2) x4), t_m) else (F_X5_odds_c65 (F_X5_odds_l51 n ) (F_X5_inCrowd tx (va_up tn 1 t_m) (x1 + x6) 12 0) tx tn x1 x2 x3 x4 x5 x6))
def F_X5_odds (tx : Nat → Ob) (tn : Nat → Ob) (p1 : Int32) (p2 : Int32) (p3 : Int32) (p4 : Int32) : Int64 × Ob :=
  (if (F_X5_isWithin p1 0 99999) = 0 then ((-4611686018427387904), (tn 1)) else (if (F_X5_isWithin p2 1 40) = 0 then ((-4611686018427387904), (tn 1)) else (if (F_X5_isWithin p3 0 9999) = 0 then ((-4611686018427387904), (tn 1)) else (if (F_X5_isWithin p4 0 1) = 0 then ((-4611686018427387904), (tn 1)) else (F_X5_odds_l51 41  tx tn (tn 1) p1 p2 p3 p4 0 0)))))
set_option maxHeartbeats 4000000 in
set_option maxRecDepth 100000 in
theorem c_X5_odds {l : Launch} {g : GG} {sz : Nat} {bb : Ob} {tx rw : Nat → Ob} {sb dy : Ob} {tn : Nat → Ob} {mo : Ob} {jk : Nat → Nat → Int32}  (p1 : Int32) (p2 : Int32) (p3 : Int32) (p4 : Int32) (hv : tEv tx (tn 0)) : Met l yX5_odds (Cond.code yX5_odds cX5_odds 7 (some .long) :: TT) (rmL 10) (va_Pc [.ref (gA g 0), .int p1, .int p2, .int p3, .int p4] (gB g sz (gW g bb tx rw sb dy tn mo jk))) (va_Ql (fun r (u : Ob × (Nat → Nat → Int32)) => (F_X5_odds tx tn p1 p2 p3 p4) = (r, u.1)) (fun u t => gC g (va_A (gW g bb tx rw sb dy tn mo jk) sz) (gW g bb tx rw sb dy (va_up tn 1 u.1) mo u.2) t) (va_A (gW g bb tx rw sb dy tn mo jk) sz)) 0 0 (va_A (gW g bb tx rw sb dy tn mo jk) sz) := by
  generalize hE : F_X5_odds tx tn p1 p2 p3 p4 = EE
  refine g_of (Qf := fun A => (va_Ql (fun r (u : Ob × (Nat → Nat → Int32)) => EE = (r, u.1)) (fun u t => gC g A (gW g bb tx rw sb dy (va_up tn 1 u.1) mo u.2) t) A)) (cc := cX5_odds) (maxL := 7) (ret := (some .long)) (by decide) (Nat.le_of_ble_eq_true rfl) ?_
  intro p e s m below meth c A ls hx hb hml hr hlocks hts hown hA hG hl
  replace hown : s.vm.findClass RX5 = some m.cls := hown
  replace hl : lv_has ls 7 [(0, .ref (gA g 0)), (1, .int p1), (2, .int p2), (3, .int p3), (4, .int p4)] := hl
  show W p l e (rmL 10) s m [.ref (gA g 0), .int p1, .int p2, .int p3, .int p4].toArray below meth c s.heap [] 0 0 (MQ below (va_Ql (fun r (u : Ob × (Nat → Nat → Int32)) => EE = (r, u.1)) (fun u t => gC g A (gW g bb tx rw sb dy (va_up tn 1 u.1) mo u.2) t) A) [.ref (gA g 0), .int p1, .int p2, .int p3, .int p4].toArray s 0 0 A) (F0 m 0 ls [])
  generalize hQ : MQ below (va_Ql (fun r (u : Ob × (Nat → Nat → Int32)) => EE = (r, u.1)) (fun u t => gC g A (gW g bb tx rw sb dy (va_up tn 1 u.1) mo u.2) t) A) [.ref (gA g 0), .int p1, .int p2, .int p3, .int p4].toArray s 0 0 A = Q
  replace hG : gS g A s s.heap [] (gW g bb tx rw sb dy (va_up tn 1 (tn 1)) mo jk) := by simpa only [up_self] using hG
  unfold F_X5_odds at hE
  refine lv_iload_n hx hb dX5_odds_0 rfl (lv_at hl 1 rfl) ?_
  refine lv_iconst (v := 0) hx hb dX5_odds_1 (by decide) ?_
  refine lv_ldc (v := 99999) hx hb hown (hts _ tw_co_RX5_226) dX5_odds_2 ?_
  refine g_si (g_runS (n := 3) (rest := []) hx hb hml hown hts hG (c_X5_isWithin p1 0 99999) tw_ml_RX5_81 tw_st_X5_isWithin tw_in_RX5 tw_cd_X5_isWithin (by decide +kernel) ⟨rfl, rfl, Nat.le_of_ble_eq_true rfl, Nat.le_of_ble_eq_true rfl⟩ rfl hl.1 rfl (Nat.le_of_ble_eq_true rfl) dX5_odds_4 ⟨Nat.le_refl _, Nat.le_refl _⟩) hG hA (fun H locs hG => ?_)
  refine lv_if_eq (tgt := 41) hx hb dX5_odds_7 (by decide) (fun c_7 => ?_) (fun c_7 => ?_)
  · replace hE := (if_pos c_7).symm.trans hE
    refine lv_ldc2 (v := (-4611686018427387904)) hx hb hown (hts _ tw_cg_RX5_198) dX5_odds_41 ?_
    subst hQ
    exact g_lret hx hb hr hlocks hG (((tn 1), jk) : Ob × (Nat → Nat → Int32)) rfl hE.symm dX5_odds_44
  replace hE := (if_neg c_7).symm.trans hE
  have i_7 : 0 ≤ p1.toInt ∧ p1.toInt ≤ 99999 := within_f c_7
  refine lv_iload_n hx hb dX5_odds_10 rfl (lv_at hl 2 rfl) ?_
  refine lv_iconst (v := 1) hx hb dX5_odds_11 (by decide) ?_
  refine lv_bipush (v := 40) hx hb dX5_odds_12 (by decide) ?_
  refine g_si (g_runS (n := 3) (rest := []) hx hb hml hown hts hG (c_X5_isWithin p2 1 40) tw_ml_RX5_81 tw_st_X5_isWithin tw_in_RX5 tw_cd_X5_isWithin (by decide +kernel) ⟨rfl, rfl, Nat.le_of_ble_eq_true rfl, Nat.le_of_ble_eq_true rfl⟩ rfl hl.1 rfl (Nat.le_of_ble_eq_true rfl) dX5_odds_14 ⟨Nat.le_refl _, Nat.le_refl _⟩) hG hA (fun H locs hG => ?_)
  refine lv_if_eq (tgt := 41) hx hb dX5_odds_17 (by decide) (fun c_17 => ?_) (fun c_17 => ?_)
  · replace hE := (if_pos c_17).symm.trans hE
    refine lv_ldc2 (v := (-4611686018427387904)) hx hb hown (hts _ tw_cg_RX5_198) dX5_odds_41 ?_
    subst hQ
    exact g_lret hx hb hr hlocks hG (((tn 1), jk) : Ob × (Nat → Nat → Int32)) rfl hE.symm dX5_odds_44
  replace hE := (if_neg c_17).symm.trans hE
  have i_17 : 1 ≤ p2.toInt ∧ p2.toInt ≤ 40 := within_f c_17
  refine lv_iload_n hx hb dX5_odds_20 rfl (lv_at hl 3 rfl) ?_
  refine lv_iconst (v := 0) hx hb dX5_odds_21 (by decide) ?_
  refine lv_sipush (v := 9999) hx hb dX5_odds_22 (by decide) ?_
  refine g_si (g_runS (n := 3) (rest := []) hx hb hml hown hts hG (c_X5_isWithin p3 0 9999) tw_ml_RX5_81 tw_st_X5_isWithin tw_in_RX5 tw_cd_X5_isWithin (by decide +kernel) ⟨rfl, rfl, Nat.le_of_ble_eq_true rfl, Nat.le_of_ble_eq_true rfl⟩ rfl hl.1 rfl (Nat.le_of_ble_eq_true rfl) dX5_odds_25 ⟨Nat.le_refl _, Nat.le_refl _⟩) hG hA (fun H locs hG => ?_)
  refine lv_if_eq (tgt := 41) hx hb dX5_odds_28 (by decide) (fun c_28 => ?_) (fun c_28 => ?_)
  · replace hE := (if_pos c_28).symm.trans hE
    refine lv_ldc2 (v := (-4611686018427387904)) hx hb hown (hts _ tw_cg_RX5_198) dX5_odds_41 ?_
    subst hQ
    exact g_lret hx hb hr hlocks hG (((tn 1), jk) : Ob × (Nat → Nat → Int32)) rfl hE.symm dX5_odds_44
  replace hE := (if_neg c_28).symm.trans hE
  have i_28 : 0 ≤ p3.toInt ∧ p3.toInt ≤ 9999 := within_f c_28
  refine lv_iload hx hb dX5_odds_31 (lv_at hl 4 rfl) ?_
  refine lv_iconst (v := 0) hx hb dX5_odds_33 (by decide) ?_
  refine lv_iconst (v := 1) hx hb dX5_odds_34 (by decide) ?_
  refine g_si (g_runS (n := 3) (rest := []) hx hb hml hown hts hG (c_X5_isWithin p4 0 1) tw_ml_RX5_81 tw_st_X5_isWithin tw_in_RX5 tw_cd_X5_isWithin (by decide +kernel) ⟨rfl, rfl, Nat.le_of_ble_eq_true rfl, Nat.le_of_ble_eq_true rfl⟩ rfl hl.1 rfl (Nat.le_of_ble_eq_true rfl) dX5_odds_35 ⟨Nat.le_refl _, Nat.le_refl _⟩) hG hA (fun H locs hG => ?_)
  refine lv_if_ne (tgt := 45) hx hb dX5_odds_38 (by decide) (fun c_38 => ?_) (fun c_38 => ?_)
  · replace hE := (if_neg c_38).symm.trans hE
    have i_38 : 0 ≤ p4.toInt ∧ p4.toInt ≤ 1 := within_f c_38
    refine lv_iconst (v := 0) hx hb dX5_odds_45 (by decide) ?_
    refine lv_istore (lv' := [(5, .int 0), (0, .ref (gA g 0)), (1, .int p1), (2, .int p2), (3, .int p3), (4, .int p4)]) hx hb dX5_odds_46 hl (by decide) rfl (fun ls hl => ?_)
    replace hl := lv_sub hl [1, 2, 3, 4, 5, 0] (l' := [(0, .ref (gA g 0)), (1, .int p1), (2, .int p2), (3, .int p3), (4, .int p4), (5, .int 0)]) rfl
    refine lv_iconst (v := 0) hx hb dX5_odds_48 (by decide) ?_
    refine lv_istore (lv' := [(6, .int 0), (0, .ref (gA g 0)), (1, .int p1), (2, .int p2), (3, .int p3), (4, .int p4), (5, .int 0)]) hx hb dX5_odds_49 hl (by decide) rfl (fun ls hl => ?_)
    replace hl := lv_sub hl [1, 2, 3, 4, 5, 6, 0] (l' := [(0, .ref (gA g 0)), (1, .int p1), (2, .int p2), (3, .int p3), (4, .int p4), (5, .int 0), (6, .int 0)]) rfl
    have L51 : ∀ (n51 : Nat) (x5_51 : Int32) (x6_51 : Int32) (t_m_51 : Ob) (jk : (Nat → Nat → Int32)) (H : Heap) (locs : List Loc), gS g A s H locs (gW g bb tx rw sb dy (va_up tn 1 t_m_51) mo jk) → ∀ ls : Array Slot, lv_has ls 7 [(0, .ref (gA g 0)), (1, .int p1), (2, .int p2), (3, .int p3), (4, .int p4), (5, .int x5_51), (6, .int x6_51)] → 0 ≤ x6_51.toInt → x6_51.toInt ≤ 40 → 40 < x6_51.toInt + n51 → F_X5_odds_l51 n51  tx tn t_m_51 p1 p2 p3 p4 x5_51 x6_51 = EE → W p l e (rmL 10) s m [.ref (gA g 0), .int p1, .int p2, .int p3, .int p4].toArray below meth c H locs 0 0 Q (F0 m 51 ls []) := by
      intro n51
      induction n51 with
      | zero =>
        intro x5_51 x6_51 t_m_51 jk H locs hG ls hl h0_51 h1_51 hm_51 hE
        clear hE; omega
      | succ n51 ih51 =>
        intro x5_51 x6_51 t_m_51 jk H locs hG ls hl h0_51 h1_51 hm_51 hE
        unfold F_X5_odds_l51 at hE
        refine lv_iload hx hb dX5_odds_51 (lv_at hl 6 rfl) ?_
        refine lv_iload_n hx hb dX5_odds_53 rfl (lv_at hl 2 rfl) ?_
        refine lv_icmp_ge (tgt := 81) hx hb dX5_odds_54 (by decide) (fun c_54 => ?_) (fun c_54 => ?_)
        · replace hE := (if_pos c_54).symm.trans hE
          have i_54 : p2.toInt ≤ x6_51.toInt := i_le.mp c_54
          refine lv_iload hx hb dX5_odds_81 (lv_at hl 5 rfl) ?_
          refine lv_i2l (v := (Int32.toInt64 x5_51)) hx hb dX5_odds_83 rfl ?_
          refine lv_iload_n hx hb dX5_odds_84 rfl (lv_at hl 2 rfl) ?_
          refine lv_i2l (v := (Int32.toInt64 p2)) hx hb dX5_odds_85 rfl ?_
          refine lv_iload hx hb dX5_odds_86 (lv_at hl 4 rfl) ?_
          refine g_sl (g_runS (n := 3) (rest := []) hx hb hml hown hts hG (c_X5_lowestTerms (Int32.toInt64 x5_51) (Int32.toInt64 p2) p4) tw_ml_RX5_200 tw_st_X5_lowestTerms tw_in_RX5 tw_cd_X5_lowestTerms (by decide +kernel) ⟨rfl, rfl, Nat.le_of_ble_eq_true rfl, Nat.le_of_ble_eq_true rfl⟩ rfl hl.1 rfl (Nat.le_of_ble_eq_true rfl) dX5_odds_88 ⟨Nat.le_refl _, Nat.le_refl _⟩) hG hA (fun H locs hG => ?_)
          subst hQ
          exact g_lret hx hb hr hlocks hG ((t_m_51, jk) : Ob × (Nat → Nat → Int32)) rfl hE.symm dX5_odds_91
        replace hE := (if_neg c_54).symm.trans hE
        have i_54 : x6_51.toInt < p2.toInt := i_nle c_54
        refine lv_aload_n hx hb dX5_odds_57 rfl (lv_at hl 0 rfl) ?_
        refine lv_iload_n hx hb dX5_odds_58 rfl (lv_at hl 1 rfl) ?_
        refine lv_iload hx hb dX5_odds_59 (lv_at hl 6 rfl) ?_
        refine lv_iadd hx hb dX5_odds_61 ?_
        refine lv_bipush (v := 12) hx hb dX5_odds_62 (by decide) ?_
        refine lv_iconst (v := 0) hx hb dX5_odds_64 (by decide) ?_
        refine g_ci (g_runV (n := 3) (rest := []) hx hb hml hown hts hG (c_X5_inCrowd (p1 + x6_51) 12 0 hv (by decide)) tw_ml_RX5_227 tw_im_X5_inCrowd tw_se_X5_inCrowd tw_in_RX5 tw_cd_X5_inCrowd (by decide +kernel) ⟨rfl, rfl, Nat.le_of_ble_eq_true rfl, Nat.le_of_ble_eq_true rfl⟩ gw_Bell rfl rfl hl.1 rfl (Nat.le_of_ble_eq_true rfl) dX5_odds_65 ⟨Nat.le_refl _, Nat.le_refl _⟩) hG hA (fun r_65 u H locs hp hG => ?_)
        obtain ⟨t_m_65, jk⟩ := u
        replace hG : gS g A s H locs (gW g bb tx rw sb dy (va_up tn 1 t_m_65) mo jk) := by simpa only [up_up] using hG
        have hp_65 := hp
        rw [hp] at hE
        unfold F_X5_odds_c65 at hE
        try dsimp only at hE
        refine lv_iload_n hx hb dX5_odds_68 rfl (lv_at hl 3 rfl) ?_
        have J75 : ∀ (x5_75 : Int32) (jk : (Nat → Nat → Int32)) (H : Heap) (locs : List Loc), gS g A s H locs (gW g bb tx rw sb dy (va_up tn 1 t_m_65) mo jk) → ∀ ls : Array Slot, lv_has ls 7 [(0, .ref (gA g 0)), (1, .int p1), (2, .int p2), (3, .int p3), (4, .int p4), (5, .int x5_75), (6, .int x6_51)] → F_X5_odds_b75  (F_X5_odds_l51 n51 ) tx tn t_m_65 p1 p2 p3 p4 x5_75 x6_51 = EE → W p l e (rmL 10) s m [.ref (gA g 0), .int p1, .int p2, .int p3, .int p4].toArray below meth c H locs 0 0 Q (F0 m 75 ls []) := by
          intro x5_75 jk H locs hG ls hl  hE
          unfold F_X5_odds_b75 at hE
          refine lv_iinc (v := (x6_51 + 1)) (lv' := [(6, .int (x6_51 + 1)), (0, .ref (gA g 0)), (1, .int p1), (2, .int p2), (3, .int p3), (4, .int p4), (5, .int x5_75)]) hx hb dX5_odds_75 hl (k := 6) rfl rfl (by decide) rfl (fun ls hl => ?_)
          replace hl := lv_sub hl [1, 2, 3, 4, 5, 6, 0] (l' := [(0, .ref (gA g 0)), (1, .int p1), (2, .int p2), (3, .int p3), (4, .int p4), (5, .int x5_75), (6, .int (x6_51 + 1))]) rfl
          refine lv_goto (tgt := 51) hx hb dX5_odds_78 (by decide) ?_
          have e1 : (x6_51 + 1).toInt = x6_51.toInt + 1 := addL (k := 1) (by decide +kernel) (by clear hE; omega) (by clear hE; omega)
          exact ih51 x5_75 (x6_51 + 1) t_m_65 _ _ _ hG _ (lv_sub hl [0, 1, 2, 3, 4, 5, 6] rfl) (by clear hE; omega) (by clear hE; omega) (by clear hE; omega) hE
        refine lv_icmp_lt (tgt := 75) hx hb dX5_odds_69 (by decide) (fun c_69 => ?_) (fun c_69 => ?_)
        · replace hE := (if_pos c_69).symm.trans hE
          have i_69 : r_65.toInt < p3.toInt := i_lt.mp c_69
          exact J75 x5_51 _ _ _ hG _ (lv_sub hl [0, 1, 2, 3, 4, 5, 6] rfl) hE
        replace hE := (if_neg c_69).symm.trans hE
        have i_69 : p3.toInt ≤ r_65.toInt := i_nlt c_69
        refine lv_iinc (v := (x5_51 + 1)) (lv' := [(5, .int (x5_51 + 1)), (0, .ref (gA g 0)), (1, .int p1), (2, .int p2), (3, .int p3), (4, .int p4), (6, .int x6_51)]) hx hb dX5_odds_72 hl (k := 5) rfl rfl (by decide) rfl (fun ls hl => ?_)
        replace hl := lv_sub hl [1, 2, 3, 4, 5, 0, 6] (l' := [(0, .ref (gA g 0)), (1, .int p1), (2, .int p2), (3, .int p3), (4, .int p4), (5, .int (x5_51 + 1)), (6, .int x6_51)]) rfl
        exact J75 (x5_51 + 1) _ _ _ hG _ (lv_sub hl [0, 1, 2, 3, 4, 5, 6] rfl) hE
    exact L51 41 0 0 (tn 1) _ _ _ hG _ (lv_sub hl [0, 1, 2, 3, 4, 5, 6] rfl) (by decide) (by decide) (by decide) hE
  replace hE := (if_pos c_38).symm.trans hE
  refine lv_ldc2 (v := (-4611686018427387904)) hx hb hown (hts _ tw_cg_RX5_198) dX5_odds_41 ?_
  subst hQ
  exact g_lret hx hb hr hlocks hG (((tn 1), jk) : Ob × (Nat → Nat → Int32)) rfl hE.symm dX5_odds_44
