-- THE REFERENCE'S CONSTRUCTOR, ITS CELLS (laid by init6.py)
def sortL : List Int32 := [-1, -1, -1, -1]
section LIT
variable {p : Program} {l : Launch} {e : Env} {R : Room} {s : State} {m : MethodId} {args : Array Value} {below : List Frame} {meth : Method} {c : Code} {H : Heap} {locs : List Loc} {cells slots : Nat} {Q : State → Prop}
variable {cc : ByteArray} {pc : Nat} {ls : Array Slot} {rest : List Value} {D : va_G} {tys : List (ClassId × FieldType)} {A : Nat → Prop} {a : Nat} {w : va_W} {cI : ClassId}
theorem set_last (w : va_W) (x y : Nat × va_E) : (w ++ [x]).set w.length y = w ++ [y] := by
  rw [List.set_append_right _ _ (Nat.le_refl _), Nat.sub_self]
  rfl
/-- a list of numbers, written out -/
theorem kq_lit {WL : List Int32} {k n : Nat} {f : Nat → Int32} (hx : p.tables.exec = Jvm.exec) (hb : c.code = cc) (hG : kqS D tys A s H locs (w ++ [(a, .inl (cI, n, .inl f))])) (ht : tys[0]? = some (cI, .int)) {i x : Int32} (hi : i.toNatClampNeg = k) (hin : vp_in i n) (hf : ∀ j, j < k → f j = WL.getD j 0) (hxv : WL.getD k 0 = x) (hdg : decode cc pc = .ok (.iastore, 1))
    (kk : ∀ (f1 : Nat → Int32) (H1 : Heap) (locs1 : List Loc), (∀ j, j < k + 1 → f1 j = WL.getD j 0) → kqS D tys A s H1 locs1 (w ++ [(a, .inl (cI, n, .inl f1))]) → W p l e R s m args below meth c H1 locs1 cells slots Q (F0 m (pc + 1) ls rest)) : W p l e R s m args below meth c H locs cells slots Q (F0 m pc ls (.int x :: .int i :: .ref a :: rest)) := by
  refine kq_ist hx hb hG ht (q0 := w.length) (at_app2 (k := 0) rfl) hin (set_last _ _ _) hdg (fun H1 locs1 hG1 => kk _ H1 locs1 (fun j hj => ?_) hG1)
  rw [hi]
  show (if j = k then x else f j) = WL.getD j 0
  by_cases c : j = k
  · rw [if_pos c, c, hxv]
  · rw [if_neg c]
    exact hf j (by omega)
end LIT
set_option maxHeartbeats 40000000 in
set_option maxRecDepth 100000 in
theorem i6_a {p : Program} {l : Launch} {e : Env} {s : State} {m : MethodId} {args : Array Value} {below : List Frame} {meth : Method} {c : Code} {H : Heap} {locs : List Loc} {Q : State → Prop} {ls : Array Slot} {D : va_G} {A : Nat → Prop} {a : Nat} {cI : ClassId} (hx : p.tables.exec = Jvm.exec) (hb : c.code = cX6_init) (hml : c.maxLocals = 2) (hnm : meth.name = "<init>") (hts : ∀ w ∈ TT, w.before args s = true) (hown : s.vm.findClass RX6 = some m.cls) (hA : ∀ q, s.heap.size ≤ q → A q) (hG : kqS D [(cI, .int)] A s H locs [(a, .inr (6, [.int 0, .null, .null, .null, .null, .null, .int 0, .null, .null, .int 0, .int 0, .int 0, .null, .null, .null, .null, .null, .null, .int 0, .int 0, .int 0, .int 0, .null, .null, .int 0, .int 0, .int 0, .null, .null, .int 0, .null, .null, .null, .int 0]))]) (hl : lv_has ls 2 [(0, .ref a)])
    (kk : ∀ (q1 q2 q3 q4 q5 q6 q7 q8 q9 q10 q11 q12 q13 q14 q15 q16 q17 q18 q19 q20 : Nat) (f14 f17 f22 : Nat → Int32) (H : Heap) (locs : List Loc), (∀ j, j < 4 → f14 j = sortL.getD j 0) → (∀ j, j < 34 → f17 j = lawL.getD j 0) → (∀ j, j < 96 → f22 j = wordsL.getD j 0) → kqS D [(cI, .int)] A s H locs [(a, .inr (6, [.int 0, .ref q1, .ref q2, .ref q3, .ref q4, .ref q5, .int 0, .ref q6, .ref q7, .int 0, .int 0, .int 0, .ref q8, .ref q9, .ref q10, .ref q11, .ref q12, .ref q13, .int 0, .int 0, .int 0, .int 0, .ref q14, .ref q15, .int 0, .int 0, .int 0, .ref q16, .ref q17, .int 0, .ref q18, .ref q19, .ref q20, .int 0])), (q1, .inl (cI, 6, .inl (fun _ => 0))), (q2, .inl (cI, 6, .inl (fun _ => 0))), (q3, .inl (cI, 24, .inl (fun _ => 0))), (q4, .inl (cI, 3, .inl (fun _ => 0))), (q5, .inl (cI, 160, .inl (fun _ => 0))), (q6, .inl (cI, 1200, .inl (fun _ => 0))), (q7, .inl (cI, 24, .inl (fun _ => 0))), (q8, .inl (cI, 27, .inl (fun _ => 0))), (q9, .inl (cI, 2, .inl (fun _ => 0))), (q10, .inl (cI, 4, .inl (f14))), (q11, .inl (cI, 4, .inl (fun _ => 0))), (q12, .inl (cI, 160, .inl (fun _ => 0))), (q13, .inl (cI, 34, .inl (f17))), (q14, .inl (cI, 96, .inl (f22))), (q15, .inl (cI, 200, .inl (fun _ => 0))), (q16, .inl (cI, 200, .inl (fun _ => 0))), (q17, .inl (cI, 6, .inl (fun _ => 0))), (q18, .inl (cI, 27, .inl (fun _ => 0))), (q19, .inl (cI, 24, .inl (fun _ => 0))), (q20, .inl (cI, 24, .inl (fun _ => 0)))] → W p l e (rmC 6 20 2231) s m args below meth c H locs 20 2231 Q (F0 m 949 ls [])) :
    W p l e (rmC 6 20 2231) s m args below meth c H locs 0 0 Q (F0 m 0 ls []) := by
  refine lv_aload_n hx hb dX6_init_0 rfl (lv_at hl 0 rfl) ?_
  refine kq_obj hx hb hts hown hml hl.1 tw_ml_RX6_1 dX6_init_1 (Nat.le_of_ble_eq_true rfl) (Nat.le_of_ble_eq_true rfl) ?_
  refine lv_aload_n hx hb dX6_init_4 rfl (lv_at hl 0 rfl) ?_
  refine lv_bipush (v := 6) hx hb dX6_init_5 (by decide) ?_
  refine kq_newa hx hb hts hG rfl hA (by decide) rfl (Nat.le_of_ble_eq_true rfl) (Nat.le_of_ble_eq_true rfl) (Nat.le_of_ble_eq_true rfl) dX6_init_7 (fun q1 H hG => ?_)
  refine kq_putF hx hb hts hiX6 tyX6 tyX6_ok nmX6 hown hnm hG (q0 := 0) rfl rfl 1 (by decide) (index := 7) tw_fl_RX6_7 rfl rfl rfl rfl (Nat.le_of_ble_eq_true rfl) rfl dX6_init_9 (fun H locs hG => ?_)
  replace hG : kqS D [(cI, .int)] A s H locs [(a, .inr (6, [.int 0, .ref q1, .null, .null, .null, .null, .int 0, .null, .null, .int 0, .int 0, .int 0, .null, .null, .null, .null, .null, .null, .int 0, .int 0, .int 0, .int 0, .null, .null, .int 0, .int 0, .int 0, .null, .null, .int 0, .null, .null, .null, .int 0])), (q1, .inl (cI, 6, .inl (fun _ => 0)))] := hG
  refine lv_aload_n hx hb dX6_init_12 rfl (lv_at hl 0 rfl) ?_
  refine lv_bipush (v := 6) hx hb dX6_init_13 (by decide) ?_
  refine kq_newa hx hb hts hG rfl hA (by decide) rfl (Nat.le_of_ble_eq_true rfl) (Nat.le_of_ble_eq_true rfl) (Nat.le_of_ble_eq_true rfl) dX6_init_15 (fun q2 H hG => ?_)
  refine kq_putF hx hb hts hiX6 tyX6 tyX6_ok nmX6 hown hnm hG (q0 := 0) rfl rfl 2 (by decide) (index := 13) tw_fl_RX6_13 rfl rfl rfl rfl (Nat.le_of_ble_eq_true rfl) rfl dX6_init_17 (fun H locs hG => ?_)
  replace hG : kqS D [(cI, .int)] A s H locs [(a, .inr (6, [.int 0, .ref q1, .ref q2, .null, .null, .null, .int 0, .null, .null, .int 0, .int 0, .int 0, .null, .null, .null, .null, .null, .null, .int 0, .int 0, .int 0, .int 0, .null, .null, .int 0, .int 0, .int 0, .null, .null, .int 0, .null, .null, .null, .int 0])), (q1, .inl (cI, 6, .inl (fun _ => 0))), (q2, .inl (cI, 6, .inl (fun _ => 0)))] := hG
  refine lv_aload_n hx hb dX6_init_20 rfl (lv_at hl 0 rfl) ?_
  refine lv_bipush (v := 24) hx hb dX6_init_21 (by decide) ?_
  refine kq_newa hx hb hts hG rfl hA (by decide) rfl (Nat.le_of_ble_eq_true rfl) (Nat.le_of_ble_eq_true rfl) (Nat.le_of_ble_eq_true rfl) dX6_init_23 (fun q3 H hG => ?_)
  refine kq_putF hx hb hts hiX6 tyX6 tyX6_ok nmX6 hown hnm hG (q0 := 0) rfl rfl 3 (by decide) (index := 16) tw_fl_RX6_16 rfl rfl rfl rfl (Nat.le_of_ble_eq_true rfl) rfl dX6_init_25 (fun H locs hG => ?_)
  replace hG : kqS D [(cI, .int)] A s H locs [(a, .inr (6, [.int 0, .ref q1, .ref q2, .ref q3, .null, .null, .int 0, .null, .null, .int 0, .int 0, .int 0, .null, .null, .null, .null, .null, .null, .int 0, .int 0, .int 0, .int 0, .null, .null, .int 0, .int 0, .int 0, .null, .null, .int 0, .null, .null, .null, .int 0])), (q1, .inl (cI, 6, .inl (fun _ => 0))), (q2, .inl (cI, 6, .inl (fun _ => 0))), (q3, .inl (cI, 24, .inl (fun _ => 0)))] := hG
  refine lv_aload_n hx hb dX6_init_28 rfl (lv_at hl 0 rfl) ?_
  refine lv_iconst (v := 3) hx hb dX6_init_29 (by decide) ?_
  refine kq_newa hx hb hts hG rfl hA (by decide) rfl (Nat.le_of_ble_eq_true rfl) (Nat.le_of_ble_eq_true rfl) (Nat.le_of_ble_eq_true rfl) dX6_init_30 (fun q4 H hG => ?_)
  refine kq_putF hx hb hts hiX6 tyX6 tyX6_ok nmX6 hown hnm hG (q0 := 0) rfl rfl 4 (by decide) (index := 19) tw_fl_RX6_19 rfl rfl rfl rfl (Nat.le_of_ble_eq_true rfl) rfl dX6_init_32 (fun H locs hG => ?_)
  replace hG : kqS D [(cI, .int)] A s H locs [(a, .inr (6, [.int 0, .ref q1, .ref q2, .ref q3, .ref q4, .null, .int 0, .null, .null, .int 0, .int 0, .int 0, .null, .null, .null, .null, .null, .null, .int 0, .int 0, .int 0, .int 0, .null, .null, .int 0, .int 0, .int 0, .null, .null, .int 0, .null, .null, .null, .int 0])), (q1, .inl (cI, 6, .inl (fun _ => 0))), (q2, .inl (cI, 6, .inl (fun _ => 0))), (q3, .inl (cI, 24, .inl (fun _ => 0))), (q4, .inl (cI, 3, .inl (fun _ => 0)))] := hG
  refine lv_aload_n hx hb dX6_init_35 rfl (lv_at hl 0 rfl) ?_
  refine lv_sipush (v := 160) hx hb dX6_init_36 (by decide) ?_
  refine kq_newa hx hb hts hG rfl hA (by decide) rfl (Nat.le_of_ble_eq_true rfl) (Nat.le_of_ble_eq_true rfl) (Nat.le_of_ble_eq_true rfl) dX6_init_39 (fun q5 H hG => ?_)
  refine kq_putF hx hb hts hiX6 tyX6 tyX6_ok nmX6 hown hnm hG (q0 := 0) rfl rfl 5 (by decide) (index := 22) tw_fl_RX6_22 rfl rfl rfl rfl (Nat.le_of_ble_eq_true rfl) rfl dX6_init_41 (fun H locs hG => ?_)
  replace hG : kqS D [(cI, .int)] A s H locs [(a, .inr (6, [.int 0, .ref q1, .ref q2, .ref q3, .ref q4, .ref q5, .int 0, .null, .null, .int 0, .int 0, .int 0, .null, .null, .null, .null, .null, .null, .int 0, .int 0, .int 0, .int 0, .null, .null, .int 0, .int 0, .int 0, .null, .null, .int 0, .null, .null, .null, .int 0])), (q1, .inl (cI, 6, .inl (fun _ => 0))), (q2, .inl (cI, 6, .inl (fun _ => 0))), (q3, .inl (cI, 24, .inl (fun _ => 0))), (q4, .inl (cI, 3, .inl (fun _ => 0))), (q5, .inl (cI, 160, .inl (fun _ => 0)))] := hG
  refine lv_aload_n hx hb dX6_init_44 rfl (lv_at hl 0 rfl) ?_
  refine lv_sipush (v := 1200) hx hb dX6_init_45 (by decide) ?_
  refine kq_newa hx hb hts hG rfl hA (by decide) rfl (Nat.le_of_ble_eq_true rfl) (Nat.le_of_ble_eq_true rfl) (Nat.le_of_ble_eq_true rfl) dX6_init_48 (fun q6 H hG => ?_)
  refine kq_putF hx hb hts hiX6 tyX6 tyX6_ok nmX6 hown hnm hG (q0 := 0) rfl rfl 7 (by decide) (index := 25) tw_fl_RX6_25 rfl rfl rfl rfl (Nat.le_of_ble_eq_true rfl) rfl dX6_init_50 (fun H locs hG => ?_)
  replace hG : kqS D [(cI, .int)] A s H locs [(a, .inr (6, [.int 0, .ref q1, .ref q2, .ref q3, .ref q4, .ref q5, .int 0, .ref q6, .null, .int 0, .int 0, .int 0, .null, .null, .null, .null, .null, .null, .int 0, .int 0, .int 0, .int 0, .null, .null, .int 0, .int 0, .int 0, .null, .null, .int 0, .null, .null, .null, .int 0])), (q1, .inl (cI, 6, .inl (fun _ => 0))), (q2, .inl (cI, 6, .inl (fun _ => 0))), (q3, .inl (cI, 24, .inl (fun _ => 0))), (q4, .inl (cI, 3, .inl (fun _ => 0))), (q5, .inl (cI, 160, .inl (fun _ => 0))), (q6, .inl (cI, 1200, .inl (fun _ => 0)))] := hG
  refine lv_aload_n hx hb dX6_init_53 rfl (lv_at hl 0 rfl) ?_
  refine lv_bipush (v := 24) hx hb dX6_init_54 (by decide) ?_
  refine kq_newa hx hb hts hG rfl hA (by decide) rfl (Nat.le_of_ble_eq_true rfl) (Nat.le_of_ble_eq_true rfl) (Nat.le_of_ble_eq_true rfl) dX6_init_56 (fun q7 H hG => ?_)
  refine kq_putF hx hb hts hiX6 tyX6 tyX6_ok nmX6 hown hnm hG (q0 := 0) rfl rfl 8 (by decide) (index := 28) tw_fl_RX6_28 rfl rfl rfl rfl (Nat.le_of_ble_eq_true rfl) rfl dX6_init_58 (fun H locs hG => ?_)
  replace hG : kqS D [(cI, .int)] A s H locs [(a, .inr (6, [.int 0, .ref q1, .ref q2, .ref q3, .ref q4, .ref q5, .int 0, .ref q6, .ref q7, .int 0, .int 0, .int 0, .null, .null, .null, .null, .null, .null, .int 0, .int 0, .int 0, .int 0, .null, .null, .int 0, .int 0, .int 0, .null, .null, .int 0, .null, .null, .null, .int 0])), (q1, .inl (cI, 6, .inl (fun _ => 0))), (q2, .inl (cI, 6, .inl (fun _ => 0))), (q3, .inl (cI, 24, .inl (fun _ => 0))), (q4, .inl (cI, 3, .inl (fun _ => 0))), (q5, .inl (cI, 160, .inl (fun _ => 0))), (q6, .inl (cI, 1200, .inl (fun _ => 0))), (q7, .inl (cI, 24, .inl (fun _ => 0)))] := hG
  refine lv_aload_n hx hb dX6_init_61 rfl (lv_at hl 0 rfl) ?_
  refine lv_bipush (v := 27) hx hb dX6_init_62 (by decide) ?_
  refine kq_newa hx hb hts hG rfl hA (by decide) rfl (Nat.le_of_ble_eq_true rfl) (Nat.le_of_ble_eq_true rfl) (Nat.le_of_ble_eq_true rfl) dX6_init_64 (fun q8 H hG => ?_)
  refine kq_putF hx hb hts hiX6 tyX6 tyX6_ok nmX6 hown hnm hG (q0 := 0) rfl rfl 12 (by decide) (index := 31) tw_fl_RX6_31 rfl rfl rfl rfl (Nat.le_of_ble_eq_true rfl) rfl dX6_init_66 (fun H locs hG => ?_)
  replace hG : kqS D [(cI, .int)] A s H locs [(a, .inr (6, [.int 0, .ref q1, .ref q2, .ref q3, .ref q4, .ref q5, .int 0, .ref q6, .ref q7, .int 0, .int 0, .int 0, .ref q8, .null, .null, .null, .null, .null, .int 0, .int 0, .int 0, .int 0, .null, .null, .int 0, .int 0, .int 0, .null, .null, .int 0, .null, .null, .null, .int 0])), (q1, .inl (cI, 6, .inl (fun _ => 0))), (q2, .inl (cI, 6, .inl (fun _ => 0))), (q3, .inl (cI, 24, .inl (fun _ => 0))), (q4, .inl (cI, 3, .inl (fun _ => 0))), (q5, .inl (cI, 160, .inl (fun _ => 0))), (q6, .inl (cI, 1200, .inl (fun _ => 0))), (q7, .inl (cI, 24, .inl (fun _ => 0))), (q8, .inl (cI, 27, .inl (fun _ => 0)))] := hG
  refine lv_aload_n hx hb dX6_init_69 rfl (lv_at hl 0 rfl) ?_
  refine lv_iconst (v := 2) hx hb dX6_init_70 (by decide) ?_
  refine kq_newa hx hb hts hG rfl hA (by decide) rfl (Nat.le_of_ble_eq_true rfl) (Nat.le_of_ble_eq_true rfl) (Nat.le_of_ble_eq_true rfl) dX6_init_71 (fun q9 H hG => ?_)
  refine kq_putF hx hb hts hiX6 tyX6 tyX6_ok nmX6 hown hnm hG (q0 := 0) rfl rfl 13 (by decide) (index := 34) tw_fl_RX6_34 rfl rfl rfl rfl (Nat.le_of_ble_eq_true rfl) rfl dX6_init_73 (fun H locs hG => ?_)
  replace hG : kqS D [(cI, .int)] A s H locs [(a, .inr (6, [.int 0, .ref q1, .ref q2, .ref q3, .ref q4, .ref q5, .int 0, .ref q6, .ref q7, .int 0, .int 0, .int 0, .ref q8, .ref q9, .null, .null, .null, .null, .int 0, .int 0, .int 0, .int 0, .null, .null, .int 0, .int 0, .int 0, .null, .null, .int 0, .null, .null, .null, .int 0])), (q1, .inl (cI, 6, .inl (fun _ => 0))), (q2, .inl (cI, 6, .inl (fun _ => 0))), (q3, .inl (cI, 24, .inl (fun _ => 0))), (q4, .inl (cI, 3, .inl (fun _ => 0))), (q5, .inl (cI, 160, .inl (fun _ => 0))), (q6, .inl (cI, 1200, .inl (fun _ => 0))), (q7, .inl (cI, 24, .inl (fun _ => 0))), (q8, .inl (cI, 27, .inl (fun _ => 0))), (q9, .inl (cI, 2, .inl (fun _ => 0)))] := hG
  refine lv_aload_n hx hb dX6_init_76 rfl (lv_at hl 0 rfl) ?_
  refine lv_iconst (v := 4) hx hb dX6_init_77 (by decide) ?_
  refine kq_newa hx hb hts hG rfl hA (by decide) rfl (Nat.le_of_ble_eq_true rfl) (Nat.le_of_ble_eq_true rfl) (Nat.le_of_ble_eq_true rfl) dX6_init_78 (fun q10 H hG => ?_)
  have hf14 : ∀ j, j < 0 → (fun _ : Nat => (0 : Int32)) j = sortL.getD j 0 := fun j hj => absurd hj (Nat.not_lt_zero j)
  refine lv_dup hx hb dX6_init_80 rfl ?_
  refine lv_iconst (v := 0) hx hb dX6_init_81 (by decide) ?_
  refine lv_iconst (v := (-1)) hx hb dX6_init_82 (by decide) ?_
  refine kq_lit (WL := sortL) (k := 0) hx hb hG rfl rfl (vp_i (by decide) (by decide)) hf14 rfl dX6_init_83 (fun f14 H locs hf14 hG => ?_)
  refine lv_dup hx hb dX6_init_84 rfl ?_
  refine lv_iconst (v := 1) hx hb dX6_init_85 (by decide) ?_
  refine lv_iconst (v := (-1)) hx hb dX6_init_86 (by decide) ?_
  refine kq_lit (WL := sortL) (k := 1) hx hb hG rfl rfl (vp_i (by decide) (by decide)) hf14 rfl dX6_init_87 (fun f14 H locs hf14 hG => ?_)
  refine lv_dup hx hb dX6_init_88 rfl ?_
  refine lv_iconst (v := 2) hx hb dX6_init_89 (by decide) ?_
  refine lv_iconst (v := (-1)) hx hb dX6_init_90 (by decide) ?_
  refine kq_lit (WL := sortL) (k := 2) hx hb hG rfl rfl (vp_i (by decide) (by decide)) hf14 rfl dX6_init_91 (fun f14 H locs hf14 hG => ?_)
  refine lv_dup hx hb dX6_init_92 rfl ?_
  refine lv_iconst (v := 3) hx hb dX6_init_93 (by decide) ?_
  refine lv_iconst (v := (-1)) hx hb dX6_init_94 (by decide) ?_
  refine kq_lit (WL := sortL) (k := 3) hx hb hG rfl rfl (vp_i (by decide) (by decide)) hf14 rfl dX6_init_95 (fun f14 H locs hf14 hG => ?_)
  refine kq_putF hx hb hts hiX6 tyX6 tyX6_ok nmX6 hown hnm hG (q0 := 0) rfl rfl 14 (by decide) (index := 37) tw_fl_RX6_37 rfl rfl rfl rfl (Nat.le_of_ble_eq_true rfl) rfl dX6_init_96 (fun H locs hG => ?_)
  replace hG : kqS D [(cI, .int)] A s H locs [(a, .inr (6, [.int 0, .ref q1, .ref q2, .ref q3, .ref q4, .ref q5, .int 0, .ref q6, .ref q7, .int 0, .int 0, .int 0, .ref q8, .ref q9, .ref q10, .null, .null, .null, .int 0, .int 0, .int 0, .int 0, .null, .null, .int 0, .int 0, .int 0, .null, .null, .int 0, .null, .null, .null, .int 0])), (q1, .inl (cI, 6, .inl (fun _ => 0))), (q2, .inl (cI, 6, .inl (fun _ => 0))), (q3, .inl (cI, 24, .inl (fun _ => 0))), (q4, .inl (cI, 3, .inl (fun _ => 0))), (q5, .inl (cI, 160, .inl (fun _ => 0))), (q6, .inl (cI, 1200, .inl (fun _ => 0))), (q7, .inl (cI, 24, .inl (fun _ => 0))), (q8, .inl (cI, 27, .inl (fun _ => 0))), (q9, .inl (cI, 2, .inl (fun _ => 0))), (q10, .inl (cI, 4, .inl (f14)))] := hG
  refine lv_aload_n hx hb dX6_init_99 rfl (lv_at hl 0 rfl) ?_
  refine lv_iconst (v := 4) hx hb dX6_init_100 (by decide) ?_
  refine kq_newa hx hb hts hG rfl hA (by decide) rfl (Nat.le_of_ble_eq_true rfl) (Nat.le_of_ble_eq_true rfl) (Nat.le_of_ble_eq_true rfl) dX6_init_101 (fun q11 H hG => ?_)
  refine kq_putF hx hb hts hiX6 tyX6 tyX6_ok nmX6 hown hnm hG (q0 := 0) rfl rfl 15 (by decide) (index := 40) tw_fl_RX6_40 rfl rfl rfl rfl (Nat.le_of_ble_eq_true rfl) rfl dX6_init_103 (fun H locs hG => ?_)
  replace hG : kqS D [(cI, .int)] A s H locs [(a, .inr (6, [.int 0, .ref q1, .ref q2, .ref q3, .ref q4, .ref q5, .int 0, .ref q6, .ref q7, .int 0, .int 0, .int 0, .ref q8, .ref q9, .ref q10, .ref q11, .null, .null, .int 0, .int 0, .int 0, .int 0, .null, .null, .int 0, .int 0, .int 0, .null, .null, .int 0, .null, .null, .null, .int 0])), (q1, .inl (cI, 6, .inl (fun _ => 0))), (q2, .inl (cI, 6, .inl (fun _ => 0))), (q3, .inl (cI, 24, .inl (fun _ => 0))), (q4, .inl (cI, 3, .inl (fun _ => 0))), (q5, .inl (cI, 160, .inl (fun _ => 0))), (q6, .inl (cI, 1200, .inl (fun _ => 0))), (q7, .inl (cI, 24, .inl (fun _ => 0))), (q8, .inl (cI, 27, .inl (fun _ => 0))), (q9, .inl (cI, 2, .inl (fun _ => 0))), (q10, .inl (cI, 4, .inl (f14))), (q11, .inl (cI, 4, .inl (fun _ => 0)))] := hG
  refine lv_aload_n hx hb dX6_init_106 rfl (lv_at hl 0 rfl) ?_
  refine lv_sipush (v := 160) hx hb dX6_init_107 (by decide) ?_
  refine kq_newa hx hb hts hG rfl hA (by decide) rfl (Nat.le_of_ble_eq_true rfl) (Nat.le_of_ble_eq_true rfl) (Nat.le_of_ble_eq_true rfl) dX6_init_110 (fun q12 H hG => ?_)
  refine kq_putF hx hb hts hiX6 tyX6 tyX6_ok nmX6 hown hnm hG (q0 := 0) rfl rfl 16 (by decide) (index := 43) tw_fl_RX6_43 rfl rfl rfl rfl (Nat.le_of_ble_eq_true rfl) rfl dX6_init_112 (fun H locs hG => ?_)
  replace hG : kqS D [(cI, .int)] A s H locs [(a, .inr (6, [.int 0, .ref q1, .ref q2, .ref q3, .ref q4, .ref q5, .int 0, .ref q6, .ref q7, .int 0, .int 0, .int 0, .ref q8, .ref q9, .ref q10, .ref q11, .ref q12, .null, .int 0, .int 0, .int 0, .int 0, .null, .null, .int 0, .int 0, .int 0, .null, .null, .int 0, .null, .null, .null, .int 0])), (q1, .inl (cI, 6, .inl (fun _ => 0))), (q2, .inl (cI, 6, .inl (fun _ => 0))), (q3, .inl (cI, 24, .inl (fun _ => 0))), (q4, .inl (cI, 3, .inl (fun _ => 0))), (q5, .inl (cI, 160, .inl (fun _ => 0))), (q6, .inl (cI, 1200, .inl (fun _ => 0))), (q7, .inl (cI, 24, .inl (fun _ => 0))), (q8, .inl (cI, 27, .inl (fun _ => 0))), (q9, .inl (cI, 2, .inl (fun _ => 0))), (q10, .inl (cI, 4, .inl (f14))), (q11, .inl (cI, 4, .inl (fun _ => 0))), (q12, .inl (cI, 160, .inl (fun _ => 0)))] := hG
  refine lv_aload_n hx hb dX6_init_115 rfl (lv_at hl 0 rfl) ?_
  refine lv_bipush (v := 34) hx hb dX6_init_116 (by decide) ?_
  refine kq_newa hx hb hts hG rfl hA (by decide) rfl (Nat.le_of_ble_eq_true rfl) (Nat.le_of_ble_eq_true rfl) (Nat.le_of_ble_eq_true rfl) dX6_init_118 (fun q13 H hG => ?_)
  have hf17 : ∀ j, j < 0 → (fun _ : Nat => (0 : Int32)) j = lawL.getD j 0 := fun j hj => absurd hj (Nat.not_lt_zero j)
  refine lv_dup hx hb dX6_init_120 rfl ?_
  refine lv_iconst (v := 0) hx hb dX6_init_121 (by decide) ?_
  refine lv_bipush (v := 108) hx hb dX6_init_122 (by decide) ?_
  refine kq_lit (WL := lawL) (k := 0) hx hb hG rfl rfl (vp_i (by decide) (by decide)) hf17 rfl dX6_init_124 (fun f17 H locs hf17 hG => ?_)
  refine lv_dup hx hb dX6_init_125 rfl ?_
  refine lv_iconst (v := 1) hx hb dX6_init_126 (by decide) ?_
  refine lv_bipush (v := 105) hx hb dX6_init_127 (by decide) ?_
  refine kq_lit (WL := lawL) (k := 1) hx hb hG rfl rfl (vp_i (by decide) (by decide)) hf17 rfl dX6_init_129 (fun f17 H locs hf17 hG => ?_)
  refine lv_dup hx hb dX6_init_130 rfl ?_
  refine lv_iconst (v := 2) hx hb dX6_init_131 (by decide) ?_
  refine lv_bipush (v := 101) hx hb dX6_init_132 (by decide) ?_
  refine kq_lit (WL := lawL) (k := 2) hx hb hG rfl rfl (vp_i (by decide) (by decide)) hf17 rfl dX6_init_134 (fun f17 H locs hf17 hG => ?_)
  refine lv_dup hx hb dX6_init_135 rfl ?_
  refine lv_iconst (v := 3) hx hb dX6_init_136 (by decide) ?_
  refine lv_bipush (v := 115) hx hb dX6_init_137 (by decide) ?_
  refine kq_lit (WL := lawL) (k := 3) hx hb hG rfl rfl (vp_i (by decide) (by decide)) hf17 rfl dX6_init_139 (fun f17 H locs hf17 hG => ?_)
  refine lv_dup hx hb dX6_init_140 rfl ?_
  refine lv_iconst (v := 4) hx hb dX6_init_141 (by decide) ?_
  refine lv_bipush (v := 32) hx hb dX6_init_142 (by decide) ?_
  refine kq_lit (WL := lawL) (k := 4) hx hb hG rfl rfl (vp_i (by decide) (by decide)) hf17 rfl dX6_init_144 (fun f17 H locs hf17 hG => ?_)
  refine lv_dup hx hb dX6_init_145 rfl ?_
  refine lv_iconst (v := 5) hx hb dX6_init_146 (by decide) ?_
  refine lv_bipush (v := 110) hx hb dX6_init_147 (by decide) ?_
  refine kq_lit (WL := lawL) (k := 5) hx hb hG rfl rfl (vp_i (by decide) (by decide)) hf17 rfl dX6_init_149 (fun f17 H locs hf17 hG => ?_)
  refine lv_dup hx hb dX6_init_150 rfl ?_
  refine lv_bipush (v := 6) hx hb dX6_init_151 (by decide) ?_
  refine lv_bipush (v := 101) hx hb dX6_init_153 (by decide) ?_
  refine kq_lit (WL := lawL) (k := 6) hx hb hG rfl rfl (vp_i (by decide) (by decide)) hf17 rfl dX6_init_155 (fun f17 H locs hf17 hG => ?_)
  refine lv_dup hx hb dX6_init_156 rfl ?_
  refine lv_bipush (v := 7) hx hb dX6_init_157 (by decide) ?_
  refine lv_bipush (v := 114) hx hb dX6_init_159 (by decide) ?_
  refine kq_lit (WL := lawL) (k := 7) hx hb hG rfl rfl (vp_i (by decide) (by decide)) hf17 rfl dX6_init_161 (fun f17 H locs hf17 hG => ?_)
  refine lv_dup hx hb dX6_init_162 rfl ?_
  refine lv_bipush (v := 8) hx hb dX6_init_163 (by decide) ?_
  refine lv_bipush (v := 118) hx hb dX6_init_165 (by decide) ?_
  refine kq_lit (WL := lawL) (k := 8) hx hb hG rfl rfl (vp_i (by decide) (by decide)) hf17 rfl dX6_init_167 (fun f17 H locs hf17 hG => ?_)
  refine lv_dup hx hb dX6_init_168 rfl ?_
  refine lv_bipush (v := 9) hx hb dX6_init_169 (by decide) ?_
  refine lv_bipush (v := 101) hx hb dX6_init_171 (by decide) ?_
  refine kq_lit (WL := lawL) (k := 9) hx hb hG rfl rfl (vp_i (by decide) (by decide)) hf17 rfl dX6_init_173 (fun f17 H locs hf17 hG => ?_)
  refine lv_dup hx hb dX6_init_174 rfl ?_
  refine lv_bipush (v := 10) hx hb dX6_init_175 (by decide) ?_
  refine lv_bipush (v := 32) hx hb dX6_init_177 (by decide) ?_
  refine kq_lit (WL := lawL) (k := 10) hx hb hG rfl rfl (vp_i (by decide) (by decide)) hf17 rfl dX6_init_179 (fun f17 H locs hf17 hG => ?_)
  refine lv_dup hx hb dX6_init_180 rfl ?_
  refine lv_bipush (v := 11) hx hb dX6_init_181 (by decide) ?_
  refine lv_bipush (v := 59) hx hb dX6_init_183 (by decide) ?_
  refine kq_lit (WL := lawL) (k := 11) hx hb hG rfl rfl (vp_i (by decide) (by decide)) hf17 rfl dX6_init_185 (fun f17 H locs hf17 hG => ?_)
  refine lv_dup hx hb dX6_init_186 rfl ?_
  refine lv_bipush (v := 12) hx hb dX6_init_187 (by decide) ?_
  refine lv_bipush (v := 32) hx hb dX6_init_189 (by decide) ?_
  refine kq_lit (WL := lawL) (k := 12) hx hb hG rfl rfl (vp_i (by decide) (by decide)) hf17 rfl dX6_init_191 (fun f17 H locs hf17 hG => ?_)
  refine lv_dup hx hb dX6_init_192 rfl ?_
  refine lv_bipush (v := 13) hx hb dX6_init_193 (by decide) ?_
  refine lv_bipush (v := 99) hx hb dX6_init_195 (by decide) ?_
  refine kq_lit (WL := lawL) (k := 13) hx hb hG rfl rfl (vp_i (by decide) (by decide)) hf17 rfl dX6_init_197 (fun f17 H locs hf17 hG => ?_)
  refine lv_dup hx hb dX6_init_198 rfl ?_
  refine lv_bipush (v := 14) hx hb dX6_init_199 (by decide) ?_
  refine lv_bipush (v := 111) hx hb dX6_init_201 (by decide) ?_
  refine kq_lit (WL := lawL) (k := 14) hx hb hG rfl rfl (vp_i (by decide) (by decide)) hf17 rfl dX6_init_203 (fun f17 H locs hf17 hG => ?_)
  refine lv_dup hx hb dX6_init_204 rfl ?_
  refine lv_bipush (v := 15) hx hb dX6_init_205 (by decide) ?_
  refine lv_bipush (v := 115) hx hb dX6_init_207 (by decide) ?_
  refine kq_lit (WL := lawL) (k := 15) hx hb hG rfl rfl (vp_i (by decide) (by decide)) hf17 rfl dX6_init_209 (fun f17 H locs hf17 hG => ?_)
  refine lv_dup hx hb dX6_init_210 rfl ?_
  refine lv_bipush (v := 16) hx hb dX6_init_211 (by decide) ?_
  refine lv_bipush (v := 116) hx hb dX6_init_213 (by decide) ?_
  refine kq_lit (WL := lawL) (k := 16) hx hb hG rfl rfl (vp_i (by decide) (by decide)) hf17 rfl dX6_init_215 (fun f17 H locs hf17 hG => ?_)
  refine lv_dup hx hb dX6_init_216 rfl ?_
  refine lv_bipush (v := 17) hx hb dX6_init_217 (by decide) ?_
  refine lv_bipush (v := 115) hx hb dX6_init_219 (by decide) ?_
  refine kq_lit (WL := lawL) (k := 17) hx hb hG rfl rfl (vp_i (by decide) (by decide)) hf17 rfl dX6_init_221 (fun f17 H locs hf17 hG => ?_)
  refine lv_dup hx hb dX6_init_222 rfl ?_
  refine lv_bipush (v := 18) hx hb dX6_init_223 (by decide) ?_
  refine lv_bipush (v := 32) hx hb dX6_init_225 (by decide) ?_
  refine kq_lit (WL := lawL) (k := 18) hx hb hG rfl rfl (vp_i (by decide) (by decide)) hf17 rfl dX6_init_227 (fun f17 H locs hf17 hG => ?_)
  refine lv_dup hx hb dX6_init_228 rfl ?_
  refine lv_bipush (v := 19) hx hb dX6_init_229 (by decide) ?_
  refine lv_bipush (v := 49) hx hb dX6_init_231 (by decide) ?_
  refine kq_lit (WL := lawL) (k := 19) hx hb hG rfl rfl (vp_i (by decide) (by decide)) hf17 rfl dX6_init_233 (fun f17 H locs hf17 hG => ?_)
  refine lv_dup hx hb dX6_init_234 rfl ?_
  refine lv_bipush (v := 20) hx hb dX6_init_235 (by decide) ?_
  refine lv_bipush (v := 32) hx hb dX6_init_237 (by decide) ?_
  refine kq_lit (WL := lawL) (k := 20) hx hb hG rfl rfl (vp_i (by decide) (by decide)) hf17 rfl dX6_init_239 (fun f17 H locs hf17 hG => ?_)
  refine lv_dup hx hb dX6_init_240 rfl ?_
  refine lv_bipush (v := 21) hx hb dX6_init_241 (by decide) ?_
  refine lv_bipush (v := 59) hx hb dX6_init_243 (by decide) ?_
  refine kq_lit (WL := lawL) (k := 21) hx hb hG rfl rfl (vp_i (by decide) (by decide)) hf17 rfl dX6_init_245 (fun f17 H locs hf17 hG => ?_)
  refine lv_dup hx hb dX6_init_246 rfl ?_
  refine lv_bipush (v := 22) hx hb dX6_init_247 (by decide) ?_
  refine lv_bipush (v := 32) hx hb dX6_init_249 (by decide) ?_
  refine kq_lit (WL := lawL) (k := 22) hx hb hG rfl rfl (vp_i (by decide) (by decide)) hf17 rfl dX6_init_251 (fun f17 H locs hf17 hG => ?_)
  refine lv_dup hx hb dX6_init_252 rfl ?_
  refine lv_bipush (v := 23) hx hb dX6_init_253 (by decide) ?_
  refine lv_bipush (v := 115) hx hb dX6_init_255 (by decide) ?_
  refine kq_lit (WL := lawL) (k := 23) hx hb hG rfl rfl (vp_i (by decide) (by decide)) hf17 rfl dX6_init_257 (fun f17 H locs hf17 hG => ?_)
  refine lv_dup hx hb dX6_init_258 rfl ?_
  refine lv_bipush (v := 24) hx hb dX6_init_259 (by decide) ?_
  refine lv_bipush (v := 116) hx hb dX6_init_261 (by decide) ?_
  refine kq_lit (WL := lawL) (k := 24) hx hb hG rfl rfl (vp_i (by decide) (by decide)) hf17 rfl dX6_init_263 (fun f17 H locs hf17 hG => ?_)
  refine lv_dup hx hb dX6_init_264 rfl ?_
  refine lv_bipush (v := 25) hx hb dX6_init_265 (by decide) ?_
  refine lv_bipush (v := 114) hx hb dX6_init_267 (by decide) ?_
  refine kq_lit (WL := lawL) (k := 25) hx hb hG rfl rfl (vp_i (by decide) (by decide)) hf17 rfl dX6_init_269 (fun f17 H locs hf17 hG => ?_)
  refine lv_dup hx hb dX6_init_270 rfl ?_
  refine lv_bipush (v := 26) hx hb dX6_init_271 (by decide) ?_
  refine lv_bipush (v := 111) hx hb dX6_init_273 (by decide) ?_
  refine kq_lit (WL := lawL) (k := 26) hx hb hG rfl rfl (vp_i (by decide) (by decide)) hf17 rfl dX6_init_275 (fun f17 H locs hf17 hG => ?_)
  refine lv_dup hx hb dX6_init_276 rfl ?_
  refine lv_bipush (v := 27) hx hb dX6_init_277 (by decide) ?_
  refine lv_bipush (v := 107) hx hb dX6_init_279 (by decide) ?_
  refine kq_lit (WL := lawL) (k := 27) hx hb hG rfl rfl (vp_i (by decide) (by decide)) hf17 rfl dX6_init_281 (fun f17 H locs hf17 hG => ?_)
  refine lv_dup hx hb dX6_init_282 rfl ?_
  refine lv_bipush (v := 28) hx hb dX6_init_283 (by decide) ?_
  refine lv_bipush (v := 101) hx hb dX6_init_285 (by decide) ?_
  refine kq_lit (WL := lawL) (k := 28) hx hb hG rfl rfl (vp_i (by decide) (by decide)) hf17 rfl dX6_init_287 (fun f17 H locs hf17 hG => ?_)
  refine lv_dup hx hb dX6_init_288 rfl ?_
  refine lv_bipush (v := 29) hx hb dX6_init_289 (by decide) ?_
  refine lv_bipush (v := 115) hx hb dX6_init_291 (by decide) ?_
  refine kq_lit (WL := lawL) (k := 29) hx hb hG rfl rfl (vp_i (by decide) (by decide)) hf17 rfl dX6_init_293 (fun f17 H locs hf17 hG => ?_)
  refine lv_dup hx hb dX6_init_294 rfl ?_
  refine lv_bipush (v := 30) hx hb dX6_init_295 (by decide) ?_
  refine lv_bipush (v := 32) hx hb dX6_init_297 (by decide) ?_
  refine kq_lit (WL := lawL) (k := 30) hx hb hG rfl rfl (vp_i (by decide) (by decide)) hf17 rfl dX6_init_299 (fun f17 H locs hf17 hG => ?_)
  refine lv_dup hx hb dX6_init_300 rfl ?_
  refine lv_bipush (v := 31) hx hb dX6_init_301 (by decide) ?_
  refine lv_bipush (v := 49) hx hb dX6_init_303 (by decide) ?_
  refine kq_lit (WL := lawL) (k := 31) hx hb hG rfl rfl (vp_i (by decide) (by decide)) hf17 rfl dX6_init_305 (fun f17 H locs hf17 hG => ?_)
  refine lv_dup hx hb dX6_init_306 rfl ?_
  refine lv_bipush (v := 32) hx hb dX6_init_307 (by decide) ?_
  refine lv_bipush (v := 32) hx hb dX6_init_309 (by decide) ?_
  refine kq_lit (WL := lawL) (k := 32) hx hb hG rfl rfl (vp_i (by decide) (by decide)) hf17 rfl dX6_init_311 (fun f17 H locs hf17 hG => ?_)
  refine lv_dup hx hb dX6_init_312 rfl ?_
  refine lv_bipush (v := 33) hx hb dX6_init_313 (by decide) ?_
  refine lv_bipush (v := 59) hx hb dX6_init_315 (by decide) ?_
  refine kq_lit (WL := lawL) (k := 33) hx hb hG rfl rfl (vp_i (by decide) (by decide)) hf17 rfl dX6_init_317 (fun f17 H locs hf17 hG => ?_)
  refine kq_putF hx hb hts hiX6 tyX6 tyX6_ok nmX6 hown hnm hG (q0 := 0) rfl rfl 17 (by decide) (index := 46) tw_fl_RX6_46 rfl rfl rfl rfl (Nat.le_of_ble_eq_true rfl) rfl dX6_init_318 (fun H locs hG => ?_)
  replace hG : kqS D [(cI, .int)] A s H locs [(a, .inr (6, [.int 0, .ref q1, .ref q2, .ref q3, .ref q4, .ref q5, .int 0, .ref q6, .ref q7, .int 0, .int 0, .int 0, .ref q8, .ref q9, .ref q10, .ref q11, .ref q12, .ref q13, .int 0, .int 0, .int 0, .int 0, .null, .null, .int 0, .int 0, .int 0, .null, .null, .int 0, .null, .null, .null, .int 0])), (q1, .inl (cI, 6, .inl (fun _ => 0))), (q2, .inl (cI, 6, .inl (fun _ => 0))), (q3, .inl (cI, 24, .inl (fun _ => 0))), (q4, .inl (cI, 3, .inl (fun _ => 0))), (q5, .inl (cI, 160, .inl (fun _ => 0))), (q6, .inl (cI, 1200, .inl (fun _ => 0))), (q7, .inl (cI, 24, .inl (fun _ => 0))), (q8, .inl (cI, 27, .inl (fun _ => 0))), (q9, .inl (cI, 2, .inl (fun _ => 0))), (q10, .inl (cI, 4, .inl (f14))), (q11, .inl (cI, 4, .inl (fun _ => 0))), (q12, .inl (cI, 160, .inl (fun _ => 0))), (q13, .inl (cI, 34, .inl (f17)))] := hG
  refine lv_aload_n hx hb dX6_init_321 rfl (lv_at hl 0 rfl) ?_
  refine lv_bipush (v := 96) hx hb dX6_init_322 (by decide) ?_
  refine kq_newa hx hb hts hG rfl hA (by decide) rfl (Nat.le_of_ble_eq_true rfl) (Nat.le_of_ble_eq_true rfl) (Nat.le_of_ble_eq_true rfl) dX6_init_324 (fun q14 H hG => ?_)
  have hf22 : ∀ j, j < 0 → (fun _ : Nat => (0 : Int32)) j = wordsL.getD j 0 := fun j hj => absurd hj (Nat.not_lt_zero j)
  refine lv_dup hx hb dX6_init_326 rfl ?_
  refine lv_iconst (v := 0) hx hb dX6_init_327 (by decide) ?_
  refine lv_bipush (v := 108) hx hb dX6_init_328 (by decide) ?_
  refine kq_lit (WL := wordsL) (k := 0) hx hb hG rfl rfl (vp_i (by decide) (by decide)) hf22 rfl dX6_init_330 (fun f22 H locs hf22 hG => ?_)
  refine lv_dup hx hb dX6_init_331 rfl ?_
  refine lv_iconst (v := 1) hx hb dX6_init_332 (by decide) ?_
  refine lv_bipush (v := 105) hx hb dX6_init_333 (by decide) ?_
  refine kq_lit (WL := wordsL) (k := 1) hx hb hG rfl rfl (vp_i (by decide) (by decide)) hf22 rfl dX6_init_335 (fun f22 H locs hf22 hG => ?_)
  refine lv_dup hx hb dX6_init_336 rfl ?_
  refine lv_iconst (v := 2) hx hb dX6_init_337 (by decide) ?_
  refine lv_bipush (v := 101) hx hb dX6_init_338 (by decide) ?_
  refine kq_lit (WL := wordsL) (k := 2) hx hb hG rfl rfl (vp_i (by decide) (by decide)) hf22 rfl dX6_init_340 (fun f22 H locs hf22 hG => ?_)
  refine lv_dup hx hb dX6_init_341 rfl ?_
  refine lv_iconst (v := 3) hx hb dX6_init_342 (by decide) ?_
  refine lv_bipush (v := 115) hx hb dX6_init_343 (by decide) ?_
  refine kq_lit (WL := wordsL) (k := 3) hx hb hG rfl rfl (vp_i (by decide) (by decide)) hf22 rfl dX6_init_345 (fun f22 H locs hf22 hG => ?_)
  refine lv_dup hx hb dX6_init_346 rfl ?_
  refine lv_iconst (v := 4) hx hb dX6_init_347 (by decide) ?_
  refine lv_bipush (v := 32) hx hb dX6_init_348 (by decide) ?_
  refine kq_lit (WL := wordsL) (k := 4) hx hb hG rfl rfl (vp_i (by decide) (by decide)) hf22 rfl dX6_init_350 (fun f22 H locs hf22 hG => ?_)
  refine lv_dup hx hb dX6_init_351 rfl ?_
  refine lv_iconst (v := 5) hx hb dX6_init_352 (by decide) ?_
  refine lv_bipush (v := 32) hx hb dX6_init_353 (by decide) ?_
  refine kq_lit (WL := wordsL) (k := 5) hx hb hG rfl rfl (vp_i (by decide) (by decide)) hf22 rfl dX6_init_355 (fun f22 H locs hf22 hG => ?_)
  refine lv_dup hx hb dX6_init_356 rfl ?_
  refine lv_bipush (v := 6) hx hb dX6_init_357 (by decide) ?_
  refine lv_bipush (v := 32) hx hb dX6_init_359 (by decide) ?_
  refine kq_lit (WL := wordsL) (k := 6) hx hb hG rfl rfl (vp_i (by decide) (by decide)) hf22 rfl dX6_init_361 (fun f22 H locs hf22 hG => ?_)
  refine lv_dup hx hb dX6_init_362 rfl ?_
  refine lv_bipush (v := 7) hx hb dX6_init_363 (by decide) ?_
  refine lv_bipush (v := 32) hx hb dX6_init_365 (by decide) ?_
  refine kq_lit (WL := wordsL) (k := 7) hx hb hG rfl rfl (vp_i (by decide) (by decide)) hf22 rfl dX6_init_367 (fun f22 H locs hf22 hG => ?_)
  refine lv_dup hx hb dX6_init_368 rfl ?_
  refine lv_bipush (v := 8) hx hb dX6_init_369 (by decide) ?_
  refine lv_bipush (v := 99) hx hb dX6_init_371 (by decide) ?_
  refine kq_lit (WL := wordsL) (k := 8) hx hb hG rfl rfl (vp_i (by decide) (by decide)) hf22 rfl dX6_init_373 (fun f22 H locs hf22 hG => ?_)
  refine lv_dup hx hb dX6_init_374 rfl ?_
  refine lv_bipush (v := 9) hx hb dX6_init_375 (by decide) ?_
  refine lv_bipush (v := 111) hx hb dX6_init_377 (by decide) ?_
  refine kq_lit (WL := wordsL) (k := 9) hx hb hG rfl rfl (vp_i (by decide) (by decide)) hf22 rfl dX6_init_379 (fun f22 H locs hf22 hG => ?_)
  refine lv_dup hx hb dX6_init_380 rfl ?_
  refine lv_bipush (v := 10) hx hb dX6_init_381 (by decide) ?_
  refine lv_bipush (v := 115) hx hb dX6_init_383 (by decide) ?_
  refine kq_lit (WL := wordsL) (k := 10) hx hb hG rfl rfl (vp_i (by decide) (by decide)) hf22 rfl dX6_init_385 (fun f22 H locs hf22 hG => ?_)
  refine lv_dup hx hb dX6_init_386 rfl ?_
  refine lv_bipush (v := 11) hx hb dX6_init_387 (by decide) ?_
  refine lv_bipush (v := 116) hx hb dX6_init_389 (by decide) ?_
  refine kq_lit (WL := wordsL) (k := 11) hx hb hG rfl rfl (vp_i (by decide) (by decide)) hf22 rfl dX6_init_391 (fun f22 H locs hf22 hG => ?_)
  refine lv_dup hx hb dX6_init_392 rfl ?_
  refine lv_bipush (v := 12) hx hb dX6_init_393 (by decide) ?_
  refine lv_bipush (v := 115) hx hb dX6_init_395 (by decide) ?_
  refine kq_lit (WL := wordsL) (k := 12) hx hb hG rfl rfl (vp_i (by decide) (by decide)) hf22 rfl dX6_init_397 (fun f22 H locs hf22 hG => ?_)
  refine lv_dup hx hb dX6_init_398 rfl ?_
  refine lv_bipush (v := 13) hx hb dX6_init_399 (by decide) ?_
  refine lv_bipush (v := 32) hx hb dX6_init_401 (by decide) ?_
  refine kq_lit (WL := wordsL) (k := 13) hx hb hG rfl rfl (vp_i (by decide) (by decide)) hf22 rfl dX6_init_403 (fun f22 H locs hf22 hG => ?_)
  refine lv_dup hx hb dX6_init_404 rfl ?_
  refine lv_bipush (v := 14) hx hb dX6_init_405 (by decide) ?_
  refine lv_bipush (v := 32) hx hb dX6_init_407 (by decide) ?_
  refine kq_lit (WL := wordsL) (k := 14) hx hb hG rfl rfl (vp_i (by decide) (by decide)) hf22 rfl dX6_init_409 (fun f22 H locs hf22 hG => ?_)
  refine lv_dup hx hb dX6_init_410 rfl ?_
  refine lv_bipush (v := 15) hx hb dX6_init_411 (by decide) ?_
  refine lv_bipush (v := 32) hx hb dX6_init_413 (by decide) ?_
  refine kq_lit (WL := wordsL) (k := 15) hx hb hG rfl rfl (vp_i (by decide) (by decide)) hf22 rfl dX6_init_415 (fun f22 H locs hf22 hG => ?_)
  refine lv_dup hx hb dX6_init_416 rfl ?_
  refine lv_bipush (v := 16) hx hb dX6_init_417 (by decide) ?_
  refine lv_bipush (v := 115) hx hb dX6_init_419 (by decide) ?_
  refine kq_lit (WL := wordsL) (k := 16) hx hb hG rfl rfl (vp_i (by decide) (by decide)) hf22 rfl dX6_init_421 (fun f22 H locs hf22 hG => ?_)
  refine lv_dup hx hb dX6_init_422 rfl ?_
  refine lv_bipush (v := 17) hx hb dX6_init_423 (by decide) ?_
  refine lv_bipush (v := 116) hx hb dX6_init_425 (by decide) ?_
  refine kq_lit (WL := wordsL) (k := 17) hx hb hG rfl rfl (vp_i (by decide) (by decide)) hf22 rfl dX6_init_427 (fun f22 H locs hf22 hG => ?_)
  refine lv_dup hx hb dX6_init_428 rfl ?_
  refine lv_bipush (v := 18) hx hb dX6_init_429 (by decide) ?_
  refine lv_bipush (v := 114) hx hb dX6_init_431 (by decide) ?_
  refine kq_lit (WL := wordsL) (k := 18) hx hb hG rfl rfl (vp_i (by decide) (by decide)) hf22 rfl dX6_init_433 (fun f22 H locs hf22 hG => ?_)
  refine lv_dup hx hb dX6_init_434 rfl ?_
  refine lv_bipush (v := 19) hx hb dX6_init_435 (by decide) ?_
  refine lv_bipush (v := 111) hx hb dX6_init_437 (by decide) ?_
  refine kq_lit (WL := wordsL) (k := 19) hx hb hG rfl rfl (vp_i (by decide) (by decide)) hf22 rfl dX6_init_439 (fun f22 H locs hf22 hG => ?_)
  refine lv_dup hx hb dX6_init_440 rfl ?_
  refine lv_bipush (v := 20) hx hb dX6_init_441 (by decide) ?_
  refine lv_bipush (v := 107) hx hb dX6_init_443 (by decide) ?_
  refine kq_lit (WL := wordsL) (k := 20) hx hb hG rfl rfl (vp_i (by decide) (by decide)) hf22 rfl dX6_init_445 (fun f22 H locs hf22 hG => ?_)
  refine lv_dup hx hb dX6_init_446 rfl ?_
  refine lv_bipush (v := 21) hx hb dX6_init_447 (by decide) ?_
  refine lv_bipush (v := 101) hx hb dX6_init_449 (by decide) ?_
  refine kq_lit (WL := wordsL) (k := 21) hx hb hG rfl rfl (vp_i (by decide) (by decide)) hf22 rfl dX6_init_451 (fun f22 H locs hf22 hG => ?_)
  refine lv_dup hx hb dX6_init_452 rfl ?_
  refine lv_bipush (v := 22) hx hb dX6_init_453 (by decide) ?_
  refine lv_bipush (v := 115) hx hb dX6_init_455 (by decide) ?_
  refine kq_lit (WL := wordsL) (k := 22) hx hb hG rfl rfl (vp_i (by decide) (by decide)) hf22 rfl dX6_init_457 (fun f22 H locs hf22 hG => ?_)
  refine lv_dup hx hb dX6_init_458 rfl ?_
  refine lv_bipush (v := 23) hx hb dX6_init_459 (by decide) ?_
  refine lv_bipush (v := 32) hx hb dX6_init_461 (by decide) ?_
  refine kq_lit (WL := wordsL) (k := 23) hx hb hG rfl rfl (vp_i (by decide) (by decide)) hf22 rfl dX6_init_463 (fun f22 H locs hf22 hG => ?_)
  refine lv_dup hx hb dX6_init_464 rfl ?_
  refine lv_bipush (v := 24) hx hb dX6_init_465 (by decide) ?_
  refine lv_bipush (v := 110) hx hb dX6_init_467 (by decide) ?_
  refine kq_lit (WL := wordsL) (k := 24) hx hb hG rfl rfl (vp_i (by decide) (by decide)) hf22 rfl dX6_init_469 (fun f22 H locs hf22 hG => ?_)
  refine lv_dup hx hb dX6_init_470 rfl ?_
  refine lv_bipush (v := 25) hx hb dX6_init_471 (by decide) ?_
  refine lv_bipush (v := 101) hx hb dX6_init_473 (by decide) ?_
  refine kq_lit (WL := wordsL) (k := 25) hx hb hG rfl rfl (vp_i (by decide) (by decide)) hf22 rfl dX6_init_475 (fun f22 H locs hf22 hG => ?_)
  refine lv_dup hx hb dX6_init_476 rfl ?_
  refine lv_bipush (v := 26) hx hb dX6_init_477 (by decide) ?_
  refine lv_bipush (v := 114) hx hb dX6_init_479 (by decide) ?_
  refine kq_lit (WL := wordsL) (k := 26) hx hb hG rfl rfl (vp_i (by decide) (by decide)) hf22 rfl dX6_init_481 (fun f22 H locs hf22 hG => ?_)
  refine lv_dup hx hb dX6_init_482 rfl ?_
  refine lv_bipush (v := 27) hx hb dX6_init_483 (by decide) ?_
  refine lv_bipush (v := 118) hx hb dX6_init_485 (by decide) ?_
  refine kq_lit (WL := wordsL) (k := 27) hx hb hG rfl rfl (vp_i (by decide) (by decide)) hf22 rfl dX6_init_487 (fun f22 H locs hf22 hG => ?_)
  refine lv_dup hx hb dX6_init_488 rfl ?_
  refine lv_bipush (v := 28) hx hb dX6_init_489 (by decide) ?_
  refine lv_bipush (v := 101) hx hb dX6_init_491 (by decide) ?_
  refine kq_lit (WL := wordsL) (k := 28) hx hb hG rfl rfl (vp_i (by decide) (by decide)) hf22 rfl dX6_init_493 (fun f22 H locs hf22 hG => ?_)
  refine lv_dup hx hb dX6_init_494 rfl ?_
  refine lv_bipush (v := 29) hx hb dX6_init_495 (by decide) ?_
  refine lv_bipush (v := 32) hx hb dX6_init_497 (by decide) ?_
  refine kq_lit (WL := wordsL) (k := 29) hx hb hG rfl rfl (vp_i (by decide) (by decide)) hf22 rfl dX6_init_499 (fun f22 H locs hf22 hG => ?_)
  refine lv_dup hx hb dX6_init_500 rfl ?_
  refine lv_bipush (v := 30) hx hb dX6_init_501 (by decide) ?_
  refine lv_bipush (v := 32) hx hb dX6_init_503 (by decide) ?_
  refine kq_lit (WL := wordsL) (k := 30) hx hb hG rfl rfl (vp_i (by decide) (by decide)) hf22 rfl dX6_init_505 (fun f22 H locs hf22 hG => ?_)
  refine lv_dup hx hb dX6_init_506 rfl ?_
  refine lv_bipush (v := 31) hx hb dX6_init_507 (by decide) ?_
  refine lv_bipush (v := 32) hx hb dX6_init_509 (by decide) ?_
  refine kq_lit (WL := wordsL) (k := 31) hx hb hG rfl rfl (vp_i (by decide) (by decide)) hf22 rfl dX6_init_511 (fun f22 H locs hf22 hG => ?_)
  refine lv_dup hx hb dX6_init_512 rfl ?_
  refine lv_bipush (v := 32) hx hb dX6_init_513 (by decide) ?_
  refine lv_bipush (v := 116) hx hb dX6_init_515 (by decide) ?_
  refine kq_lit (WL := wordsL) (k := 32) hx hb hG rfl rfl (vp_i (by decide) (by decide)) hf22 rfl dX6_init_517 (fun f22 H locs hf22 hG => ?_)
  refine lv_dup hx hb dX6_init_518 rfl ?_
  refine lv_bipush (v := 33) hx hb dX6_init_519 (by decide) ?_
  refine lv_bipush (v := 111) hx hb dX6_init_521 (by decide) ?_
  refine kq_lit (WL := wordsL) (k := 33) hx hb hG rfl rfl (vp_i (by decide) (by decide)) hf22 rfl dX6_init_523 (fun f22 H locs hf22 hG => ?_)
  refine lv_dup hx hb dX6_init_524 rfl ?_
  refine lv_bipush (v := 34) hx hb dX6_init_525 (by decide) ?_
  refine lv_bipush (v := 108) hx hb dX6_init_527 (by decide) ?_
  refine kq_lit (WL := wordsL) (k := 34) hx hb hG rfl rfl (vp_i (by decide) (by decide)) hf22 rfl dX6_init_529 (fun f22 H locs hf22 hG => ?_)
  refine lv_dup hx hb dX6_init_530 rfl ?_
  refine lv_bipush (v := 35) hx hb dX6_init_531 (by decide) ?_
  refine lv_bipush (v := 100) hx hb dX6_init_533 (by decide) ?_
  refine kq_lit (WL := wordsL) (k := 35) hx hb hG rfl rfl (vp_i (by decide) (by decide)) hf22 rfl dX6_init_535 (fun f22 H locs hf22 hG => ?_)
  refine lv_dup hx hb dX6_init_536 rfl ?_
  refine lv_bipush (v := 36) hx hb dX6_init_537 (by decide) ?_
  refine lv_bipush (v := 32) hx hb dX6_init_539 (by decide) ?_
  refine kq_lit (WL := wordsL) (k := 36) hx hb hG rfl rfl (vp_i (by decide) (by decide)) hf22 rfl dX6_init_541 (fun f22 H locs hf22 hG => ?_)
  refine lv_dup hx hb dX6_init_542 rfl ?_
  refine lv_bipush (v := 37) hx hb dX6_init_543 (by decide) ?_
  refine lv_bipush (v := 32) hx hb dX6_init_545 (by decide) ?_
  refine kq_lit (WL := wordsL) (k := 37) hx hb hG rfl rfl (vp_i (by decide) (by decide)) hf22 rfl dX6_init_547 (fun f22 H locs hf22 hG => ?_)
  refine lv_dup hx hb dX6_init_548 rfl ?_
  refine lv_bipush (v := 38) hx hb dX6_init_549 (by decide) ?_
  refine lv_bipush (v := 32) hx hb dX6_init_551 (by decide) ?_
  refine kq_lit (WL := wordsL) (k := 38) hx hb hG rfl rfl (vp_i (by decide) (by decide)) hf22 rfl dX6_init_553 (fun f22 H locs hf22 hG => ?_)
  refine lv_dup hx hb dX6_init_554 rfl ?_
  refine lv_bipush (v := 39) hx hb dX6_init_555 (by decide) ?_
  refine lv_bipush (v := 32) hx hb dX6_init_557 (by decide) ?_
  refine kq_lit (WL := wordsL) (k := 39) hx hb hG rfl rfl (vp_i (by decide) (by decide)) hf22 rfl dX6_init_559 (fun f22 H locs hf22 hG => ?_)
  refine lv_dup hx hb dX6_init_560 rfl ?_
  refine lv_bipush (v := 40) hx hb dX6_init_561 (by decide) ?_
  refine lv_bipush (v := 104) hx hb dX6_init_563 (by decide) ?_
  refine kq_lit (WL := wordsL) (k := 40) hx hb hG rfl rfl (vp_i (by decide) (by decide)) hf22 rfl dX6_init_565 (fun f22 H locs hf22 hG => ?_)
  refine lv_dup hx hb dX6_init_566 rfl ?_
  refine lv_bipush (v := 41) hx hb dX6_init_567 (by decide) ?_
  refine lv_bipush (v := 111) hx hb dX6_init_569 (by decide) ?_
  refine kq_lit (WL := wordsL) (k := 41) hx hb hG rfl rfl (vp_i (by decide) (by decide)) hf22 rfl dX6_init_571 (fun f22 H locs hf22 hG => ?_)
  refine lv_dup hx hb dX6_init_572 rfl ?_
  refine lv_bipush (v := 42) hx hb dX6_init_573 (by decide) ?_
  refine lv_bipush (v := 117) hx hb dX6_init_575 (by decide) ?_
  refine kq_lit (WL := wordsL) (k := 42) hx hb hG rfl rfl (vp_i (by decide) (by decide)) hf22 rfl dX6_init_577 (fun f22 H locs hf22 hG => ?_)
  refine lv_dup hx hb dX6_init_578 rfl ?_
  refine lv_bipush (v := 43) hx hb dX6_init_579 (by decide) ?_
  refine lv_bipush (v := 114) hx hb dX6_init_581 (by decide) ?_
  refine kq_lit (WL := wordsL) (k := 43) hx hb hG rfl rfl (vp_i (by decide) (by decide)) hf22 rfl dX6_init_583 (fun f22 H locs hf22 hG => ?_)
  refine lv_dup hx hb dX6_init_584 rfl ?_
  refine lv_bipush (v := 44) hx hb dX6_init_585 (by decide) ?_
  refine lv_bipush (v := 32) hx hb dX6_init_587 (by decide) ?_
  refine kq_lit (WL := wordsL) (k := 44) hx hb hG rfl rfl (vp_i (by decide) (by decide)) hf22 rfl dX6_init_589 (fun f22 H locs hf22 hG => ?_)
  refine lv_dup hx hb dX6_init_590 rfl ?_
  refine lv_bipush (v := 45) hx hb dX6_init_591 (by decide) ?_
  refine lv_bipush (v := 32) hx hb dX6_init_593 (by decide) ?_
  refine kq_lit (WL := wordsL) (k := 45) hx hb hG rfl rfl (vp_i (by decide) (by decide)) hf22 rfl dX6_init_595 (fun f22 H locs hf22 hG => ?_)
  refine lv_dup hx hb dX6_init_596 rfl ?_
  refine lv_bipush (v := 46) hx hb dX6_init_597 (by decide) ?_
  refine lv_bipush (v := 32) hx hb dX6_init_599 (by decide) ?_
  refine kq_lit (WL := wordsL) (k := 46) hx hb hG rfl rfl (vp_i (by decide) (by decide)) hf22 rfl dX6_init_601 (fun f22 H locs hf22 hG => ?_)
  refine lv_dup hx hb dX6_init_602 rfl ?_
  refine lv_bipush (v := 47) hx hb dX6_init_603 (by decide) ?_
  refine lv_bipush (v := 32) hx hb dX6_init_605 (by decide) ?_
  refine kq_lit (WL := wordsL) (k := 47) hx hb hG rfl rfl (vp_i (by decide) (by decide)) hf22 rfl dX6_init_607 (fun f22 H locs hf22 hG => ?_)
  refine lv_dup hx hb dX6_init_608 rfl ?_
  refine lv_bipush (v := 48) hx hb dX6_init_609 (by decide) ?_
  refine lv_bipush (v := 108) hx hb dX6_init_611 (by decide) ?_
  refine kq_lit (WL := wordsL) (k := 48) hx hb hG rfl rfl (vp_i (by decide) (by decide)) hf22 rfl dX6_init_613 (fun f22 H locs hf22 hG => ?_)
  refine lv_dup hx hb dX6_init_614 rfl ?_
  refine lv_bipush (v := 49) hx hb dX6_init_615 (by decide) ?_
  refine lv_bipush (v := 97) hx hb dX6_init_617 (by decide) ?_
  refine kq_lit (WL := wordsL) (k := 49) hx hb hG rfl rfl (vp_i (by decide) (by decide)) hf22 rfl dX6_init_619 (fun f22 H locs hf22 hG => ?_)
  refine lv_dup hx hb dX6_init_620 rfl ?_
  refine lv_bipush (v := 50) hx hb dX6_init_621 (by decide) ?_
  refine lv_bipush (v := 115) hx hb dX6_init_623 (by decide) ?_
  refine kq_lit (WL := wordsL) (k := 50) hx hb hG rfl rfl (vp_i (by decide) (by decide)) hf22 rfl dX6_init_625 (fun f22 H locs hf22 hG => ?_)
  refine lv_dup hx hb dX6_init_626 rfl ?_
  refine lv_bipush (v := 51) hx hb dX6_init_627 (by decide) ?_
  refine lv_bipush (v := 116) hx hb dX6_init_629 (by decide) ?_
  refine kq_lit (WL := wordsL) (k := 51) hx hb hG rfl rfl (vp_i (by decide) (by decide)) hf22 rfl dX6_init_631 (fun f22 H locs hf22 hG => ?_)
  refine lv_dup hx hb dX6_init_632 rfl ?_
  refine lv_bipush (v := 52) hx hb dX6_init_633 (by decide) ?_
  refine lv_bipush (v := 32) hx hb dX6_init_635 (by decide) ?_
  refine kq_lit (WL := wordsL) (k := 52) hx hb hG rfl rfl (vp_i (by decide) (by decide)) hf22 rfl dX6_init_637 (fun f22 H locs hf22 hG => ?_)
  refine lv_dup hx hb dX6_init_638 rfl ?_
  refine lv_bipush (v := 53) hx hb dX6_init_639 (by decide) ?_
  refine lv_bipush (v := 32) hx hb dX6_init_641 (by decide) ?_
  refine kq_lit (WL := wordsL) (k := 53) hx hb hG rfl rfl (vp_i (by decide) (by decide)) hf22 rfl dX6_init_643 (fun f22 H locs hf22 hG => ?_)
  refine lv_dup hx hb dX6_init_644 rfl ?_
  refine lv_bipush (v := 54) hx hb dX6_init_645 (by decide) ?_
  refine lv_bipush (v := 32) hx hb dX6_init_647 (by decide) ?_
  refine kq_lit (WL := wordsL) (k := 54) hx hb hG rfl rfl (vp_i (by decide) (by decide)) hf22 rfl dX6_init_649 (fun f22 H locs hf22 hG => ?_)
  refine lv_dup hx hb dX6_init_650 rfl ?_
  refine lv_bipush (v := 55) hx hb dX6_init_651 (by decide) ?_
  refine lv_bipush (v := 32) hx hb dX6_init_653 (by decide) ?_
  refine kq_lit (WL := wordsL) (k := 55) hx hb hG rfl rfl (vp_i (by decide) (by decide)) hf22 rfl dX6_init_655 (fun f22 H locs hf22 hG => ?_)
  refine lv_dup hx hb dX6_init_656 rfl ?_
  refine lv_bipush (v := 56) hx hb dX6_init_657 (by decide) ?_
  refine lv_bipush (v := 112) hx hb dX6_init_659 (by decide) ?_
  refine kq_lit (WL := wordsL) (k := 56) hx hb hG rfl rfl (vp_i (by decide) (by decide)) hf22 rfl dX6_init_661 (fun f22 H locs hf22 hG => ?_)
  refine lv_dup hx hb dX6_init_662 rfl ?_
  refine lv_bipush (v := 57) hx hb dX6_init_663 (by decide) ?_
  refine lv_bipush (v := 101) hx hb dX6_init_665 (by decide) ?_
  refine kq_lit (WL := wordsL) (k := 57) hx hb hG rfl rfl (vp_i (by decide) (by decide)) hf22 rfl dX6_init_667 (fun f22 H locs hf22 hG => ?_)
  refine lv_dup hx hb dX6_init_668 rfl ?_
  refine lv_bipush (v := 58) hx hb dX6_init_669 (by decide) ?_
  refine lv_bipush (v := 111) hx hb dX6_init_671 (by decide) ?_
  refine kq_lit (WL := wordsL) (k := 58) hx hb hG rfl rfl (vp_i (by decide) (by decide)) hf22 rfl dX6_init_673 (fun f22 H locs hf22 hG => ?_)
  refine lv_dup hx hb dX6_init_674 rfl ?_
  refine lv_bipush (v := 59) hx hb dX6_init_675 (by decide) ?_
  refine lv_bipush (v := 112) hx hb dX6_init_677 (by decide) ?_
  refine kq_lit (WL := wordsL) (k := 59) hx hb hG rfl rfl (vp_i (by decide) (by decide)) hf22 rfl dX6_init_679 (fun f22 H locs hf22 hG => ?_)
  refine lv_dup hx hb dX6_init_680 rfl ?_
  refine lv_bipush (v := 60) hx hb dX6_init_681 (by decide) ?_
  refine lv_bipush (v := 108) hx hb dX6_init_683 (by decide) ?_
  refine kq_lit (WL := wordsL) (k := 60) hx hb hG rfl rfl (vp_i (by decide) (by decide)) hf22 rfl dX6_init_685 (fun f22 H locs hf22 hG => ?_)
  refine lv_dup hx hb dX6_init_686 rfl ?_
  refine lv_bipush (v := 61) hx hb dX6_init_687 (by decide) ?_
  refine lv_bipush (v := 101) hx hb dX6_init_689 (by decide) ?_
  refine kq_lit (WL := wordsL) (k := 61) hx hb hG rfl rfl (vp_i (by decide) (by decide)) hf22 rfl dX6_init_691 (fun f22 H locs hf22 hG => ?_)
  refine lv_dup hx hb dX6_init_692 rfl ?_
  refine lv_bipush (v := 62) hx hb dX6_init_693 (by decide) ?_
  refine lv_bipush (v := 32) hx hb dX6_init_695 (by decide) ?_
  refine kq_lit (WL := wordsL) (k := 62) hx hb hG rfl rfl (vp_i (by decide) (by decide)) hf22 rfl dX6_init_697 (fun f22 H locs hf22 hG => ?_)
  refine lv_dup hx hb dX6_init_698 rfl ?_
  refine lv_bipush (v := 63) hx hb dX6_init_699 (by decide) ?_
  refine lv_bipush (v := 32) hx hb dX6_init_701 (by decide) ?_
  refine kq_lit (WL := wordsL) (k := 63) hx hb hG rfl rfl (vp_i (by decide) (by decide)) hf22 rfl dX6_init_703 (fun f22 H locs hf22 hG => ?_)
  refine lv_dup hx hb dX6_init_704 rfl ?_
  refine lv_bipush (v := 64) hx hb dX6_init_705 (by decide) ?_
  refine lv_bipush (v := 109) hx hb dX6_init_707 (by decide) ?_
  refine kq_lit (WL := wordsL) (k := 64) hx hb hG rfl rfl (vp_i (by decide) (by decide)) hf22 rfl dX6_init_709 (fun f22 H locs hf22 hG => ?_)
  refine lv_dup hx hb dX6_init_710 rfl ?_
  refine lv_bipush (v := 65) hx hb dX6_init_711 (by decide) ?_
  refine lv_bipush (v := 111) hx hb dX6_init_713 (by decide) ?_
  refine kq_lit (WL := wordsL) (k := 65) hx hb hG rfl rfl (vp_i (by decide) (by decide)) hf22 rfl dX6_init_715 (fun f22 H locs hf22 hG => ?_)
  refine lv_dup hx hb dX6_init_716 rfl ?_
  refine lv_bipush (v := 66) hx hb dX6_init_717 (by decide) ?_
  refine lv_bipush (v := 114) hx hb dX6_init_719 (by decide) ?_
  refine kq_lit (WL := wordsL) (k := 66) hx hb hG rfl rfl (vp_i (by decide) (by decide)) hf22 rfl dX6_init_721 (fun f22 H locs hf22 hG => ?_)
  refine lv_dup hx hb dX6_init_722 rfl ?_
  refine lv_bipush (v := 67) hx hb dX6_init_723 (by decide) ?_
  refine lv_bipush (v := 101) hx hb dX6_init_725 (by decide) ?_
  refine kq_lit (WL := wordsL) (k := 67) hx hb hG rfl rfl (vp_i (by decide) (by decide)) hf22 rfl dX6_init_727 (fun f22 H locs hf22 hG => ?_)
  refine lv_dup hx hb dX6_init_728 rfl ?_
  refine lv_bipush (v := 68) hx hb dX6_init_729 (by decide) ?_
  refine lv_bipush (v := 32) hx hb dX6_init_731 (by decide) ?_
  refine kq_lit (WL := wordsL) (k := 68) hx hb hG rfl rfl (vp_i (by decide) (by decide)) hf22 rfl dX6_init_733 (fun f22 H locs hf22 hG => ?_)
  refine lv_dup hx hb dX6_init_734 rfl ?_
  refine lv_bipush (v := 69) hx hb dX6_init_735 (by decide) ?_
  refine lv_bipush (v := 32) hx hb dX6_init_737 (by decide) ?_
  refine kq_lit (WL := wordsL) (k := 69) hx hb hG rfl rfl (vp_i (by decide) (by decide)) hf22 rfl dX6_init_739 (fun f22 H locs hf22 hG => ?_)
  refine lv_dup hx hb dX6_init_740 rfl ?_
  refine lv_bipush (v := 70) hx hb dX6_init_741 (by decide) ?_
  refine lv_bipush (v := 32) hx hb dX6_init_743 (by decide) ?_
  refine kq_lit (WL := wordsL) (k := 70) hx hb hG rfl rfl (vp_i (by decide) (by decide)) hf22 rfl dX6_init_745 (fun f22 H locs hf22 hG => ?_)
  refine lv_dup hx hb dX6_init_746 rfl ?_
  refine lv_bipush (v := 71) hx hb dX6_init_747 (by decide) ?_
  refine lv_bipush (v := 32) hx hb dX6_init_749 (by decide) ?_
  refine kq_lit (WL := wordsL) (k := 71) hx hb hG rfl rfl (vp_i (by decide) (by decide)) hf22 rfl dX6_init_751 (fun f22 H locs hf22 hG => ?_)
  refine lv_dup hx hb dX6_init_752 rfl ?_
  refine lv_bipush (v := 72) hx hb dX6_init_753 (by decide) ?_
  refine lv_bipush (v := 111) hx hb dX6_init_755 (by decide) ?_
  refine kq_lit (WL := wordsL) (k := 72) hx hb hG rfl rfl (vp_i (by decide) (by decide)) hf22 rfl dX6_init_757 (fun f22 H locs hf22 hG => ?_)
  refine lv_dup hx hb dX6_init_758 rfl ?_
  refine lv_bipush (v := 73) hx hb dX6_init_759 (by decide) ?_
  refine lv_bipush (v := 114) hx hb dX6_init_761 (by decide) ?_
  refine kq_lit (WL := wordsL) (k := 73) hx hb hG rfl rfl (vp_i (by decide) (by decide)) hf22 rfl dX6_init_763 (fun f22 H locs hf22 hG => ?_)
  refine lv_dup hx hb dX6_init_764 rfl ?_
  refine lv_bipush (v := 74) hx hb dX6_init_765 (by decide) ?_
  refine lv_bipush (v := 32) hx hb dX6_init_767 (by decide) ?_
  refine kq_lit (WL := wordsL) (k := 74) hx hb hG rfl rfl (vp_i (by decide) (by decide)) hf22 rfl dX6_init_769 (fun f22 H locs hf22 hG => ?_)
  refine lv_dup hx hb dX6_init_770 rfl ?_
  refine lv_bipush (v := 75) hx hb dX6_init_771 (by decide) ?_
  refine lv_bipush (v := 32) hx hb dX6_init_773 (by decide) ?_
  refine kq_lit (WL := wordsL) (k := 75) hx hb hG rfl rfl (vp_i (by decide) (by decide)) hf22 rfl dX6_init_775 (fun f22 H locs hf22 hG => ?_)
  refine lv_dup hx hb dX6_init_776 rfl ?_
  refine lv_bipush (v := 76) hx hb dX6_init_777 (by decide) ?_
  refine lv_bipush (v := 32) hx hb dX6_init_779 (by decide) ?_
  refine kq_lit (WL := wordsL) (k := 76) hx hb hG rfl rfl (vp_i (by decide) (by decide)) hf22 rfl dX6_init_781 (fun f22 H locs hf22 hG => ?_)
  refine lv_dup hx hb dX6_init_782 rfl ?_
  refine lv_bipush (v := 77) hx hb dX6_init_783 (by decide) ?_
  refine lv_bipush (v := 32) hx hb dX6_init_785 (by decide) ?_
  refine kq_lit (WL := wordsL) (k := 77) hx hb hG rfl rfl (vp_i (by decide) (by decide)) hf22 rfl dX6_init_787 (fun f22 H locs hf22 hG => ?_)
  refine lv_dup hx hb dX6_init_788 rfl ?_
  refine lv_bipush (v := 78) hx hb dX6_init_789 (by decide) ?_
  refine lv_bipush (v := 32) hx hb dX6_init_791 (by decide) ?_
  refine kq_lit (WL := wordsL) (k := 78) hx hb hG rfl rfl (vp_i (by decide) (by decide)) hf22 rfl dX6_init_793 (fun f22 H locs hf22 hG => ?_)
  refine lv_dup hx hb dX6_init_794 rfl ?_
  refine lv_bipush (v := 79) hx hb dX6_init_795 (by decide) ?_
  refine lv_bipush (v := 32) hx hb dX6_init_797 (by decide) ?_
  refine kq_lit (WL := wordsL) (k := 79) hx hb hG rfl rfl (vp_i (by decide) (by decide)) hf22 rfl dX6_init_799 (fun f22 H locs hf22 hG => ?_)
  refine lv_dup hx hb dX6_init_800 rfl ?_
  refine lv_bipush (v := 80) hx hb dX6_init_801 (by decide) ?_
  refine lv_bipush (v := 97) hx hb dX6_init_803 (by decide) ?_
  refine kq_lit (WL := wordsL) (k := 80) hx hb hG rfl rfl (vp_i (by decide) (by decide)) hf22 rfl dX6_init_805 (fun f22 H locs hf22 hG => ?_)
  refine lv_dup hx hb dX6_init_806 rfl ?_
  refine lv_bipush (v := 81) hx hb dX6_init_807 (by decide) ?_
  refine lv_bipush (v := 110) hx hb dX6_init_809 (by decide) ?_
  refine kq_lit (WL := wordsL) (k := 81) hx hb hG rfl rfl (vp_i (by decide) (by decide)) hf22 rfl dX6_init_811 (fun f22 H locs hf22 hG => ?_)
  refine lv_dup hx hb dX6_init_812 rfl ?_
  refine lv_bipush (v := 82) hx hb dX6_init_813 (by decide) ?_
  refine lv_bipush (v := 100) hx hb dX6_init_815 (by decide) ?_
  refine kq_lit (WL := wordsL) (k := 82) hx hb hG rfl rfl (vp_i (by decide) (by decide)) hf22 rfl dX6_init_817 (fun f22 H locs hf22 hG => ?_)
  refine lv_dup hx hb dX6_init_818 rfl ?_
  refine lv_bipush (v := 83) hx hb dX6_init_819 (by decide) ?_
  refine lv_bipush (v := 32) hx hb dX6_init_821 (by decide) ?_
  refine kq_lit (WL := wordsL) (k := 83) hx hb hG rfl rfl (vp_i (by decide) (by decide)) hf22 rfl dX6_init_823 (fun f22 H locs hf22 hG => ?_)
  refine lv_dup hx hb dX6_init_824 rfl ?_
  refine lv_bipush (v := 84) hx hb dX6_init_825 (by decide) ?_
  refine lv_bipush (v := 32) hx hb dX6_init_827 (by decide) ?_
  refine kq_lit (WL := wordsL) (k := 84) hx hb hG rfl rfl (vp_i (by decide) (by decide)) hf22 rfl dX6_init_829 (fun f22 H locs hf22 hG => ?_)
  refine lv_dup hx hb dX6_init_830 rfl ?_
  refine lv_bipush (v := 85) hx hb dX6_init_831 (by decide) ?_
  refine lv_bipush (v := 32) hx hb dX6_init_833 (by decide) ?_
  refine kq_lit (WL := wordsL) (k := 85) hx hb hG rfl rfl (vp_i (by decide) (by decide)) hf22 rfl dX6_init_835 (fun f22 H locs hf22 hG => ?_)
  refine lv_dup hx hb dX6_init_836 rfl ?_
  refine lv_bipush (v := 86) hx hb dX6_init_837 (by decide) ?_
  refine lv_bipush (v := 32) hx hb dX6_init_839 (by decide) ?_
  refine kq_lit (WL := wordsL) (k := 86) hx hb hG rfl rfl (vp_i (by decide) (by decide)) hf22 rfl dX6_init_841 (fun f22 H locs hf22 hG => ?_)
  refine lv_dup hx hb dX6_init_842 rfl ?_
  refine lv_bipush (v := 87) hx hb dX6_init_843 (by decide) ?_
  refine lv_bipush (v := 32) hx hb dX6_init_845 (by decide) ?_
  refine kq_lit (WL := wordsL) (k := 87) hx hb hG rfl rfl (vp_i (by decide) (by decide)) hf22 rfl dX6_init_847 (fun f22 H locs hf22 hG => ?_)
  refine lv_dup hx hb dX6_init_848 rfl ?_
  refine lv_bipush (v := 88) hx hb dX6_init_849 (by decide) ?_
  refine lv_bipush (v := 110) hx hb dX6_init_851 (by decide) ?_
  refine kq_lit (WL := wordsL) (k := 88) hx hb hG rfl rfl (vp_i (by decide) (by decide)) hf22 rfl dX6_init_853 (fun f22 H locs hf22 hG => ?_)
  refine lv_dup hx hb dX6_init_854 rfl ?_
  refine lv_bipush (v := 89) hx hb dX6_init_855 (by decide) ?_
  refine lv_bipush (v := 111) hx hb dX6_init_857 (by decide) ?_
  refine kq_lit (WL := wordsL) (k := 89) hx hb hG rfl rfl (vp_i (by decide) (by decide)) hf22 rfl dX6_init_859 (fun f22 H locs hf22 hG => ?_)
  refine lv_dup hx hb dX6_init_860 rfl ?_
  refine lv_bipush (v := 90) hx hb dX6_init_861 (by decide) ?_
  refine lv_bipush (v := 116) hx hb dX6_init_863 (by decide) ?_
  refine kq_lit (WL := wordsL) (k := 90) hx hb hG rfl rfl (vp_i (by decide) (by decide)) hf22 rfl dX6_init_865 (fun f22 H locs hf22 hG => ?_)
  refine lv_dup hx hb dX6_init_866 rfl ?_
  refine lv_bipush (v := 91) hx hb dX6_init_867 (by decide) ?_
  refine lv_bipush (v := 32) hx hb dX6_init_869 (by decide) ?_
  refine kq_lit (WL := wordsL) (k := 91) hx hb hG rfl rfl (vp_i (by decide) (by decide)) hf22 rfl dX6_init_871 (fun f22 H locs hf22 hG => ?_)
  refine lv_dup hx hb dX6_init_872 rfl ?_
  refine lv_bipush (v := 92) hx hb dX6_init_873 (by decide) ?_
  refine lv_bipush (v := 32) hx hb dX6_init_875 (by decide) ?_
  refine kq_lit (WL := wordsL) (k := 92) hx hb hG rfl rfl (vp_i (by decide) (by decide)) hf22 rfl dX6_init_877 (fun f22 H locs hf22 hG => ?_)
  refine lv_dup hx hb dX6_init_878 rfl ?_
  refine lv_bipush (v := 93) hx hb dX6_init_879 (by decide) ?_
  refine lv_bipush (v := 32) hx hb dX6_init_881 (by decide) ?_
  refine kq_lit (WL := wordsL) (k := 93) hx hb hG rfl rfl (vp_i (by decide) (by decide)) hf22 rfl dX6_init_883 (fun f22 H locs hf22 hG => ?_)
  refine lv_dup hx hb dX6_init_884 rfl ?_
  refine lv_bipush (v := 94) hx hb dX6_init_885 (by decide) ?_
  refine lv_bipush (v := 32) hx hb dX6_init_887 (by decide) ?_
  refine kq_lit (WL := wordsL) (k := 94) hx hb hG rfl rfl (vp_i (by decide) (by decide)) hf22 rfl dX6_init_889 (fun f22 H locs hf22 hG => ?_)
  refine lv_dup hx hb dX6_init_890 rfl ?_
  refine lv_bipush (v := 95) hx hb dX6_init_891 (by decide) ?_
  refine lv_bipush (v := 32) hx hb dX6_init_893 (by decide) ?_
  refine kq_lit (WL := wordsL) (k := 95) hx hb hG rfl rfl (vp_i (by decide) (by decide)) hf22 rfl dX6_init_895 (fun f22 H locs hf22 hG => ?_)
  refine kq_putF hx hb hts hiX6 tyX6 tyX6_ok nmX6 hown hnm hG (q0 := 0) rfl rfl 22 (by decide) (index := 49) tw_fl_RX6_49 rfl rfl rfl rfl (Nat.le_of_ble_eq_true rfl) rfl dX6_init_896 (fun H locs hG => ?_)
  replace hG : kqS D [(cI, .int)] A s H locs [(a, .inr (6, [.int 0, .ref q1, .ref q2, .ref q3, .ref q4, .ref q5, .int 0, .ref q6, .ref q7, .int 0, .int 0, .int 0, .ref q8, .ref q9, .ref q10, .ref q11, .ref q12, .ref q13, .int 0, .int 0, .int 0, .int 0, .ref q14, .null, .int 0, .int 0, .int 0, .null, .null, .int 0, .null, .null, .null, .int 0])), (q1, .inl (cI, 6, .inl (fun _ => 0))), (q2, .inl (cI, 6, .inl (fun _ => 0))), (q3, .inl (cI, 24, .inl (fun _ => 0))), (q4, .inl (cI, 3, .inl (fun _ => 0))), (q5, .inl (cI, 160, .inl (fun _ => 0))), (q6, .inl (cI, 1200, .inl (fun _ => 0))), (q7, .inl (cI, 24, .inl (fun _ => 0))), (q8, .inl (cI, 27, .inl (fun _ => 0))), (q9, .inl (cI, 2, .inl (fun _ => 0))), (q10, .inl (cI, 4, .inl (f14))), (q11, .inl (cI, 4, .inl (fun _ => 0))), (q12, .inl (cI, 160, .inl (fun _ => 0))), (q13, .inl (cI, 34, .inl (f17))), (q14, .inl (cI, 96, .inl (f22)))] := hG
  refine lv_aload_n hx hb dX6_init_899 rfl (lv_at hl 0 rfl) ?_
  refine lv_sipush (v := 200) hx hb dX6_init_900 (by decide) ?_
  refine kq_newa hx hb hts hG rfl hA (by decide) rfl (Nat.le_of_ble_eq_true rfl) (Nat.le_of_ble_eq_true rfl) (Nat.le_of_ble_eq_true rfl) dX6_init_903 (fun q15 H hG => ?_)
  refine kq_putF hx hb hts hiX6 tyX6 tyX6_ok nmX6 hown hnm hG (q0 := 0) rfl rfl 23 (by decide) (index := 52) tw_fl_RX6_52 rfl rfl rfl rfl (Nat.le_of_ble_eq_true rfl) rfl dX6_init_905 (fun H locs hG => ?_)
  replace hG : kqS D [(cI, .int)] A s H locs [(a, .inr (6, [.int 0, .ref q1, .ref q2, .ref q3, .ref q4, .ref q5, .int 0, .ref q6, .ref q7, .int 0, .int 0, .int 0, .ref q8, .ref q9, .ref q10, .ref q11, .ref q12, .ref q13, .int 0, .int 0, .int 0, .int 0, .ref q14, .ref q15, .int 0, .int 0, .int 0, .null, .null, .int 0, .null, .null, .null, .int 0])), (q1, .inl (cI, 6, .inl (fun _ => 0))), (q2, .inl (cI, 6, .inl (fun _ => 0))), (q3, .inl (cI, 24, .inl (fun _ => 0))), (q4, .inl (cI, 3, .inl (fun _ => 0))), (q5, .inl (cI, 160, .inl (fun _ => 0))), (q6, .inl (cI, 1200, .inl (fun _ => 0))), (q7, .inl (cI, 24, .inl (fun _ => 0))), (q8, .inl (cI, 27, .inl (fun _ => 0))), (q9, .inl (cI, 2, .inl (fun _ => 0))), (q10, .inl (cI, 4, .inl (f14))), (q11, .inl (cI, 4, .inl (fun _ => 0))), (q12, .inl (cI, 160, .inl (fun _ => 0))), (q13, .inl (cI, 34, .inl (f17))), (q14, .inl (cI, 96, .inl (f22))), (q15, .inl (cI, 200, .inl (fun _ => 0)))] := hG
  refine lv_aload_n hx hb dX6_init_908 rfl (lv_at hl 0 rfl) ?_
  refine lv_sipush (v := 200) hx hb dX6_init_909 (by decide) ?_
  refine kq_newa hx hb hts hG rfl hA (by decide) rfl (Nat.le_of_ble_eq_true rfl) (Nat.le_of_ble_eq_true rfl) (Nat.le_of_ble_eq_true rfl) dX6_init_912 (fun q16 H hG => ?_)
  refine kq_putF hx hb hts hiX6 tyX6 tyX6_ok nmX6 hown hnm hG (q0 := 0) rfl rfl 27 (by decide) (index := 55) tw_fl_RX6_55 rfl rfl rfl rfl (Nat.le_of_ble_eq_true rfl) rfl dX6_init_914 (fun H locs hG => ?_)
  replace hG : kqS D [(cI, .int)] A s H locs [(a, .inr (6, [.int 0, .ref q1, .ref q2, .ref q3, .ref q4, .ref q5, .int 0, .ref q6, .ref q7, .int 0, .int 0, .int 0, .ref q8, .ref q9, .ref q10, .ref q11, .ref q12, .ref q13, .int 0, .int 0, .int 0, .int 0, .ref q14, .ref q15, .int 0, .int 0, .int 0, .ref q16, .null, .int 0, .null, .null, .null, .int 0])), (q1, .inl (cI, 6, .inl (fun _ => 0))), (q2, .inl (cI, 6, .inl (fun _ => 0))), (q3, .inl (cI, 24, .inl (fun _ => 0))), (q4, .inl (cI, 3, .inl (fun _ => 0))), (q5, .inl (cI, 160, .inl (fun _ => 0))), (q6, .inl (cI, 1200, .inl (fun _ => 0))), (q7, .inl (cI, 24, .inl (fun _ => 0))), (q8, .inl (cI, 27, .inl (fun _ => 0))), (q9, .inl (cI, 2, .inl (fun _ => 0))), (q10, .inl (cI, 4, .inl (f14))), (q11, .inl (cI, 4, .inl (fun _ => 0))), (q12, .inl (cI, 160, .inl (fun _ => 0))), (q13, .inl (cI, 34, .inl (f17))), (q14, .inl (cI, 96, .inl (f22))), (q15, .inl (cI, 200, .inl (fun _ => 0))), (q16, .inl (cI, 200, .inl (fun _ => 0)))] := hG
  refine lv_aload_n hx hb dX6_init_917 rfl (lv_at hl 0 rfl) ?_
  refine lv_bipush (v := 6) hx hb dX6_init_918 (by decide) ?_
  refine kq_newa hx hb hts hG rfl hA (by decide) rfl (Nat.le_of_ble_eq_true rfl) (Nat.le_of_ble_eq_true rfl) (Nat.le_of_ble_eq_true rfl) dX6_init_920 (fun q17 H hG => ?_)
  refine kq_putF hx hb hts hiX6 tyX6 tyX6_ok nmX6 hown hnm hG (q0 := 0) rfl rfl 28 (by decide) (index := 58) tw_fl_RX6_58 rfl rfl rfl rfl (Nat.le_of_ble_eq_true rfl) rfl dX6_init_922 (fun H locs hG => ?_)
  replace hG : kqS D [(cI, .int)] A s H locs [(a, .inr (6, [.int 0, .ref q1, .ref q2, .ref q3, .ref q4, .ref q5, .int 0, .ref q6, .ref q7, .int 0, .int 0, .int 0, .ref q8, .ref q9, .ref q10, .ref q11, .ref q12, .ref q13, .int 0, .int 0, .int 0, .int 0, .ref q14, .ref q15, .int 0, .int 0, .int 0, .ref q16, .ref q17, .int 0, .null, .null, .null, .int 0])), (q1, .inl (cI, 6, .inl (fun _ => 0))), (q2, .inl (cI, 6, .inl (fun _ => 0))), (q3, .inl (cI, 24, .inl (fun _ => 0))), (q4, .inl (cI, 3, .inl (fun _ => 0))), (q5, .inl (cI, 160, .inl (fun _ => 0))), (q6, .inl (cI, 1200, .inl (fun _ => 0))), (q7, .inl (cI, 24, .inl (fun _ => 0))), (q8, .inl (cI, 27, .inl (fun _ => 0))), (q9, .inl (cI, 2, .inl (fun _ => 0))), (q10, .inl (cI, 4, .inl (f14))), (q11, .inl (cI, 4, .inl (fun _ => 0))), (q12, .inl (cI, 160, .inl (fun _ => 0))), (q13, .inl (cI, 34, .inl (f17))), (q14, .inl (cI, 96, .inl (f22))), (q15, .inl (cI, 200, .inl (fun _ => 0))), (q16, .inl (cI, 200, .inl (fun _ => 0))), (q17, .inl (cI, 6, .inl (fun _ => 0)))] := hG
  refine lv_aload_n hx hb dX6_init_925 rfl (lv_at hl 0 rfl) ?_
  refine lv_bipush (v := 27) hx hb dX6_init_926 (by decide) ?_
  refine kq_newa hx hb hts hG rfl hA (by decide) rfl (Nat.le_of_ble_eq_true rfl) (Nat.le_of_ble_eq_true rfl) (Nat.le_of_ble_eq_true rfl) dX6_init_928 (fun q18 H hG => ?_)
  refine kq_putF hx hb hts hiX6 tyX6 tyX6_ok nmX6 hown hnm hG (q0 := 0) rfl rfl 30 (by decide) (index := 61) tw_fl_RX6_61 rfl rfl rfl rfl (Nat.le_of_ble_eq_true rfl) rfl dX6_init_930 (fun H locs hG => ?_)
  replace hG : kqS D [(cI, .int)] A s H locs [(a, .inr (6, [.int 0, .ref q1, .ref q2, .ref q3, .ref q4, .ref q5, .int 0, .ref q6, .ref q7, .int 0, .int 0, .int 0, .ref q8, .ref q9, .ref q10, .ref q11, .ref q12, .ref q13, .int 0, .int 0, .int 0, .int 0, .ref q14, .ref q15, .int 0, .int 0, .int 0, .ref q16, .ref q17, .int 0, .ref q18, .null, .null, .int 0])), (q1, .inl (cI, 6, .inl (fun _ => 0))), (q2, .inl (cI, 6, .inl (fun _ => 0))), (q3, .inl (cI, 24, .inl (fun _ => 0))), (q4, .inl (cI, 3, .inl (fun _ => 0))), (q5, .inl (cI, 160, .inl (fun _ => 0))), (q6, .inl (cI, 1200, .inl (fun _ => 0))), (q7, .inl (cI, 24, .inl (fun _ => 0))), (q8, .inl (cI, 27, .inl (fun _ => 0))), (q9, .inl (cI, 2, .inl (fun _ => 0))), (q10, .inl (cI, 4, .inl (f14))), (q11, .inl (cI, 4, .inl (fun _ => 0))), (q12, .inl (cI, 160, .inl (fun _ => 0))), (q13, .inl (cI, 34, .inl (f17))), (q14, .inl (cI, 96, .inl (f22))), (q15, .inl (cI, 200, .inl (fun _ => 0))), (q16, .inl (cI, 200, .inl (fun _ => 0))), (q17, .inl (cI, 6, .inl (fun _ => 0))), (q18, .inl (cI, 27, .inl (fun _ => 0)))] := hG
  refine lv_aload_n hx hb dX6_init_933 rfl (lv_at hl 0 rfl) ?_
  refine lv_bipush (v := 24) hx hb dX6_init_934 (by decide) ?_
  refine kq_newa hx hb hts hG rfl hA (by decide) rfl (Nat.le_of_ble_eq_true rfl) (Nat.le_of_ble_eq_true rfl) (Nat.le_of_ble_eq_true rfl) dX6_init_936 (fun q19 H hG => ?_)
  refine kq_putF hx hb hts hiX6 tyX6 tyX6_ok nmX6 hown hnm hG (q0 := 0) rfl rfl 31 (by decide) (index := 64) tw_fl_RX6_64 rfl rfl rfl rfl (Nat.le_of_ble_eq_true rfl) rfl dX6_init_938 (fun H locs hG => ?_)
  replace hG : kqS D [(cI, .int)] A s H locs [(a, .inr (6, [.int 0, .ref q1, .ref q2, .ref q3, .ref q4, .ref q5, .int 0, .ref q6, .ref q7, .int 0, .int 0, .int 0, .ref q8, .ref q9, .ref q10, .ref q11, .ref q12, .ref q13, .int 0, .int 0, .int 0, .int 0, .ref q14, .ref q15, .int 0, .int 0, .int 0, .ref q16, .ref q17, .int 0, .ref q18, .ref q19, .null, .int 0])), (q1, .inl (cI, 6, .inl (fun _ => 0))), (q2, .inl (cI, 6, .inl (fun _ => 0))), (q3, .inl (cI, 24, .inl (fun _ => 0))), (q4, .inl (cI, 3, .inl (fun _ => 0))), (q5, .inl (cI, 160, .inl (fun _ => 0))), (q6, .inl (cI, 1200, .inl (fun _ => 0))), (q7, .inl (cI, 24, .inl (fun _ => 0))), (q8, .inl (cI, 27, .inl (fun _ => 0))), (q9, .inl (cI, 2, .inl (fun _ => 0))), (q10, .inl (cI, 4, .inl (f14))), (q11, .inl (cI, 4, .inl (fun _ => 0))), (q12, .inl (cI, 160, .inl (fun _ => 0))), (q13, .inl (cI, 34, .inl (f17))), (q14, .inl (cI, 96, .inl (f22))), (q15, .inl (cI, 200, .inl (fun _ => 0))), (q16, .inl (cI, 200, .inl (fun _ => 0))), (q17, .inl (cI, 6, .inl (fun _ => 0))), (q18, .inl (cI, 27, .inl (fun _ => 0))), (q19, .inl (cI, 24, .inl (fun _ => 0)))] := hG
  refine lv_aload_n hx hb dX6_init_941 rfl (lv_at hl 0 rfl) ?_
  refine lv_bipush (v := 24) hx hb dX6_init_942 (by decide) ?_
  refine kq_newa hx hb hts hG rfl hA (by decide) rfl (Nat.le_of_ble_eq_true rfl) (Nat.le_of_ble_eq_true rfl) (Nat.le_of_ble_eq_true rfl) dX6_init_944 (fun q20 H hG => ?_)
  refine kq_putF hx hb hts hiX6 tyX6 tyX6_ok nmX6 hown hnm hG (q0 := 0) rfl rfl 32 (by decide) (index := 67) tw_fl_RX6_67 rfl rfl rfl rfl (Nat.le_of_ble_eq_true rfl) rfl dX6_init_946 (fun H locs hG => ?_)
  replace hG : kqS D [(cI, .int)] A s H locs [(a, .inr (6, [.int 0, .ref q1, .ref q2, .ref q3, .ref q4, .ref q5, .int 0, .ref q6, .ref q7, .int 0, .int 0, .int 0, .ref q8, .ref q9, .ref q10, .ref q11, .ref q12, .ref q13, .int 0, .int 0, .int 0, .int 0, .ref q14, .ref q15, .int 0, .int 0, .int 0, .ref q16, .ref q17, .int 0, .ref q18, .ref q19, .ref q20, .int 0])), (q1, .inl (cI, 6, .inl (fun _ => 0))), (q2, .inl (cI, 6, .inl (fun _ => 0))), (q3, .inl (cI, 24, .inl (fun _ => 0))), (q4, .inl (cI, 3, .inl (fun _ => 0))), (q5, .inl (cI, 160, .inl (fun _ => 0))), (q6, .inl (cI, 1200, .inl (fun _ => 0))), (q7, .inl (cI, 24, .inl (fun _ => 0))), (q8, .inl (cI, 27, .inl (fun _ => 0))), (q9, .inl (cI, 2, .inl (fun _ => 0))), (q10, .inl (cI, 4, .inl (f14))), (q11, .inl (cI, 4, .inl (fun _ => 0))), (q12, .inl (cI, 160, .inl (fun _ => 0))), (q13, .inl (cI, 34, .inl (f17))), (q14, .inl (cI, 96, .inl (f22))), (q15, .inl (cI, 200, .inl (fun _ => 0))), (q16, .inl (cI, 200, .inl (fun _ => 0))), (q17, .inl (cI, 6, .inl (fun _ => 0))), (q18, .inl (cI, 27, .inl (fun _ => 0))), (q19, .inl (cI, 24, .inl (fun _ => 0))), (q20, .inl (cI, 24, .inl (fun _ => 0)))] := hG
  refine W.widen (k := 20) (n := 2231) (Nat.le_of_ble_eq_true rfl) (Nat.le_of_ble_eq_true rfl) ?_
  exact kk q1 q2 q3 q4 q5 q6 q7 q8 q9 q10 q11 q12 q13 q14 q15 q16 q17 q18 q19 q20 f14 f17 f22 H locs hf14 hf17 hf22 hG
