-- THE REFERENCE'S CONSTRUCTOR, WHOLE
set_option maxHeartbeats 40000000 in
set_option maxRecDepth 100000 in
theorem n_Model {l : Launch} {g : GG} {sz : Nat} : Met l yX6_init (Cond.code yX6_init cX6_init 2 none :: TT) (rmC 6 20 2231) (va_Pc [.ref (gA g 58)] (gB g sz (wB g ++ [mBl g]))) (va_Qv (fun _ : Nat → Nat => True) (fun qs t => gC (gX g qs) (va_A (wB g ++ [mBl g]) sz) (gWF (gX g qs) mF) t) (va_A (wB g ++ [mBl g]) sz)) 20 2231 (va_A (wB g ++ [mBl g]) sz) := by
  refine Met.ofW (cc := cX6_init) (maxL := 2) (ret := none) (by decide) rfl ?_
  intro p e s m args below meth c s₁ B hml hv
  obtain ⟨rfl, hsz, hP, hK, hD0⟩ := hv
  subst hsz
  have hl := lv_entry ([.ref (gA g 58)]) (n := 2) (Nat.le_of_ble_eq_true rfl)
  rw [lg_entry_eq]
  generalize (lg_sl ([.ref (gA g 58)]) ++ List.replicate (2 - (lg_sl ([.ref (gA g 58)])).length) Slot.unset).toArray = ls at hl ⊢
  have hx := B.exec
  have hb := B.bytes
  have hr := B.returns
  have hlocks := B.notSynchronized
  have hnm : meth.name = "<init>" := (name_of_methodNamed B.named B.method).1
  have hts : ∀ w ∈ TT, w.before [Value.ref (gA g 58)].toArray s = true := fun w h => atoms_spec (ws := Cond.code yX6_init cX6_init 2 none :: TT) B.pre w (List.mem_cons_of_mem _ h)
  have hown : s.vm.findClass RX6 = some m.cls := findClass_of_methodNamed B.named
  replace hl : lv_has ls 2 [(0, .ref (gA g 58))] := hl
  have hG1 : kqS g.1 [(g.2.1, .int)] (va_A [mBl g] s.heap.size) s s.heap [] [mBl g] := ⟨hK.1.sub [0] rfl, P_tail hP, (D_tail hD0).self, va_S.rf⟩
  have hA1 : ∀ q, s.heap.size ≤ q → va_A [mBl g] s.heap.size q := fun q h => Or.inr h
  refine i6_a (A := va_A [mBl g] s.heap.size) (a := gA g 58) hx hb hml hnm hts hown hA1 hG1 hl (fun q1 q2 q3 q4 q5 q6 q7 q8 q9 q10 q11 q12 q13 q14 q15 q16 q17 q18 q19 q20 f14 f17 f22 H locs h14 h17 h22 hG => ?_)
  obtain ⟨hK2, hP2, hD2, hS2⟩ := hG
  obtain ⟨hP3, hD3, hS3⟩ := join_new hP hD0 hS2 hP2 hD2
  clear hP2 hD2 hS2 hG1
  obtain ⟨qs, hqs⟩ : ∃ qs : Nat → Nat, qs = fun k => ([q1, q2, q3, q4, q5, q6, q7, q8, q9, q10, q11, q12, q13, q14, q15, q16, q17, q18, q19, q20]).getD k 0 := ⟨_, rfl⟩
  have hPB : va_P g.1 vwCl (wB g) H := P_head hP3
  have hPM := P_tail hP3
  have hPB2 := P_fix 2 (f' := fun i => some (gA (gX g qs) (27 + 2 * i))) (P_fix 1 (f' := fun i => some (gA (gX g qs) (3 + 4 * i))) hPB rfl (fun i hi => congrArg some (gX_lo (by omega)).symm)) rfl (fun i hi => congrArg some (gX_lo (by omega)).symm)
  have hPM2 : va_P g.1 vwCl [(gA g 58, .inr (6, [.int 0, .ref q1, .ref q2, .ref q3, .ref q4, .ref q5, .int 0, .ref q6, .ref q7, .int 0, .int 0, .int 0, .ref q8, .ref q9, .ref q10, .ref q11, .ref q12, .ref q13, .int 0, .int 0, .int 0, .int 0, .ref q14, .ref q15, .int 0, .int 0, .int 0, .ref q16, .ref q17, .int 0, .ref q18, .ref q19, .ref q20, .int 0])), (q1, .inl (g.2.1, 6, .inl (fun _ => 0))), (q2, .inl (g.2.1, 6, .inl (fun _ => 0))), (q3, .inl (g.2.1, 24, .inl (fun _ => 0))), (q4, .inl (g.2.1, 3, .inl (fun _ => 0))), (q5, .inl (g.2.1, 160, .inl (fun _ => 0))), (q6, .inl (g.2.1, 1200, .inl (fun _ => 0))), (q7, .inl (g.2.1, 24, .inl (fun _ => 0))), (q8, .inl (g.2.1, 27, .inl (fun _ => 0))), (q9, .inl (g.2.1, 2, .inl (fun _ => 0))), (q10, .inl (g.2.1, 4, .inl (fun _ => -1))), (q11, .inl (g.2.1, 4, .inl (fun _ => 0))), (q12, .inl (g.2.1, 160, .inl (fun _ => 0))), (q13, .inl (g.2.1, 34, .inl (fun j => lawL.getD j 0))), (q14, .inl (g.2.1, 96, .inl (fun j => wordsL.getD j 0))), (q15, .inl (g.2.1, 200, .inl (fun _ => 0))), (q16, .inl (g.2.1, 200, .inl (fun _ => 0))), (q17, .inl (g.2.1, 6, .inl (fun _ => 0))), (q18, .inl (g.2.1, 27, .inl (fun _ => 0))), (q19, .inl (g.2.1, 24, .inl (fun _ => 0))), (q20, .inl (g.2.1, 24, .inl (fun _ => 0)))] H := P_fixi 14 (P_fixi 13 (P_fixi 10 hPM rfl (fun i hi => (h14 i hi).trans ((show ∀ i, i < 4 → sortL.getD i 0 = -1 by decide) i hi))) rfl h17) rfl h22
  have eB : wB (gX g qs) = _ := (rfl : wB (gX g qs) = ((wB g).set 1 (gA g 1, .inl (g.2.2.2.1, 6, .inr (.inr (.inr (.inr (fun i => some (gA (gX g qs) (3 + 4 * i))))))))).set 2 (gA g 2, .inl (g.2.2.1, 4, .inr (.inr (.inr (.inr (fun i => some (gA (gX g qs) (27 + 2 * i)))))))))
  have eM : (gWF (gX g qs) mZF).drop 58 = [(gA g 58, .inr (6, [.int 0, .ref q1, .ref q2, .ref q3, .ref q4, .ref q5, .int 0, .ref q6, .ref q7, .int 0, .int 0, .int 0, .ref q8, .ref q9, .ref q10, .ref q11, .ref q12, .ref q13, .int 0, .int 0, .int 0, .int 0, .ref q14, .ref q15, .int 0, .int 0, .int 0, .ref q16, .ref q17, .int 0, .ref q18, .ref q19, .ref q20, .int 0])), (q1, .inl (g.2.1, 6, .inl (fun _ => 0))), (q2, .inl (g.2.1, 6, .inl (fun _ => 0))), (q3, .inl (g.2.1, 24, .inl (fun _ => 0))), (q4, .inl (g.2.1, 3, .inl (fun _ => 0))), (q5, .inl (g.2.1, 160, .inl (fun _ => 0))), (q6, .inl (g.2.1, 1200, .inl (fun _ => 0))), (q7, .inl (g.2.1, 24, .inl (fun _ => 0))), (q8, .inl (g.2.1, 27, .inl (fun _ => 0))), (q9, .inl (g.2.1, 2, .inl (fun _ => 0))), (q10, .inl (g.2.1, 4, .inl (fun _ => -1))), (q11, .inl (g.2.1, 4, .inl (fun _ => 0))), (q12, .inl (g.2.1, 160, .inl (fun _ => 0))), (q13, .inl (g.2.1, 34, .inl (fun j => lawL.getD j 0))), (q14, .inl (g.2.1, 96, .inl (fun j => wordsL.getD j 0))), (q15, .inl (g.2.1, 200, .inl (fun _ => 0))), (q16, .inl (g.2.1, 200, .inl (fun _ => 0))), (q17, .inl (g.2.1, 6, .inl (fun _ => 0))), (q18, .inl (g.2.1, 27, .inl (fun _ => 0))), (q19, .inl (g.2.1, 24, .inl (fun _ => 0))), (q20, .inl (g.2.1, 24, .inl (fun _ => 0)))] := by subst hqs; rfl
  have hPW : va_P (gX g qs).1 vwCl (gWF (gX g qs) mZF) H := by
    have h9 : va_P g.1 vwCl (wB (gX g qs) ++ (gWF (gX g qs) mZF).drop 58) H := by
      rw [eM, eB]
      exact va_P.app hPB2 hPM2
    exact (List.take_append_drop 58 (gWF (gX g qs) mZF)) ▸ h9
  have hDW : va_D (va_A (wB g ++ [mBl g]) s.heap.size) (gWF (gX g qs) mZF) := D_addr hD3 (by subst hqs; rfl)
  have hG : gS (gX g qs) (va_A (wB g ++ [mBl g]) s.heap.size) s H locs (gWF (gX g qs) mZF) := ⟨gK_X hK, hPW, hDW, hS3⟩
  clear hPB hPM hPB2 hPM2 eB eM hPW hDW hP3 hD3 hS3 hqs
  refine i6_b hx hb hml hts hown (fun q h => Or.inr h) hG hl (fun H locs ls hG => ?_)
  exact W.vret hx hb hr (fun t ht hW => ⟨⟨qs, rfl, trivial, by rw [ht]; exact hG.2.1, va_K.moved hW.alike hG.1.1, hG.2.2.1⟩, hG.2.2.2.F ht⟩) hG.2.2.2.2.2 dX6_init_986 hlocks
