-- SMALL WORLDS: what constructors make, before the whole world stands
def kqB (D : va_G) (tys : List (ClassId × FieldType)) (sz : Nat) (w : va_W) (U : State) : Prop := U.heap.size = sz ∧ va_P D vwCl w U.heap ∧ va_K D vwCl tys U ∧ va_D (fun _ => True) w
def kqC (D : va_G) (A : Nat → Prop) (w : va_W) (t : State) : Prop := va_P D vwCl w t.heap ∧ va_D A w
def kqS (D : va_G) (tys : List (ClassId × FieldType)) (A : Nat → Prop) (s : State) (H : Heap) (locs : List Loc) (w : va_W) : Prop := va_K D vwCl tys s ∧ va_P D vwCl w H ∧ va_D A w ∧ va_S A s.heap H locs
def rmC (n cc ss : Nat) : Room := { frames := n, cells := cc, slots := ss, locals := 40 * n }
theorem kqB_blind {D : va_G} {tys : List (ClassId × FieldType)} {sz : Nat} {w : va_W} {vs : List Value} : FrameBlind (va_Pc vs (kqB D tys sz w)) := fun a U h mk q => by
  obtain ⟨q0, q1, qP, qK, qD⟩ := q
  exact ⟨q0, q1, qP, va_K.moved (u := U) (U := U.calling h mk a) (Vm.Alike.refl U.vm) qK, qD⟩
theorem at_app1 {w x : va_W} {k : Nat} {q : Nat × va_E} (h : w[k]? = some q) : (w ++ x)[k]? = some q := by
  rw [List.getElem?_append_left (List.getElem?_eq_some_iff.mp h).1]
  exact h
theorem at_app2 {w x : va_W} {k : Nat} {q : Nat × va_E} (h : x[k]? = some q) : (w ++ x)[w.length + k]? = some q := by
  rw [List.getElem?_append_right (by omega), Nat.add_sub_cancel_left]
  exact h
theorem P_tail {D : va_G} {cl : List vw_C} {w x : va_W} {H : Heap} (h : va_P D cl (w ++ x) H) : va_P D cl x H := fun k q hk => h _ q (at_app2 hk)
theorem D_tail {A : Nat → Prop} {w x : va_W} (h : va_D A (w ++ x)) : va_D A x := ⟨fun i j p q hi hj hpq => by
  have := h.1 _ _ p q (at_app2 hi) (at_app2 hj) hpq
  omega, fun k q hk => h.2 _ q (at_app2 hk)⟩
/-- behind a call on the world's last cells -/
theorem join_tail {A0 : Nat → Prop} {D : va_G} {cl : List vw_C} {w x w1 : va_W} {H H1 : Heap} (hP : va_P D cl (w ++ x) H) (hD : va_D A0 (w ++ x)) (hk : ∀ q : Nat, q < H.size → ¬ va_A x H.size q → H1[q]? = H[q]?) (hF : ∀ q, va_A x H.size q → A0 q) (hP1 : va_P D cl w1 H1) (hD1 : va_D (va_A x H.size) w1) : va_P D cl (w ++ w1) H1 ∧ va_D A0 (w ++ w1) := by
  have apart : ∀ (k : Nat) (q : Nat × va_E), w[k]? = some q → q.1 < H.size ∧ ¬ va_A x H.size q.1 := by
    intro k q hq
    have hl := (hP k q (at_app1 hq)).lt
    refine ⟨hl, fun h => ?_⟩
    rcases h with ⟨k2, e, h⟩ | h
    · have hij := hD.1 k (w.length + k2) q (q.1, e) (at_app1 hq) (at_app2 h) rfl
      have := (List.getElem?_eq_some_iff.mp hq).1
      omega
    · omega
  refine ⟨va_P.app (fun k q hq => ?_) hP1, va_D.app ⟨fun i j p q hi hj hpq => hD.1 i j p q (at_app1 hi) (at_app1 hj) hpq, fun k q hq => hD.2 k q (at_app1 hq)⟩ (hD1.weaken (fun k q _ h => hF q.1 h)) (fun i j p q hp hq hpq => ?_)⟩
  · obtain ⟨g1, g2⟩ := apart k q hq
    exact (hP k q (at_app1 hq)).kept (hk q.1 g1 g2)
  · exact (apart i p hp).2 (by rw [hpq]; exact hD1.2 j q hq)
theorem kqS_free {D : va_G} {tys : List (ClassId × FieldType)} {A : Nat → Prop} {s : State} {H : Heap} {locs : List Loc} {w x : va_W} (hG : kqS D tys A s H locs (w ++ x)) (hA : ∀ q, s.heap.size ≤ q → A q) : ∀ q, va_A x H.size q → A q := fun q h => by
  rcases h with ⟨k, e, h⟩ | h
  · exact hG.2.2.1.2 _ (q, e) (at_app2 h)
  · exact hA _ (Nat.le_trans hG.2.2.2.1 h)
section KROWS
variable {p : Program} {l : Launch} {e : Env} {R : Room} {s : State} {m : MethodId} {args : Array Value} {below : List Frame} {meth : Method} {c : Code} {H : Heap} {locs : List Loc} {cells slots : Nat} {Q : State → Prop}
variable {cc : ByteArray} {pc : Nat} {ls : Array Slot} {rest : List Value} {D : va_G} {tys : List (ClassId × FieldType)} {A : Nat → Prop} {a : Nat} {w w' : va_W} {cI : ClassId}
theorem kq_get (hx : p.tables.exec = Jvm.exec) (hb : c.code = cc) {own C : String} {T : u_T} {N ci index : Nat} (hts : ∀ w ∈ TT, w.before args s = true) (hin : ∀ w ∈ u_ws C T N, w ∈ TT) (hown : s.vm.findClass own = some m.cls) (hG : kqS D tys A s H locs w) {q0 : Nat} {fs : List Value} (he : w[q0]? = some (a, .inr (ci, fs))) (hc : vwCl[ci]? = some (C, T, N)) (k : Nat) (hk : k < N) (hlink : Cond.fieldLink own index (T k).1 (T k).2.1 (T k).2.2.1 ∈ TT) {v : Value} (hv : fs[k]? = some v) (hdg : decode cc pc = .ok (.getfield index, 3))
    (kk : W p l e R s m args below meth c H locs cells slots Q (F0 m (pc + 3) ls (v :: rest))) : W p l e R s m args below meth c H locs cells slots Q (F0 m pc ls (.ref a :: rest)) :=
  va_get (ref := (T k).1) hx hb hts hin hown hG.1 hG.2.1 q0 he hc k hk (hts _ hlink) (fun _ h => h) hv hdg kk
theorem kq_put (hx : p.tables.exec = Jvm.exec) (hb : c.code = cc) {own C : String} {T : u_T} {N ci index : Nat} (hts : ∀ w ∈ TT, w.before args s = true) (hin : ∀ w ∈ u_ws C T N, w ∈ TT) (ty0 : Nat → FieldType) (hty : ∀ k, k < N → parseFieldDescriptor (T k).2.2.1 = some (ty0 k)) (hnm : ∀ a, a < N → ∀ b, b < N → a ≠ b → (T a).2.1 ≠ (T b).2.1) (hown : s.vm.findClass own = some m.cls) (hG : kqS D tys A s H locs w) {q0 : Nat} {fs : List Value} (he : w[q0]? = some (a, .inr (ci, fs))) (hc : vwCl[ci]? = some (C, T, N)) (k : Nat) (hk : k < N) (hlink : Cond.fieldLink own index (T k).1 (T k).2.1 (T k).2.2.1 ∈ TT) (hfin : (T k).2.2.2 = false) {v : Value} (hn : narrow (ty0 k) v = v) (hfit : fits (ty0 k) v = true) (hl : k < fs.length) (hset : w.set q0 (a, .inr (ci, fs.set k v)) = w')
    (hdg : decode cc pc = .ok (.putfield index, 3)) (kk : ∀ (H1 : Heap) (locs1 : List Loc), kqS D tys A s H1 locs1 w' → W p l e R s m args below meth c H1 locs1 cells slots Q (F0 m (pc + 3) ls rest)) : W p l e R s m args below meth c H locs cells slots Q (F0 m pc ls (v :: .ref a :: rest)) :=
  va_put (ref := (T k).1) hx hb hts hin ty0 hty hnm hown hG.1 hG.2.1 hG.2.2.1 hG.2.2.2 q0 he hc k hk (hts _ hlink) (fun _ h => h) hfin (hty k hk) hn hfit hl hdg (fun H1 locs1 hP hD hS => kk H1 locs1 ⟨hG.1, hset ▸ hP, hset ▸ hD, hS⟩)
theorem kq_putF (hx : p.tables.exec = Jvm.exec) (hb : c.code = cc) {own C : String} {T : u_T} {N ci index : Nat} (hts : ∀ w ∈ TT, w.before args s = true) (hin : ∀ w ∈ u_ws C T N, w ∈ TT) (ty0 : Nat → FieldType) (hty : ∀ k, k < N → parseFieldDescriptor (T k).2.2.1 = some (ty0 k)) (hnm : ∀ a, a < N → ∀ b, b < N → a ≠ b → (T a).2.1 ≠ (T b).2.1) (hown : s.vm.findClass own = some m.cls) (hin2 : meth.name = "<init>") (hG : kqS D tys A s H locs w) {q0 : Nat} {fs : List Value} (he : w[q0]? = some (a, .inr (ci, fs))) (hc : vwCl[ci]? = some (C, T, N)) (k : Nat) (hk : k < N) (hlink : Cond.fieldLink own index (T k).1 (T k).2.1 (T k).2.2.1 ∈ TT) (hfin : (T k).2.2.2 = true) (hdecl : (T k).1 = own) {v : Value} (hn : narrow (ty0 k) v = v) (hfit : fits (ty0 k) v = true) (hl : k < fs.length) (hset : w.set q0 (a, .inr (ci, fs.set k v)) = w')
    (hdg : decode cc pc = .ok (.putfield index, 3)) (kk : ∀ (H1 : Heap) (locs1 : List Loc), kqS D tys A s H1 locs1 w' → W p l e R s m args below meth c H1 locs1 cells slots Q (F0 m (pc + 3) ls rest)) : W p l e R s m args below meth c H locs cells slots Q (F0 m pc ls (v :: .ref a :: rest)) :=
  va_putF (ref := (T k).1) hx hb hts hin ty0 hty hnm hown hG.1 hG.2.1 hG.2.2.1 hG.2.2.2 q0 he hc k hk (hts _ hlink) (fun _ h => h) hfin hin2 hdecl (hty k hk) hn hfit hl hdg (fun H1 locs1 hP hD hS => kk H1 locs1 ⟨hG.1, hset ▸ hP, hset ▸ hD, hS⟩)
theorem kq_ist (hx : p.tables.exec = Jvm.exec) (hb : c.code = cc) (hG : kqS D tys A s H locs w) (ht : tys[0]? = some (cI, .int)) {q0 n : Nat} {f : Nat → Int32} (he : w[q0]? = some (a, .inl (cI, n, .inl f))) {i x : Int32} (hin : vp_in i n) (hset : w.set q0 (a, .inl (cI, n, .inl (upd f i.toNatClampNeg (vp_nar .int x)))) = w') (hdg : decode cc pc = .ok (.iastore, 1))
    (kk : ∀ (H1 : Heap) (locs1 : List Loc), kqS D tys A s H1 locs1 w' → W p l e R s m args below meth c H1 locs1 cells slots Q (F0 m (pc + 1) ls rest)) : W p l e R s m args below meth c H locs cells slots Q (F0 m pc ls (.int x :: .int i :: .ref a :: rest)) :=
  va_iast hx hb hG.1 hG.2.1 hG.2.2.1 hG.2.2.2 q0 0 he ht hin hdg (fun H1 locs1 hP hD hS => kk H1 locs1 ⟨hG.1, hset ▸ hP, hset ▸ hD, hS⟩)
theorem kq_ild (hx : p.tables.exec = Jvm.exec) (hb : c.code = cc) (hG : kqS D tys A s H locs w) (ht : tys[0]? = some (cI, .int)) {q0 n : Nat} {f : Nat → Int32} (he : w[q0]? = some (a, .inl (cI, n, .inl f))) {i : Int32} (hin : vp_in i n) (hdg : decode cc pc = .ok (.iaload, 1))
    (kk : W p l e R s m args below meth c H locs cells slots Q (F0 m (pc + 1) ls (.int (f i.toNatClampNeg) :: rest))) : W p l e R s m args below meth c H locs cells slots Q (F0 m pc ls (.int i :: .ref a :: rest)) :=
  va_iald hx hb hG.1 hG.2.1 q0 0 he ht hin hdg kk
theorem kq_newa (hx : p.tables.exec = Jvm.exec) (hb : c.code = cc) (hts : ∀ w ∈ TT, w.before args s = true) (hG : kqS D tys A s H locs w) (ht : tys[0]? = some (cI, .int)) (hA : ∀ q, s.heap.size ≤ q → A q) {n : Int32} {N' : Nat} (hn : ¬ n < 0) (hN : n.toNatClampNeg = N') (hbytes : N' * 4 ≤ 536870912) (hcells : cells + 1 ≤ R.cells) (hslots : slots + N' ≤ R.slots) (hdg : decode cc pc = .ok (.newarray .int, 2))
    (kk : ∀ (q : Nat) (H1 : Heap), kqS D tys A s H1 locs (w ++ [(q, .inl (cI, N', .inl (fun _ => 0)))]) → W p l e R s m args below meth c H1 locs (cells + 1) (slots + N') Q (F0 m (pc + 2) ls (.ref q :: rest))) : W p l e R s m args below meth c H locs cells slots Q (F0 m pc ls (.int n :: rest)) := by
  refine va_newa (atype := .int) (ty := .int) (a0 := (N', .inl (fun _ => 0))) hx hb (hts _ tw_ac_1_56) rfl hG.1 hG.2.1 hG.2.2.1 hG.2.2.2 hA (fun _ => rfl) hn hN hbytes hcells hslots hdg (fun q cA H1 hK hP hD hS => ?_)
  have h1 : s.vm.findClass ("[" ++ FieldType.int.toString) = some cI := (hG.1.2 0 _ ht).2
  have h2 : s.vm.findClass ("[" ++ FieldType.int.toString) = some cA := (hK.2 tys.length (cA, .int) (by rw [List.getElem?_append_right (Nat.le_refl _), Nat.sub_self]; rfl)).2
  have h3 : cI = cA := Option.some.inj (h1.symm.trans h2)
  subst h3
  exact kk q H1 ⟨hG.1, hP, hD, hS⟩
theorem kq_new (hx : p.tables.exec = Jvm.exec) (hb : c.code = cc) {own C : String} {T : u_T} {N ci index : Nat} (hts : ∀ w ∈ TT, w.before args s = true) (hin : ∀ w ∈ u_ws C T N, w ∈ TT) (ty : Nat → FieldType) (hty : ∀ k, k < N → parseFieldDescriptor (T k).2.2.1 = some (ty k)) (hown : s.vm.findClass own = some m.cls) (hcl : Cond.classLink own index C ∈ TT) (hinst : Cond.instantiable C N ∈ TT) (hini : Cond.initialized C ∈ TT) (hG : kqS D tys A s H locs w) (hA : ∀ q, s.heap.size ≤ q → A q) (hc : vwCl[ci]? = some (C, T, N)) {fs : List Value} (hfs : ∀ j, j < N → defaultValue (ty j) = vp_V fs j) (hcells : cells + 1 ≤ R.cells) (hslots : slots + N ≤ R.slots) (hdg : decode cc pc = .ok (.new index, 3))
    (kk : ∀ (q : Nat) (H1 : Heap), kqS D tys A s H1 locs (w ++ [(q, .inr (ci, fs))]) → W p l e R s m args below meth c H1 locs (cells + 1) (slots + N) Q (F0 m (pc + 3) ls (.ref q :: rest))) : W p l e R s m args below meth c H locs cells slots Q (F0 m pc ls rest) :=
  va_new hx hb hts hin ty hty hown (hts _ hcl) (hts _ hinst) (hts _ hini) hG.1 hG.2.1 hG.2.2.1 hG.2.2.2 hA hc hfs hcells hslots hdg (fun q H1 hP hD hS => kk q H1 ⟨hG.1, hP, hD, hS⟩)
theorem kq_vret {U : Type} {post : U → Prop} {wf : U → va_W} (hx : p.tables.exec = Jvm.exec) (hb : c.code = cc) (hr : meth.sig.returnType = none) (hlocks : meth.locks = false) (hG : kqS D tys A s H locs w) (u : U) (hw : wf u = w) (hp : post u) (hdg : decode cc pc = .ok (.return_, 1)) :
    W p l e R s m args below meth c H locs cells slots (MQ below (va_Qv post (fun u t => kqC D A (wf u) t) A) args s cells slots A) (F0 m pc ls []) :=
  W.vret hx hb hr (fun t ht hW => ⟨⟨u, rfl, hp, by rw [ht, hw]; exact hG.2.1, by rw [hw]; exact hG.2.2.1⟩, hG.2.2.2.F ht⟩) hG.2.2.2.2.2 hdg hlocks
theorem kq_obj (hx : p.tables.exec = Jvm.exec) (hb : c.code = cc) {own : String} {idx nL : Nat} (hts : ∀ w ∈ TT, w.before args s = true) (hown : s.vm.findClass own = some m.cls) (hml : c.maxLocals = nL) (hsz : ls.size = nL) (hlink : Cond.methodLink own idx Lib.objectInit ∈ TT) (hdg : decode cc pc = .ok (.invokespecial idx, 3)) (hf : 1 ≤ R.frames) (hlo : (rest.map fun v => v.category).sum + 12 ≤ R.locals)
    (kk : W p l e R s m args below meth c H locs cells slots Q (F0 m (pc + 3) ls rest)) : W p l e R s m args below meth c H locs cells slots Q (F0 m pc ls (.ref a :: rest)) := by
  refine W.objInit hx hb hown (hts _ hlink) (hts _ tw_im_objectInit) (hts _ tw_cd_objectInit) rfl (hsz.trans hml.symm) rfl hdg hf ?_ ?_
  · show 2 * 0 + _ + 12 ≤ _
    omega
  · exact W.eq (g2 := F0 m (pc + 3) ls rest) rfl kk
theorem kqS_pre {x : va_W} (hG : kqS D tys A s H locs (w ++ x)) {tys1 : List (ClassId × FieldType)} (ht : va_K D vwCl tys1 s) {vs : List Value} {U : State} (hU : U.heap = H) (hW : s.WarmedH U.vm) : va_Pc vs (kqB D tys1 H.size x) vs.toArray U := ⟨rfl, by rw [hU], by rw [hU]; exact P_tail hG.2.1, va_K.moved hW.alike ht, (D_tail hG.2.2.1).weaken (fun _ _ _ _ => trivial)⟩
/-- a call on the world's last cells -/
theorem kq_cv {S : Type} {post : S → Prop} {x : va_W} {wf : S → va_W} {st0 : List Value} {ar : Array Value} {mc ms : Nat} (hr : va_Run p l e R s m args below meth c H locs cells slots mc ms (F0 m pc ls st0) rest (va_Qv post (fun u t => kqC D (va_A x H.size) (wf u) t) (va_A x H.size) ar) (va_A x H.size)) (hG : kqS D tys A s H locs (w ++ x)) (hA : ∀ q, s.heap.size ≤ q → A q)
    (kk : ∀ (u : S) (H1 : Heap) (locs1 : List Loc), post u → kqS D tys A s H1 locs1 (w ++ wf u) → W p l e R s m args below meth c H1 locs1 (cells + mc) (slots + ms) Q (F0 m (pc + 3) ls rest)) : W p l e R s m args below meth c H locs cells slots Q (F0 m pc ls st0) :=
  va_callv hr hG.2.2.2 (fun q _ h => kqS_free hG hA q h) (kqS_free hG hA) (fun u t H1 locs1 ht hvm hp hB hz hk hS => by
    obtain ⟨hP1, hD1⟩ := hB
    rw [ht] at hP1
    obtain ⟨hP, hD⟩ := join_tail hG.2.1 hG.2.2.1 hk (kqS_free hG hA) hP1 hD1
    exact kk u H1 locs1 hp ⟨hG.1, hP, hD, hS⟩)
section KCALLS
variable {nL n index maxL ci b N : Nat} {own : String} {y : MethodName} {bytes : ByteArray} {ret : Option FieldType} {rm : Room} {As st0 fs : List Value} {x : va_W} {tys1 : List (ClassId × FieldType)}
theorem kq_good (m5 : Cond.code y bytes maxL ret ∈ TT) : GoodIn TT (Cond.code y bytes maxL ret :: TT) := TT_good (fun w hw => by rcases List.mem_cons.mp hw with rfl | h; exact m5; exact h) (fun w h => h)
theorem kq_runI {Qc : Array Value → State → Outcome → State → Prop} {mc ms : Nat} (hx : p.tables.exec = Jvm.exec) (hb : c.code = cc) (hml : c.maxLocals = nL) (hown : s.vm.findClass own = some m.cls) (hts : ∀ w ∈ TT, w.before args s = true) (hG : kqS D tys A s H locs (w ++ x)) (ht : va_K D vwCl tys1 s) (hM : Met l y (Cond.code y bytes maxL none :: TT) rm (va_Pc (.ref b :: As) (kqB D tys1 H.size x)) Qc mc ms (va_A x H.size)) (m1 : Cond.methodLink own index y ∈ TT) (m2 : Cond.instanceMethod y ∈ TT) (m4 : Cond.initialized y.cls ∈ TT) (m5 : Cond.code y bytes maxL none ∈ TT) (hy1 : y.name = "<init>") (hd : y.cls ≠ "java/lang/invoke/MethodHandle" ∧ y.cls ≠ "java/lang/invoke/VarHandle" ∧ (parseMethodDescriptor y.desc).map (fun d => d.parameters.length) = some n) (hrm : rm.cells = mc ∧ rm.slots = ms ∧ rm.frames + 1 ≤ R.frames ∧ 8 + (maxL + 11) + rm.locals ≤ R.locals) (hn : As.length = n) (hsz : ls.size = nL) (hst : st0 = As.reverse ++ .ref b :: rest) (hWr : (rest.map fun v => v.category).sum ≤ 8) (hdg : decode cc pc = .ok (.invokespecial index, 3)) (hf : cells + mc ≤ R.cells ∧ slots + ms ≤ R.slots) :
    va_Run p l e R s m args below meth c H locs cells slots mc ms (F0 m pc ls st0) rest (Qc (Value.ref b :: As).toArray) (va_A x H.size) :=
  va_runI ⟨hx, hb, hml, hown, hts⟩ hM (cwI n hts (kq_good m5) rfl hrm.1 hrm.2.1 (hts _ m4) (hts _ m1) (hts _ m2) hy1 hd hrm.2.2) ⟨kqB_blind, fun U hU hW => kqS_pre hG ht hU hW⟩ rfl hn hsz hst (lv_room hWr) hdg hf
theorem kq_runIN {host : String} {Qc : Array Value → State → Outcome → State → Prop} {mc ms : Nat} (hx : p.tables.exec = Jvm.exec) (hb : c.code = cc) (hml : c.maxLocals = nL) (hown : s.vm.findClass own = some m.cls) (hts : ∀ w ∈ TT, w.before args s = true) (hG : kqS D tys A s H locs (w ++ x)) (ht : va_K D vwCl tys1 s) (hM : Met l y (Cond.code y bytes maxL none :: TT) rm (va_Pc (.ref b :: As) (kqB D tys1 H.size x)) Qc mc ms (va_A x H.size)) (m1 : va_Nw (.methodLinkNest own index y host) s) (m2 : Cond.instanceMethod y ∈ TT) (m4 : Cond.initialized y.cls ∈ TT) (m5 : Cond.code y bytes maxL none ∈ TT) (hy1 : y.name = "<init>") (hd : y.cls ≠ "java/lang/invoke/MethodHandle" ∧ y.cls ≠ "java/lang/invoke/VarHandle" ∧ (parseMethodDescriptor y.desc).map (fun d => d.parameters.length) = some n) (hrm : rm.cells = mc ∧ rm.slots = ms ∧ rm.frames + 1 ≤ R.frames ∧ 8 + (maxL + 11) + rm.locals ≤ R.locals) (hn : As.length = n) (hsz : ls.size = nL) (hst : st0 = As.reverse ++ .ref b :: rest) (hWr : (rest.map fun v => v.category).sum ≤ 8) (hdg : decode cc pc = .ok (.invokespecial index, 3)) (hf : cells + mc ≤ R.cells ∧ slots + ms ≤ R.slots) :
    va_Run p l e R s m args below meth c H locs cells slots mc ms (F0 m pc ls st0) rest (Qc (Value.ref b :: As).toArray) (va_A x H.size) :=
  va_runIN ⟨hx, hb, hml, hown, hts⟩ hM ⟨va_cnB n hts (kq_good m5) rfl hrm.1 hrm.2.1 m1 (hts _ m4) hd hrm.2.2, hy1, hts _ m2⟩ ⟨kqB_blind, fun U hU hW => kqS_pre hG ht hU hW⟩ rfl hn hsz hst (lv_room hWr) hdg hf
theorem kq_runV {T : u_T} {q0 : Nat} {Qc : Array Value → State → Outcome → State → Prop} {mc ms : Nat} (hx : p.tables.exec = Jvm.exec) (hb : c.code = cc) (hml : c.maxLocals = nL) (hown : s.vm.findClass own = some m.cls) (hts : ∀ w ∈ TT, w.before args s = true) (hG : kqS D tys A s H locs (w ++ x)) (ht : va_K D vwCl tys1 s) (hM : Met l y (Cond.code y bytes maxL ret :: TT) rm (va_Pc (.ref b :: As) (kqB D tys1 H.size x)) Qc mc ms (va_A x H.size)) (m1 : Cond.methodLink own index y ∈ TT) (m2 : Cond.instanceMethod y ∈ TT) (m3 : Cond.selects y.cls y y ∈ TT) (m4 : Cond.initialized y.cls ∈ TT) (m5 : Cond.code y bytes maxL ret ∈ TT) (hd : y.cls ≠ "java/lang/invoke/MethodHandle" ∧ y.cls ≠ "java/lang/invoke/VarHandle" ∧ (parseMethodDescriptor y.desc).map (fun d => d.parameters.length) = some n) (hrm : rm.cells = mc ∧ rm.slots = ms ∧ rm.frames + 1 ≤ R.frames ∧ 8 + (maxL + 11) + rm.locals ≤ R.locals) (he : x[q0]? = some (b, .inr (ci, fs))) (hc : vwCl[ci]? = some (y.cls, T, N)) (hn : As.length = n) (hsz : ls.size = nL) (hst : st0 = As.reverse ++ .ref b :: rest) (hWr : (rest.map fun v => v.category).sum ≤ 8) (hdg : decode cc pc = .ok (.invokevirtual index, 3)) (hf : cells + mc ≤ R.cells ∧ slots + ms ≤ R.slots) :
    va_Run p l e R s m args below meth c H locs cells slots mc ms (F0 m pc ls st0) rest (Qc (Value.ref b :: As).toArray) (va_A x H.size) :=
  va_runV (C := y.cls) ⟨hx, hb, hml, hown, hts⟩ hM ⟨callB_of n hts (kq_good m5) rfl hrm.1 hrm.2.1 (hts _ m4) (hts _ m1) hd hrm.2.2, hts _ m2, hts _ m3⟩ ⟨kqB_blind, va_recv (q := (y.cls, T, N)) hG.1 (P_tail hG.2.1) hc he, fun U hU hW => kqS_pre hG ht hU hW⟩ rfl hn hsz hst (lv_room hWr) hdg hf
end KCALLS
end KROWS
/-- a method, from its entry, over a small world -/
theorem kq_of {l : Launch} {y : MethodName} {rm : Room} {vs : List Value} {D : va_G} {tys : List (ClassId × FieldType)} {sz mc ms : Nat} {w : va_W} {Qf : (Nat → Prop) → Array Value → State → Outcome → State → Prop} {cc : ByteArray} {maxL : Nat} {ret : Option FieldType} (hy : plainName y.cls = true) (hn : (lg_sl vs).length ≤ maxL)
    (body : ∀ (p : Program) (e : Env) (s : State) (m : MethodId) (below : List Frame) (meth : Method) (c : Code) (A : Nat → Prop) (ls : Array Slot), p.tables.exec = Jvm.exec → c.code = cc → c.maxLocals = maxL → meth.sig.returnType = ret → meth.locks = false → meth.name = y.name → (∀ w ∈ TT, w.before vs.toArray s = true) → s.vm.findClass y.cls = some m.cls → (∀ q, s.heap.size ≤ q → A q) → kqS D tys A s s.heap [] w → lv_has ls maxL (lv_args 0 vs) →
      W p l e rm s m vs.toArray below meth c s.heap [] 0 0 (MQ below (Qf A) vs.toArray s mc ms A) (F0 m 0 ls [])) :
    Met l y (Cond.code y cc maxL ret :: TT) rm (va_Pc vs (kqB D tys sz w)) (Qf (va_A w sz)) mc ms (va_A w sz) := by
  refine Met.ofW (cc := cc) (maxL := maxL) (ret := ret) hy rfl ?_
  intro p e s m args below meth c s₁ B hml hv
  obtain ⟨rfl, hsz, hP, hK, hD0⟩ := hv
  subst hsz
  have hl := lv_entry vs (n := maxL) hn
  rw [lg_entry_eq]
  exact body p e s m below meth c (va_A w s.heap.size) _ B.exec B.bytes hml B.returns B.notSynchronized (name_of_methodNamed B.named B.method).1 (fun w h => atoms_spec (ws := Cond.code y cc maxL ret :: TT) B.pre w (List.mem_cons_of_mem _ h)) (findClass_of_methodNamed B.named) (fun q h => Or.inr h) ⟨hK, hP, hD0.self, va_S.rf⟩ hl
