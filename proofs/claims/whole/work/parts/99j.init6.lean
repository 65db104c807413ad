-- THE REFERENCE'S CONSTRUCTOR
def gX (g : GG) (qs : Nat → Nat) : GG := (g.1, g.2.1, g.2.2.1, g.2.2.2.1, fun k => if k < 59 then gA g k else if k < 79 then qs (k - 59) else gA g k)
def jkF : Nat → Nat → Int32 := fun _ _ => 0
abbrev gWF (g : GG) (mo : Ob) : va_W := gW g bbF txF rwF zOb zOb tnF mo jkF
def mBl (g : GG) : Nat × va_E := (gA g 58, .inr (6, [.int 0, .null, .null, .null, .null, .null, .int 0, .null, .null, .int 0, .int 0, .int 0, .null, .null, .null, .null, .null, .null, .int 0, .int 0, .int 0, .int 0, .null, .null, .int 0, .int 0, .int 0, .null, .null, .int 0, .null, .null, .null, .int 0]))
theorem gX_lo {g : GG} {qs : Nat → Nat} {k : Nat} (h : k < 59) : gA (gX g qs) k = gA g k := if_pos h
theorem gX_hi {g : GG} {qs : Nat → Nat} {k : Nat} (h : 79 ≤ k) : gA (gX g qs) k = gA g k := (if_neg (by omega)).trans (if_neg (by omega))
theorem gK_X {g : GG} {qs : Nat → Nat} {A : Nat → Prop} {s : State} (h : gK g A s) : gK (gX g qs) A s := by
  obtain ⟨h1, h2, h3, h4, h5⟩ := h
  have e1 : (fun i => gA (gX g qs) (100 + i)) = fun i => gA g (100 + i) := funext fun i => gX_hi (by omega)
  have e2 : (fun i => gA (gX g qs) (200 + i)) = fun i => gA g (200 + i) := funext fun i => gX_hi (by omega)
  refine ⟨h1, h2, ?_, fun i hi => ?_, h5⟩
  · rw [e1, e2]
    exact h3
  · rw [gX_hi (by omega)]
    exact h4 i hi
theorem P_head {D : va_G} {cl : List vw_C} {w x : va_W} {H : Heap} (h : va_P D cl (w ++ x) H) : va_P D cl w H := fun k q hk => h k q (at_app1 hk)
theorem join_new {D : va_G} {cl : List vw_C} {w x w1 : va_W} {H0 H1 : Heap} {locs : List Loc} (hP : va_P D cl (w ++ x) H0) (hD : va_D (fun _ => True) (w ++ x)) (hS : va_S (va_A x H0.size) H0 H1 locs) (hP1 : va_P D cl w1 H1) (hD1 : va_D (va_A x H0.size) w1) : va_P D cl (w ++ w1) H1 ∧ va_D (va_A (w ++ x) H0.size) (w ++ w1) ∧ va_S (va_A (w ++ x) H0.size) H0 H1 locs := by
  have hF : ∀ q, va_A x H0.size q → va_A (w ++ x) H0.size q := fun q h => by
    rcases h with ⟨k, e, h⟩ | h
    · exact Or.inl ⟨_, e, at_app2 h⟩
    · exact Or.inr h
  obtain ⟨a, b⟩ := join_tail hP (va_D.self (sz := H0.size) hD) (fun q h1 h2 => hS.2.1 q h1 h2) hF hP1 hD1
  exact ⟨a, b, hS.1, fun q h1 h2 => hS.2.1 q h1 (fun z => h2 (hF q z)), fun q hq => hF _ (hS.2.2 q hq)⟩
theorem D_addr {A : Nat → Prop} {w w1 : va_W} (h : va_D A w) (e : w1.map Prod.fst = w.map Prod.fst) : va_D A w1 := by
  have key : ∀ (i : Nat) (p : Nat × va_E), w1[i]? = some p → ∃ p0, w[i]? = some p0 ∧ p0.1 = p.1 := fun i p hp => by
    have h1 : (w1.map Prod.fst)[i]? = some p.1 := by rw [List.getElem?_map, hp]; rfl
    rw [e, List.getElem?_map] at h1
    cases hw : w[i]? with
    | none => rw [hw] at h1; cases h1
    | some p0 => rw [hw] at h1; exact ⟨p0, rfl, Option.some.inj h1⟩
  refine ⟨fun i j p q hi hj hpq => ?_, fun k q hq => ?_⟩
  · obtain ⟨p0, a1, a2⟩ := key i p hi
    obtain ⟨q0, b1, b2⟩ := key j q hj
    exact h.1 i j p0 q0 a1 b1 (a2.trans (hpq.trans b2.symm))
  · obtain ⟨q0, b1, b2⟩ := key k q hq
    rw [← b2]
    exact h.2 k q0 b1
theorem stA_setA (T : Ob) (k : Nat) (f : Nat → Int32) (i x : Int32) : stA (setA T k f) k i x = setA T k (upd f i.toNatClampNeg x) := by
  unfold stA setA
  simp only [up_up, up_same]
theorem setA_id (T : Ob) (k : Nat) : setA T k (T.2 k) = T := by
  unfold setA
  rw [up_self]
set_option maxHeartbeats 4000000 in
set_option maxRecDepth 100000 in
theorem i6_b {p : Program} {l : Launch} {e : Env} {s : State} {m : MethodId} {args : Array Value} {below : List Frame} {meth : Method} {c : Code} {H : Heap} {locs : List Loc} {Q : State → Prop} {ls : Array Slot} {A : Nat → Prop} {g : GG} (hx : p.tables.exec = Jvm.exec) (hb : c.code = cX6_init) (hml : c.maxLocals = 2) (hts : ∀ w ∈ TT, w.before args s = true) (hown : s.vm.findClass RX6 = some m.cls) (hA : ∀ q, s.heap.size ≤ q → A q) (hG : gS g A s H locs (gWF g mZF)) (hl : lv_has ls 2 [(0, .ref (gA g 58))])
    (kk : ∀ (H : Heap) (locs : List Loc) (ls : Array Slot), gS g A s H locs (gWF g mF) → W p l e (rmC 6 20 2231) s m args below meth c H locs 20 2231 Q (F0 m 986 ls [])) :
    W p l e (rmC 6 20 2231) s m args below meth c H locs 20 2231 Q (F0 m 949 ls []) := by
  have e34 : (34 : Int32).toInt = 34 := rfl
  have L : ∀ (n : Nat) (x : Int32) (f : Nat → Int32) (H : Heap) (locs : List Loc), gS g A s H locs (gWF g (setA mZF 5 f)) → ∀ ls : Array Slot, lv_has ls 2 [(0, .ref (gA g 58)), (1, .int x)] → 0 ≤ x.toInt → x.toInt ≤ 34 → 34 < x.toInt + n → (∀ j, f j = if j < x.toNatClampNeg then lawL.getD j 0 else 0) → W p l e (rmC 6 20 2231) s m args below meth c H locs 20 2231 Q (F0 m 951 ls []) := by
    intro n
    induction n with
    | zero => intro x f H locs _ ls _ h0 h1 h2; omega
    | succ n ih =>
      intro x f H locs hG ls hl h0 h1 h2 hf
      refine lv_iload_n hx hb dX6_init_951 rfl (lv_at hl 1 rfl) ?_
      refine lv_bipush (v := 34) hx hb dX6_init_952 (by decide) ?_
      refine lv_icmp_ge (tgt := 975) hx hb dX6_init_954 (by decide) (fun c_1 => ?_) (fun c_1 => ?_)
      · have q1 := i_le.mp c_1
        have ef : f = fun j => lawL.getD j 0 := funext fun j => by
          rw [hf j]
          by_cases c : j < x.toNatClampNeg
          · rw [if_pos c]
          · rw [if_neg c]
            rw [tcn_i] at c
            show (0 : Int32) = lawL.getD j 0
            rw [List.getD_eq_getElem?_getD, List.getElem?_eq_none (show lawL.length ≤ j by have : lawL.length = 34 := rfl; omega)]
            rfl
        subst ef
        refine lv_aload_n hx hb dX6_init_975 rfl (lv_at hl 0 rfl) ?_
        refine lv_bipush (v := 34) hx hb dX6_init_976 (by decide) ?_
        refine g_put hx hb hts hiX6 tyX6 tyX6_ok nmX6 hown hG gw_Model rfl 6 (by decide) (index := 70) tw_fl_RX6_70 rfl rfl rfl (Nat.le_of_ble_eq_true rfl) gs_Model_f6 dX6_init_978 (fun H locs hG => ?_)
        replace hG : gS g A s H locs (gWF g m0F) := hG
        refine lv_aload_n hx hb dX6_init_981 rfl (lv_at hl 0 rfl) ?_
        refine g_ci (g_runV (n := 0) (rest := []) hx hb hml hown hts hG (c_X6_text (mo := m0F) (by decide) (by decide)) tw_ml_RX6_74 tw_im_X6_text tw_se_X6_text tw_in_RX6 tw_cd_X6_text (by decide +kernel) ⟨rfl, rfl, Nat.le_of_ble_eq_true rfl, Nat.le_of_ble_eq_true rfl⟩ gw_Model rfl rfl hl.1 rfl (Nat.le_of_ble_eq_true rfl) dX6_init_982 ⟨Nat.le_refl _, Nat.le_refl _⟩) hG hA (fun r mo H locs hp hG => ?_)
        have em : mF = mo := congrArg Prod.snd hp
        subst em
        refine lv_pop hx hb dX6_init_985 rfl ?_
        exact kk H locs ls hG
      · have q1 := i_nle c_1
        refine lv_aload_n hx hb dX6_init_957 rfl (lv_at hl 0 rfl) ?_
        refine g_get hx hb hts hiX6 hown hG gw_Model rfl 5 (by decide) (index := 22) tw_fl_RX6_22 (v := .ref (gA g 63)) rfl dX6_init_958 ?_
        refine lv_iload_n hx hb dX6_init_961 rfl (lv_at hl 1 rfl) ?_
        refine lv_aload_n hx hb dX6_init_962 rfl (lv_at hl 0 rfl) ?_
        refine g_get hx hb hts hiX6 hown hG gw_Model rfl 17 (by decide) (index := 46) tw_fl_RX6_46 (v := .ref (gA g 71)) rfl dX6_init_963 ?_
        refine lv_iload_n hx hb dX6_init_966 rfl (lv_at hl 1 rfl) ?_
        refine g_ild (f := fun j => lawL.getD j 0) hx hb hG gw_Model_a17 (show vp_in x 34 from vp_i h0 (by omega)) dX6_init_967 ?_
        refine g_ist hx hb hG gw_Model_a5 (show vp_in x 160 from vp_i h0 (by omega)) gs_Model_a5 dX6_init_968 (fun H locs hG => ?_)
        rw [stA_setA] at hG
        have e1 : (x + 1).toInt = x.toInt + 1 := addL (k := 1) (by decide +kernel) (by omega) (by omega)
        refine lv_iinc (v := (x + 1)) (lv' := [(1, .int (x + 1)), (0, .ref (gA g 58))]) hx hb dX6_init_969 hl (k := 1) rfl rfl (by decide) rfl (fun ls hl => ?_)
        refine lv_goto (tgt := 951) hx hb dX6_init_972 (by decide) ?_
        refine ih (x + 1) _ H locs hG ls (lv_sub hl [1, 0] rfl) (by omega) (by omega) (by omega) (fun j => ?_)
        rw [tcn_add h0 (by omega)]
        show (if j = x.toNatClampNeg then lawL.getD x.toNatClampNeg 0 else f j) = _
        rw [hf j]
        by_cases c : j = x.toNatClampNeg
        · rw [if_pos c, if_pos (by omega), c]
        · rw [if_neg c]
          by_cases c2 : j < x.toNatClampNeg
          · rw [if_pos c2, if_pos (by omega)]
          · rw [if_neg c2, if_neg (by omega)]
  refine lv_iconst (v := 0) hx hb dX6_init_949 (by decide) ?_
  refine lv_istore_n (lv' := [(1, .int 0), (0, .ref (gA g 58))]) hx hb dX6_init_950 rfl hl (by decide) rfl (fun ls hl => ?_)
  refine L 35 0 (fun _ => 0) H locs ?_ ls (lv_sub hl [1, 0] rfl) (by decide) (by decide) (by decide) (fun j => (if_neg (by exact Nat.not_lt_zero j)).symm)
  rw [show setA mZF 5 (fun _ => 0) = mZF from setA_id mZF 5]
  exact hG
