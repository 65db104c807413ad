-- THE KNOT: the readers, tied by recursion on how many more may open
abbrev RO : Type := Ob → Ob → Int32 → Ob × Ob
def zDm : RO := fun sb T _ => (sb, T)
/-- readOne, readEither, readNot out of those one deeper -/
def zStep (q : RO × RO × RO) : RO × RO × RO := (F_X2_readOne q.1 q.2.1, F_X2_readEither (F_X2_readBoth (F_X2_readNot q.2.2 (F_X2_readSum (F_X2_readTerm (F_X2_readOne q.1 q.2.1))))), F_X2_readNot q.2.2 (F_X2_readSum (F_X2_readTerm (F_X2_readOne q.1 q.2.1))))
def zR : Nat → RO × RO × RO
  | 0 => zStep (zDm, zDm, zDm)
  | d + 1 => zStep (zR d)
def F_X2_read : RO := (zR 5).2.1
theorem kOne {ro re : RO} {p : Int32} (h1 : p < 5 → keepR ro (p + 1)) (h2 : p < 5 → keepR re (p + 1)) : keepR (F_X2_readOne ro re) p := by
  intro sb T hok hs
  unfold F_X2_readOne
  split
  · unfold F_X2_readOne_c13 F_X2_readOne_c17
    exact ⟨step_ok rfl hok, tadd_nn rfl hs⟩
  · split
    · split
      · unfold F_X2_readOne_c56
        split
        · exact ⟨mayOpen_ok (sb := sb) (p := p) rfl hok, hs⟩
        · rename_i c
          have hlt := mayOpen_lt (sb := sb) (p := p) rfl c
          have k := h1 hlt _ T (step_ok rfl (mayOpen_ok (sb := sb) (p := p) rfl hok)) hs
          unfold F_X2_readOne_c63 F_X2_readOne_c71 F_X2_readOne_c77
          exact ⟨k.1, tadd_nn rfl k.2⟩
      · split
        · unfold F_X2_readOne_c94
          split
          · exact ⟨mayOpen_ok (sb := sb) (p := p) rfl hok, hs⟩
          · rename_i c
            have hlt := mayOpen_lt (sb := sb) (p := p) rfl c
            have k := h2 hlt _ T (step_ok rfl (mayOpen_ok (sb := sb) (p := p) rfl hok)) hs
            unfold F_X2_readOne_c101 F_X2_readOne_c109 F_X2_readOne_c115
            exact ⟨expect_ok rfl k.1, k.2⟩
        · unfold F_X2_readOne_c122
          exact ⟨fail_ok rfl hok, hs⟩
    · unfold F_X2_readOne_c35 F_X2_readOne_c39
      exact ⟨step_ok rfl hok, tadd_nn rfl hs⟩
theorem kTerm {f : RO} {p : Int32} (h : keepR f p) : keepR (F_X2_readTerm f) p := by
  have k : ∀ (n : Nat) (sb T : Ob) (x : Int32), sOK sb → 0 ≤ (T.1 3).toInt → sOK (F_X2_readTerm_l8 n f sb T p x).1 ∧ 0 ≤ ((F_X2_readTerm_l8 n f sb T p x).2.1 3).toInt := by
    intro n
    induction n with
    | zero => intro sb T x hok hs; exact ⟨hok, hs⟩
    | succ n ih =>
      intro sb T x hok hs
      unfold F_X2_readTerm_l8
      split
      · exact ⟨hok, hs⟩
      · split
        · have q := h _ T (step_ok rfl hok) hs
          exact ih _ _ _ q.1 (tadd_nn rfl q.2)
        · exact ⟨hok, hs⟩
  intro sb T hok hs
  have q := h sb T hok hs
  exact k 161 _ _ 0 q.1 q.2
theorem kSum {f : RO} {p : Int32} (h : keepR f p) : keepR (F_X2_readSum f) p := by
  have k : ∀ (n : Nat) (sb T : Ob) (x : Int32), sOK sb → 0 ≤ (T.1 3).toInt → sOK (F_X2_readSum_l8 n f sb T p x).1 ∧ 0 ≤ ((F_X2_readSum_l8 n f sb T p x).2.1 3).toInt := by
    intro n
    induction n with
    | zero => intro sb T x hok hs; exact ⟨hok, hs⟩
    | succ n ih =>
      intro sb T x hok hs
      have q := h _ T (step_ok (sb := sb) rfl hok) hs
      have z : ∀ v : Int32, sOK (F_X2_readSum_b49 (F_X2_readSum_l8 n) f sb T p x v).1 ∧ 0 ≤ ((F_X2_readSum_b49 (F_X2_readSum_l8 n) f sb T p x v).2.1 3).toInt := fun v => ih _ _ _ q.1 (tadd_nn rfl q.2)
      have z2 : sOK (F_X2_readSum_b33 (F_X2_readSum_l8 n) f sb T p x).1 ∧ 0 ≤ ((F_X2_readSum_b33 (F_X2_readSum_l8 n) f sb T p x).2.1 3).toInt := by
        unfold F_X2_readSum_b33
        split
        · exact z _
        · exact z _
      unfold F_X2_readSum_l8
      split
      · exact ⟨hok, hs⟩
      · split
        · exact z2
        · split
          · exact z2
          · exact ⟨hok, hs⟩
  intro sb T hok hs
  have q := h sb T hok hs
  exact k 161 _ _ 0 q.1 q.2
theorem kBoth {f : RO} {p : Int32} (h : keepR f p) : keepR (F_X2_readBoth f) p := by
  have k : ∀ (n : Nat) (sb T : Ob) (x : Int32), sOK sb → 0 ≤ (T.1 3).toInt → sOK (F_X2_readBoth_l8 n f sb T p x).1 ∧ 0 ≤ ((F_X2_readBoth_l8 n f sb T p x).2.1 3).toInt := by
    intro n
    induction n with
    | zero => intro sb T x hok hs; exact ⟨hok, hs⟩
    | succ n ih =>
      intro sb T x hok hs
      unfold F_X2_readBoth_l8
      split
      · exact ⟨hok, hs⟩
      · split
        · have q := h _ T (step_ok rfl hok) hs
          exact ih _ _ _ q.1 (tadd_nn rfl q.2)
        · exact ⟨hok, hs⟩
  intro sb T hok hs
  have q := h sb T hok hs
  exact k 161 _ _ 0 q.1 q.2
theorem kEither {f : RO} {p : Int32} (h : keepR f p) : keepR (F_X2_readEither f) p := by
  have k : ∀ (n : Nat) (sb T : Ob) (x : Int32), sOK sb → 0 ≤ (T.1 3).toInt → sOK (F_X2_readEither_l8 n f sb T p x).1 ∧ 0 ≤ ((F_X2_readEither_l8 n f sb T p x).2.1 3).toInt := by
    intro n
    induction n with
    | zero => intro sb T x hok hs; exact ⟨hok, hs⟩
    | succ n ih =>
      intro sb T x hok hs
      unfold F_X2_readEither_l8
      split
      · exact ⟨hok, hs⟩
      · split
        · have q := h _ T (step_ok rfl hok) hs
          exact ih _ _ _ q.1 (tadd_nn rfl q.2)
        · exact ⟨hok, hs⟩
  intro sb T hok hs
  have q := h sb T hok hs
  exact k 161 _ _ 0 q.1 q.2
theorem kNot {rn rs : RO} {p : Int32} (h1 : p < 5 → keepR rn (p + 1)) (h2 : keepR rs p) : keepR (F_X2_readNot rn rs) p := by
  intro sb T hok hs
  unfold F_X2_readNot
  split
  · unfold F_X2_readNot_c12
    split
    · exact ⟨mayOpen_ok (sb := sb) (p := p) rfl hok, hs⟩
    · rename_i c
      have hlt := mayOpen_lt (sb := sb) (p := p) rfl c
      have k := h1 hlt _ T (step_ok rfl (mayOpen_ok (sb := sb) (p := p) rfl hok)) hs
      unfold F_X2_readNot_c19 F_X2_readNot_c27 F_X2_readNot_c33
      exact ⟨k.1, tadd_nn rfl k.2⟩
  · have q := h2 sb T hok hs
    have z : ∀ v : Int32, sOK (F_X2_readNot_b77 rn rs (rs sb T p).1 (rs sb T p).2 p v).1 ∧ 0 ≤ ((F_X2_readNot_b77 rn rs (rs sb T p).1 (rs sb T p).2 p v).2.1 3).toInt := fun v => by
      have k := h2 _ (rs sb T p).2 (step_ok (sb := (rs sb T p).1) rfl q.1) q.2
      exact ⟨k.1, tadd_nn rfl k.2⟩
    have z2 : sOK (F_X2_readNot_b61 rn rs (rs sb T p).1 (rs sb T p).2 p).1 ∧ 0 ≤ ((F_X2_readNot_b61 rn rs (rs sb T p).1 (rs sb T p).2 p).2.1 3).toInt := by
      unfold F_X2_readNot_b61
      split
      · exact z _
      · exact z _
    unfold F_X2_readNot_c40
    split
    · exact z2
    · split
      · exact z2
      · exact q
theorem tTerm {l : Launch} {f : RO} {lev : Nat} {p : Int32} (hlev : 8 ≤ lev) (h : cRd l yX2_readOne cX2_readOne 3 lev f p) (k : keepR f p) : cRd l yX2_readTerm cX2_readTerm 4 (lev + 1) (F_X2_readTerm f) p := by
  intro g sz bb tx rw sb dy tn mo jk t2 ht2 T2 hT2 p2 hp hok hs
  subst hp
  exact c_X2_readTerm ht2 hT2 hlev p2 h k hok hs
theorem tSum {l : Launch} {f : RO} {lev : Nat} {p : Int32} (hlev : 8 ≤ lev) (h : cRd l yX2_readTerm cX2_readTerm 4 lev f p) (k : keepR f p) : cRd l yX2_readSum cX2_readSum 5 (lev + 1) (F_X2_readSum f) p := by
  intro g sz bb tx rw sb dy tn mo jk t2 ht2 T2 hT2 p2 hp hok hs
  subst hp
  exact c_X2_readSum ht2 hT2 hlev p2 h k hok hs
theorem tBoth {l : Launch} {f : RO} {lev : Nat} {p : Int32} (hlev : 8 ≤ lev) (h : cRd l yX2_readNot cX2_readNot 4 lev f p) (k : keepR f p) : cRd l yX2_readBoth cX2_readBoth 4 (lev + 1) (F_X2_readBoth f) p := by
  intro g sz bb tx rw sb dy tn mo jk t2 ht2 T2 hT2 p2 hp hok hs
  subst hp
  exact c_X2_readBoth ht2 hT2 hlev p2 h k hok hs
theorem tEither {l : Launch} {f : RO} {lev : Nat} {p : Int32} (hlev : 8 ≤ lev) (h : cRd l yX2_readBoth cX2_readBoth 4 lev f p) (k : keepR f p) : cRd l yX2_readEither cX2_readEither 4 (lev + 1) (F_X2_readEither f) p := by
  intro g sz bb tx rw sb dy tn mo jk t2 ht2 T2 hT2 p2 hp hok hs
  subst hp
  exact c_X2_readEither ht2 hT2 hlev p2 h k hok hs
theorem tNot {l : Launch} {rn rs : RO} {lev l1 : Nat} {p : Int32} (hlev : 8 ≤ lev) (hl1 : l1 ≤ lev) (h1 : p < 5 → cRd l yX2_readNot cX2_readNot 4 l1 rn (p + 1)) (k1 : p < 5 → keepR rn (p + 1)) (h : cRd l yX2_readSum cX2_readSum 5 lev rs p) (k : keepR rs p) : cRd l yX2_readNot cX2_readNot 4 (lev + 1) (F_X2_readNot rn rs) p := by
  intro g sz bb tx rw sb dy tn mo jk t2 ht2 T2 hT2 p2 hp hok hs
  subst hp
  exact c_X2_readNot ht2 hT2 hlev p2 hl1 h1 k1 h k hok hs
theorem tOne {l : Launch} {ro re : RO} {lev l1 : Nat} {p : Int32} (hlev : 8 ≤ lev) (hl1 : l1 ≤ lev) (h1 : p < 5 → cRd l yX2_readOne cX2_readOne 3 l1 ro (p + 1)) (k1 : p < 5 → keepR ro (p + 1)) (h2 : p < 5 → cRd l yX2_readEither cX2_readEither 4 lev re (p + 1)) (k2 : p < 5 → keepR re (p + 1)) : cRd l yX2_readOne cX2_readOne 3 (lev + 1) (F_X2_readOne ro re) p := by
  intro g sz bb tx rw sb dy tn mo jk t2 ht2 T2 hT2 p2 hp hok hs
  subst hp
  exact c_X2_readOne ht2 hT2 hlev p2 hl1 h1 k1 h2 k2 hok hs
/-- what is known of the three readers at a depth -/
def zK (l : Launch) (q : RO × RO × RO) (lo le ln : Nat) (p : Int32) : Prop := (cRd l yX2_readOne cX2_readOne 3 lo q.1 p ∧ keepR q.1 p) ∧ (cRd l yX2_readEither cX2_readEither 4 le q.2.1 p ∧ keepR q.2.1 p) ∧ (cRd l yX2_readNot cX2_readNot 4 ln q.2.2 p ∧ keepR q.2.2 p)
theorem zStep_ok {l : Launch} {q : RO × RO × RO} {lev l1 l2 : Nat} {p : Int32} (hlev : 8 ≤ lev) (hl1 : l1 ≤ lev) (hl2 : l2 ≤ lev + 3) (h : p < 5 → zK l q l1 lev l2 (p + 1)) : zK l (zStep q) (lev + 1) (lev + 6) (lev + 4) p := by
  have k1 : keepR (F_X2_readOne q.1 q.2.1) p := kOne (fun c => (h c).1.2) (fun c => (h c).2.1.2)
  have t1 : cRd l yX2_readOne cX2_readOne 3 (lev + 1) (F_X2_readOne q.1 q.2.1) p := tOne hlev hl1 (fun c => (h c).1.1) (fun c => (h c).1.2) (fun c => (h c).2.1.1) (fun c => (h c).2.1.2)
  have k2 := kTerm k1
  have t2 : cRd l yX2_readTerm cX2_readTerm 4 (lev + 2) (F_X2_readTerm (F_X2_readOne q.1 q.2.1)) p := tTerm (lev := lev + 1) (by omega) t1 k1
  have k3 := kSum k2
  have t3 : cRd l yX2_readSum cX2_readSum 5 (lev + 3) (F_X2_readSum (F_X2_readTerm (F_X2_readOne q.1 q.2.1))) p := tSum (lev := lev + 2) (by omega) t2 k2
  have k4 : keepR (F_X2_readNot q.2.2 (F_X2_readSum (F_X2_readTerm (F_X2_readOne q.1 q.2.1)))) p := kNot (fun c => (h c).2.2.2) k3
  have t4 : cRd l yX2_readNot cX2_readNot 4 (lev + 4) (F_X2_readNot q.2.2 (F_X2_readSum (F_X2_readTerm (F_X2_readOne q.1 q.2.1)))) p := tNot (lev := lev + 3) (by omega) hl2 (fun c => (h c).2.2.1) (fun c => (h c).2.2.2) t3 k3
  have k5 := kBoth k4
  have t5 : cRd l yX2_readBoth cX2_readBoth 4 (lev + 5) (F_X2_readBoth (F_X2_readNot q.2.2 (F_X2_readSum (F_X2_readTerm (F_X2_readOne q.1 q.2.1))))) p := tBoth (lev := lev + 4) (by omega) t4 k4
  have k6 := kEither k5
  have t6 : cRd l yX2_readEither cX2_readEither 4 (lev + 6) (F_X2_readEither (F_X2_readBoth (F_X2_readNot q.2.2 (F_X2_readSum (F_X2_readTerm (F_X2_readOne q.1 q.2.1)))))) p := tEither (lev := lev + 5) (by omega) t5 k5
  exact ⟨⟨t1, k1⟩, ⟨t6, k6⟩, ⟨t4, k4⟩⟩
theorem zR_ok {l : Launch} : ∀ (d : Nat) (p : Int32), p.toInt + d = 5 → zK l (zR d) (9 + 6 * d) (14 + 6 * d) (12 + 6 * d) p := by
  intro d
  induction d with
  | zero =>
    intro p h
    have e5 : (5 : Int32).toInt = 5 := rfl
    exact zStep_ok (lev := 8) (l1 := 0) (l2 := 0) (by omega) (by omega) (by omega) (fun c => by have := i_lt.mp c; omega)
  | succ d ih =>
    intro p h
    have e5 : (5 : Int32).toInt = 5 := rfl
    have k : zK l (zStep (zR d)) (14 + 6 * d + 1) (14 + 6 * d + 6) (14 + 6 * d + 4) p := zStep_ok (lev := 14 + 6 * d) (l1 := 9 + 6 * d) (l2 := 12 + 6 * d) (by omega) (by omega) (by omega) (fun c => by
      have c2 := i_lt.mp c
      have hr := fb_rng p
      have e : (p + 1).toInt = p.toInt + 1 := addL (k := 1) (by decide +kernel) (by omega) (by omega)
      exact ih (p + 1) (by omega))
    have a1 : 9 + 6 * (d + 1) = 14 + 6 * d + 1 := by omega
    have a2 : 14 + 6 * (d + 1) = 14 + 6 * d + 6 := by omega
    have a3 : 12 + 6 * (d + 1) = 14 + 6 * d + 4 := by omega
    rw [a1, a2, a3]
    exact k
theorem zRe {l : Launch} : cRd l yX2_readEither cX2_readEither 4 44 F_X2_read 0 := (zR_ok (l := l) 5 0 (by decide)).2.1.1
theorem zKe (l : Launch) : keepR F_X2_read 0 := (zR_ok (l := l) 5 0 (by decide)).2.1.2

def F_X2_readInto_b68 (sb : Ob) (T2 : Ob) : Int32 × Ob × Ob :=
  (((setS sb 1 0).1 6), (setS sb 1 0), T2)
def F_X2_readInto_c65 (K20 : Ob → Ob → Int32 → Int32 × Ob × Ob) (u : Ob) (T2 : Ob) : Int32 × Ob × Ob :=
  (F_X2_readInto_b68  u T2)
def F_X2_readInto_c48 (K20 : Ob → Ob → Int32 → Int32 × Ob × Ob) (u : Ob) (sb : Ob) (x2 : Int32) : Int32 × Ob × Ob :=
  (K20 sb u (x2 + 1))
def F_X2_readInto_c43 (K20 : Ob → Ob → Int32 → Int32 × Ob × Ob) (u : Ob) (T2 : Ob) (x2 : Int32) : Int32 × Ob × Ob :=
  (F_X2_readInto_c48 K20 (F_X3_endPart T2 x2) u x2)
def F_X2_readInto_c37 (K20 : Ob → Ob → Int32 → Int32 × Ob × Ob) (u : Ob × Ob) (x2 : Int32) : Int32 × Ob × Ob :=
  (F_X2_readInto_c43 K20 (F_X2_expect u.1 59) u.2 x2)
def F_X2_readInto_c31 (K20 : Ob → Ob → Int32 → Int32 × Ob × Ob) (u : Ob) (T2 : Ob) (x2 : Int32) : Int32 × Ob × Ob :=
  (F_X2_readInto_c37 K20 (F_X2_read u T2 0) x2)
def F_X2_readInto_l20 : Nat → Ob → Ob → Int32 → Int32 × Ob × Ob
  | 0, sb, T2, _ => (0, sb, T2)
  | n + 1, sb, T2, x2 =>
    (if 2 < x2 then (if (sb.1 4) = 0 then (F_X2_readInto_b68  sb T2) else (F_X2_readInto_c65 (F_X2_readInto_l20 n ) (F_X2_fail sb) T2)) else (F_X2_readInto_c31 (F_X2_readInto_l20 n ) (F_X2_expect sb (256 + x2)) T2 x2))
def F_X2_readInto_c15 (u : Ob) (T2 : Ob) : Int32 × Ob × Ob :=
  (F_X2_readInto_l20 4  u T2 0)
def F_X2_readInto_c11 (u : Ob) (sb : Ob) : Int32 × Ob × Ob :=
  (F_X2_readInto_c15 (F_X2_step sb) u)
def F_X2_readInto (sb : Ob) (T2 : Ob) : Int32 × Ob × Ob :=
  (F_X2_readInto_c11 (F_X3_empty T2) (setS (setS sb 2 0) 6 (-1)))
set_option maxHeartbeats 4000000 in
set_option maxRecDepth 100000 in
theorem c_X2_readInto {l : Launch} {g : GG} {sz : Nat} {bb : Ob} {tx rw : Nat → Ob} {sb dy : Ob} {tn : Nat → Ob} {mo : Ob} {jk : Nat → Nat → Int32} {t2 : Nat} (ht2 : t2 < 6) {T2 : Ob} (hT2 : tx t2 = T2)  (hz : (sb.1 1).toInt ≤ 160) : Met l yX2_readInto (Cond.code yX2_readInto cX2_readInto 3 (some .int) :: TT) (rmL (45)) (va_Pc [.ref (gA g 35), .ref (gA g (3 + 4 * t2))] (gB g sz (gW g bb tx rw sb dy tn mo jk))) (va_Qi (fun r (u : Ob × Ob) => (F_X2_readInto sb T2) = (r, u.1, u.2)) (fun u t => gC g (va_A (gW g bb tx rw sb dy tn mo jk) sz) (gW g bb (va_up tx t2 u.2) rw u.1 dy tn mo jk) t) (va_A (gW g bb tx rw sb dy tn mo jk) sz)) 0 0 (va_A (gW g bb tx rw sb dy tn mo jk) sz) := by
  generalize hE : F_X2_readInto sb T2 = EE
  refine g_of (Qf := fun A => (va_Qi (fun r (u : Ob × Ob) => EE = (r, u.1, u.2)) (fun u t => gC g A (gW g bb (va_up tx t2 u.2) rw u.1 dy tn mo jk) t) A)) (cc := cX2_readInto) (maxL := 3) (ret := (some .int)) (by decide) (Nat.le_of_ble_eq_true rfl) ?_
  intro p e s m below meth c A ls hx hb hml hr hlocks hts hown hA hG hl
  replace hown : s.vm.findClass RX2 = some m.cls := hown
  replace hl : lv_has ls 3 [(0, .ref (gA g 35)), (1, .ref (gA g (3 + 4 * t2)))] := hl
  show W p l e (rmL (45)) s m [.ref (gA g 35), .ref (gA g (3 + 4 * t2))].toArray below meth c s.heap [] 0 0 (MQ below (va_Qi (fun r (u : Ob × Ob) => EE = (r, u.1, u.2)) (fun u t => gC g A (gW g bb (va_up tx t2 u.2) rw u.1 dy tn mo jk) t) A) [.ref (gA g 35), .ref (gA g (3 + 4 * t2))].toArray s 0 0 A) (F0 m 0 ls [])
  generalize hQ : MQ below (va_Qi (fun r (u : Ob × Ob) => EE = (r, u.1, u.2)) (fun u t => gC g A (gW g bb (va_up tx t2 u.2) rw u.1 dy tn mo jk) t) A) [.ref (gA g 35), .ref (gA g (3 + 4 * t2))].toArray s 0 0 A = Q
  replace hG : gS g A s s.heap [] (gW g bb (va_up tx t2 T2) rw sb dy tn mo jk) := by simpa only [← hT2, up_self] using hG
  unfold F_X2_readInto at hE
  refine lv_aload_n hx hb dX2_readInto_0 rfl (lv_at hl 0 rfl) ?_
  refine lv_iconst (v := 0) hx hb dX2_readInto_1 (by decide) ?_
  refine g_put hx hb hts hiX2 tyX2 tyX2_ok nmX2 hown hG gw_Scribe rfl 2 (by decide) (index := 19) tw_fl_RX2_19 rfl rfl rfl (Nat.le_of_ble_eq_true rfl) gs_Scribe_f2 dX2_readInto_2 (fun H locs hG => ?_)
  refine lv_aload_n hx hb dX2_readInto_5 rfl (lv_at hl 0 rfl) ?_
  refine lv_iconst (v := (-1)) hx hb dX2_readInto_6 (by decide) ?_
  refine g_put hx hb hts hiX2 tyX2 tyX2_ok nmX2 hown hG gw_Scribe rfl 6 (by decide) (index := 22) tw_fl_RX2_22 rfl rfl rfl (Nat.le_of_ble_eq_true rfl) gs_Scribe_f6 dX2_readInto_7 (fun H locs hG => ?_)
  refine lv_aload_n hx hb dX2_readInto_10 rfl (lv_at hl 1 rfl) ?_
  refine g_cv (g_runV (n := 0) (rest := []) hx hb hml hown hts hG (c_X3_empty ht2 (up_same _ _ _)) tw_ml_RX2_25 tw_im_X3_empty tw_se_X3_empty tw_in_RX3 tw_cd_X3_empty (by decide +kernel) ⟨rfl, rfl, Nat.le_of_ble_eq_true rfl, Nat.le_of_ble_eq_true rfl⟩ (gw_Text ht2 (up_same _ _ _)) rfl rfl hl.1 rfl (Nat.le_of_ble_eq_true rfl) dX2_readInto_11 ⟨Nat.le_refl _, Nat.le_refl _⟩) hG hA (fun u H locs hp hG => ?_)
  obtain ⟨T2_11, rfl⟩ : ∃ z, z = u := ⟨u, rfl⟩
  replace hG : gS g A s H locs (gW g bb (va_up tx t2 T2_11) rw (setS (setS sb 2 0) 6 (-1)) dy tn mo jk) := by simpa only [up_up] using hG
  have hp_11 := hp
  rw [hp] at hE
  unfold F_X2_readInto_c11 at hE
  try dsimp only at hE
  refine lv_aload_n hx hb dX2_readInto_14 rfl (lv_at hl 0 rfl) ?_
  refine g_cv (g_runV (n := 0) (rest := []) hx hb hml hown hts hG (c_X2_step ⟨(show 0 ≤ (0 : Int32).toInt by decide), (show (0 : Int32).toInt ≤ 160 by decide), hz⟩) tw_ml_RX2_30 tw_im_X2_step tw_se_X2_step tw_in_RX2 tw_cd_X2_step (by decide +kernel) ⟨rfl, rfl, Nat.le_of_ble_eq_true rfl, Nat.le_of_ble_eq_true rfl⟩ gw_Scribe rfl rfl hl.1 rfl (Nat.le_of_ble_eq_true rfl) dX2_readInto_15 ⟨Nat.le_refl _, Nat.le_refl _⟩) hG hA (fun u H locs hp hG => ?_)
  obtain ⟨sb_15, rfl⟩ : ∃ z, z = u := ⟨u, rfl⟩
  replace hG : gS g A s H locs (gW g bb (va_up tx t2 T2_11) rw sb_15 dy tn mo jk) := by simpa only [up_up] using hG
  have hp_15 := hp
  rw [hp] at hE
  unfold F_X2_readInto_c15 at hE
  try dsimp only at hE
  have hok15 : sOK sb_15 := step_ok hp_15 ⟨(show 0 ≤ (0 : Int32).toInt by decide), (show (0 : Int32).toInt ≤ 160 by decide), hz⟩
  have hs15 : 0 ≤ (T2_11.1 3).toInt := by rw [← hp_11]; exact Int.le_refl 0
  refine lv_iconst (v := 0) hx hb dX2_readInto_18 (by decide) ?_
  refine lv_istore_n (lv' := [(2, .int 0), (0, .ref (gA g 35)), (1, .ref (gA g (3 + 4 * t2)))]) hx hb dX2_readInto_19 rfl hl (by decide) rfl (fun ls hl => ?_)
  replace hl := lv_sub hl [1, 2, 0] (l' := [(0, .ref (gA g 35)), (1, .ref (gA g (3 + 4 * t2))), (2, .int 0)]) rfl
  have L20 : ∀ (n20 : Nat) (x2_20 : Int32) (sb_20 : Ob) (T2_20 : Ob) (H : Heap) (locs : List Loc), gS g A s H locs (gW g bb (va_up tx t2 T2_20) rw sb_20 dy tn mo jk) → ∀ ls : Array Slot, lv_has ls 3 [(0, .ref (gA g 35)), (1, .ref (gA g (3 + 4 * t2))), (2, .int x2_20)] → 0 ≤ x2_20.toInt → x2_20.toInt ≤ 3 → 3 < x2_20.toInt + n20 → sOK sb_20 → 0 ≤ (T2_20.1 3).toInt → F_X2_readInto_l20 n20  sb_20 T2_20 x2_20 = EE → W p l e (rmL (45)) s m [.ref (gA g 35), .ref (gA g (3 + 4 * t2))].toArray below meth c H locs 0 0 Q (F0 m 20 ls []) := by
    intro n20
    induction n20 with
    | zero =>
      intro x2_20 sb_20 T2_20 H locs hG ls hl h0_20 h1_20 hm_20 hok20 hs20 hE
      clear hE; omega
    | succ n20 ih20 =>
      intro x2_20 sb_20 T2_20 H locs hG ls hl h0_20 h1_20 hm_20 hok20 hs20 hE
      unfold F_X2_readInto_l20 at hE
      refine lv_iload_n hx hb dX2_readInto_20 rfl (lv_at hl 2 rfl) ?_
      refine lv_iconst (v := 2) hx hb dX2_readInto_21 (by decide) ?_
      refine lv_icmp_gt (tgt := 57) hx hb dX2_readInto_22 (by decide) (fun c_22 => ?_) (fun c_22 => ?_)
      · replace hE := (if_pos c_22).symm.trans hE
        have i_22 : 2 < x2_20.toInt := i_lt.mp c_22
        refine lv_aload_n hx hb dX2_readInto_57 rfl (lv_at hl 0 rfl) ?_
        refine g_get hx hb hts hiX2 hown hG gw_Scribe rfl 4 (by decide) (index := 44) tw_fl_RX2_44 (v := .int (sb_20.1 4)) rfl dX2_readInto_58 ?_
        have J68 : ∀ (sb_68 : Ob) (T2_68 : Ob) (H : Heap) (locs : List Loc), gS g A s H locs (gW g bb (va_up tx t2 T2_68) rw sb_68 dy tn mo jk) → ∀ ls : Array Slot, lv_has ls 3 [(0, .ref (gA g 35))] → F_X2_readInto_b68   sb_68 T2_68 = EE → W p l e (rmL (45)) s m [.ref (gA g 35), .ref (gA g (3 + 4 * t2))].toArray below meth c H locs 0 0 Q (F0 m 68 ls []) := by
          intro sb_68 T2_68 H locs hG ls hl  hE
          unfold F_X2_readInto_b68 at hE
          refine lv_aload_n hx hb dX2_readInto_68 rfl (lv_at hl 0 rfl) ?_
          refine lv_iconst (v := 0) hx hb dX2_readInto_69 (by decide) ?_
          refine g_put hx hb hts hiX2 tyX2 tyX2_ok nmX2 hown hG gw_Scribe rfl 1 (by decide) (index := 15) tw_fl_RX2_15 rfl rfl rfl (Nat.le_of_ble_eq_true rfl) gs_Scribe_f1 dX2_readInto_70 (fun H locs hG => ?_)
          refine lv_aload_n hx hb dX2_readInto_73 rfl (lv_at hl 0 rfl) ?_
          refine g_get hx hb hts hiX2 hown hG gw_Scribe rfl 6 (by decide) (index := 22) tw_fl_RX2_22 (v := .int ((setS sb_68 1 0).1 6)) rfl dX2_readInto_74 ?_
          subst hQ
          exact g_iret hx hb hr hlocks hG (((setS sb_68 1 0), T2_68) : Ob × Ob) rfl hE.symm dX2_readInto_77
        refine lv_if_eq (tgt := 68) hx hb dX2_readInto_61 (by decide) (fun c_61 => ?_) (fun c_61 => ?_)
        · replace hE := (if_pos c_61).symm.trans hE
          have i_61 : (sb_20.1 4).toInt = 0 := congrArg Int32.toInt c_61
          exact J68 sb_20 T2_20 _ _ hG _ (lv_sub hl [0] rfl) hE
        replace hE := (if_neg c_61).symm.trans hE
        have i_61 : (sb_20.1 4).toInt ≠ 0 := fun h => c_61 (Int32.toInt_inj.mp h)
        refine lv_aload_n hx hb dX2_readInto_64 rfl (lv_at hl 0 rfl) ?_
        refine g_cv (g_runV (n := 0) (rest := []) hx hb hml hown hts hG (c_X2_fail) tw_ml_RX2_47 tw_im_X2_fail tw_se_X2_fail tw_in_RX2 tw_cd_X2_fail (by decide +kernel) ⟨rfl, rfl, Nat.le_of_ble_eq_true rfl, Nat.le_of_ble_eq_true rfl⟩ gw_Scribe rfl rfl hl.1 rfl (Nat.le_of_ble_eq_true rfl) dX2_readInto_65 ⟨Nat.le_refl _, Nat.le_refl _⟩) hG hA (fun u H locs hp hG => ?_)
        obtain ⟨sb_65, rfl⟩ : ∃ z, z = u := ⟨u, rfl⟩
        replace hG : gS g A s H locs (gW g bb (va_up tx t2 T2_20) rw sb_65 dy tn mo jk) := by simpa only [up_up] using hG
        have hp_65 := hp
        rw [hp] at hE
        unfold F_X2_readInto_c65 at hE
        try dsimp only at hE
        exact J68 sb_65 T2_20 _ _ hG _ (lv_sub hl [0] rfl) hE
      replace hE := (if_neg c_22).symm.trans hE
      have i_22 : x2_20.toInt ≤ 2 := i_nlt c_22
      refine lv_aload_n hx hb dX2_readInto_25 rfl (lv_at hl 0 rfl) ?_
      refine lv_sipush (v := 256) hx hb dX2_readInto_26 (by decide) ?_
      refine lv_iload_n hx hb dX2_readInto_29 rfl (lv_at hl 2 rfl) ?_
      refine lv_iadd hx hb dX2_readInto_30 ?_
      refine g_cv (g_runV (n := 1) (rest := []) hx hb hml hown hts hG (c_X2_expect (256 + x2_20) hok20) tw_ml_RX2_33 tw_im_X2_expect tw_se_X2_expect tw_in_RX2 tw_cd_X2_expect (by decide +kernel) ⟨rfl, rfl, Nat.le_of_ble_eq_true rfl, Nat.le_of_ble_eq_true rfl⟩ gw_Scribe rfl rfl hl.1 rfl (Nat.le_of_ble_eq_true rfl) dX2_readInto_31 ⟨Nat.le_refl _, Nat.le_refl _⟩) hG hA (fun u H locs hp hG => ?_)
      obtain ⟨sb_31, rfl⟩ : ∃ z, z = u := ⟨u, rfl⟩
      replace hG : gS g A s H locs (gW g bb (va_up tx t2 T2_20) rw sb_31 dy tn mo jk) := by simpa only [up_up] using hG
      have hp_31 := hp
      rw [hp] at hE
      unfold F_X2_readInto_c31 at hE
      try dsimp only at hE
      have hok31 : sOK sb_31 := expect_ok hp_31 hok20
      refine lv_aload_n hx hb dX2_readInto_34 rfl (lv_at hl 0 rfl) ?_
      refine lv_aload_n hx hb dX2_readInto_35 rfl (lv_at hl 1 rfl) ?_
      refine lv_iconst (v := 0) hx hb dX2_readInto_36 (by decide) ?_
      refine g_cv (g_runV (n := 2) (rest := []) hx hb hml hown hts hG (zRe ht2 (up_same _ _ _) 0 rfl hok31 hs20) tw_ml_RX2_37 tw_im_X2_readEither tw_se_X2_readEither tw_in_RX2 tw_cd_X2_readEither (by decide +kernel) ⟨rfl, rfl, Nat.le_of_ble_eq_true rfl, Nat.le_of_ble_eq_true rfl⟩ gw_Scribe rfl rfl hl.1 rfl (Nat.le_of_ble_eq_true rfl) dX2_readInto_37 ⟨Nat.le_refl _, Nat.le_refl _⟩) hG hA (fun u H locs hp hG => ?_)
      obtain ⟨sb_37, T2_37⟩ := u
      replace hG : gS g A s H locs (gW g bb (va_up tx t2 T2_37) rw sb_37 dy tn mo jk) := by simpa only [up_up] using hG
      have hp_37 := hp
      rw [hp] at hE
      unfold F_X2_readInto_c37 at hE
      try dsimp only at hE
      have k37 := keep_hp hp_37 (zKe l) hok31 hs20
      refine lv_aload_n hx hb dX2_readInto_40 rfl (lv_at hl 0 rfl) ?_
      refine lv_bipush (v := 59) hx hb dX2_readInto_41 (by decide) ?_
      refine g_cv (g_runV (n := 1) (rest := []) hx hb hml hown hts hG (c_X2_expect 59 k37.1) tw_ml_RX2_33 tw_im_X2_expect tw_se_X2_expect tw_in_RX2 tw_cd_X2_expect (by decide +kernel) ⟨rfl, rfl, Nat.le_of_ble_eq_true rfl, Nat.le_of_ble_eq_true rfl⟩ gw_Scribe rfl rfl hl.1 rfl (Nat.le_of_ble_eq_true rfl) dX2_readInto_43 ⟨Nat.le_refl _, Nat.le_refl _⟩) hG hA (fun u H locs hp hG => ?_)
      obtain ⟨sb_43, rfl⟩ : ∃ z, z = u := ⟨u, rfl⟩
      replace hG : gS g A s H locs (gW g bb (va_up tx t2 T2_37) rw sb_43 dy tn mo jk) := by simpa only [up_up] using hG
      have hp_43 := hp
      rw [hp] at hE
      unfold F_X2_readInto_c43 at hE
      try dsimp only at hE
      have hok43 : sOK sb_43 := expect_ok hp_43 k37.1
      refine lv_aload_n hx hb dX2_readInto_46 rfl (lv_at hl 1 rfl) ?_
      refine lv_iload_n hx hb dX2_readInto_47 rfl (lv_at hl 2 rfl) ?_
      refine g_cv (g_runV (n := 1) (rest := []) hx hb hml hown hts hG (c_X3_endPart ht2 (up_same _ _ _) x2_20 (by clear hE; omega)) tw_ml_RX2_41 tw_im_X3_endPart tw_se_X3_endPart tw_in_RX3 tw_cd_X3_endPart (by decide +kernel) ⟨rfl, rfl, Nat.le_of_ble_eq_true rfl, Nat.le_of_ble_eq_true rfl⟩ (gw_Text ht2 (up_same _ _ _)) rfl rfl hl.1 rfl (Nat.le_of_ble_eq_true rfl) dX2_readInto_48 ⟨Nat.le_refl _, Nat.le_refl _⟩) hG hA (fun u H locs hp hG => ?_)
      obtain ⟨T2_48, rfl⟩ : ∃ z, z = u := ⟨u, rfl⟩
      replace hG : gS g A s H locs (gW g bb (va_up tx t2 T2_48) rw sb_43 dy tn mo jk) := by simpa only [up_up] using hG
      have hp_48 := hp
      rw [hp] at hE
      unfold F_X2_readInto_c48 at hE
      try dsimp only at hE
      have hs48 : 0 ≤ (T2_48.1 3).toInt := by rw [← hp_48]; exact k37.2
      refine lv_iinc (v := (x2_20 + 1)) (lv' := [(2, .int (x2_20 + 1)), (0, .ref (gA g 35)), (1, .ref (gA g (3 + 4 * t2)))]) hx hb dX2_readInto_51 hl (k := 2) rfl rfl (by decide) rfl (fun ls hl => ?_)
      replace hl := lv_sub hl [1, 2, 0] (l' := [(0, .ref (gA g 35)), (1, .ref (gA g (3 + 4 * t2))), (2, .int (x2_20 + 1))]) rfl
      refine lv_goto (tgt := 20) hx hb dX2_readInto_54 (by decide) ?_
      have e1 : (x2_20 + 1).toInt = x2_20.toInt + 1 := addL (k := 1) (by decide +kernel) (by clear hE; omega) (by clear hE; omega)
      exact ih20 (x2_20 + 1) sb_43 T2_48 _ _ hG _ (lv_sub hl [0, 1, 2] rfl) (by clear hE; omega) (by clear hE; omega) (by clear hE; omega) hok43 hs48 hE
  exact L20 4 0 sb_15 T2_11 _ _ hG _ (lv_sub hl [0, 1, 2] rfl) (by decide) (by decide) (by decide) hok15 hs15 hE
def F_X5_text_c32 (u : Int32 × Ob × Ob) (tx : Nat → Ob) (bb : Ob) : Int32 × Ob × Ob × Ob :=
  (if u.1 < 0 then ((((setS bb 7 ((bb.1 7) + 1)).1 7) - 1), (setS bb 7 ((bb.1 7) + 1)), u.2.1, u.2.2) else (((-100) - u.1), bb, u.2.1, u.2.2))
def F_X5_text (tx : Nat → Ob) (bb : Ob) (sb : Ob) : Int32 × Ob × Ob × Ob :=
  (if (bb.1 7) < 0 then ((-4), bb, sb, (tx (Int32.toNatClampNeg (bb.1 7)))) else (if (bb.1 7) < 6 then (F_X5_text_c32 (F_X2_readInto sb (tx (Int32.toNatClampNeg (bb.1 7)))) tx bb) else ((-4), bb, sb, (tx (Int32.toNatClampNeg (bb.1 7))))))
set_option maxHeartbeats 4000000 in
set_option maxRecDepth 100000 in
theorem c_X5_text {l : Launch} {g : GG} {sz : Nat} {bb : Ob} {tx rw : Nat → Ob} {sb dy : Ob} {tn : Nat → Ob} {mo : Ob} {jk : Nat → Nat → Int32}   (hz : (sb.1 1).toInt ≤ 160) : Met l yX5_text (Cond.code yX5_text cX5_text 2 (some .int) :: TT) (rmL (46)) (va_Pc [.ref (gA g 0)] (gB g sz (gW g bb tx rw sb dy tn mo jk))) (va_Qi (fun r (u : Ob × Ob × Ob) => (F_X5_text tx bb sb) = (r, u.1, u.2.1, u.2.2)) (fun u t => gC g (va_A (gW g bb tx rw sb dy tn mo jk) sz) (gW g u.1 (va_up tx (Int32.toNatClampNeg (bb.1 7)) u.2.2) rw u.2.1 dy tn mo jk) t) (va_A (gW g bb tx rw sb dy tn mo jk) sz)) 0 0 (va_A (gW g bb tx rw sb dy tn mo jk) sz) := by
  generalize hE : F_X5_text tx bb sb = EE
  refine g_of (Qf := fun A => (va_Qi (fun r (u : Ob × Ob × Ob) => EE = (r, u.1, u.2.1, u.2.2)) (fun u t => gC g A (gW g u.1 (va_up tx (Int32.toNatClampNeg (bb.1 7)) u.2.2) rw u.2.1 dy tn mo jk) t) A)) (cc := cX5_text) (maxL := 2) (ret := (some .int)) (by decide) (Nat.le_of_ble_eq_true rfl) ?_
  intro p e s m below meth c A ls hx hb hml hr hlocks hts hown hA hG hl
  replace hown : s.vm.findClass RX5 = some m.cls := hown
  replace hl : lv_has ls 2 [(0, .ref (gA g 0))] := hl
  show W p l e (rmL (46)) s m [.ref (gA g 0)].toArray below meth c s.heap [] 0 0 (MQ below (va_Qi (fun r (u : Ob × Ob × Ob) => EE = (r, u.1, u.2.1, u.2.2)) (fun u t => gC g A (gW g u.1 (va_up tx (Int32.toNatClampNeg (bb.1 7)) u.2.2) rw u.2.1 dy tn mo jk) t) A) [.ref (gA g 0)].toArray s 0 0 A) (F0 m 0 ls [])
  generalize hQ : MQ below (va_Qi (fun r (u : Ob × Ob × Ob) => EE = (r, u.1, u.2.1, u.2.2)) (fun u t => gC g A (gW g u.1 (va_up tx (Int32.toNatClampNeg (bb.1 7)) u.2.2) rw u.2.1 dy tn mo jk) t) A) [.ref (gA g 0)].toArray s 0 0 A = Q
  replace hG : gS g A s s.heap [] (gW g bb (va_up tx (Int32.toNatClampNeg (bb.1 7)) (tx (Int32.toNatClampNeg (bb.1 7)))) rw sb dy tn mo jk) := by simpa only [up_self] using hG
  unfold F_X5_text at hE
  refine lv_aload_n hx hb dX5_text_0 rfl (lv_at hl 0 rfl) ?_
  refine g_get hx hb hts hiX5 hown hG gw_Bell rfl 7 (by decide) (index := 35) tw_fl_RX5_35 (v := .int (bb.1 7)) rfl dX5_text_1 ?_
  refine lv_if_lt (tgt := 16) hx hb dX5_text_4 (by decide) (fun c_4 => ?_) (fun c_4 => ?_)
  · replace hE := (if_pos c_4).symm.trans hE
    have i_4 : (bb.1 7).toInt < 0 := i_lt.mp c_4
    refine lv_bipush (v := (-4)) hx hb dX5_text_16 (by decide) ?_
    subst hQ
    exact g_iret hx hb hr hlocks hG ((bb, sb, (tx (Int32.toNatClampNeg (bb.1 7)))) : Ob × Ob × Ob) rfl hE.symm dX5_text_18
  replace hE := (if_neg c_4).symm.trans hE
  have i_4 : 0 ≤ (bb.1 7).toInt := i_nlt c_4
  refine lv_aload_n hx hb dX5_text_7 rfl (lv_at hl 0 rfl) ?_
  refine g_get hx hb hts hiX5 hown hG gw_Bell rfl 7 (by decide) (index := 35) tw_fl_RX5_35 (v := .int (bb.1 7)) rfl dX5_text_8 ?_
  refine lv_bipush (v := 6) hx hb dX5_text_11 (by decide) ?_
  refine lv_icmp_lt (tgt := 19) hx hb dX5_text_13 (by decide) (fun c_13 => ?_) (fun c_13 => ?_)
  · replace hE := (if_pos c_13).symm.trans hE
    have i_13 : (bb.1 7).toInt < 6 := i_lt.mp c_13
    refine lv_aload_n hx hb dX5_text_19 rfl (lv_at hl 0 rfl) ?_
    refine g_get hx hb hts hiX5 hown hG gw_Bell rfl 2 (by decide) (index := 24) tw_fl_RX5_24 (v := .ref (gA g 35)) rfl dX5_text_20 ?_
    refine lv_aload_n hx hb dX5_text_23 rfl (lv_at hl 0 rfl) ?_
    refine g_get hx hb hts hiX5 hown hG gw_Bell rfl 0 (by decide) (index := 11) tw_fl_RX5_11 (v := .ref (gA g 1)) rfl dX5_text_24 ?_
    refine lv_aload_n hx hb dX5_text_27 rfl (lv_at hl 0 rfl) ?_
    refine g_get hx hb hts hiX5 hown hG gw_Bell rfl 7 (by decide) (index := 35) tw_fl_RX5_35 (v := .int (bb.1 7)) rfl dX5_text_28 ?_
    have hi_31 : vp_in (bb.1 7) 6 := (vp_i (by clear hE; omega) (by clear hE; omega))
    have hj_31 := vp_lt hi_31
    refine g_ald hx hb hG (q0 := 1) (t0 := 2) rfl rfl hi_31 (b := gA g (3 + 4 * (Int32.toNatClampNeg (bb.1 7)))) rfl dX5_text_31 ?_
    refine g_ci (g_runV (n := 1) (rest := []) hx hb hml hown hts hG (c_X2_readInto hj_31 (up_same _ _ _) (by clear hE; omega)) tw_ml_RX5_93 tw_im_X2_readInto tw_se_X2_readInto tw_in_RX2 tw_cd_X2_readInto (by decide +kernel) ⟨rfl, rfl, Nat.le_of_ble_eq_true rfl, Nat.le_of_ble_eq_true rfl⟩ gw_Scribe rfl rfl hl.1 rfl (Nat.le_of_ble_eq_true rfl) dX5_text_32 ⟨Nat.le_refl _, Nat.le_refl _⟩) hG hA (fun r_32 u H locs hp hG => ?_)
    obtain ⟨sb_32, q_m_32⟩ := u
    replace hG : gS g A s H locs (gW g bb (va_up tx (Int32.toNatClampNeg (bb.1 7)) q_m_32) rw sb_32 dy tn mo jk) := by simpa only [up_up] using hG
    have hp_32 := hp
    rw [hp] at hE
    unfold F_X5_text_c32 at hE
    try dsimp only at hE
    refine lv_istore_n (lv' := [(1, .int r_32), (0, .ref (gA g 0))]) hx hb dX5_text_35 rfl hl (by decide) rfl (fun ls hl => ?_)
    replace hl := lv_sub hl [1, 0] (l' := [(0, .ref (gA g 0)), (1, .int r_32)]) rfl
    refine lv_iload_n hx hb dX5_text_36 rfl (lv_at hl 1 rfl) ?_
    refine lv_if_lt (tgt := 45) hx hb dX5_text_37 (by decide) (fun c_37 => ?_) (fun c_37 => ?_)
    · replace hE := (if_pos c_37).symm.trans hE
      have i_37 : r_32.toInt < 0 := i_lt.mp c_37
      refine lv_aload_n hx hb dX5_text_45 rfl (lv_at hl 0 rfl) ?_
      refine lv_dup hx hb dX5_text_46 rfl ?_
      refine g_get hx hb hts hiX5 hown hG gw_Bell rfl 7 (by decide) (index := 35) tw_fl_RX5_35 (v := .int (bb.1 7)) rfl dX5_text_47 ?_
      refine lv_iconst (v := 1) hx hb dX5_text_50 (by decide) ?_
      refine lv_iadd hx hb dX5_text_51 ?_
      refine g_put hx hb hts hiX5 tyX5 tyX5_ok nmX5 hown hG gw_Bell rfl 7 (by decide) (index := 35) tw_fl_RX5_35 rfl rfl rfl (Nat.le_of_ble_eq_true rfl) gs_Bell_f7 dX5_text_52 (fun H locs hG => ?_)
      refine lv_aload_n hx hb dX5_text_55 rfl (lv_at hl 0 rfl) ?_
      refine g_get hx hb hts hiX5 hown hG gw_Bell rfl 7 (by decide) (index := 35) tw_fl_RX5_35 (v := .int ((setS bb 7 ((bb.1 7) + 1)).1 7)) rfl dX5_text_56 ?_
      refine lv_iconst (v := 1) hx hb dX5_text_59 (by decide) ?_
      refine lv_isub hx hb dX5_text_60 ?_
      subst hQ
      exact g_iret hx hb hr hlocks hG (((setS bb 7 ((bb.1 7) + 1)), sb_32, q_m_32) : Ob × Ob × Ob) rfl hE.symm dX5_text_61
    replace hE := (if_neg c_37).symm.trans hE
    have i_37 : 0 ≤ r_32.toInt := i_nlt c_37
    refine lv_bipush (v := (-100)) hx hb dX5_text_40 (by decide) ?_
    refine lv_iload_n hx hb dX5_text_42 rfl (lv_at hl 1 rfl) ?_
    refine lv_isub hx hb dX5_text_43 ?_
    subst hQ
    exact g_iret hx hb hr hlocks hG ((bb, sb_32, q_m_32) : Ob × Ob × Ob) rfl hE.symm dX5_text_44
  replace hE := (if_neg c_13).symm.trans hE
  have i_13 : 6 ≤ (bb.1 7).toInt := i_nlt c_13
  refine lv_bipush (v := (-4)) hx hb dX5_text_16 (by decide) ?_
  subst hQ
  exact g_iret hx hb hr hlocks hG ((bb, sb, (tx (Int32.toNatClampNeg (bb.1 7)))) : Ob × Ob × Ob) rfl hE.symm dX5_text_18
