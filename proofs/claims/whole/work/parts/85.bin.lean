-- PURE: a value, a sign, a value
def Rd (ql rq tt : Int32) (X : Int32 → Ob → Prop) (L : Ob → Ob → Prop) (p : Int32) (rd : Ob → Ob → Int32 → Ob × Ob) : Prop := ∀ (n : Nat) (s u : Ob) (x2 : Int32) (h : List Int32) (T : Ob), Mo n s u → Ad tt T u h → sgOK h → lowR ql h → p.toInt = cnt h → X x2 u → Cl rq tt L n u x2 h T (rd s T p)
def Fdd (p : Int32) (rd : Ob → Ob → Int32 → Ob × Ob) : Prop := ∀ s T : Ob, Fl s → (rd s T p).1 = s
def Cq (r tt : Int32) (L : Ob → Ob → Prop) (n : Nat) (u : Ob) (y : Int32) (h : List Int32) (T0 : Ob) (o : Ob × Ob) : Prop := Flt n u 0 y o.1 ∨ ∃ n' u' y', n' ≤ n ∧ F_X6_eRead_c15 (F_X6_eRead_l14 n) u 0 y = F_X6_eRead_c15 (F_X6_eRead_l14 n') u' 0 y' ∧ Okc r tt h T0 n' o.1 u' o.2 ∧ L o.1 u'
theorem bin_step {r ql rq tt p sg st : Int32} {X : Int32 → Ob → Prop} {L : Ob → Ob → Prop} {rd : Ob → Ob → Int32 → Ob × Ob} (R : Rd ql rq tt X L p rd) {h : List Int32} {T0 : Ob} {n : Nat} {s u T : Ob} {y : Int32} (k : Okc r tt h T0 n s u T) (hg : sgOK h) (hs : F_X6_signOf u = sg) (h1 : ¬ sg = -1) (h2 : ¬ u.1 20 = 59) (h3 : ¬ u.1 20 = 41) (h0 : ¬ u.1 20 = 0) (hr : F_X6_rank sg = r) (r4 : ¬ r = 4) (r1 : 1 ≤ r.toInt) (hl : lowR r h) (hO : isO sg = 0)
    (hq : F_X6_rank sg < ql) (hrq : r.toInt ≤ rq.toInt) (hp : p.toInt = cnt h) (hX : ∀ u, X (if 12 < sg then 0 else 1) u) (hsg : 11 ≤ sg.toInt ∧ sg.toInt ≤ 19) (hst : 4 - sg = st) (he : eff st = -1 ∧ need st = 2) :
    Flt n u 0 y (rd (F_X2_step s) T p).1 ∨ ∃ n' u' y', n' < n ∧ F_X6_eRead_c15 (F_X6_eRead_l14 n) u 0 y = F_X6_eRead_c15 (F_X6_eRead_l14 n') u' 0 y' ∧ Okc r tt h T0 n' (rd (F_X2_step s) T p).1 u' (F_X3_add (rd (F_X2_step s) T p).2 st) ∧ L (rd (F_X2_step s) T p).1 u' := by
  have kT := k.2.1
  obtain ⟨n1, u1, g1, g2, g3, g4⟩ := sign_next k hs h1 h2 h3 h0 hr r4 r1 hl hO
  have hc : p.toInt = cnt (sg :: h) := by
    have : cnt (sg :: h) = isO sg + cnt h := rfl
    rw [this, hO]
    omega
  have hg' : sgOK (sg :: h) := by
    intro x hx
    cases hx with
    | head => exact Or.inr hsg
    | tail _ hx => exact hg x hx
  have hR := R n1 (F_X2_step s) u1 _ (sg :: h) T g3 g4 hg' hq hc (hX u1)
  obtain ⟨o, ho⟩ : ∃ o, o = rd (F_X2_step s) T p := ⟨_, rfl⟩
  rw [← ho] at hR ⊢
  rcases hR with ⟨f1, u', f2, f3⟩ | ⟨n', u', y', q1, q2, q3, q4⟩
  · exact Or.inl ⟨f1, u', g2.trans f2, f3⟩
  · obtain ⟨a, ⟨⟨b1, b2⟩, b3⟩, hh, TT, c, d, e⟩ := q3.low hrq
    have hok := a.ok
    have el : ((sg :: h).length : Int) = h.length + 1 := by rw [List.length_cons]; omega
    have hT : (o.2.1 3).toInt < 160 := by
      have := hok.2
      omega
    refine Or.inr ⟨n', u', y', by omega, g2.trans q2, ⟨a, ⟨⟨?_, ?_⟩, kT.2.bin b3 hT he⟩, hh, TT, c, d, ?_⟩, q4⟩
    · have z : (o.2.1 3 + 1).toInt = (o.2.1 3).toInt + 1 := addL (k := 1) (by decide +kernel) (by omega) (by omega)
      rw [add_is hT]
      show 0 ≤ (o.2.1 3 + 1).toInt
      omega
    · have z : (o.2.1 3 + 1).toInt = (o.2.1 3).toInt + 1 := addL (k := 1) (by decide +kernel) (by omega) (by omega)
      rw [add_is hT]
      show (h.length : Int) + (o.2.1 3 + 1).toInt ≤ (u'.1 18).toInt
      omega
    · rw [e, U_pop (r := r) o.2 (fun z => by
        have := i_lt.mp z
        rw [hr] at this
        omega), hst]
/-- what readTerm leaves: no star -/
def L6 (s u : Ob) : Prop := ¬ s.1 4 = 42
def X0 (x2 : Int32) (u : Ob) : Prop := x2 = 0 ∨ ¬ u.1 20 = 6
def Lt (s u : Ob) : Prop := True
theorem term_fl (ro : Ob → Ob → Int32 → Ob × Ob) {s T : Ob} {p x3 : Int32} (h : Fl s) : ∀ f, (F_X2_readTerm_l8 f ro s T p x3).1 = s := by
  intro f
  cases f with
  | zero => rfl
  | succ f =>
    unfold F_X2_readTerm_l8
    split
    · rfl
    · rw [if_neg (by rw [h.1]; decide)]
theorem rd_lt {n : Nat} {s u : Ob} (h : Mo n s u) {c t : Int} (hc : (s.1 4).toInt = c) (hz : ∀ v w t', tkZ c v t' w → t' = t) : (u.1 20).toInt = t := by
  have z := h.tk
  rw [hc] at z
  exact hz _ _ _ z
theorem term_loop {tt p : Int32} {ro : Ob → Ob → Int32 → Ob × Ob} (R : Rd 8 7 tt X0 Lt p ro) {h : List Int32} {T0 : Ob} (hg : sgOK h) (hl : lowR 6 h) (hp : p.toInt = cnt h) : ∀ (f n : Nat) (s u T : Ob) (x3 y : Int32), Okc 6 tt h T0 n s u T → 0 ≤ x3.toInt → x3.toInt + n ≤ 160 → 160 < x3.toInt + f → Cq 6 tt L6 n u y h T0 (F_X2_readTerm_l8 f ro s T p x3) := by
  intro f
  induction f with
  | zero => intro n s u T x3 y k h0 h1 h2; omega
  | succ f ih =>
    intro n s u T x3 y k h0 h1 h2
    have e160 : (160 : Int32).toInt = 160 := rfl
    unfold F_X2_readTerm_l8
    by_cases c : s.1 4 = 42
    · have ez : (u.1 20).toInt = 42 := rd_lt k.1 (c := 42) (by rw [c]; rfl) fun v w t' z => by unfold tkZ at z; omega
      have eu : u.1 20 = 42 := Int32.toInt_inj.mp (ez.trans rfl)
      have hn : 0 < n := by
        have g1 := k.1.2.2.2.1 (by rw [eu]; decide)
        have g2 := k.1.ok.2
        omega
      rw [if_neg (fun q => by have := i_le.mp q; omega), if_pos c]
      unfold F_X2_readTerm_c25 F_X2_readTerm_c31 F_X2_readTerm_c37
      have B := bin_step (st := -14) (sg := 18) (y := y) R k hg (by unfold F_X6_signOf; rw [eu]; decide) (by decide) (by rw [eu]; decide) (by rw [eu]; decide) (by rw [eu]; decide) (by decide) (by decide) (by decide) hl (by decide) (by decide) (by decide) hp (fun u => Or.inl (by decide)) (by decide) (by decide) (by decide)
      obtain ⟨o, ho⟩ : ∃ o, o = ro (F_X2_step s) T p := ⟨_, rfl⟩
      rw [← ho] at B ⊢
      rcases B with F | ⟨n', u', y', q1, q2, q3, q4⟩
      · left
        unfold Flt
        rw [term_fl ro F.1 f]
        exact F
      · have ex : (x3 + 1).toInt = x3.toInt + 1 := addL (k := 1) (by decide +kernel) (by omega) (by omega)
        rcases ih n' o.1 u' (F_X3_add o.2 (-14)) (x3 + 1) y' q3 (by omega) (by omega) (by omega) with F | ⟨n2, u2, y2, w1, w2, w3⟩
        · exact Or.inl ⟨F.1, by rw [q2]; exact F.2⟩
        · exact Or.inr ⟨n2, u2, y2, by omega, q2.trans w2, w3⟩
    · rw [if_neg c]
      have e : (if 160 ≤ x3 then (s, T) else (s, T)) = (s, T) := by split <;> rfl
      rw [e]
      exact Or.inr ⟨n, u, y, Nat.le_refl _, rfl, k, c⟩
