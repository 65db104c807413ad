-- PURE: and, or
/-- what readNot leaves: no sign of numbers; a comparison only after a comparison -/
def L3 (tt : Int32) (s u : Ob) : Prop := L5 s u ∧ ((s.1 4 = 60 ∨ s.1 4 = 61) → ∃ T5 h5 s5, Ac 0 tt T5 (unw 5 u) (s5 :: h5) ∧ F_X6_rank s5 = 4)
def L2 (tt : Int32) (s u : Ob) : Prop := L3 tt s u ∧ ¬ s.1 4 = 260
def L1 (tt : Int32) (s u : Ob) : Prop := L2 tt s u ∧ ¬ s.1 4 = 259
def X1 (x2 : Int32) (u : Ob) : Prop := x2 = 1
theorem both_fl (ro : Ob → Ob → Int32 → Ob × Ob) {s T : Ob} {p x3 : Int32} (h : Fl s) : ∀ f, (F_X2_readBoth_l8 f ro s T p x3).1 = s := by
  intro f
  cases f with
  | zero => rfl
  | succ f =>
    unfold F_X2_readBoth_l8
    split
    · rfl
    · rw [if_neg (by rw [h.1]; decide)]
theorem both_loop {tt p : Int32} {ro : Ob → Ob → Int32 → Ob × Ob} (R : Rd 4 3 tt X1 (L3 tt) p ro) {h : List Int32} {T0 : Ob} (hg : sgOK h) (hl : lowR 2 h) (hp : p.toInt = cnt h) : ∀ (f n : Nat) (s u T : Ob) (x3 y : Int32), Okc 2 tt h T0 n s u T → L3 tt s u → 0 ≤ x3.toInt → x3.toInt + n ≤ 160 → 160 < x3.toInt + f → Cq 2 tt (L2 tt) n u y h T0 (F_X2_readBoth_l8 f ro s T p x3) := by
  intro f
  induction f with
  | zero => intro n s u T x3 y k kL h0 h1 h2; omega
  | succ f ih =>
    intro n s u T x3 y k kL h0 h1 h2
    have e160 : (160 : Int32).toInt = 160 := rfl
    have hn : ¬ u.1 20 = 0 → 0 < n := fun q => by
      have g1 := k.1.2.2.2.1 q
      have g2 := k.1.ok.2
      omega
    have ex : x3.toInt < 160 → (x3 + 1).toInt = x3.toInt + 1 := fun q => addL (k := 1) (by decide +kernel) (by omega) (by omega)
    unfold F_X2_readBoth_l8
    by_cases c : s.1 4 = 260
    · have ez : (u.1 20).toInt = 5 := rd_lt k.1 (c := 260) (by rw [c]; rfl) fun v w t' z => by unfold tkZ at z; omega
      have eu : u.1 20 = 5 := Int32.toInt_inj.mp (ez.trans rfl)
      have hn' := hn (by rw [eu]; decide)
      rw [if_neg (fun q => by have := i_le.mp q; omega), if_pos c]
      unfold F_X2_readBoth_c26 F_X2_readBoth_c32 F_X2_readBoth_c38
      have B := bin_step (st := -8) (sg := 12) (y := y) R k hg (by unfold F_X6_signOf; rw [eu]; decide) (by decide) (by rw [eu]; decide) (by rw [eu]; decide) (by rw [eu]; decide) (by decide) (by decide) (by decide) hl (by decide) (by decide) (by decide) hp (fun u => by unfold X1; decide) (by decide) (by decide) (by decide)
      exact bin_go B (fun n' u' y' q1 q3 q4 => ih n' _ u' _ (x3 + 1) y' q3 q4 (by have := ex (by omega); omega) (by have := ex (by omega); omega) (by have := ex (by omega); omega)) fun z => both_fl ro z f
    rw [if_neg c]
    have e : (if 160 ≤ x3 then (s, T) else (s, T)) = (s, T) := by split <;> rfl
    rw [e]
    exact Or.inr ⟨n, u, y, Nat.le_refl _, rfl, k, kL, c⟩
theorem rd_both {tt p : Int32} {ro : Ob → Ob → Int32 → Ob × Ob} (R : Rd 4 3 tt X1 (L3 tt) p ro) (F : Fdd p ro) : Rd 2 2 tt X1 (L2 tt) p (F_X2_readBoth ro) ∧ Fdd p (F_X2_readBoth ro) := by
  refine ⟨fun n s u x2 h T hm hk hg hl hp hX => ?_, fun s T hs => ?_⟩
  · have C := R n s u x2 h T hm hk hg (hl.mono (by decide)) hp hX
    unfold F_X2_readBoth F_X2_readBoth_c3
    have hn := hm.2.2.2.2
    exact first_go (by decide) C (fun n' u' y' q1 q2 q3 => both_loop R hg hl hp 161 n' _ u' _ 0 y' q2 q3 (by decide) (by have e0 : (0 : Int32).toInt = 0 := rfl; omega) (by decide)) fun z => both_fl ro z 161
  · unfold F_X2_readBoth F_X2_readBoth_c3
    have e := F s T hs
    have := both_fl ro (s := (ro s T p).1) (T := (ro s T p).2) (p := p) (x3 := 0) (by rw [e]; exact hs) 161
    rw [this, e]
theorem either_fl (ro : Ob → Ob → Int32 → Ob × Ob) {s T : Ob} {p x3 : Int32} (h : Fl s) : ∀ f, (F_X2_readEither_l8 f ro s T p x3).1 = s := by
  intro f
  cases f with
  | zero => rfl
  | succ f =>
    unfold F_X2_readEither_l8
    split
    · rfl
    · rw [if_neg (by rw [h.1]; decide)]
theorem either_loop {tt p : Int32} {ro : Ob → Ob → Int32 → Ob × Ob} (R : Rd 2 2 tt X1 (L2 tt) p ro) {h : List Int32} {T0 : Ob} (hg : sgOK h) (hl : lowR 1 h) (hp : p.toInt = cnt h) : ∀ (f n : Nat) (s u T : Ob) (x3 y : Int32), Okc 1 tt h T0 n s u T → L2 tt s u → 0 ≤ x3.toInt → x3.toInt + n ≤ 160 → 160 < x3.toInt + f → Cq 1 tt (L1 tt) n u y h T0 (F_X2_readEither_l8 f ro s T p x3) := by
  intro f
  induction f with
  | zero => intro n s u T x3 y k kL h0 h1 h2; omega
  | succ f ih =>
    intro n s u T x3 y k kL h0 h1 h2
    have e160 : (160 : Int32).toInt = 160 := rfl
    have hn : ¬ u.1 20 = 0 → 0 < n := fun q => by
      have g1 := k.1.2.2.2.1 q
      have g2 := k.1.ok.2
      omega
    have ex : x3.toInt < 160 → (x3 + 1).toInt = x3.toInt + 1 := fun q => addL (k := 1) (by decide +kernel) (by omega) (by omega)
    unfold F_X2_readEither_l8
    by_cases c : s.1 4 = 259
    · have ez : (u.1 20).toInt = 4 := rd_lt k.1 (c := 259) (by rw [c]; rfl) fun v w t' z => by unfold tkZ at z; omega
      have eu : u.1 20 = 4 := Int32.toInt_inj.mp (ez.trans rfl)
      have hn' := hn (by rw [eu]; decide)
      rw [if_neg (fun q => by have := i_le.mp q; omega), if_pos c]
      unfold F_X2_readEither_c26 F_X2_readEither_c32 F_X2_readEither_c38
      have B := bin_step (st := -7) (sg := 11) (y := y) R k hg (by unfold F_X6_signOf; rw [eu]; decide) (by decide) (by rw [eu]; decide) (by rw [eu]; decide) (by rw [eu]; decide) (by decide) (by decide) (by decide) hl (by decide) (by decide) (by decide) hp (fun u => by unfold X1; decide) (by decide) (by decide) (by decide)
      exact bin_go B (fun n' u' y' q1 q3 q4 => ih n' _ u' _ (x3 + 1) y' q3 q4 (by have := ex (by omega); omega) (by have := ex (by omega); omega) (by have := ex (by omega); omega)) fun z => either_fl ro z f
    rw [if_neg c]
    have e : (if 160 ≤ x3 then (s, T) else (s, T)) = (s, T) := by split <;> rfl
    rw [e]
    exact Or.inr ⟨n, u, y, Nat.le_refl _, rfl, k, kL, c⟩
theorem rd_either {tt p : Int32} {ro : Ob → Ob → Int32 → Ob × Ob} (R : Rd 2 2 tt X1 (L2 tt) p ro) (F : Fdd p ro) : Rd 1 1 tt X1 (L1 tt) p (F_X2_readEither ro) ∧ Fdd p (F_X2_readEither ro) := by
  refine ⟨fun n s u x2 h T hm hk hg hl hp hX => ?_, fun s T hs => ?_⟩
  · have C := R n s u x2 h T hm hk hg (hl.mono (by decide)) hp hX
    unfold F_X2_readEither F_X2_readEither_c3
    have hn := hm.2.2.2.2
    exact first_go (by decide) C (fun n' u' y' q1 q2 q3 => either_loop R hg hl hp 161 n' _ u' _ 0 y' q2 q3 (by decide) (by have e0 : (0 : Int32).toInt = 0 := rfl; omega) (by decide)) fun z => either_fl ro z 161
  · unfold F_X2_readEither F_X2_readEither_c3
    have e := F s T hs
    have := either_fl ro (s := (ro s T p).1) (T := (ro s T p).2) (p := p) (x3 := 0) (by rw [e]; exact hs) 161
    rw [this, e]
