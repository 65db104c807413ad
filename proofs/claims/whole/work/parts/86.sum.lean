-- PURE: terms, sums, and, or
theorem bin_go {r tt st : Int32} {L L' : Ob → Ob → Prop} {h : List Int32} {T0 : Ob} {n : Nat} {u : Ob} {y : Int32} {o out : Ob × Ob}
    (B : Flt n u 0 y o.1 ∨ ∃ n' u' y', n' < n ∧ F_X6_eRead_c15 (F_X6_eRead_l14 n) u 0 y = F_X6_eRead_c15 (F_X6_eRead_l14 n') u' 0 y' ∧ Okc r tt h T0 n' o.1 u' (F_X3_add o.2 st) ∧ L o.1 u')
    (nx : ∀ (n' : Nat) (u' : Ob) (y' : Int32), n' < n → Okc r tt h T0 n' o.1 u' (F_X3_add o.2 st) → L o.1 u' → Cq r tt L' n' u' y' h T0 out) (fl : Fl o.1 → out.1 = o.1) : Cq r tt L' n u y h T0 out := by
  rcases B with F | ⟨n', u', y', q1, q2, q3, q4⟩
  · left
    unfold Flt
    rw [fl F.1]
    exact F
  · rcases nx n' u' y' q1 q3 q4 with F | ⟨n2, u2, y2, w1, w2, w3⟩
    · exact Or.inl ⟨F.1, by rw [q2]; exact F.2⟩
    · exact Or.inr ⟨n2, u2, y2, by omega, q2.trans w2, w3⟩
/-- the first value, and then the loop -/
theorem first_go {r q tt : Int32} {L L' : Ob → Ob → Prop} {h : List Int32} {T : Ob} {n : Nat} {u : Ob} {x2 : Int32} {o out : Ob × Ob} (hq : r.toInt ≤ q.toInt) (C : Cl q tt L n u x2 h T o)
    (nx : ∀ (n' : Nat) (u' : Ob) (y' : Int32), n' ≤ n → Okc r tt h T n' o.1 u' o.2 → L o.1 u' → Cq r tt L' n' u' y' h T out) (fl : Fl o.1 → out.1 = o.1) : Cl r tt L' n u x2 h T out := by
  rcases C with F | ⟨n', u', y', q1, q2, q3, q4⟩
  · left
    unfold Flt
    rw [fl F.1]
    exact F
  · rcases nx n' u' y' q1 (q3.low hq) q4 with F | ⟨n2, u2, y2, w1, w2, w3⟩
    · exact Or.inl ⟨F.1, by rw [q2]; exact F.2⟩
    · exact Or.inr ⟨n2, u2, y2, by omega, q2.trans w2, w3⟩
theorem lowR.mono {a b : Int32} {h : List Int32} (k : lowR a h) (hab : a.toInt ≤ b.toInt) : lowR b h := by
  cases h with
  | nil => trivial
  | cons s h =>
    have := i_lt.mp k
    exact i_lt.mpr (by omega)
theorem rd_term {tt p : Int32} {ro : Ob → Ob → Int32 → Ob × Ob} (R : Rd 8 7 tt X0 Lt p ro) (F : Fdd p ro) : Rd 6 6 tt X0 L6 p (F_X2_readTerm ro) ∧ Fdd p (F_X2_readTerm ro) := by
  refine ⟨fun n s u x2 h T hm hk hg hl hp hX => ?_, fun s T hs => ?_⟩
  · have C := R n s u x2 h T hm hk hg (hl.mono (by decide)) hp hX
    unfold F_X2_readTerm F_X2_readTerm_c3
    have hn := hm.2.2.2.2
    exact first_go (by decide) C (fun n' u' y' q1 q2 _ => term_loop R hg hl hp 161 n' _ u' _ 0 y' q2 (by decide) (by have e0 : (0 : Int32).toInt = 0 := rfl; omega) (by decide)) fun z => term_fl ro z 161
  · unfold F_X2_readTerm F_X2_readTerm_c3
    have e := F s T hs
    have := term_fl ro (s := (ro s T p).1) (T := (ro s T p).2) (p := p) (x3 := 0) (by rw [e]; exact hs) 161
    rw [this, e]
def L5 (s u : Ob) : Prop := ¬ s.1 4 = 42 ∧ ¬ s.1 4 = 43 ∧ ¬ s.1 4 = 45
theorem sum_fl (ro : Ob → Ob → Int32 → Ob × Ob) {s T : Ob} {p x3 : Int32} (h : Fl s) : ∀ f, (F_X2_readSum_l8 f ro s T p x3).1 = s := by
  intro f
  cases f with
  | zero => rfl
  | succ f =>
    unfold F_X2_readSum_l8
    split
    · rfl
    · rw [if_neg (by rw [h.1]; decide), if_neg (by rw [h.1]; decide)]
theorem sum_loop {tt p : Int32} {ro : Ob → Ob → Int32 → Ob × Ob} (R : Rd 6 6 tt X0 L6 p ro) {h : List Int32} {T0 : Ob} (hg : sgOK h) (hl : lowR 5 h) (hp : p.toInt = cnt h) : ∀ (f n : Nat) (s u T : Ob) (x3 y : Int32), Okc 5 tt h T0 n s u T → L6 s u → 0 ≤ x3.toInt → x3.toInt + n ≤ 160 → 160 < x3.toInt + f → Cq 5 tt L5 n u y h T0 (F_X2_readSum_l8 f ro s T p x3) := by
  intro f
  induction f with
  | zero => intro n s u T x3 y k kL h0 h1 h2; omega
  | succ f ih =>
    intro n s u T x3 y k kL h0 h1 h2
    have e160 : (160 : Int32).toInt = 160 := rfl
    have hn : ¬ u.1 20 = 0 → 0 < n := fun q => by
      have g1 := k.1.2.2.2.1 q
      have g2 := k.1.ok.2
      omega
    have ex : x3.toInt < 160 → (x3 + 1).toInt = x3.toInt + 1 := fun q => addL (k := 1) (by decide +kernel) (by omega) (by omega)
    unfold F_X2_readSum_l8
    by_cases c : s.1 4 = 43
    · have ez : (u.1 20).toInt = 43 := rd_lt k.1 (c := 43) (by rw [c]; rfl) fun v w t' z => by unfold tkZ at z; omega
      have eu : u.1 20 = 43 := Int32.toInt_inj.mp (ez.trans rfl)
      have hn' := hn (by rw [eu]; decide)
      rw [if_neg (fun q => by have := i_le.mp q; omega), if_pos c]
      unfold F_X2_readSum_b33
      rw [if_pos c]
      unfold F_X2_readSum_b49 F_X2_readSum_c52 F_X2_readSum_c58 F_X2_readSum_c64
      have B := bin_step (st := -12) (sg := 16) (y := y) R k hg (by unfold F_X6_signOf; rw [eu]; decide) (by decide) (by rw [eu]; decide) (by rw [eu]; decide) (by rw [eu]; decide) (by decide) (by decide) (by decide) hl (by decide) (by decide) (by decide) hp (fun u => Or.inl (by decide)) (by decide) (by decide) (by decide)
      exact bin_go B (fun n' u' y' q1 q3 q4 => ih n' _ u' _ (x3 + 1) y' q3 q4 (by have := ex (by omega); omega) (by have := ex (by omega); omega) (by have := ex (by omega); omega)) fun z => sum_fl ro z f
    by_cases d : s.1 4 = 45
    · have ez : (u.1 20).toInt = 45 := rd_lt k.1 (c := 45) (by rw [d]; rfl) fun v w t' z => by unfold tkZ at z; omega
      have eu : u.1 20 = 45 := Int32.toInt_inj.mp (ez.trans rfl)
      have hn' := hn (by rw [eu]; decide)
      rw [if_neg (fun q => by have := i_le.mp q; omega), if_neg c, if_pos d]
      unfold F_X2_readSum_b33
      rw [if_neg c]
      unfold F_X2_readSum_b49 F_X2_readSum_c52 F_X2_readSum_c58 F_X2_readSum_c64
      have B := bin_step (st := -13) (sg := 17) (y := y) R k hg (by unfold F_X6_signOf; rw [eu]; decide) (by decide) (by rw [eu]; decide) (by rw [eu]; decide) (by rw [eu]; decide) (by decide) (by decide) (by decide) hl (by decide) (by decide) (by decide) hp (fun u => Or.inl (by decide)) (by decide) (by decide) (by decide)
      exact bin_go B (fun n' u' y' q1 q3 q4 => ih n' _ u' _ (x3 + 1) y' q3 q4 (by have := ex (by omega); omega) (by have := ex (by omega); omega) (by have := ex (by omega); omega)) fun z => sum_fl ro z f
    rw [if_neg c, if_neg d]
    have e : (if 160 ≤ x3 then (s, T) else (s, T)) = (s, T) := by split <;> rfl
    rw [e]
    exact Or.inr ⟨n, u, y, Nat.le_refl _, rfl, k, kL, c, d⟩
theorem rd_sum {tt p : Int32} {ro : Ob → Ob → Int32 → Ob × Ob} (R : Rd 6 6 tt X0 L6 p ro) (F : Fdd p ro) : Rd 5 5 tt X0 L5 p (F_X2_readSum ro) ∧ Fdd p (F_X2_readSum ro) := by
  refine ⟨fun n s u x2 h T hm hk hg hl hp hX => ?_, fun s T hs => ?_⟩
  · have C := R n s u x2 h T hm hk hg (hl.mono (by decide)) hp hX
    unfold F_X2_readSum F_X2_readSum_c3
    have hn := hm.2.2.2.2
    exact first_go (by decide) C (fun n' u' y' q1 q2 q3 => sum_loop R hg hl hp 161 n' _ u' _ 0 y' q2 q3 (by decide) (by have e0 : (0 : Int32).toInt = 0 := rfl; omega) (by decide)) fun z => sum_fl ro z 161
  · unfold F_X2_readSum F_X2_readSum_c3
    have e := F s T hs
    have := sum_fl ro (s := (ro s T p).1) (T := (ro s T p).2) (p := p) (x3 := 0) (by rw [e]; exact hs) 161
    rw [this, e]
