-- PURE: from token to token
def Mo (n : Nat) (s u : Ob) : Prop := Lx s u ∧ (∀ j, j < 96 → u.2 22 j = wordsL.getD j 0) ∧ s.1 6 = -1 ∧ (¬ u.1 20 = 0 → 161 ≤ (u.1 18).toInt + n) ∧ n ≤ 160
def Ad (tt : Int32) (T v : Ob) (h : List Int32) : Prop := Ac (if v.1 20 = 0 then 0 else 1) tt T v h
/-- what a token's use keeps -/
def kU (u v : Ob) : Prop := (∀ k : Nat, k ≠ 24 → k ≠ 25 → k ≠ 26 → v.1 k = u.1 k) ∧ (∀ k : Nat, k ≠ 7 → k ≠ 23 → v.2 k = u.2 k)
theorem kU.refl (u : Ob) : kU u u := ⟨fun _ _ _ _ => rfl, fun _ _ _ => rfl⟩
theorem kU.trans {u v w : Ob} (h : kU u v) (k : kU v w) : kU u w := ⟨fun j a b c => (k.1 j a b c).trans (h.1 j a b c), fun j a b => (k.2 j a b).trans (h.2 j a b)⟩
theorem kU.puts (u : Ob) (c : Int32) : kU u (F_X6_puts u c) := by
  unfold F_X6_puts
  refine ⟨fun k h1 h2 h3 => ?_, fun k h1 h2 => ?_⟩
  · show (if k = 26 then _ else u.1 k) = u.1 k
    rw [if_neg h3]
  · show (if k = 7 then _ else u.2 k) = u.2 k
    rw [if_neg h1]
theorem kU.holds (u : Ob) (c : Int32) : kU u (F_X6_holds u c) := by
  unfold F_X6_holds
  refine ⟨fun k h1 h2 h3 => ?_, fun k h1 h2 => ?_⟩
  · show (if k = 24 then _ else u.1 k) = u.1 k
    rw [if_neg h1]
  · show (if k = 23 then _ else u.2 k) = u.2 k
    rw [if_neg h2]
theorem kU.n {u v : Ob} (h : kU u v) {k : Nat} (hk : k = 24 ∨ k = 25 ∨ k = 26) (x : Int32) : kU u (setS v k x) := by
  refine ⟨fun j h1 h2 h3 => ?_, h.2⟩
  show (if j = k then _ else v.1 j) = u.1 j
  rw [if_neg (by omega)]
  exact h.1 j h1 h2 h3
theorem kU.unw (r : Int32) (u : Ob) : kU u (unw r u) := ⟨(unw_keep r 161 u).1, fun k h1 _ => (unw_keep r 161 u).2 k h1⟩
theorem Ac.weak {e e' : Int} {tt : Int32} {T v : Ob} {h : List Int32} (k : Ac e tt T v h) (he : e' ≤ e) : Ac e' tt T v h := by
  obtain ⟨a, b, ⟨c1, c2⟩, d, f⟩ := k
  exact ⟨a, b, ⟨by omega, c2⟩, d, f⟩
theorem Ad.yes {tt : Int32} {T v : Ob} {h : List Int32} (k : Ad tt T v h) (c : ¬ v.1 20 = 0) : Ac (0 + 1) tt T v h := by
  unfold Ad at k
  rw [if_neg c] at k
  exact k
theorem Ad.any {tt : Int32} {T v : Ob} {h : List Int32} (k : Ad tt T v h) : Ac 0 tt T v h := by
  unfold Ad at k
  by_cases c : v.1 20 = 0
  · rw [if_pos c] at k
    exact k
  · rw [if_neg c] at k
    exact k.weak (by omega)
theorem Mo.ok {n : Nat} {s u : Ob} (h : Mo n s u) : nOK u := by
  have a := h.1.1.2.2.2
  have b := h.1.1.1.2.1
  exact ⟨by omega, a.2.2, b.2⟩
/-- the next token -/
theorem adv {n : Nat} {s u v T : Ob} {h : List Int32} {tt : Int32} (hm : Mo n s u) (hu : kU u v) (hk : Ac 0 tt T v h) (ht : ¬ u.1 20 = 0) (x1 x2 : Int32) : ∃ n', n' < n ∧ F_X6_eRead_l14 n v x1 x2 = F_X6_eRead_c15 (F_X6_eRead_l14 n') (F_X6_next v) x1 x2 ∧ Mo n' (F_X2_step s) (F_X6_next v) ∧ Ad tt T (F_X6_next v) h := by
  have hok := hm.ok
  obtain ⟨hx, hw, h6, hf, hn160⟩ := hm
  have e18 : v.1 18 = u.1 18 := hu.1 18 (by decide) (by decide) (by decide)
  have e6 : v.1 6 = u.1 6 := hu.1 6 (by decide) (by decide) (by decide)
  have e5 : v.2 5 = u.2 5 := hu.2 5 (by decide) (by decide)
  have e22 : v.2 22 = u.2 22 := hu.2 22 (by decide) (by decide)
  have hf' := hf ht
  obtain ⟨m, hn⟩ : ∃ m, n = m + 1 := ⟨n - 1, by omega⟩
  subst hn
  have hp : Lp s v := by
    obtain ⟨p1, p2, p3, p4⟩ := hx.p
    unfold Lp Tp
    rw [e18, e6, e5]
    exact ⟨p1, p2, p3, p4⟩
  have hwv : ∀ j, j < 96 → v.2 22 j = wordsL.getD j 0 := fun j hj => by rw [e22]; exact hw j hj
  obtain ⟨k1, k2⟩ := step_eq hp hwv
  have hnv : nOK v := by
    show 0 ≤ (v.1 18).toInt ∧ (v.1 18).toInt ≤ (v.1 6).toInt ∧ (v.1 6).toInt ≤ 160
    rw [e18, e6]
    exact hok
  obtain ⟨⟨g1, g2, g3, g4⟩, g5⟩ := next_ok rfl hnv
  refine ⟨m, by omega, rfl, ⟨k1, fun j hj => by rw [g3]; exact hwv j hj, (k2.2 6 (by decide) (by decide) (by decide) (by decide)).trans h6, fun q => ?_, by omega⟩, ?_⟩
  · have := g5 q
    rw [e18] at this
    omega
  · obtain ⟨⟨a1, a2, a3⟩, ⟨b1, b2⟩, ⟨c1, c2⟩, d, f⟩ := hk
    have c160 : ((F_X6_next v).1 18).toInt ≤ 160 := by
      have := g1
      omega
    unfold Ad Ac
    rw [g3, g4 24 (by decide) (by decide) (by decide) (by decide), g4 25 (by decide) (by decide) (by decide) (by decide), g4 26 (by decide) (by decide) (by decide) (by decide), g4 9 (by decide) (by decide) (by decide) (by decide)]
    refine ⟨⟨a1, a2, a3⟩, ⟨b1, b2⟩, ⟨?_, c160⟩, d, f⟩
    by_cases q : (F_X6_next v).1 20 = 0
    · rw [if_pos q]
      omega
    · rw [if_neg q]
      have := g5 q
      omega
/-- a reading that has failed -/
def Fl (s : Ob) : Prop := s.1 4 = 1 ∧ 0 ≤ (s.1 6).toInt
theorem fail_same {s : Ob} (h : Fl s) : F_X2_fail s = s := by
  have e0 : (0 : Int32).toInt = 0 := rfl
  unfold F_X2_fail F_X2_fail_b15
  rw [if_pos (i_le.mpr (by have := h.2; omega))]
  unfold setS upd
  refine Prod.ext (funext fun j => ?_) rfl
  show (if j = 4 then 1 else s.1 j) = s.1 j
  by_cases c : j = 4
  · rw [if_pos c, c]
    exact h.1.symm
  · rw [if_neg c]
theorem fail_new {n : Nat} {s u : Ob} (h : Mo n s u) : Fl (F_X2_fail s) ∧ (F_X2_fail s).1 6 = u.1 19 := by
  have e0 : (0 : Int32).toInt = 0 := rfl
  have e1 : (-1 : Int32).toInt = -1 := rfl
  unfold F_X2_fail F_X2_fail_b15
  rw [h.2.2.1, if_neg (by decide)]
  have e3 : s.1 3 = u.1 19 := h.1.1.2.1
  refine ⟨⟨rfl, ?_⟩, e3⟩
  show 0 ≤ (s.1 3).toInt
  rw [e3]
  exact h.1.1.2.2.2.1
