-- PURE: unwinding on lists; what steps do to the stack
def U (r : Int32) : List Int32 → Ob → List Int32 × Ob
  | [], T => ([], T)
  | s :: h, T => if F_X6_rank s < r then (s :: h, T) else U r h (F_X3_add T (4 - s))
theorem U_low {r : Int32} {h : List Int32} (T : Ob) (hl : lowR r h) : U r h T = (h, T) := by
  cases h with
  | nil => rfl
  | cons s h => exact if_pos hl
theorem U_pop {r s : Int32} {h : List Int32} (T : Ob) (c : ¬ F_X6_rank s < r) : U r (s :: h) T = U r h (F_X3_add T (4 - s)) := if_neg c
theorem U_U {r q : Int32} (hq : r.toInt ≤ q.toInt) : ∀ (h : List Int32) (T : Ob), U r (U q h T).1 (U q h T).2 = U r h T := by
  intro h
  induction h with
  | nil => intro T; rfl
  | cons s h ih =>
    intro T
    by_cases c : F_X6_rank s < q
    · rw [U_low (r := q) (h := s :: h) T c]
    · have cq := i_nlt c
      have c' : ¬ F_X6_rank s < r := fun z => by
        have := i_lt.mp z
        omega
      rw [U_pop T c, U_pop T c']
      exact ih _
theorem U_sg {r : Int32} : ∀ (h : List Int32) (T : Ob), sgOK h → sgOK (U r h T).1 := by
  intro h
  induction h with
  | nil => intro T k; exact k
  | cons s h ih =>
    intro T k
    by_cases c : F_X6_rank s < r
    · rw [U_low (r := r) (h := s :: h) T c]
      exact k
    · rw [U_pop T c]
      exact ih _ fun x hx => k x (List.mem_cons_of_mem _ hx)
theorem U_is_low {r : Int32} : ∀ (h : List Int32) (T : Ob), lowR r (U r h T).1 := by
  intro h
  induction h with
  | nil => intro T; trivial
  | cons s h ih =>
    intro T
    by_cases c : F_X6_rank s < r
    · rw [U_low (r := r) (h := s :: h) T c]
      exact c
    · rw [U_pop T c]
      exact ih _
theorem unw_U {e : Int} {tt r : Int32} (he : 0 ≤ e) (hr : 1 ≤ r.toInt) : ∀ (h : List Int32) (T v : Ob), Ac e tt T v h → sgOK h → Ac e tt (U r h T).2 (unw r v) (U r h T).1 := by
  intro h
  induction h with
  | nil =>
    intro T v k _
    rw [unw_n k he trivial]
    exact k
  | cons s h ih =>
    intro T v k hg
    by_cases c : F_X6_rank s < r
    · rw [unw_n k he c, U_low (r := r) (h := s :: h) T c]
      exact k
    · have s0 := rank0 hr c
      have hs' := (hg s (List.mem_cons_self ..)).resolve_left s0
      rw [unw_y k he hr hg c, U_pop T c]
      exact ih _ _ (k.pop he s0 (trc_of hs'.1 hs'.2)) fun x hx => hg x (List.mem_cons_of_mem _ hx)
/-- what a step takes from the stack and what it leaves -/
def eff (s : Int32) : Int := if -6 ≤ s.toInt then 1 else if s.toInt = -9 ∨ s.toInt = -15 then 0 else -1
def need (s : Int32) : Int := if -6 ≤ s.toInt then 0 else if s.toInt = -9 ∨ s.toInt = -15 then 1 else 2
def Dp (f : Nat → Int32) (i : Nat) (x : Int) : Nat → Int
  | 0 => x
  | n + 1 => Dp f i x n + eff (f (i + n))
def Rn (f : Nat → Int32) (i n : Nat) (x y : Int) : Prop := Dp f i x n = y ∧ ∀ m, m < n → 0 ≤ Dp f i x m ∧ need (f (i + m)) ≤ Dp f i x m
theorem Dp_add (f : Nat → Int32) (i : Nat) (x : Int) (n : Nat) : ∀ m, Dp f i x (n + m) = Dp f (i + n) (Dp f i x n) m := by
  intro m
  induction m with
  | zero => rfl
  | succ m ih =>
    show Dp f i x (n + m) + eff (f (i + (n + m))) = Dp f (i + n) (Dp f i x n) m + eff (f (i + n + m))
    rw [ih, Nat.add_assoc]
theorem Rn.trans {f : Nat → Int32} {i n m : Nat} {x y z : Int} (h : Rn f i n x y) (k : Rn f (i + n) m y z) : Rn f i (n + m) x z := by
  obtain ⟨h1, h2⟩ := h
  obtain ⟨k1, k2⟩ := k
  subst h1
  refine ⟨by rw [Dp_add]; exact k1, fun j hj => ?_⟩
  by_cases c : j < n
  · exact h2 j c
  · obtain ⟨q, hq⟩ : ∃ q, j = n + q := ⟨j - n, by omega⟩
    subst hq
    rw [Dp_add, ← Nat.add_assoc]
    exact k2 q (by omega)
theorem Dp_same {f g : Nat → Int32} {i : Nat} {x : Int} : ∀ n, (∀ m, m < n → g (i + m) = f (i + m)) → Dp g i x n = Dp f i x n := by
  intro n
  induction n with
  | zero => intro _; rfl
  | succ n ih =>
    intro h
    show Dp g i x n + eff (g (i + n)) = Dp f i x n + eff (f (i + n))
    rw [ih fun m hm => h m (by omega), h n (by omega)]
theorem Rn.same {f g : Nat → Int32} {i n : Nat} {x y : Int} (h : Rn f i n x y) (e : ∀ m, m < n → g (i + m) = f (i + m)) : Rn g i n x y := by
  obtain ⟨h1, h2⟩ := h
  refine ⟨(Dp_same n e).trans h1, fun m hm => ?_⟩
  rw [Dp_same m fun j hj => e j (by omega), e m hm]
  exact h2 m hm
theorem Rn.one {f : Nat → Int32} {i : Nat} {x y : Int} (h0 : 0 ≤ x) (h1 : need (f i) ≤ x) (h2 : y = x + eff (f i)) : Rn f i 1 x y := by
  refine ⟨h2.symm, fun m hm => ?_⟩
  have : m = 0 := by omega
  subst this
  exact ⟨h0, h1⟩
/-- what a reading does to the class's steps: from lo values on, d more -/
def Tc (lo d : Int) (T T' : Ob) : Prop := T'.2 2 = T.2 2 ∧ (0 ≤ (T.1 3).toInt ∧ (T.1 3).toInt ≤ (T'.1 3).toInt) ∧ (∀ k : Nat, (k : Int) < (T.1 3).toInt → T'.2 0 k = T.2 0 k) ∧ ∀ x : Int, lo ≤ x → Rn (T'.2 0) (T.1 3).toNatClampNeg ((T'.1 3).toNatClampNeg - (T.1 3).toNatClampNeg) x (x + d)
theorem Tc.trans {lo lo' a b : Int} {T T' T2 : Ob} (h : Tc lo a T T') (k : Tc lo' b T' T2) (hl : lo' ≤ lo + a) : Tc lo (a + b) T T2 := by
  obtain ⟨h1, h2, h3, h4⟩ := h
  obtain ⟨k1, k2, k3, k4⟩ := k
  refine ⟨k1.trans h1, ⟨h2.1, Int.le_trans h2.2 k2.2⟩, fun j hj => (k3 j (by omega)).trans (h3 j hj), fun x x0 => ?_⟩
  have e1 : (T2.1 3).toNatClampNeg - (T.1 3).toNatClampNeg = ((T'.1 3).toNatClampNeg - (T.1 3).toNatClampNeg) + ((T2.1 3).toNatClampNeg - (T'.1 3).toNatClampNeg) := by
    simp only [tcn_i]
    omega
  have e2 : (T.1 3).toNatClampNeg + ((T'.1 3).toNatClampNeg - (T.1 3).toNatClampNeg) = (T'.1 3).toNatClampNeg := by
    simp only [tcn_i]
    omega
  rw [e1, show x + (a + b) = (x + a) + b by omega]
  refine ((h4 x x0).same fun m hm => k3 _ ?_).trans (by rw [e2]; exact k4 (x + a) (by omega))
  simp only [tcn_i] at hm ⊢
  omega
theorem add_is {T : Ob} (h1 : (T.1 3).toInt < 160) (s : Int32) : F_X3_add T s = setS (stA T 0 (T.1 3) s) 3 (T.1 3 + 1) := if_neg fun q => by
  have := i_le.mp q
  have e160 : (160 : Int32).toInt = 160 := rfl
  omega
theorem Tc.add {T : Ob} (h0 : 0 ≤ (T.1 3).toInt) (h1 : (T.1 3).toInt < 160) (s : Int32) {lo d : Int} (hd : d = eff s) (hl : 0 ≤ lo) (hn : need s ≤ lo) : Tc lo d T (F_X3_add T s) := by
  have z : (T.1 3 + 1).toInt = (T.1 3).toInt + 1 := addL (k := 1) (by decide +kernel) (by omega) (by omega)
  rw [add_is h1]
  refine ⟨rfl, ⟨h0, ?_⟩, fun k hk => ?_, fun x hx => ?_⟩
  · show (T.1 3).toInt ≤ (T.1 3 + 1).toInt
    omega
  · show upd (T.2 0) (T.1 3).toNatClampNeg s k = T.2 0 k
    exact upd_n s (by rw [tcn_i]; omega)
  · show Rn (upd (T.2 0) (T.1 3).toNatClampNeg s) (T.1 3).toNatClampNeg ((T.1 3 + 1).toNatClampNeg - (T.1 3).toNatClampNeg) x (x + d)
    have e1 : (T.1 3 + 1).toNatClampNeg - (T.1 3).toNatClampNeg = 1 := by
      simp only [tcn_i]
      omega
    have eu : upd (T.2 0) (T.1 3).toNatClampNeg s (T.1 3).toNatClampNeg = s := upd_s s
    rw [e1]
    exact Rn.one (by omega) (by rw [eu]; omega) (by rw [eu, hd])
/-- an operation on two values -/
theorem Tc.bin {T0 T T' : Ob} (h : Tc 0 1 T0 T) (k : Tc 0 1 T T') (h1 : (T'.1 3).toInt < 160) {s : Int32} (hs : eff s = -1 ∧ need s = 2) : Tc 0 1 T0 (F_X3_add T' s) :=
  (h.trans k (by omega)).trans (Tc.add (lo := 2) (d := -1) (by have := h.2.1; have := k.2.1; omega) h1 s hs.1.symm (by omega) (by omega)) (by omega)
theorem Tc.una {T T' : Ob} (k : Tc 0 1 T T') (h1 : (T'.1 3).toInt < 160) {s : Int32} (hs : eff s = 0 ∧ need s = 1) : Tc 0 1 T (F_X3_add T' s) :=
  k.trans (Tc.add (lo := 1) (d := 0) (by have := k.2.1; omega) h1 s hs.1.symm (by omega) (by omega)) (by omega)
