-- PURE: signs unwound
def lowR (r : Int32) : List Int32 → Prop
  | [] => True
  | s :: _ => F_X6_rank s < r
def sgOK (h : List Int32) : Prop := ∀ s, s ∈ h → s = 0 ∨ (11 ≤ s.toInt ∧ s.toInt ≤ 19)
def zO (s : Int32) : Int32 := if s = 13 then 1 else if s = 19 then 1 else 0
def unw (r : Int32) (v : Ob) : Ob := F_X6_unwinds v r
theorem zO_is {s : Int32} (h : ¬ s = 0) : (zO s).toInt = isO s := by
  unfold zO isO
  rw [if_neg h]
  split
  · rfl
  · split <;> rfl
theorem unw_s {n : Nat} {v : Ob} {r s : Int32} (hs : v.2 23 (Int32.toNatClampNeg (v.1 24 - 1)) = s) (hm : ¬ v.1 24 ≤ 0) (hr : ¬ F_X6_rank s < r) : F_X6_unwinds_l0 (n + 1) v r = F_X6_unwinds_l0 n (popv v s (zO s)) r := by
  rw [F_X6_unwinds_l0, if_neg hm, hs, if_neg hr]
  unfold F_X6_unwinds_b62 F_X6_unwinds_b67 F_X6_unwinds_c73 popv zO
  by_cases c : s = 13
  · rw [if_pos c, if_pos c]
  · rw [if_neg c, if_neg c]
    by_cases d : s = 19
    · rw [if_pos d, if_pos d]
    · rw [if_neg d, if_neg d]
theorem Ac.top {e : Int} {tt : Int32} {T v : Ob} {h : List Int32} {s : Int32} (k : Ac e tt T v (s :: h)) (he : 0 ≤ e) : v.2 23 (Int32.toNatClampNeg (v.1 24 - 1)) = s ∧ ¬ v.1 24 ≤ 0 := by
  obtain ⟨⟨a1, a2, a3⟩, ⟨b1, b2⟩, ⟨c1, c2⟩, d, f⟩ := k
  have el : ((s :: h).length : Int) = h.length + 1 := by rw [List.length_cons]; omega
  have e0 : (0 : Int32).toInt = 0 := rfl
  have z4 : (v.1 24 - 1).toInt = (v.1 24).toInt - 1 := subL (k := 1) (by decide +kernel) (by omega) (by omega)
  have en : (Int32.toNatClampNeg (v.1 24 - 1)) = h.length := by rw [tcn_i]; omega
  exact ⟨by rw [en]; exact a2.1, fun q => by have := i_le.mp q; omega⟩
theorem unw_low {n : Nat} {e : Int} {tt r : Int32} {T v : Ob} {h : List Int32} (k : Ac e tt T v h) (he : 0 ≤ e) (hl : lowR r h) : F_X6_unwinds_l0 (n + 1) v r = v := by
  cases h with
  | nil =>
    have e0 : (0 : Int32).toInt = 0 := rfl
    have k1 : (v.1 24).toInt = ([] : List Int32).length := k.1.1
    have k2 : ([] : List Int32).length = 0 := rfl
    rw [F_X6_unwinds_l0, if_pos (i_le.mpr (by omega))]
  | cons s h =>
    obtain ⟨t1, t2⟩ := k.top he
    replace hl : F_X6_rank s < r := hl
    rw [F_X6_unwinds_l0, if_neg t2, t1, if_pos hl]
theorem Ac.pop {e : Int} {tt : Int32} {T v : Ob} {h : List Int32} {s c : Int32} (k : Ac e tt T v (s :: h)) (he : 0 ≤ e) (hs : ¬ s = 0) (hc : trc c s) : Ac e tt (F_X3_add T c) (popv v s (zO s)) h := (k.drop he (zO_is hs)).put he hc
theorem trc_of {s : Int32} (h1 : 11 ≤ s.toInt) (h2 : s.toInt ≤ 19) : trc (4 - s) s := by
  have e : (4 - s).toInt = 4 - s.toInt := by
    have e4 : (4 : Int32).toInt = 4 := rfl
    rw [fb_subI (by omega) (by omega), e4]
  exact Or.inr (Or.inr ⟨by omega, by omega, by omega⟩)
theorem rank0 {r : Int32} (hr : 1 ≤ r.toInt) {s : Int32} (h : ¬ F_X6_rank s < r) : ¬ s = 0 := fun q => by
  rw [q] at h
  have := i_nlt h
  have e0 : (F_X6_rank 0).toInt = 0 := rfl
  omega
theorem unw_fuel {e : Int} {tt r : Int32} (he : 0 ≤ e) (hr : 1 ≤ r.toInt) : ∀ (h : List Int32) (n n' : Nat) (T v : Ob), Ac e tt T v h → sgOK h → h.length < n → h.length < n' → F_X6_unwinds_l0 n v r = F_X6_unwinds_l0 n' v r := by
  intro h
  induction h with
  | nil =>
    intro n n' T v k _ h1 h2
    obtain ⟨a, ha⟩ : ∃ a, n = a + 1 := ⟨n - 1, by omega⟩
    obtain ⟨b, hb⟩ : ∃ b, n' = b + 1 := ⟨n' - 1, by omega⟩
    rw [ha, hb, unw_low k he trivial, unw_low k he trivial]
  | cons s h ih =>
    intro n n' T v k hg h1 h2
    obtain ⟨a, ha⟩ : ∃ a, n = a + 1 := ⟨n - 1, by omega⟩
    obtain ⟨b, hb⟩ : ∃ b, n' = b + 1 := ⟨n' - 1, by omega⟩
    have el : (s :: h).length = h.length + 1 := List.length_cons
    rw [ha, hb]
    by_cases c : F_X6_rank s < r
    · rw [unw_low k he c, unw_low k he c]
    · have s0 := rank0 hr c
      obtain ⟨t1, t2⟩ := k.top he
      rw [unw_s t1 t2 c, unw_s t1 t2 c]
      have hs := hg s (List.mem_cons_self ..)
      have hs' := hs.resolve_left s0
      exact ih a b _ _ (k.pop he s0 (trc_of hs'.1 hs'.2)) (fun x hx => hg x (List.mem_cons_of_mem _ hx)) (by omega) (by omega)
theorem Ac.len {e : Int} {tt : Int32} {T v : Ob} {h : List Int32} (k : Ac e tt T v h) (he : 0 ≤ e) : h.length ≤ 160 := by
  obtain ⟨⟨a1, a2, a3⟩, ⟨b1, b2⟩, ⟨c1, c2⟩, d, f⟩ := k
  omega
theorem unw_n {e : Int} {tt r : Int32} {T v : Ob} {h : List Int32} (k : Ac e tt T v h) (he : 0 ≤ e) (hl : lowR r h) : unw r v = v := unw_low (n := 160) k he hl
theorem unw_y {e : Int} {tt r : Int32} {T v : Ob} {h : List Int32} {s : Int32} (k : Ac e tt T v (s :: h)) (he : 0 ≤ e) (hr : 1 ≤ r.toInt) (hg : sgOK (s :: h)) (c : ¬ F_X6_rank s < r) : unw r v = unw r (popv v s (zO s)) := by
  have s0 := rank0 hr c
  obtain ⟨t1, t2⟩ := k.top he
  have hs' := (hg s (List.mem_cons_self ..)).resolve_left s0
  have kp := k.pop he s0 (trc_of hs'.1 hs'.2)
  have hlen := k.len he
  have el : (s :: h).length = h.length + 1 := List.length_cons
  show F_X6_unwinds_l0 161 v r = F_X6_unwinds_l0 161 (popv v s (zO s)) r
  rw [show (161 : Nat) = 160 + 1 from rfl, unw_s t1 t2 c]
  exact unw_fuel he hr h 160 (160 + 1) _ _ kp (fun x hx => hg x (List.mem_cons_of_mem _ hx)) (by omega) (by omega)
theorem unw_unw {e : Int} {tt r q : Int32} (he : 0 ≤ e) (hr : 1 ≤ r.toInt) (hq : r.toInt ≤ q.toInt) : ∀ (h : List Int32) (T v : Ob), Ac e tt T v h → sgOK h → unw r (unw q v) = unw r v := by
  intro h
  induction h with
  | nil =>
    intro T v k _
    rw [unw_n (r := q) k he trivial]
  | cons s h ih =>
    intro T v k hg
    by_cases c : F_X6_rank s < q
    · rw [unw_n (r := q) k he c]
    · have cq := i_nlt c
      have c' : ¬ F_X6_rank s < r := fun z => by
        have := i_lt.mp z
        omega
      have s0 := rank0 hr c'
      have hs' := (hg s (List.mem_cons_self ..)).resolve_left s0
      rw [unw_y k he (by omega) hg c, unw_y k he hr hg c']
      exact ih _ _ (k.pop he s0 (trc_of hs'.1 hs'.2)) (fun x hx => hg x (List.mem_cons_of_mem _ hx))
/-- unwinding keeps what it must -/
theorem popv_keep (v : Ob) (s z : Int32) : (∀ k : Nat, k ≠ 24 → k ≠ 25 → k ≠ 26 → (popv v s z).1 k = v.1 k) ∧ (∀ k : Nat, k ≠ 7 → (popv v s z).2 k = v.2 k) := by
  unfold popv F_X6_puts
  refine ⟨fun k h1 h2 h3 => ?_, fun k h1 => ?_⟩
  · show (if k = 26 then _ else if k = 25 then _ else if k = 24 then _ else v.1 k) = v.1 k
    rw [if_neg h3, if_neg h2, if_neg h1]
  · show (if k = 7 then _ else v.2 k) = v.2 k
    rw [if_neg h1]
theorem unw_keep (r : Int32) : ∀ (n : Nat) (v : Ob), (∀ k : Nat, k ≠ 24 → k ≠ 25 → k ≠ 26 → (F_X6_unwinds_l0 n v r).1 k = v.1 k) ∧ (∀ k : Nat, k ≠ 7 → (F_X6_unwinds_l0 n v r).2 k = v.2 k) := by
  intro n
  induction n with
  | zero => intro v; exact ⟨fun _ _ _ _ => rfl, fun _ _ => rfl⟩
  | succ n ih =>
    intro v
    by_cases c : v.1 24 ≤ 0
    · rw [F_X6_unwinds_l0, if_pos c]
      exact ⟨fun _ _ _ _ => rfl, fun _ _ => rfl⟩
    by_cases d : F_X6_rank (v.2 23 (Int32.toNatClampNeg (v.1 24 - 1))) < r
    · rw [F_X6_unwinds_l0, if_neg c, if_pos d]
      exact ⟨fun _ _ _ _ => rfl, fun _ _ => rfl⟩
    rw [unw_s rfl c d]
    obtain ⟨g1, g2⟩ := ih (popv v (v.2 23 (Int32.toNatClampNeg (v.1 24 - 1))) (zO (v.2 23 (Int32.toNatClampNeg (v.1 24 - 1)))))
    obtain ⟨p1, p2⟩ := popv_keep v (v.2 23 (Int32.toNatClampNeg (v.1 24 - 1))) (zO (v.2 23 (Int32.toNatClampNeg (v.1 24 - 1))))
    exact ⟨fun k h1 h2 h3 => (g1 k h1 h2 h3).trans (p1 k h1 h2 h3), fun k h1 => (g2 k h1).trans (p2 k h1)⟩
