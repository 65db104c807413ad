-- PURE: the class's token is the reference's
def LSy (s u : Ob) : Prop := Tp s u ∧ s.1 3 = u.1 19 ∧ s.1 2 = u.1 18 ∧ 0 ≤ (u.1 19).toInt ∧ (u.1 19).toInt ≤ (u.1 18).toInt ∧ (u.1 18).toInt ≤ (u.1 6).toInt
def kS (s r : Ob) : Prop := r.2 = s.2 ∧ ∀ k, k ≠ 2 → k ≠ 3 → k ≠ 4 → k ≠ 5 → r.1 k = s.1 k
def Lx (s u : Ob) : Prop := LSy s u ∧ tkR (s.1 4) (s.1 5) (u.1 20) (u.1 21)
theorem kS.refl (s : Ob) : kS s s := ⟨rfl, fun _ _ _ _ _ => rfl⟩
theorem kS.trans {s r q : Ob} (h : kS s r) (k : kS r q) : kS s q := ⟨k.1.trans h.1, fun j a b c d => (k.2 j a b c d).trans (h.2 j a b c d)⟩
theorem kS.s {s r : Ob} (h : kS s r) {k : Nat} (hk : k = 2 ∨ k = 3 ∨ k = 4 ∨ k = 5) (v : Int32) : kS s (setS r k v) := ⟨h.1, fun j a b c d => by
  show (if j = k then v else r.1 j) = s.1 j
  rw [if_neg (by omega)]; exact h.2 j a b c d⟩
theorem word_end {s u : Ob} (h : LSy s u) (hl : lets u (u.1 19) (u.1 18)) (hw : ∀ j, j < 96 → u.2 22 j = wordsL.getD j 0) : Lx (F_X2_takeWord_b38 s) (F_X6_next_b146 u) ∧ kS s (F_X2_takeWord_b38 s) := by
  have hI : InW s u (u.1 19) (u.1 18) := ⟨h.1, h.2.1, h.2.2.1, h.2.2.2.1, h.2.2.2.2.1, h.2.2.2.2.2, hl⟩
  have hf := wf2 (a := u.1 19) (b := u.1 18) hw 13 0 (by omega) (by omega)
  rw [b146]
  by_cases c : ∃ v, v < 12 ∧ wM u (u.1 19) (u.1 18) v
  · obtain ⟨v, v1, v2⟩ := c
    obtain ⟨e1, e2⟩ := wix_of ⟨v, v1⟩
    obtain ⟨i, hi⟩ : ∃ i, i = (if v < 3 then v + 6 else if v < 9 then v - 3 else v) := ⟨_, rfl⟩
    have e1' : wix i = v := by rw [hi]; exact e1
    have e2' : i < 12 := by rw [hi]; exact e2
    have ef : F_X6_wordFrom u (u.1 19) (u.1 18) = nI (wix i) := by rw [e1']; exact hf.2 v (Nat.zero_le _) v1 v2
    rw [ef, tw38_y hI e2' (by rw [e1']; exact v2)]
    refine ⟨⟨h, ?_⟩, (kS.refl s).s (by omega) _⟩
    have k := tkR_word ⟨i, e2'⟩
    exact Or.inr (Or.inr (Or.inr (Or.inr k)))
  · have ef : F_X6_wordFrom u (u.1 19) (u.1 18) = 12 := hf.1 fun v _ v1 v2 => c ⟨v, v1, v2⟩
    rw [ef, tw38_n hI fun v v1 v2 => c ⟨v, v1, v2⟩]
    exact ⟨⟨h, Or.inr (Or.inl ⟨rfl, rfl⟩)⟩, (kS.refl s).s (by omega) _⟩
theorem LSy.byte {s u : Ob} (h : LSy s u) (c : ¬ u.1 6 ≤ u.1 18) : F_X2_byteAt s (s.1 2) = u.2 5 (u.1 18).toNatClampNeg := by
  have cc := i_nle c
  rw [h.2.2.1]
  exact h.1.byte (by have := h.2.2.2; omega) cc
theorem in_of {x a b : Int32} (c : ¬ F_X6_in x a b = 0) : a.toInt ≤ x.toInt ∧ x.toInt ≤ b.toInt := by
  unfold F_X6_in at c
  by_cases c1 : x < a
  · rw [if_pos c1] at c; exact absurd rfl c
  rw [if_neg c1] at c
  by_cases c2 : b < x
  · rw [if_pos c2] at c; exact absurd rfl c
  exact ⟨i_nlt c1, i_nlt c2⟩
theorem LSy.inc {s u : Ob} (h : LSy s u) (c : ¬ u.1 6 ≤ u.1 18) : LSy (setS s 2 (s.1 2 + 1)) (setS u 18 (u.1 18 + 1)) ∧ (u.1 18 + 1).toInt = (u.1 18).toInt + 1 := by
  obtain ⟨a, b, d, e, f, i⟩ := h
  have cc := i_nle c
  have k160 := a.2.1
  have z : (u.1 18 + 1).toInt = (u.1 18).toInt + 1 := addL (k := 1) (by decide +kernel) (by omega) (by omega)
  refine ⟨⟨a, b, ?_, e, ?_, ?_⟩, z⟩
  · show s.1 2 + 1 = u.1 18 + 1
    rw [d]
  · show (u.1 19).toInt ≤ (u.1 18 + 1).toInt
    omega
  · show (u.1 18 + 1).toInt ≤ (u.1 6).toInt
    omega
theorem word_loop : ∀ (n : Nat) (s u : Ob), LSy s u → lets u (u.1 19) (u.1 18) → (∀ j, j < 96 → u.2 22 j = wordsL.getD j 0) → 160 < (u.1 18).toInt + n → Lx (F_X2_takeWord_l0 n s) (F_X6_next_l103 n u) ∧ kS s (F_X2_takeWord_l0 n s) := by
  intro n
  induction n with
  | zero =>
    intro s u h hl hw hn
    have k160 := h.1.2.1
    have := h.2.2.2.2.2
    omega
  | succ n ih =>
    intro s u h hl hw hn
    unfold F_X2_takeWord_l0 F_X6_next_l103
    rw [h.1.1, h.2.2.1]
    by_cases c : u.1 6 ≤ u.1 18
    · rw [if_pos c, if_pos c]
      exact word_end h hl hw
    rw [if_neg c, if_neg c]
    have hb := h.byte c
    rw [h.2.2.1] at hb
    rw [hb, show F_X2_isLetter (u.2 5 (u.1 18).toNatClampNeg) = F_X6_in (u.2 5 (u.1 18).toNatClampNeg) 97 122 from rfl]
    by_cases d : F_X6_in (u.2 5 (u.1 18).toNatClampNeg) 97 122 = 0
    · rw [if_pos d, if_pos d]
      exact word_end h hl hw
    rw [if_neg d, if_neg d]
    obtain ⟨g1, g2⟩ := h.inc c
    rw [h.2.2.1] at g1
    have dd := in_of d
    have e97 : (97 : Int32).toInt = 97 := rfl
    have e122 : (122 : Int32).toInt = 122 := rfl
    obtain ⟨k1, k2⟩ := ih _ _ g1 (fun x x0 x1 => by
      replace x0 : (u.1 19).toInt ≤ x.toInt := x0
      replace x1 : x.toInt < (u.1 18 + 1).toInt := x1
      show 97 ≤ (u.2 5 x.toNatClampNeg).toInt ∧ (u.2 5 x.toNatClampNeg).toInt ≤ 122
      by_cases t : x.toInt < (u.1 18).toInt
      · exact hl x x0 t
      · have ex : x = u.1 18 := Int32.toInt_inj.mp (by omega)
        rw [ex]
        omega) hw (by
      show 160 < (u.1 18 + 1).toInt + n
      omega)
    exact ⟨k1, ((kS.refl s).s (by omega) _).trans k2⟩
def numR (x v w : Int32) : Prop := (x.toInt = 0 ∧ v.toInt = 0 ∧ v = w) ∨ (x.toInt = 1 ∧ 0 ≤ v.toInt ∧ v.toInt ≤ 9 ∧ v = w) ∨ (x.toInt = 2 ∧ 0 ≤ v.toInt ∧ v.toInt ≤ 99 ∧ v = w) ∨ (x.toInt = 3 ∧ 0 ≤ v.toInt ∧ v.toInt ≤ 999 ∧ v = w) ∨ (x.toInt = 4 ∧ 0 ≤ v.toInt ∧ v.toInt ≤ 9999 ∧ v = w) ∨ 4 < x.toInt
theorem numR.out {x v w : Int32} (h : numR x v w) (k : x.toInt ≤ 4) : v = w ∧ 0 ≤ v.toInt ∧ v.toInt ≤ 9999 := by
  rcases h with h | h | h | h | h | h
  · exact ⟨h.2.2, by omega, by omega⟩
  · exact ⟨h.2.2.2, by omega, by omega⟩
  · exact ⟨h.2.2.2, by omega, by omega⟩
  · exact ⟨h.2.2.2, by omega, by omega⟩
  · exact ⟨h.2.2.2, by omega, by omega⟩
  · omega
theorem num_end {s u : Ob} {x : Int32} (h : LSy s u) (hx : x.toInt = (u.1 18).toInt - (u.1 19).toInt) (hv : numR x (s.1 5) (u.1 21)) : Lx (F_X2_takeNumber_b66 s) (F_X6_next_b309 u x) ∧ kS s (F_X2_takeNumber_b66 s) := by
  have k160 := h.1.2.1
  have hh := h.2.2.2
  have e4 : (4 : Int32).toInt = 4 := rfl
  have es : (u.1 18 - u.1 19).toInt = (u.1 18).toInt - (u.1 19).toInt := fb_subI (by omega) (by omega)
  unfold F_X2_takeNumber_b66 F_X6_next_b309 F_X2_takeNumber_b85 F_X6_next_b320
  rw [h.2.2.1, h.2.1]
  by_cases c : x ≤ 4
  · have cc := i_le.mp c
    rw [if_pos c, if_pos (i_le.mpr (by omega))]
    obtain ⟨v1, v2, v3⟩ := hv.out (by omega)
    exact ⟨⟨h, Or.inr (Or.inr (Or.inl ⟨rfl, rfl, v1.symm, v2, v3⟩))⟩, (kS.refl s).s (by omega) _⟩
  · have cc := i_nle c
    rw [if_neg c, if_neg (fun q => by have := i_le.mp q; omega)]
    exact ⟨⟨h, Or.inr (Or.inl ⟨rfl, rfl⟩)⟩, (kS.refl s).s (by omega) _⟩
