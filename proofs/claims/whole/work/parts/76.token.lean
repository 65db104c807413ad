-- PURE: a word's token
def pick (s : Ob) (q : Int32 × Nat) : Ob := if F_X2_isWord s q.2 = 0 then s else setS s 4 q.1
def pickL : List (Int32 × Nat) := [(-6, 5), (-5, 4), (-4, 3), (-3, 2), (-2, 1), (-1, 0), (256, 6), (257, 7), (258, 8), (259, 9), (260, 10), (261, 11)]
theorem tw46s {n : Nat} {s : Ob} (x y : Int32) (i : Nat) (h : ¬ (-1) < x) (hy : x + 1 = y) (hi : F_X2_wordIx x = i) : F_X2_takeWord_l46 (n + 1) s x = F_X2_takeWord_l46 n (pick s (x, i)) y := by
  subst hy hi
  rw [F_X2_takeWord_l46, if_neg h]
  unfold pick F_X2_takeWord_b67
  split <;> rfl
theorem tw77s {n : Nat} {s : Ob} (x y : Int32) (i : Nat) (h : ¬ 261 < x) (hy : x + 1 = y) (hi : F_X2_wordIx x = i) : F_X2_takeWord_l77 (n + 1) s x = F_X2_takeWord_l77 n (pick s (x, i)) y := by
  subst hy hi
  rw [F_X2_takeWord_l77, if_neg h]
  unfold pick F_X2_takeWord_b100
  split <;> rfl
theorem tw38 (s : Ob) : F_X2_takeWord_b38 s = pickL.foldl pick (setS s 4 1) := by
  unfold F_X2_takeWord_b38
  rw [tw46s (-6) (-5) 5 (by decide) (by decide) (by decide), tw46s (-5) (-4) 4 (by decide) (by decide) (by decide), tw46s (-4) (-3) 3 (by decide) (by decide) (by decide), tw46s (-3) (-2) 2 (by decide) (by decide) (by decide), tw46s (-2) (-1) 1 (by decide) (by decide) (by decide), tw46s (-1) (0) 0 (by decide) (by decide) (by decide)]
  rw [F_X2_takeWord_l46, if_pos (by decide)]
  rw [tw77s 256 257 6 (by decide) (by decide) (by decide), tw77s 257 258 7 (by decide) (by decide) (by decide), tw77s 258 259 8 (by decide) (by decide) (by decide), tw77s 259 260 9 (by decide) (by decide) (by decide), tw77s 260 261 10 (by decide) (by decide) (by decide), tw77s 261 262 11 (by decide) (by decide) (by decide)]
  rw [F_X2_takeWord_l77, if_pos (by decide)]
  unfold pickL
  simp only [List.foldl_cons, List.foldl_nil]
/-- the script and the word that lies from a to b -/
def InW (s m : Ob) (a b : Int32) : Prop := Tp s m ∧ s.1 3 = a ∧ s.1 2 = b ∧ 0 ≤ a.toInt ∧ a.toInt ≤ b.toInt ∧ b.toInt ≤ (m.1 6).toInt ∧ lets m a b
theorem InW.s4 {s m : Ob} {a b : Int32} (h : InW s m a b) (v : Int32) : InW (setS s 4 v) m a b := h
theorem setS2 (s : Ob) (k : Nat) (v w : Int32) : setS (setS s k v) k w = setS s k w := by
  unfold setS upd
  refine Prod.ext (funext fun j => ?_) rfl
  show (if j = k then w else if j = k then v else s.1 j) = if j = k then w else s.1 j
  split <;> rfl
theorem pick_y {s m : Ob} {a b : Int32} (h : InW s m a b) {q : Int32 × Nat} (hq : q.2 < 12) (k : wM m a b (wix q.2)) : pick s q = setS s 4 q.1 := if_neg ((isW_iff h.1 h.2.1 h.2.2.1 h.2.2.2.1 h.2.2.2.2.1 h.2.2.2.2.2.1 h.2.2.2.2.2.2 hq).1 k)
theorem pick_n {s m : Ob} {a b : Int32} (h : InW s m a b) {q : Int32 × Nat} (hq : q.2 < 12) (k : ¬ wM m a b (wix q.2)) : pick s q = s := if_pos ((isW_iff h.1 h.2.1 h.2.2.1 h.2.2.2.1 h.2.2.2.2.1 h.2.2.2.2.2.1 h.2.2.2.2.2.2 hq).2 k)
theorem fold_n {m : Ob} {a b : Int32} : ∀ (l : List (Int32 × Nat)) (s : Ob), InW s m a b → (∀ q, q ∈ l → q.2 < 12 ∧ ¬ wM m a b (wix q.2)) → l.foldl pick s = s := by
  intro l
  induction l with
  | nil => intro s _ _; rfl
  | cons q l ih =>
    intro s h k
    obtain ⟨k1, k2⟩ := k q (List.mem_cons_self ..)
    rw [List.foldl_cons, pick_n h k1 k2]
    exact ih s h fun p hp => k p (List.mem_cons_of_mem _ hp)
theorem fold_y {m : Ob} {a b v : Int32} : ∀ (l : List (Int32 × Nat)) (s : Ob), InW s m a b → (∀ q, q ∈ l → q.2 < 12 ∧ (wM m a b (wix q.2) → q.1 = v)) → (l.foldl pick s = s ∨ l.foldl pick s = setS s 4 v) ∧ ((∃ q, q ∈ l ∧ wM m a b (wix q.2)) → l.foldl pick s = setS s 4 v) := by
  intro l
  induction l with
  | nil => intro s _ _; exact ⟨Or.inl rfl, fun ⟨q, q1, _⟩ => nomatch q1⟩
  | cons q l ih =>
    intro s h k
    obtain ⟨k1, k2⟩ := k q (List.mem_cons_self ..)
    have k' := fun p hp => k p (List.mem_cons_of_mem _ hp)
    rw [List.foldl_cons]
    by_cases c : wM m a b (wix q.2)
    · rw [pick_y h k1 c, k2 c]
      obtain ⟨g1, g2⟩ := ih (setS s 4 v) (h.s4 v) k'
      have e : l.foldl pick (setS s 4 v) = setS s 4 v := by
        cases g1 with
        | inl g => exact g
        | inr g => rw [g, setS2]
      exact ⟨Or.inr e, fun _ => e⟩
    · rw [pick_n h k1 c]
      obtain ⟨g1, g2⟩ := ih s h k'
      refine ⟨g1, fun ⟨p, p1, p2⟩ => g2 ?_⟩
      cases p1 with
      | head => exact absurd p2 c
      | tail _ p1 => exact ⟨p, p1, p2⟩
def tokI (i : Nat) : Int32 := if i < 6 then -1 - nI i else 250 + nI i
theorem pickL_in : ∀ q, q ∈ pickL → q.2 < 12 := by decide
theorem pickL_tok : ∀ q, q ∈ pickL → ∀ i : Fin 12, wix q.2 = wix i.val → q.1 = tokI i.val := by decide +kernel
theorem pickL_has : ∀ i : Fin 12, (tokI i.val, i.val) ∈ pickL := by decide +kernel
theorem wix_in : ∀ i : Fin 12, wix i.val < 12 := by decide
theorem wix_of : ∀ w : Fin 12, wix (if w.val < 3 then w.val + 6 else if w.val < 9 then w.val - 3 else w.val) = w.val ∧ (if w.val < 3 then w.val + 6 else if w.val < 9 then w.val - 3 else w.val) < 12 := by decide
theorem tw38_n {s m : Ob} {a b : Int32} (h : InW s m a b) (k : ∀ w, w < 12 → ¬ wM m a b w) : F_X2_takeWord_b38 s = setS s 4 1 := by
  rw [tw38]
  exact fold_n pickL _ (h.s4 1) fun q hq => ⟨pickL_in q hq, k _ (wix_in ⟨q.2, pickL_in q hq⟩)⟩
theorem tw38_y {s m : Ob} {a b : Int32} (h : InW s m a b) {i : Nat} (hi : i < 12) (k : wM m a b (wix i)) : F_X2_takeWord_b38 s = setS s 4 (tokI i) := by
  rw [tw38, (fold_y (v := tokI i) pickL _ (h.s4 1) fun q hq => ⟨pickL_in q hq, fun c => pickL_tok q hq ⟨i, hi⟩ (wM.one (wix_in ⟨q.2, pickL_in q hq⟩) (wix_in ⟨i, hi⟩) c k)⟩).2 ⟨_, pickL_has ⟨i, hi⟩, k⟩, setS2]
/-- a token as the class and as the reference hold it -/
def tkR (c v t w : Int32) : Prop := (c = 0 ∧ t = 0) ∨ (c = 1 ∧ t = -1) ∨ (c = 2 ∧ t = 1 ∧ w = v ∧ 0 ≤ v.toInt ∧ v.toInt ≤ 9999) ∨ (c = t ∧ (c = 40 ∨ c = 41 ∨ c = 59 ∨ c = 43 ∨ c = 45 ∨ c = 42 ∨ c = 60 ∨ c = 61)) ∨ (-6 ≤ c.toInt ∧ c.toInt < 0 ∧ t = 2 ∧ w.toInt = -1 - c.toInt) ∨ (256 ≤ c.toInt ∧ c.toInt ≤ 258 ∧ t = 3 ∧ w.toInt = c.toInt - 256) ∨ (c = 259 ∧ t = 4) ∨ (c = 260 ∧ t = 5) ∨ (c = 261 ∧ t = 6)
/-- the reference's token of a word -/
def rt (w : Int32) : Int32 × Int32 := (if 3 ≤ w then (if 9 ≤ w then (if w = 12 then (-1) else ((4 + w) - 9)) else 2) else 3, if 3 ≤ w then w - 3 else w)
theorem b146 (u : Ob) : F_X6_next_b146 u = setS (setS u 20 (rt (F_X6_wordFrom u (u.1 19) (u.1 18))).1) 21 (rt (F_X6_wordFrom u (u.1 19) (u.1 18))).2 := by
  unfold F_X6_next_b146 rt
  obtain ⟨w, hw⟩ : ∃ w, w = F_X6_wordFrom u (u.1 19) (u.1 18) := ⟨_, rfl⟩
  rw [← hw]
  unfold F_X6_next_b195 F_X6_next_b211
  by_cases c : 3 ≤ w
  · simp only [if_pos c]
    split
    · split <;> rfl
    · rfl
  · simp only [if_neg c]
theorem tkR_word : ∀ i : Fin 12, ((-6 ≤ (tokI i.val).toInt ∧ (tokI i.val).toInt < 0 ∧ (rt (nI (wix i.val))).1 = 2 ∧ (rt (nI (wix i.val))).2.toInt = -1 - (tokI i.val).toInt) ∨ (256 ≤ (tokI i.val).toInt ∧ (tokI i.val).toInt ≤ 258 ∧ (rt (nI (wix i.val))).1 = 3 ∧ (rt (nI (wix i.val))).2.toInt = (tokI i.val).toInt - 256) ∨ (tokI i.val = 259 ∧ (rt (nI (wix i.val))).1 = 4) ∨ (tokI i.val = 260 ∧ (rt (nI (wix i.val))).1 = 5) ∨ (tokI i.val = 261 ∧ (rt (nI (wix i.val))).1 = 6)) := by decide +kernel
