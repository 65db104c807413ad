-- PURE: the words of a text
/-- the byte at place j after a; spaces from b on -/
def padW (m : Ob) (a b : Int32) (j : Nat) : Int32 := if b ≤ a + nI j then 32 else (m.2 5) (Int32.toNatClampNeg (a + nI j))
def wM (m : Ob) (a b : Int32) (w : Nat) : Prop := ¬ 8 < (b - a) ∧ ∀ j, j < 8 → wordsL.getD (8 * w + j) 0 = padW m a b j
theorem nI_s {k : Nat} (h : k < 1000) : nI k + 1 = nI (k + 1) := by
  apply Int32.toInt_inj.mp
  have e : (nI k).toInt = k := nI_toInt (by omega)
  have e' : (nI (k + 1)).toInt = (k + 1 : Nat) := nI_toInt (by omega)
  have z : (nI k + 1).toInt = (nI k).toInt + 1 := addL (k := 1) (by decide +kernel) (by omega) (by omega)
  omega
theorem i8 {w j : Nat} (hw : w < 12) (hj : j < 8) : ((8 * nI w) + nI j).toNatClampNeg = 8 * w + j := by
  have e1 : (nI w).toInt = w := nI_toInt (by omega)
  have e2 : (nI j).toInt = j := nI_toInt (by omega)
  have e4 : (8 * nI w).toInt = 8 * (nI w).toInt := mulL (k := 8) (by decide +kernel) (by omega) (by omega)
  have e5 : ((8 * nI w) + nI j).toInt = (8 * nI w).toInt + (nI j).toInt := fb_addI (by omega) (by omega)
  simp only [tcn_i]
  omega
theorem wf26 {m : Ob} {a b : Int32} (hw : ∀ j, j < 96 → m.2 22 j = wordsL.getD j 0) (K : Ob → Int32 → Int32 → Int32 → Int32) {w : Nat} (hw12 : w < 12) : ∀ (n j : Nat) (x4 : Int32), j ≤ 8 → 8 < j + n →
    ((¬ x4 = 0 ∧ ∀ i, j ≤ i → i < 8 → wordsL.getD (8 * w + i) 0 = padW m a b i) → F_X6_wordFrom_l26 n K m a b (nI w) x4 (nI j) = nI w) ∧ (¬ (¬ x4 = 0 ∧ ∀ i, j ≤ i → i < 8 → wordsL.getD (8 * w + i) 0 = padW m a b i) → F_X6_wordFrom_l26 n K m a b (nI w) x4 (nI j) = K m a b (nI w + 1)) := by
  intro n
  induction n with
  | zero => intro j x4 h1 h2; omega
  | succ n ih =>
    intro j x4 h1 h2
    have ej : (nI j).toInt = j := nI_toInt (by omega)
    have e8 : (8 : Int32).toInt = 8 := rfl
    unfold F_X6_wordFrom_l26
    by_cases c : (8 : Int32) ≤ nI j
    · have cc := i_le.mp c
      rw [if_pos c]
      unfold F_X6_wordFrom_b88
      refine ⟨fun q => ?_, fun q => ?_⟩
      · rw [if_neg q.1]
      · by_cases z : x4 = 0
        · rw [if_pos z]
        · exact absurd ⟨z, fun i i1 i2 => by omega⟩ q
    rw [if_neg c]
    have cc := i_nle c
    by_cases z : x4 = 0
    · rw [if_pos z]
      unfold F_X6_wordFrom_b88
      rw [if_pos z]
      exact ⟨fun q => absurd z q.1, fun _ => rfl⟩
    rw [if_neg z]
    have e : (if b ≤ a + nI j then F_X6_wordFrom_b72 K (F_X6_wordFrom_l26 n K) m a b (nI w) (nI j) (m.2 22 (Int32.toNatClampNeg (8 * nI w + nI j))) 32 else F_X6_wordFrom_b72 K (F_X6_wordFrom_l26 n K) m a b (nI w) (nI j) (m.2 22 (Int32.toNatClampNeg (8 * nI w + nI j))) (m.2 5 (Int32.toNatClampNeg (a + nI j)))) = F_X6_wordFrom_b72 K (F_X6_wordFrom_l26 n K) m a b (nI w) (nI j) (m.2 22 (Int32.toNatClampNeg (8 * nI w + nI j))) (padW m a b j) := by
      unfold padW
      split <;> rfl
    rw [e]
    clear e
    rw [i8 hw12 (by omega), hw _ (by omega)]
    unfold F_X6_wordFrom_b72 F_X6_wordFrom_b80
    rw [nI_s (by omega)]
    by_cases y : wordsL.getD (8 * w + j) 0 = padW m a b j
    · rw [if_pos y]
      obtain ⟨g1, g2⟩ := ih (j + 1) 1 (by omega) (by omega)
      refine ⟨fun q => g1 ⟨n10, fun i i1 i2 => q.2 i (by omega) i2⟩, fun q => g2 fun r => q ⟨z, fun i i1 i2 => ?_⟩⟩
      by_cases t : i = j
      · rw [t]; exact y
      · exact r.2 i (by omega) i2
    · rw [if_neg y]
      obtain ⟨g1, g2⟩ := ih (j + 1) 0 (by omega) (by omega)
      exact ⟨fun q => absurd (q.2 j (by omega) (by omega)) y, fun q => g2 fun r => r.1 z00⟩
theorem words_one : ∀ w v : Fin 12, (∀ j : Fin 8, wordsL.getD (8 * w.val + j.val) 0 = wordsL.getD (8 * v.val + j.val) 0) → w = v := by decide +kernel
theorem wM.one {m : Ob} {a b : Int32} {w v : Nat} (hw : w < 12) (hv : v < 12) (h : wM m a b w) (k : wM m a b v) : w = v := by
  have := words_one ⟨w, hw⟩ ⟨v, hv⟩ fun j => (h.2 j.val j.isLt).trans (k.2 j.val j.isLt).symm
  exact congrArg Fin.val this
theorem wf2 {m : Ob} {a b : Int32} (hw : ∀ j, j < 96 → m.2 22 j = wordsL.getD j 0) : ∀ (n w : Nat), w ≤ 12 → 12 < w + n →
    ((∀ v, w ≤ v → v < 12 → ¬ wM m a b v) → F_X6_wordFrom_l2 n m a b (nI w) = 12) ∧ (∀ v, w ≤ v → v < 12 → wM m a b v → F_X6_wordFrom_l2 n m a b (nI w) = nI v) := by
  intro n
  induction n with
  | zero => intro w h1 h2; omega
  | succ n ih =>
    intro w h1 h2
    have ew : (nI w).toInt = w := nI_toInt (by omega)
    have e12 : (12 : Int32).toInt = 12 := rfl
    unfold F_X6_wordFrom_l2
    by_cases c : (12 : Int32) ≤ nI w
    · have cc := i_le.mp c
      rw [if_pos c]
      exact ⟨fun _ => rfl, fun v v1 v2 => by omega⟩
    rw [if_neg c]
    have cc := i_nle c
    have hw12 : w < 12 := by omega
    obtain ⟨g1, g2⟩ := ih (w + 1) (by omega) (by omega)
    unfold F_X6_wordFrom_b21
    by_cases y : 8 < (b - a)
    · rw [if_pos y]
      have k := (wf26 (a := a) (b := b) hw (F_X6_wordFrom_l2 n) hw12 9 0 0 (by omega) (by omega)).2 fun r => r.1 z00
      have k' : F_X6_wordFrom_l26 9 (F_X6_wordFrom_l2 n) m a b (nI w) 0 0 = F_X6_wordFrom_l2 n m a b (nI w + 1) := k
      rw [k', nI_s (by omega)]
      exact ⟨fun q => g1 fun v v1 v2 => q v (by omega) v2, fun v v1 v2 v3 => absurd y v3.1⟩
    rw [if_neg y]
    by_cases t : ∀ j, j < 8 → wordsL.getD (8 * w + j) 0 = padW m a b j
    · have k := (wf26 (a := a) (b := b) hw (F_X6_wordFrom_l2 n) hw12 9 0 1 (by omega) (by omega)).1 ⟨n10, fun i _ i2 => t i i2⟩
      have k' : F_X6_wordFrom_l26 9 (F_X6_wordFrom_l2 n) m a b (nI w) 1 0 = nI w := k
      rw [k']
      exact ⟨fun q => absurd ⟨y, t⟩ (q w (Nat.le_refl _) hw12), fun v v1 v2 v3 => by rw [wM.one hw12 v2 ⟨y, t⟩ v3]⟩
    · have k := (wf26 (a := a) (b := b) hw (F_X6_wordFrom_l2 n) hw12 9 0 1 (by omega) (by omega)).2 fun r => t fun i i2 => r.2 i (Nat.zero_le _) i2
      have k' : F_X6_wordFrom_l26 9 (F_X6_wordFrom_l2 n) m a b (nI w) 1 0 = F_X6_wordFrom_l2 n m a b (nI w + 1) := k
      rw [k', nI_s (by omega)]
      refine ⟨fun q => g1 fun v v1 v2 => q v (by omega) v2, fun v v1 v2 v3 => ?_⟩
      by_cases u : v = w
      · rw [u] at v3
        exact absurd v3.2 t
      · exact g2 v (by omega) v2 v3
