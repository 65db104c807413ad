-- PURE: the class's words
def wix (i : Nat) : Nat := if i < 6 then i + 3 else if i < 9 then i - 6 else i
/-- the script is the same, and what lies from a to b are letters -/
def Tp (sb m : Ob) : Prop := sb.1 1 = m.1 6 ∧ (0 ≤ (m.1 6).toInt ∧ (m.1 6).toInt ≤ 160) ∧ ∀ k : Nat, (k : Int) < (m.1 6).toInt → sb.2 0 k = m.2 5 k
def lets (m : Ob) (a b : Int32) : Prop := ∀ x : Int32, a.toInt ≤ x.toInt → x.toInt < b.toInt → 97 ≤ (m.2 5 x.toNatClampNeg).toInt ∧ (m.2 5 x.toNatClampNeg).toInt ≤ 122
theorem Tp.byte {sb m : Ob} (h : Tp sb m) {p : Int32} (h0 : 0 ≤ p.toInt) (h1 : p.toInt < (m.1 6).toInt) : F_X2_byteAt sb p = m.2 5 p.toNatClampNeg := by
  obtain ⟨a, b, c⟩ := h
  have e0 : (0 : Int32).toInt = 0 := rfl
  have e160 : (160 : Int32).toInt = 160 := rfl
  unfold F_X2_byteAt
  rw [a, if_neg (fun q => by have := i_lt.mp q; omega), if_neg (fun q => by have := i_le.mp q; omega), if_neg (fun q => by have := i_le.mp q; omega)]
  exact c _ (by rw [tcn_i]; omega)
theorem word_tab : ∀ (i : Fin 12) (j : Fin 8), wordsL.getD (8 * wix i.val + j.val) 0 = (if j.val < gLen.getD i.val 0 then F_chr i.val (nI j.val) else 32) ∧ (j.val < gLen.getD i.val 0 → F_chr i.val (nI j.val) ≠ 32) ∧ gLen.getD i.val 0 ≤ 7 ∧ wix i.val < 12 := by decide +kernel
theorem isw20 (sb : Ob) (i : Nat) (hl : gLen.getD i 0 ≤ 7) : ∀ (n k : Nat), k ≤ gLen.getD i 0 → gLen.getD i 0 < k + n →
    ((∀ j, k ≤ j → j < gLen.getD i 0 → F_X2_byteAt sb (sb.1 3 + nI j) = F_chr i (nI j)) → F_X2_isWord_l20 n sb i (nI k) = 1) ∧ (¬ (∀ j, k ≤ j → j < gLen.getD i 0 → F_X2_byteAt sb (sb.1 3 + nI j) = F_chr i (nI j)) → F_X2_isWord_l20 n sb i (nI k) = 0) := by
  intro n
  induction n with
  | zero => intro k h1 h2; omega
  | succ n ih =>
    intro k h1 h2
    have ek : (nI k).toInt = k := nI_toInt (by omega)
    have el : (F_len i).toInt = (gLen.getD i 0 : Nat) := nI_toInt (by omega)
    unfold F_X2_isWord_l20
    by_cases c : F_len i ≤ nI k
    · have cc := i_le.mp c
      rw [if_pos c]
      exact ⟨fun _ => rfl, fun q => absurd (fun j j1 j2 => by omega) q⟩
    rw [if_neg c]
    have cc := i_nle c
    by_cases y : F_X2_byteAt sb (sb.1 3 + nI k) = F_chr i (nI k)
    · rw [if_pos y, nI_s (by omega)]
      obtain ⟨g1, g2⟩ := ih (k + 1) (by omega) (by omega)
      refine ⟨fun q => g1 fun j j1 j2 => q j (by omega) j2, fun q => g2 fun r => q fun j j1 j2 => ?_⟩
      by_cases t : j = k
      · rw [t]; exact y
      · exact r j (by omega) j2
    · rw [if_neg y]
      exact ⟨fun q => absurd (q k (Nat.le_refl _) (by omega)) y, fun _ => rfl⟩
theorem add_nI {a : Int32} {j : Nat} (h0 : 0 ≤ a.toInt) (h1 : a.toInt ≤ 160) (hj : j < 1000) : (a + nI j).toInt = a.toInt + j := by
  have e : (nI j).toInt = j := nI_toInt (by omega)
  rw [fb_addI (by omega) (by omega), e]
theorem isW_iff {sb m : Ob} {a b : Int32} (h : Tp sb m) (ha : sb.1 3 = a) (hb : sb.1 2 = b) (h0 : 0 ≤ a.toInt) (hab : a.toInt ≤ b.toInt) (hbm : b.toInt ≤ (m.1 6).toInt) (hlt : lets m a b) {i : Nat} (hi : i < 12) :
    (wM m a b (wix i) → ¬ F_X2_isWord sb i = 0) ∧ (¬ wM m a b (wix i) → F_X2_isWord sb i = 0) := by
  have h160 := h.2.1
  have hT := fun (j : Nat) (hj : j < 8) => word_tab ⟨i, hi⟩ ⟨j, hj⟩
  have hl7 : gLen.getD i 0 ≤ 7 := (hT 0 (by omega)).2.2.1
  obtain ⟨L, hL⟩ : ∃ L, L = gLen.getD i 0 := ⟨_, rfl⟩
  have hg := isw20 sb i hl7 9 0 (Nat.zero_le _) (by omega)
  have el : (F_len i).toInt = (gLen.getD i 0 : Nat) := nI_toInt (by omega)
  have es : (b - a).toInt = b.toInt - a.toInt := fb_subI (by omega) (by omega)
  have e8 : (8 : Int32).toInt = 8 := rfl
  have hT' : ∀ j, j < 8 → wordsL.getD (8 * wix i + j) 0 = (if j < L then F_chr i (nI j) else 32) := fun j hj => by rw [hL]; exact (hT j hj).1
  have hN : ∀ j, j < L → F_chr i (nI j) ≠ 32 := fun j hj => (hT j (by omega)).2.1 (by rw [← hL]; exact hj)
  rw [← hL] at hl7 hg el
  have hA : ∀ j : Nat, j < 8 → (a + nI j).toInt = a.toInt + j := fun j hj => add_nI h0 (by omega) (by omega)
  have hP : ∀ j : Nat, j < 8 → (a.toInt + j < b.toInt → padW m a b j = m.2 5 (a + nI j).toNatClampNeg ∧ padW m a b j ≠ 32 ∧ F_X2_byteAt sb (sb.1 3 + nI j) = padW m a b j) ∧ (¬ a.toInt + j < b.toInt → padW m a b j = 32) := by
    intro j hj
    have hA' := hA j hj
    refine ⟨fun q => ?_, fun q => ?_⟩
    · have ep : padW m a b j = m.2 5 (a + nI j).toNatClampNeg := if_neg fun r => by
        have := i_le.mp r
        omega
      refine ⟨ep, fun r => ?_, ?_⟩
      · have hz := hlt (a + nI j) (by omega) (by omega)
        rw [← ep, r] at hz
        have e32 : (32 : Int32).toInt = 32 := rfl
        omega
      · rw [ha, ep]
        exact h.byte (by omega) (by omega)
    · exact if_pos (i_le.mpr (by omega))
  clear hA hT hlt
  unfold F_X2_isWord
  rw [ha, hb]
  refine ⟨fun q => ?_, fun q => ?_⟩
  · obtain ⟨q1, q2⟩ := q
    have q1' := i_nlt q1
    have hn : b.toInt - a.toInt = L := by
      by_cases t : b.toInt - a.toInt < L
      · exfalso
        obtain ⟨n, hn⟩ : ∃ n : Nat, (n : Int) = b.toInt - a.toInt := ⟨(b.toInt - a.toInt).toNat, by omega⟩
        have z := q2 n (by omega)
        rw [hT' n (by omega), if_pos (by omega), (hP n (by omega)).2 (by omega)] at z
        exact hN n (by omega) z
      by_cases u : (L : Int) < b.toInt - a.toInt
      · exfalso
        have z := q2 L (by omega)
        rw [hT' L (by omega), if_neg (by omega)] at z
        exact ((hP L (by omega)).1 (by omega)).2.1 z.symm
      omega
    rw [if_pos (Int32.toInt_inj.mp (by rw [es, el]; exact hn)), show (0 : Int32) = nI 0 from rfl, hg.1 fun j _ j2 => ?_]
    · exact n10
    · have z := q2 j (by omega)
      rw [hT' j (by omega), if_pos j2] at z
      rw [((hP j (by omega)).1 (by omega)).2.2, z]
  · by_cases c : b - a = F_len i
    · rw [if_pos c]
      show F_X2_isWord_l20 9 sb i (nI 0) = 0
      refine hg.2 fun r => ?_
      · apply q
        have hn : b.toInt - a.toInt = L := by rw [← es, c, el]
        refine ⟨fun z => ?_, fun j hj => ?_⟩
        · have := i_lt.mp z
          omega
        · rw [hT' j hj]
          by_cases t : j < L
          · rw [if_pos t, ← r j (Nat.zero_le _) t]
            exact ((hP j hj).1 (by omega)).2.2
          · rw [if_neg t]
            exact ((hP j hj).2 (by omega)).symm
    · rw [if_neg c]
