-- PURE: lowest terms
theorem rem64 {x y : Int64} (hx : 0 ≤ x.toInt ∧ x.toInt ≤ 4294967296) (hy : 0 < y.toInt) : (x - x / y * y).toInt = ((x.toInt.toNat % y.toInt.toNat : Nat) : Int) := by
  have hn : y ≠ 0 := fun q => by
    subst q
    exact absurd hy (by decide)
  obtain ⟨h0, h1⟩ := hx
  rw [lrem_big (by generalize x.toInt = z at *; omega) hn]
  generalize x.toInt = a at *
  generalize y.toInt = b at *
  rw [Int.tmod_eq_emod_of_nonneg h0]
  obtain ⟨a', rfl⟩ := Int.eq_ofNat_of_zero_le h0
  obtain ⟨b', rfl⟩ := Int.eq_ofNat_of_zero_le (Int.le_of_lt hy)
  rfl
theorem lcmp_0 {y : Int64} (h : y.toInt = 0) : lg_cmp y 0 = 0 := by
  have e : y = 0 := Int64.toInt_inj.mp h
  subst e
  rfl
theorem lcmp_n {y : Int64} (h : 0 < y.toInt) : ¬ lg_cmp y 0 = 0 := fun q => by
  have e := lcmp_eq q
  subst e
  exact absurd h (by decide)
theorem cls_g (y0 y2 : Int64) (x4 : Int32) : ∀ (k n : Nat) (a b : Int64) (x9 : Int32), 0 ≤ a.toInt → a.toInt < (2 ^ k : Nat) → a.toInt ≤ 4294967296 → 0 < b.toInt → b.toInt ≤ 4294967296 → 0 ≤ x9.toInt → x9.toInt + 2 * k ≤ 999 → 1000 < x9.toInt + n → ∃ g : Int64, g.toInt = (Nat.gcd a.toInt.toNat b.toInt.toNat : Int) ∧ F_X5_lowestTerms_l9 n y0 y2 x4 a b x9 = F_X5_lowestTerms_b45 y0 y2 x4 g := by
  have e1000 : (1000 : Int32).toInt = 1000 := rfl
  have base : ∀ (n : Nat) (a b : Int64) (x9 : Int32), a.toInt = 0 → 0 < b.toInt → x9.toInt ≤ 999 → 1000 < x9.toInt + n → ∃ g : Int64, g.toInt = (Nat.gcd a.toInt.toNat b.toInt.toNat : Int) ∧ F_X5_lowestTerms_l9 n y0 y2 x4 a b x9 = F_X5_lowestTerms_b45 y0 y2 x4 g := by
    intro n a b x9 ha hb hx hn
    obtain ⟨n, rfl⟩ : ∃ z, n = z + 1 := ⟨n - 1, by omega⟩
    refine ⟨b, ?_, ?_⟩
    · rw [ha]
      show b.toInt = ((Nat.gcd 0 b.toInt.toNat : Nat) : Int)
      rw [Nat.gcd_zero_left]
      omega
    · unfold F_X5_lowestTerms_l9
      rw [if_neg (fun q => by have := i_le.mp q; omega), if_pos (lcmp_0 ha)]
  intro k
  induction k with
  | zero =>
    intro n a b x9 h0 h1 h1b h2 h3 h4 h5 h6
    exact base n a b x9 (by have : ((2 ^ 0 : Nat) : Int) = 1 := rfl; omega) h2 (by omega) h6
  | succ k ih =>
    intro n a b x9 h0 h1 h1b h2 h3 h4 h5 h6
    by_cases ha : a.toInt = 0
    · exact base n a b x9 ha h2 (by omega) h6
    have hap : 0 < a.toInt := by omega
    obtain ⟨n, rfl⟩ : ∃ z, n = z + 1 := ⟨n - 1, by omega⟩
    have e1 : (x9 + 1).toInt = x9.toInt + 1 := addL (k := 1) (by decide +kernel) (by omega) (by omega)
    have hr := rem64 (x := b) (y := a) ⟨by omega, h3⟩ hap
    have s1 : F_X5_lowestTerms_l9 (n + 1) y0 y2 x4 a b x9 = F_X5_lowestTerms_l9 n y0 y2 x4 (b - b / a * a) a (x9 + 1) := (if_neg (fun q => by have := i_le.mp q; omega)).trans (if_neg (lcmp_n hap))
    rw [s1]
    have hg : Nat.gcd a.toInt.toNat b.toInt.toNat = Nat.gcd (b.toInt.toNat % a.toInt.toNat) a.toInt.toNat := Nat.gcd_rec _ _
    have hlt : b.toInt.toNat % a.toInt.toNat < a.toInt.toNat := Nat.mod_lt _ (by omega)
    generalize hrr : b - b / a * a = r at *
    have hrN : r.toInt.toNat = b.toInt.toNat % a.toInt.toNat := by rw [hr]; rfl
    rw [hg, ← hrN]
    by_cases hr0 : r.toInt = 0
    · exact base n r a (x9 + 1) hr0 hap (by omega) (by omega)
    have hrp : 0 < r.toInt := by omega
    obtain ⟨n, rfl⟩ : ∃ z, n = z + 1 := ⟨n - 1, by omega⟩
    have e2 : (x9 + 1 + 1).toInt = x9.toInt + 2 := by
      rw [addL (x := x9 + 1) (k := 1) (by decide +kernel) (by omega) (by omega)]
      omega
    have hr2 := rem64 (x := a) (y := r) ⟨h0, h1b⟩ hrp
    have s2 : F_X5_lowestTerms_l9 (n + 1) y0 y2 x4 r a (x9 + 1) = F_X5_lowestTerms_l9 n y0 y2 x4 (a - a / r * r) r (x9 + 1 + 1) := (if_neg (fun q => by have := i_le.mp q; omega)).trans (if_neg (lcmp_n hrp))
    rw [s2]
    have hg2 : Nat.gcd r.toInt.toNat a.toInt.toNat = Nat.gcd (a.toInt.toNat % r.toInt.toNat) r.toInt.toNat := Nat.gcd_rec _ _
    have hlt2 : a.toInt.toNat % r.toInt.toNat < r.toInt.toNat := Nat.mod_lt _ (by omega)
    have hdiv := Nat.div_add_mod a.toInt.toNat r.toInt.toNat
    have hq : 1 ≤ a.toInt.toNat / r.toInt.toNat := Nat.div_pos (by omega) (by omega)
    have hmul : r.toInt.toNat * 1 ≤ r.toInt.toNat * (a.toInt.toNat / r.toInt.toNat) := Nat.mul_le_mul_left _ hq
    have hp2 : (2 ^ (k + 1) : Nat) = 2 ^ k * 2 := Nat.pow_succ 2 k
    generalize hss : a - a / r * r = w at *
    have hwN : w.toInt.toNat = a.toInt.toNat % r.toInt.toNat := by rw [hr2]; rfl
    rw [hg2, ← hwN]
    exact ih n w r (x9 + 1 + 1) (by omega) (by omega) (by omega) hrp (by omega) (by omega) (by omega) (by omega)
theorem mod_g (y0 y2 : Int64) (x4 : Int32) : ∀ (n : Nat) (a b : Int64), 0 ≤ a.toInt → a.toInt ≤ 4294967296 → 0 ≤ b.toInt → b.toInt ≤ 4294967296 → b.toInt < n → ∃ g : Int64, g.toInt = (Nat.gcd a.toInt.toNat b.toInt.toNat : Int) ∧ F_X6_lowest_l16 n y0 y2 x4 a b = (if x4 = 0 then (y0 / g) else (y2 / g)) := by
  intro n
  induction n with
  | zero => intro a b _ _ h _ hn; omega
  | succ n ih =>
    intro a b h0 h1 h2 h3 hn
    by_cases hb : b.toInt = 0
    · refine ⟨a, ?_, ?_⟩
      · rw [hb]
        show a.toInt = ((Nat.gcd a.toInt.toNat 0 : Nat) : Int)
        rw [Nat.gcd_zero_right]
        omega
      · unfold F_X6_lowest_l16
        rw [if_pos (lcmp_0 hb)]
    have hbp : 0 < b.toInt := by omega
    have s1 : F_X6_lowest_l16 (n + 1) y0 y2 x4 a b = F_X6_lowest_l16 n y0 y2 x4 b (a - a / b * b) := if_neg (lcmp_n hbp)
    rw [s1]
    have hr := rem64 (x := a) (y := b) ⟨h0, h1⟩ hbp
    have hlt : a.toInt.toNat % b.toInt.toNat < b.toInt.toNat := Nat.mod_lt _ (by omega)
    have hg : Nat.gcd a.toInt.toNat b.toInt.toNat = Nat.gcd b.toInt.toNat (a.toInt.toNat % b.toInt.toNat) := by
      rw [Nat.gcd_comm, Nat.gcd_rec, Nat.gcd_comm]
    generalize hrr : a - a / b * b = r at *
    have hrN : r.toInt.toNat = a.toInt.toNat % b.toInt.toNat := by rw [hr]; rfl
    rw [hg, ← hrN]
    exact ih b r h2 h3 (by omega) (by omega) (by omega)
theorem div64 {x y : Int64} (hx : 0 ≤ x.toInt ∧ x.toInt ≤ 4294967296) : (x / y).toInt = x.toInt.tdiv y.toInt := by
  obtain ⟨h0, h1⟩ := hx
  rw [Int64.toInt_div]
  have h : (x.toInt.tdiv y.toInt).natAbs ≤ x.toInt.natAbs := by
    rw [Int.natAbs_tdiv]
    exact Nat.div_le_self _ _
  generalize x.toInt.tdiv y.toInt = z at *
  generalize x.toInt = a at *
  rw [Int.bmod_eq_of_le (by omega) (by omega)]
theorem lowest_eq {a b : Int64} {q : Int32} (ha : 0 ≤ a.toInt ∧ a.toInt ≤ 2147483648) (hb : 1 ≤ b.toInt ∧ b.toInt ≤ 2147483648) (hq : q = 0 ∨ q = 1) : F_X5_lowestTerms a b q = F_X6_lowest a b q := by
  obtain ⟨ha0, ha1⟩ := ha
  obtain ⟨hb0, hb1⟩ := hb
  obtain ⟨g, hg, e⟩ := cls_g a b q 33 1001 a b 0 ha0 (by have : ((2 ^ 33 : Nat) : Int) = 8589934592 := rfl; omega) (by omega) (by omega) (by omega) (by decide) (by decide) (by decide)
  unfold F_X5_lowestTerms
  rw [e]
  have hgp : 0 < g.toInt := by
    rw [hg]
    have : 0 < Nat.gcd a.toInt.toNat b.toInt.toNat := Nat.gcd_pos_of_pos_right _ (by omega)
    omega
  unfold F_X5_lowestTerms_b45 F_X6_lowest
  rw [if_neg (lcmp_n hgp)]
  by_cases h0 : a.toInt = 0
  · rw [if_pos (lcmp_0 h0)]
    have hgb : g = b := Int64.toInt_inj.mp (by
      rw [hg, h0]
      show ((Nat.gcd 0 b.toInt.toNat : Nat) : Int) = _
      rw [Nat.gcd_zero_left]
      omega)
    subst hgb
    rcases hq with rfl | rfl
    · rw [if_pos rfl]
      apply Int64.toInt_inj.mp
      rw [div64 ⟨ha0, by omega⟩, h0, Int.zero_tdiv]
      rfl
    · rw [if_neg (by decide)]
      apply Int64.toInt_inj.mp
      rw [div64 ⟨by omega, by omega⟩, Int.tdiv_self (by omega)]
      rfl
  · rw [if_neg (lcmp_n (by omega))]
    obtain ⟨g2, hg2, e2⟩ := mod_g a b q (b.toInt.natAbs + 1) a b ha0 (by omega) (by omega) (by omega) (by omega)
    rw [e2]
    have hgg : g2 = g := Int64.toInt_inj.mp (hg2.trans hg.symm)
    rw [hgg]
