section CALLS3
variable {bb : Ob} {tx rw : Nat → Ob} {sb : Ob} {tn : Nat → Ob} {m : Ob}
theorem k60 : ∀ f : Fin 60, 0 ≤ (Int32.ofNat f.val / 10).toInt ∧ (Int32.ofNat f.val / 10).toInt ≤ 5 ∧ 0 ≤ (Int32.ofNat f.val - Int32.ofNat f.val / 10 * 10).toInt ∧ (Int32.ofNat f.val - Int32.ofNat f.val / 10 * 10).toInt ≤ 9 := by decide +kernel
theorem s_join (h : SR bb tx rw sb tn m) (a b c : Int32) : (F_X4_join (tn 0) a b c).1 = (F_X6_person m a b c).1 ∧ SR bb tx rw sb (va_up tn 0 (F_X4_join (tn 0) a b c).2) (F_X6_person m a b c).2 := by
  unfold F_X4_join F_X6_person
  rw [isW, isW, isW]
  by_cases c1 : F_X6_in a 0 59 = 0
  · rw [if_pos c1, if_pos c1]; exact ⟨rfl, h.stay⟩
  rw [if_neg c1, if_neg c1]
  by_cases c2 : F_X6_in b 0 99 = 0
  · rw [if_pos c2, if_pos c2]; exact ⟨rfl, h.stay⟩
  rw [if_neg c2, if_neg c2]
  by_cases c3 : F_X6_in c 0 16777215 = 0
  · rw [if_pos c3, if_pos c3]; exact ⟨rfl, h.stay⟩
  rw [if_neg c3, if_neg c3]
  have t := h.1
  have e6 : (6 : Int32).toInt = 6 := rfl
  have ea0 : (0 : Int32).toInt = 0 := rfl
  have hp6 := t.1.2
  rw [t.1.1]
  by_cases c4 : m.1 0 = 6
  · rw [if_pos c4, if_neg (fun q => by have := i_lt.mp q; rw [c4] at this; omega)]
    exact ⟨rfl, h.stay⟩
  have hne : (m.1 0).toInt ≠ 6 := fun q => c4 (Int32.toInt_inj.mp (q.trans e6.symm))
  rw [if_neg c4, if_pos (i_lt.mpr (by omega))]
  have e1 : (m.1 0 + 1).toInt = (m.1 0).toInt + 1 := addL (k := 1) (by decide +kernel) (by omega) (by omega)
  have es : (m.1 0 + 1) - 1 = m.1 0 := by
    apply Int32.toInt_inj.mp
    rw [subL (k := 1) (by decide +kernel) (by omega) (by omega)]
    omega
  refine ⟨es.symm, ?_⟩
  obtain ⟨j0, j1, j2, j3⟩ := i4 hp6.1 (by omega)
  have hPn : ((m.1 0).toNatClampNeg : Int) = (m.1 0).toInt := by rw [tcn_i]; omega
  generalize hP : (m.1 0).toNatClampNeg = P at *
  -- kind and more
  have ha := in_f c1
  have e59 : (59 : Int32).toInt = 59 := rfl
  have hk := k60 ⟨a.toNatClampNeg, by rw [tcn_i]; omega⟩
  rw [show Int32.ofNat a.toNatClampNeg = a from nI_tcn (by omega)] at hk
  generalize hK : a / 10 = K at *
  generalize hM : a - K * 10 = M at *
  -- the vows
  obtain ⟨v, hv⟩ := as64 t.2.2.2.2.2.2.1.1 t.2.2.2.2.2.2.1.2
  have hPl : P < 6 := by omega
  have hx := fun j : Fin 6 => vb_and v ⟨P, hPl⟩ j
  rw [← hv] at hx
  have hPi : nI P = m.1 0 := by rw [← hP]; exact nI_tcn hp6.1
  simp only [hPi] at hx
  -- the rows
  have r3 : ∀ (f : Nat → Int32) (j : Nat), upd (upd (upd (upd f (4 * m.1 0).toNatClampNeg b) ((4 * m.1 0) + 1).toNatClampNeg 0) ((4 * m.1 0) + 2).toNatClampNeg c) ((4 * m.1 0) + 3).toNatClampNeg 0 j = (if j = 4 * P then b else if j = 4 * P + 1 then 0 else if j = 4 * P + 2 then c else if j = 4 * P + 3 then 0 else f j) := fun f j => by
    rw [j0, j1, j2, j3]
    unfold upd
    by_cases q0 : j = 4 * P
    · rw [if_neg (by omega), if_neg (by omega), if_neg (by omega), if_pos q0, if_pos q0]
    by_cases q1 : j = 4 * P + 1
    · rw [if_neg (by omega), if_neg (by omega), if_pos q1, if_neg q0, if_pos q1]
    by_cases q2 : j = 4 * P + 2
    · rw [if_neg (by omega), if_pos q2, if_neg q0, if_neg q1, if_pos q2]
    by_cases q3 : j = 4 * P + 3
    · rw [if_pos q3, if_neg q0, if_neg q1, if_neg q2, if_pos q3]
    rw [if_neg q3, if_neg q2, if_neg q1, if_neg q0, if_neg q0, if_neg q1, if_neg q2, if_neg q3]
  obtain ⟨ta, tb, tc, td, te, tf, tg, ti⟩ := t
  have u : ∀ (f : Nat → Int32) (w : Int32) (j : Nat), upd f (m.1 0).toNatClampNeg w j = (if j = P then w else f j) := fun f w j => by rw [hP]; rfl
  refine ⟨⟨⟨?_, ?_, ?_⟩, tb, tc, td, fun k hk2 => ?_, tf, ?_, fun k hk2 hk6 => ?_⟩, h.2.1, ?_, h.2.2.2.1, h.2.2.2.2.1, h.2.2.2.2.2.1, h.2.2.2.2.2.2.1, fun k hk2 => ?_⟩
  · show (tn 0).1 6 + 1 = m.1 0 + 1
    rw [ta.1]
  · show 0 ≤ (m.1 0 + 1).toInt; omega
  · show (m.1 0 + 1).toInt ≤ 6; omega
  · replace hk2 : (k : Int) < (m.1 0 + 1).toInt := hk2
    by_cases q : k = P
    · subst q
      refine ⟨⟨?_, ?_, ?_, ?_, ?_, ?_⟩, ?_, ?_⟩
      · show upd ((tn 0).2 0) (m.1 0).toNatClampNeg K k = upd (m.2 1) (m.1 0).toNatClampNeg K k
        rw [u, u, if_pos rfl, if_pos rfl]
      · show upd ((tn 0).2 1) (m.1 0).toNatClampNeg M k = upd (m.2 2) (m.1 0).toNatClampNeg M k
        rw [u, u, if_pos rfl, if_pos rfl]
      · show upd ((tn 0).2 2) (m.1 0).toNatClampNeg b k = upd (upd (upd (upd (m.2 3) (4 * m.1 0).toNatClampNeg b) ((4 * m.1 0) + 1).toNatClampNeg 0) ((4 * m.1 0) + 2).toNatClampNeg c) ((4 * m.1 0) + 3).toNatClampNeg 0 (4 * k)
        rw [u, r3, if_pos rfl, if_pos rfl]
      · show upd ((tn 0).2 3) (m.1 0).toNatClampNeg 0 k = upd (upd (upd (upd (m.2 3) (4 * m.1 0).toNatClampNeg b) ((4 * m.1 0) + 1).toNatClampNeg 0) ((4 * m.1 0) + 2).toNatClampNeg c) ((4 * m.1 0) + 3).toNatClampNeg 0 (4 * k + 1)
        rw [u, r3, if_pos rfl, if_neg (by omega), if_pos rfl]
      · show upd ((tn 0).2 4) (m.1 0).toNatClampNeg c k = upd (upd (upd (upd (m.2 3) (4 * m.1 0).toNatClampNeg b) ((4 * m.1 0) + 1).toNatClampNeg 0) ((4 * m.1 0) + 2).toNatClampNeg c) ((4 * m.1 0) + 3).toNatClampNeg 0 (4 * k + 2)
        rw [u, r3, if_pos rfl, if_neg (by omega), if_neg (by omega), if_pos rfl]
      · show vb (((tn 0).1 5) &&& ((1 <<< (m.1 0 &&& 31)) ^^^ (-1))) k = upd (upd (upd (upd (m.2 3) (4 * m.1 0).toNatClampNeg b) ((4 * m.1 0) + 1).toNatClampNeg 0) ((4 * m.1 0) + 2).toNatClampNeg c) ((4 * m.1 0) + 3).toNatClampNeg 0 (4 * k + 3)
        rw [r3, if_neg (by omega), if_neg (by omega), if_neg (by omega), if_pos rfl, (hx ⟨k, hPl⟩).1, if_pos rfl]
      · show 0 ≤ (upd (m.2 2) (m.1 0).toNatClampNeg M k).toInt ∧ (upd (m.2 2) (m.1 0).toNatClampNeg M k).toInt ≤ 9
        rw [u, if_pos rfl]
        exact hk.2.2
      · show 0 ≤ (upd (upd (upd (upd (m.2 3) (4 * m.1 0).toNatClampNeg b) ((4 * m.1 0) + 1).toNatClampNeg 0) ((4 * m.1 0) + 2).toNatClampNeg c) ((4 * m.1 0) + 3).toNatClampNeg 0 (4 * k + 1)).toInt ∧ (upd (upd (upd (upd (m.2 3) (4 * m.1 0).toNatClampNeg b) ((4 * m.1 0) + 1).toNatClampNeg 0) ((4 * m.1 0) + 2).toNatClampNeg c) ((4 * m.1 0) + 3).toNatClampNeg 0 (4 * k + 1)).toInt ≤ 9999
        rw [r3, if_neg (by omega), if_pos rfl]
        decide
    · obtain ⟨⟨k0, k1, k2, k3, k4, k5⟩, v1, v2⟩ := te k (by omega)
      refine ⟨⟨?_, ?_, ?_, ?_, ?_, ?_⟩, ?_, ?_⟩
      · show upd ((tn 0).2 0) (m.1 0).toNatClampNeg K k = upd (m.2 1) (m.1 0).toNatClampNeg K k
        rw [u, u, if_neg q, if_neg q, k0]
      · show upd ((tn 0).2 1) (m.1 0).toNatClampNeg M k = upd (m.2 2) (m.1 0).toNatClampNeg M k
        rw [u, u, if_neg q, if_neg q, k1]
      · show upd ((tn 0).2 2) (m.1 0).toNatClampNeg b k = upd (upd (upd (upd (m.2 3) (4 * m.1 0).toNatClampNeg b) ((4 * m.1 0) + 1).toNatClampNeg 0) ((4 * m.1 0) + 2).toNatClampNeg c) ((4 * m.1 0) + 3).toNatClampNeg 0 (4 * k)
        rw [u, r3, if_neg q, if_neg (by omega), if_neg (by omega), if_neg (by omega), if_neg (by omega), k2]
      · show upd ((tn 0).2 3) (m.1 0).toNatClampNeg 0 k = upd (upd (upd (upd (m.2 3) (4 * m.1 0).toNatClampNeg b) ((4 * m.1 0) + 1).toNatClampNeg 0) ((4 * m.1 0) + 2).toNatClampNeg c) ((4 * m.1 0) + 3).toNatClampNeg 0 (4 * k + 1)
        rw [u, r3, if_neg q, if_neg (by omega), if_neg (by omega), if_neg (by omega), if_neg (by omega), k3]
      · show upd ((tn 0).2 4) (m.1 0).toNatClampNeg c k = upd (upd (upd (upd (m.2 3) (4 * m.1 0).toNatClampNeg b) ((4 * m.1 0) + 1).toNatClampNeg 0) ((4 * m.1 0) + 2).toNatClampNeg c) ((4 * m.1 0) + 3).toNatClampNeg 0 (4 * k + 2)
        rw [u, r3, if_neg q, if_neg (by omega), if_neg (by omega), if_neg (by omega), if_neg (by omega), k4]
      · show vb (((tn 0).1 5) &&& ((1 <<< (m.1 0 &&& 31)) ^^^ (-1))) k = upd (upd (upd (upd (m.2 3) (4 * m.1 0).toNatClampNeg b) ((4 * m.1 0) + 1).toNatClampNeg 0) ((4 * m.1 0) + 2).toNatClampNeg c) ((4 * m.1 0) + 3).toNatClampNeg 0 (4 * k + 3)
        rw [r3, if_neg (by omega), if_neg (by omega), if_neg (by omega), if_neg (by omega), (hx ⟨k, by omega⟩).1, if_neg (fun z => q (Fin.mk.inj z)), k5]
      · show 0 ≤ (upd (m.2 2) (m.1 0).toNatClampNeg M k).toInt ∧ (upd (m.2 2) (m.1 0).toNatClampNeg M k).toInt ≤ 9
        rw [u, if_neg q]
        exact v1
      · show 0 ≤ (upd (upd (upd (upd (m.2 3) (4 * m.1 0).toNatClampNeg b) ((4 * m.1 0) + 1).toNatClampNeg 0) ((4 * m.1 0) + 2).toNatClampNeg c) ((4 * m.1 0) + 3).toNatClampNeg 0 (4 * k + 1)).toInt ∧ (upd (upd (upd (upd (m.2 3) (4 * m.1 0).toNatClampNeg b) ((4 * m.1 0) + 1).toNatClampNeg 0) ((4 * m.1 0) + 2).toNatClampNeg c) ((4 * m.1 0) + 3).toNatClampNeg 0 (4 * k + 1)).toInt ≤ 9999
        rw [r3, if_neg (by omega), if_neg (by omega), if_neg (by omega), if_neg (by omega)]
        exact v2
  · exact (hx ⟨0, by decide⟩).2
  · replace hk2 : (m.1 0 + 1).toInt ≤ (k : Int) := hk2
    show vb (((tn 0).1 5) &&& ((1 <<< (m.1 0 &&& 31)) ^^^ (-1))) k = 0
    rw [(hx ⟨k, hk6⟩).1]
    split
    · rfl
    · exact ti k (by omega) hk6
  · refine h.2.2.1.gen rfl rfl ?_ (Int.le_refl _) rfl rfl (fun j hj => ?_) (fun j hj => ?_) (fun t _ _ hx => hx)
    · show (m.1 0).toInt ≤ (m.1 0 + 1).toInt; omega
    · show upd (m.2 1) (m.1 0).toNatClampNeg K j = m.2 1 j
      rw [u, if_neg (by omega)]
    · show upd (m.2 2) (m.1 0).toNatClampNeg M j = m.2 2 j
      rw [u, if_neg (by omega)]
  · replace hk2 : (k : Int) < (m.1 0 + 1).toInt := hk2
    show 0 ≤ (upd (m.2 1) (m.1 0).toNatClampNeg K k).toInt ∧ (upd (m.2 1) (m.1 0).toNatClampNeg K k).toInt ≤ 5
    rw [u]
    split
    · exact ⟨hk.1, hk.2.1⟩
    · exact h.2.2.2.2.2.2.2 k (by omega)
theorem s_person (h : SR bb tx rw sb tn m) (a b c : Int32) : (F_X5_person tn a b c).1 = (F_X6_person m a b c).1 ∧ SR bb tx rw sb (va_up tn 0 (F_X5_person tn a b c).2) (F_X6_person m a b c).2 := s_join h a b c
end CALLS3
