-- PURE: the whole of a part's reading
def ZOK (tt : Int32) (q : RO × RO × RO) (p : Int32) : Prop := (Rd 8 7 tt X0 Lt p q.1 ∧ Fdd p q.1) ∧ (Rd 1 1 tt X1 (L1 tt) p q.2.1 ∧ Fdd p q.2.1) ∧ (Rd 4 3 tt X1 (L3 tt) p q.2.2 ∧ Fdd p q.2.2)
theorem z_step {tt p : Int32} {q : RO × RO × RO} (h5 : 0 ≤ p.toInt ∧ p.toInt ≤ 5) (k : p.toInt < 5 → ZOK tt q (p + 1)) : ZOK tt (zStep q) p := by
  have h1 := rd_one (tt := tt) (ro := q.1) (re := q.2.1) h5 fun d => ⟨(k d).1.1, (k d).2.1.1⟩
  have h2 := rd_term h1.1 h1.2
  have h3 := rd_sum h2.1 h2.2
  have h4 := rd_not (rn := q.2.2) h5 h3.1 h3.2 fun d => (k d).2.2.1
  have h6 := rd_both h4.1 h4.2
  have h7 := rd_either h6.1 h6.2
  exact ⟨h1, h7, h4⟩
theorem z_all (tt : Int32) : ∀ (d : Nat) (p : Int32), 0 ≤ p.toInt → p.toInt + d = 5 → ZOK tt (zR d) p := by
  intro d
  induction d with
  | zero =>
    intro p h0 h1
    show ZOK tt (zStep (zDm, zDm, zDm)) p
    exact z_step (by omega) fun q => by omega
  | succ d ih =>
    intro p h0 h1
    show ZOK tt (zStep (zR d)) p
    refine z_step (by omega) fun q => ?_
    have ep : (p + 1).toInt = p.toInt + 1 := addL (k := 1) (by decide +kernel) (by omega) (by omega)
    exact ih (p + 1) (by omega) (by omega)
theorem rd_read (tt : Int32) : Rd 1 1 tt X1 (L1 tt) 0 F_X2_read ∧ Fdd 0 F_X2_read := (z_all tt 5 0 (by decide) (by decide)).2.1
