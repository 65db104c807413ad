-- THE BEGINNING: what the constructors lay
def zOb : Ob := (fun _ => 0, fun _ _ => 0)
def lawL : List Int32 := [108, 105, 101, 115, 32, 110, 101, 114, 118, 101, 32, 59, 32, 99, 111, 115, 116, 115, 32, 49, 32, 59, 32, 115, 116, 114, 111, 107, 101, 115, 32, 49, 32, 59]
/-- the reference before its first text -/
def mZF : Ob := (fun _ => 0, fun k => if k = 14 then (fun _ => -1) else if k = 17 then (fun j => lawL.getD j 0) else if k = 22 then (fun j => wordsL.getD j 0) else fun _ => 0)
def m0F : Ob := setS (setA mZF 5 (fun j => lawL.getD j 0)) 6 34
def mF : Ob := (F_X6_text m0F).2
def T0F : Ob := F_X3_endPart (F_X3_add (F_X3_endPart (F_X3_add (F_X3_endPart (F_X3_add (F_X3_empty zOb) (-1)) 0) 1) 1) 1) 2
def txF : Nat → Ob := fun t => if t = 0 then T0F else zOb
def rwF : Nat → Ob := fun _ => (fun k => if k = 1 then -1 else 0, fun _ _ => 0)
def tnF : Nat → Ob := fun _ => zOb
def bbF : Ob := (fun k => if k = 7 then 1 else 0, fun _ _ => 0)
theorem xr_one {X m : Ob} (x2 : X.2 2 0 = 1 ∧ X.2 2 1 = 2 ∧ X.2 2 2 = 3) (x0 : X.2 0 0 = -1 ∧ X.2 0 1 = 1 ∧ X.2 0 2 = 1) (m8 : m.2 8 0 = 0 ∧ m.2 8 1 = 1 ∧ m.2 8 2 = 2 ∧ m.2 8 3 = 3) (m7 : m.2 7 0 = 0 ∧ m.2 7 1 = 100001 ∧ m.2 7 2 = 100001) : XR X m 0 := by
  obtain ⟨a0, a1, a2⟩ := x2
  obtain ⟨b0, b1, b2⟩ := x0
  obtain ⟨c0, c1, c2, c3⟩ := m8
  obtain ⟨d0, d1, d2⟩ := m7
  have hP : ∀ p : Int32, 0 ≤ p.toInt → p.toInt ≤ 2 → p = 0 ∨ p = 1 ∨ p = 2 := fun p p0 p2 => by
    rcases (show p.toInt = 0 ∨ p.toInt = 1 ∨ p.toInt = 2 by omega) with q | q | q
    · exact Or.inl (Int32.toInt_inj.mp q)
    · exact Or.inr (Or.inl (Int32.toInt_inj.mp q))
    · exact Or.inr (Or.inr (Int32.toInt_inj.mp q))
  have hw : ∀ (s e : Int32) (c : Int32), s.toInt + 1 = e.toInt → 0 ≤ s.toInt → e.toInt ≤ 200 → m.2 7 (Int32.toNatClampNeg ((200 * 0) + s)) = c → (100000 ≤ c.toInt ∨ (0 ≤ c.toInt ∧ c.toInt < 6)) → wfP (m.2 7) 0 s e := fun s e c h1 h2 h3 h4 h5 => by
    refine ⟨h2, by omega, h3, fun k => if k = s then 0 else 1, if_pos rfl, fun k k0 k1 => ?_⟩
    have ek : k = s := Int32.toInt_inj.mp (by omega)
    have e1 : (s + 1).toInt = s.toInt + 1 := addL (k := 1) (by decide +kernel) (by omega) (by omega)
    have n1 : ¬ s + 1 = s := fun q => by rw [q] at e1; omega
    subst ek
    simp only [if_neg n1, if_true]
    rw [h4]
    exact ⟨by omega, Or.inl ⟨h5, rfl⟩⟩
  refine ⟨?_, fun p p0 p2 => ?_, c0, fun p p0 p2 => ?_, fun k k0 k1 => ?_⟩
  · unfold xOK
    rw [a0, a1, a2]
    decide
  · rcases hP p p0 p2 with rfl | rfl | rfl
    · show wfP (m.2 7) 0 (m.2 8 0) (m.2 8 1)
      rw [c0, c1]
      exact hw 0 1 0 (by decide) (by decide) (by decide) d0 (by decide)
    · show wfP (m.2 7) 0 (m.2 8 1) (m.2 8 2)
      rw [c1, c2]
      exact hw 1 2 100001 (by decide) (by decide) (by decide) d1 (by decide)
    · show wfP (m.2 7) 0 (m.2 8 2) (m.2 8 3)
      rw [c2, c3]
      exact hw 2 3 100001 (by decide) (by decide) (by decide) d2 (by decide)
  · rcases hP p p0 p2 with rfl | rfl | rfl
    · exact a0.trans c1.symm
    · exact a1.trans c2.symm
    · exact a2.trans c3.symm
  · rw [a2] at k1
    have e3 : (3 : Int32).toInt = 3 := rfl
    rcases hP k k0 (by omega) with rfl | rfl | rfl
    · show trc (X.2 0 0) (m.2 7 0)
      rw [b0, d0]
      exact Or.inr (Or.inl (by decide))
    · show trc (X.2 0 1) (m.2 7 1)
      rw [b1, d1]
      exact Or.inl (by decide)
    · show trc (X.2 0 2) (m.2 7 2)
      rw [b2, d2]
      exact Or.inl (by decide)
theorem SR_of {m : Ob} (h0 : m.1 0 = 0) (h6 : m.1 6 = 0) (h9 : m.1 9 = 1) (h10 : m.1 10 = 0) (h11 : m.1 11 = 0) (h4 : m.2 4 0 = 0 ∧ m.2 4 1 = 0 ∧ m.2 4 2 = 0) (hX : XR T0F m 0) (h14 : ∀ s, s < 4 → m.2 14 s = -1) (h15 : ∀ s, s < 4 → m.2 15 s = 0) (h16 : ∀ s, s < 160 → m.2 16 s = 0) (h22 : ∀ j, j < 96 → m.2 22 j = wordsL.getD j 0) : SR bbF txF rwF zOb tnF m := by
  have e0 : (0 : Int32).toInt = 0 := rfl
  have e1 : (1 : Int32).toInt = 1 := rfl
  have hX' : XR (txF (0 : Int32).toNatClampNeg) m 0 := hX
  refine ⟨⟨⟨h0.symm, by rw [h0]; decide, by rw [h0]; decide⟩, ⟨h4.1.symm, h4.2.1.symm, h4.2.2.symm⟩, ⟨h10.symm, h10.symm, by rw [h10]; decide, by rw [h10]; decide⟩, by rw [h10]; exact hX', fun k hk => ?_, by rw [h4.2.1]; decide, by decide, fun k _ hk => ?_⟩, ⟨h9.symm, by rw [h9]; decide, by rw [h10, h9]; decide, fun t t0 t1 => ?_⟩, ⟨h11.symm, by decide, fun q => absurd h11 q⟩, fun s hs => ⟨(h14 s hs).symm, (h15 s hs).symm, by rw [h15 s hs]; decide, fun i hi => (h16 _ (by omega)).symm⟩, ⟨h6.symm, by rw [h6]; decide, fun k hk => ?_⟩, h22, by rw [h4.1]; decide, fun k hk => ?_⟩
  · rw [h0] at hk
    omega
  · exact (show ∀ k : Nat, k < 6 → vb ((tnF 0).1 5) k = 0 by decide) k hk
  · have et : t = 0 := Int32.toInt_inj.mp (by rw [h9] at t1; omega)
    rw [et]
    exact hX'
  · rw [h6] at hk
    omega
  · rw [h0] at hk
    omega
theorem mF_txt : (F_X6_text m0F).1 = 0 := by decide +kernel
theorem SR_first : SR bbF txF rwF zOb tnF mF :=
  SR_of (by decide +kernel) (by decide +kernel) (by decide +kernel) (by decide +kernel) (by decide +kernel) (by decide +kernel) (xr_one (by decide +kernel) (by decide +kernel) (by decide +kernel) (by decide +kernel)) (by decide +kernel) (by decide +kernel) (by decide +kernel) (by decide +kernel)
