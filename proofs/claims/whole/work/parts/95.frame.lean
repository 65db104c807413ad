-- PURE: the frame of a text
theorem expect_fl {s : Ob} {v : Int32} (h : Fl s) (hv : ¬ v = 1) : F_X2_expect s v = s := by
  unfold F_X2_expect F_X2_expect_c16
  rw [if_neg (by rw [h.1]; exact fun q => hv q.symm)]
  exact fail_same h
theorem part_no {x : Int32} (h0 : 0 ≤ x.toInt) (h1 : x.toInt ≤ 3) : (256 + x).toInt = 256 + x.toInt := by
  have e2 : (256 : Int32).toInt = 256 := rfl
  rw [fb_addI (by omega) (by omega), e2]
theorem into_fl : ∀ (f : Nat) (s T : Ob) (x : Int32), Fl s → 3 < x.toInt + f → 0 ≤ x.toInt → x.toInt ≤ 3 → ∃ T', F_X2_readInto_l20 f s T x = (s.1 6, setS s 1 0, T') := by
  intro f
  induction f with
  | zero => intro s T x h h1 h2 h3; omega
  | succ f ih =>
    intro s T x h h1 h2 h3
    have e2 : (2 : Int32).toInt = 2 := rfl
    have e1 : (1 : Int32).toInt = 1 := rfl
    unfold F_X2_readInto_l20
    by_cases c : 2 < x
    · rw [if_pos c, if_neg (by rw [h.1]; decide), fail_same h]
      exact ⟨T, rfl⟩
    · have cc := i_nlt c
      have hp := part_no h2 h3
      have hx : (x + 1).toInt = x.toInt + 1 := addL (k := 1) (by decide +kernel) (by omega) (by omega)
      rw [if_neg c, expect_fl h (fun q => by rw [q] at hp; omega)]
      unfold F_X2_readInto_c31 F_X2_readInto_c37 F_X2_readInto_c43 F_X2_readInto_c48
      rw [(rd_read 0).2 s T h, expect_fl h (by decide)]
      exact ih s _ (x + 1) h (by omega) (by omega) (by omega)
/-- the reference's frame after a fault -/
theorem text_fl (n : Nat) (m : Ob) (x : Int32) : F_X6_text_l26 (n + 1) m 0 x = (((-100) - (m.1 19)), (setS (stA m 8 ((4 * (m.1 9)) + 3) (m.1 26)) 6 0)) := by
  rw [F_X6_text_l26]
  unfold F_X6_text_b101 F_X6_text_b122
  split
  · rw [if_pos z00, if_pos z00]
  · rw [if_pos z00, if_pos z00, if_pos z00]
