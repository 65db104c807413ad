-- STATE WORDS: an object is its numbers and its int rows, each by the number of its field
abbrev Ob : Type := (Nat → Int32) × (Nat → Nat → Int32)
abbrev GG : Type := va_G × ClassId × ClassId × ClassId × (Nat → Nat)
abbrev gA (g : GG) (k : Nat) : Nat := g.2.2.2.2 k
abbrev gTys (g : GG) : List (ClassId × FieldType) := [(g.2.1, .int), (g.2.2.1, .object RX1), (g.2.2.2.1, .object RX3)]
def setS (T : Ob) (k : Nat) (v : Int32) : Ob := (upd T.1 k v, T.2)
def setA (T : Ob) (k : Nat) (f : Nat → Int32) : Ob := (T.1, va_up T.2 k f)
def stA (T : Ob) (k : Nat) (i x : Int32) : Ob := (T.1, va_up T.2 k (upd (T.2 k) i.toNatClampNeg x))
abbrev oBell (g : GG) (O : Ob) : List Value := [.ref (gA g 1), .ref (gA g 2), .ref (gA g 35), .ref (gA g 37), .ref (gA g 40), .ref (gA g 46), .ref (gA g 52), .int (O.1 7), .int (O.1 8)]
abbrev oText (g : GG) (q : Nat) (O : Ob) : List Value := [.ref (gA g (q + 1)), .ref (gA g (q + 2)), .ref (gA g (q + 3)), .int (O.1 3)]
abbrev oRow (g : GG) (q : Nat) (O : Ob) : List Value := [.ref (gA g (q + 1)), .int (O.1 1), .int (O.1 2)]
abbrev oScribe (g : GG) (O : Ob) : List Value := [.ref (gA g 36), .int (O.1 1), .int (O.1 2), .int (O.1 3), .int (O.1 4), .int (O.1 5), .int (O.1 6)]
abbrev oDay (g : GG) : List Value := [.ref (gA g 38), .ref (gA g 39)]
abbrev oTown (g : GG) (q : Nat) (O : Ob) : List Value := [.ref (gA g (q + 1)), .ref (gA g (q + 2)), .ref (gA g (q + 3)), .ref (gA g (q + 4)), .ref (gA g (q + 5)), .int (O.1 5), .int (O.1 6), .int (O.1 7), .int (O.1 8), .int (O.1 9), .int (O.1 10), .ref (gA g (3 + 4 * (O.1 11).toNatClampNeg))]
abbrev oModel (g : GG) (O : Ob) : List Value := [.int (O.1 0), .ref (gA g 59), .ref (gA g 60), .ref (gA g 61), .ref (gA g 62), .ref (gA g 63), .int (O.1 6), .ref (gA g 64), .ref (gA g 65), .int (O.1 9), .int (O.1 10), .int (O.1 11), .ref (gA g 66), .ref (gA g 67), .ref (gA g 68), .ref (gA g 69), .ref (gA g 70), .ref (gA g 71), .int (O.1 18), .int (O.1 19), .int (O.1 20), .int (O.1 21), .ref (gA g 72), .ref (gA g 73), .int (O.1 24), .int (O.1 25), .int (O.1 26), .ref (gA g 74), .ref (gA g 75), .int (O.1 29), .ref (gA g 76), .ref (gA g 77), .ref (gA g 78), .int (O.1 33)]
/-- the whole world: the class (58 cells) and the reference (21) -/
def gW (g : GG) (bb : Ob) (tx rw : Nat → Ob) (sb dy : Ob) (tn : Nat → Ob) (mo : Ob) (jk : Nat → Nat → Int32) : va_W := [
  (gA g 0, .inr (5, oBell g bb)),
  (gA g 1, .inl (g.2.2.2.1, 6, .inr (.inr (.inr (.inr (fun i => some (gA g (3 + 4 * i)))))))),
  (gA g 2, .inl (g.2.2.1, 4, .inr (.inr (.inr (.inr (fun i => some (gA g (27 + 2 * i)))))))),
  (gA g 3, .inr (3, oText g 3 (tx 0))),
  (gA g 4, .inl (g.2.1, 160, .inl ((tx 0).2 0))),
  (gA g 5, .inl (g.2.1, 160, .inl (jk 0))),
  (gA g 6, .inl (g.2.1, 3, .inl ((tx 0).2 2))),
  (gA g 7, .inr (3, oText g 7 (tx 1))),
  (gA g 8, .inl (g.2.1, 160, .inl ((tx 1).2 0))),
  (gA g 9, .inl (g.2.1, 160, .inl (jk 1))),
  (gA g 10, .inl (g.2.1, 3, .inl ((tx 1).2 2))),
  (gA g 11, .inr (3, oText g 11 (tx 2))),
  (gA g 12, .inl (g.2.1, 160, .inl ((tx 2).2 0))),
  (gA g 13, .inl (g.2.1, 160, .inl (jk 2))),
  (gA g 14, .inl (g.2.1, 3, .inl ((tx 2).2 2))),
  (gA g 15, .inr (3, oText g 15 (tx 3))),
  (gA g 16, .inl (g.2.1, 160, .inl ((tx 3).2 0))),
  (gA g 17, .inl (g.2.1, 160, .inl (jk 3))),
  (gA g 18, .inl (g.2.1, 3, .inl ((tx 3).2 2))),
  (gA g 19, .inr (3, oText g 19 (tx 4))),
  (gA g 20, .inl (g.2.1, 160, .inl ((tx 4).2 0))),
  (gA g 21, .inl (g.2.1, 160, .inl (jk 4))),
  (gA g 22, .inl (g.2.1, 3, .inl ((tx 4).2 2))),
  (gA g 23, .inr (3, oText g 23 (tx 5))),
  (gA g 24, .inl (g.2.1, 160, .inl ((tx 5).2 0))),
  (gA g 25, .inl (g.2.1, 160, .inl (jk 5))),
  (gA g 26, .inl (g.2.1, 3, .inl ((tx 5).2 2))),
  (gA g 27, .inr (1, oRow g 27 (rw 0))),
  (gA g 28, .inl (g.2.1, 40, .inl ((rw 0).2 0))),
  (gA g 29, .inr (1, oRow g 29 (rw 1))),
  (gA g 30, .inl (g.2.1, 40, .inl ((rw 1).2 0))),
  (gA g 31, .inr (1, oRow g 31 (rw 2))),
  (gA g 32, .inl (g.2.1, 40, .inl ((rw 2).2 0))),
  (gA g 33, .inr (1, oRow g 33 (rw 3))),
  (gA g 34, .inl (g.2.1, 40, .inl ((rw 3).2 0))),
  (gA g 35, .inr (2, oScribe g sb)),
  (gA g 36, .inl (g.2.1, 160, .inl (sb.2 0))),
  (gA g 37, .inr (0, oDay g)),
  (gA g 38, .inl (g.2.1, 24, .inl (dy.2 0))),
  (gA g 39, .inl (g.2.1, 24, .inl (dy.2 1))),
  (gA g 40, .inr (4, oTown g 40 (tn 0))),
  (gA g 41, .inl (g.2.1, 6, .inl ((tn 0).2 0))),
  (gA g 42, .inl (g.2.1, 6, .inl ((tn 0).2 1))),
  (gA g 43, .inl (g.2.1, 6, .inl ((tn 0).2 2))),
  (gA g 44, .inl (g.2.1, 6, .inl ((tn 0).2 3))),
  (gA g 45, .inl (g.2.1, 6, .inl ((tn 0).2 4))),
  (gA g 46, .inr (4, oTown g 46 (tn 1))),
  (gA g 47, .inl (g.2.1, 6, .inl ((tn 1).2 0))),
  (gA g 48, .inl (g.2.1, 6, .inl ((tn 1).2 1))),
  (gA g 49, .inl (g.2.1, 6, .inl ((tn 1).2 2))),
  (gA g 50, .inl (g.2.1, 6, .inl ((tn 1).2 3))),
  (gA g 51, .inl (g.2.1, 6, .inl ((tn 1).2 4))),
  (gA g 52, .inr (4, oTown g 52 (tn 2))),
  (gA g 53, .inl (g.2.1, 6, .inl ((tn 2).2 0))),
  (gA g 54, .inl (g.2.1, 6, .inl ((tn 2).2 1))),
  (gA g 55, .inl (g.2.1, 6, .inl ((tn 2).2 2))),
  (gA g 56, .inl (g.2.1, 6, .inl ((tn 2).2 3))),
  (gA g 57, .inl (g.2.1, 6, .inl ((tn 2).2 4))),
  (gA g 58, .inr (6, oModel g mo)),
  (gA g 59, .inl (g.2.1, 6, .inl (mo.2 1))),
  (gA g 60, .inl (g.2.1, 6, .inl (mo.2 2))),
  (gA g 61, .inl (g.2.1, 24, .inl (mo.2 3))),
  (gA g 62, .inl (g.2.1, 3, .inl (mo.2 4))),
  (gA g 63, .inl (g.2.1, 160, .inl (mo.2 5))),
  (gA g 64, .inl (g.2.1, 1200, .inl (mo.2 7))),
  (gA g 65, .inl (g.2.1, 24, .inl (mo.2 8))),
  (gA g 66, .inl (g.2.1, 27, .inl (mo.2 12))),
  (gA g 67, .inl (g.2.1, 2, .inl (mo.2 13))),
  (gA g 68, .inl (g.2.1, 4, .inl (mo.2 14))),
  (gA g 69, .inl (g.2.1, 4, .inl (mo.2 15))),
  (gA g 70, .inl (g.2.1, 160, .inl (mo.2 16))),
  (gA g 71, .inl (g.2.1, 34, .inl (mo.2 17))),
  (gA g 72, .inl (g.2.1, 96, .inl (mo.2 22))),
  (gA g 73, .inl (g.2.1, 200, .inl (mo.2 23))),
  (gA g 74, .inl (g.2.1, 200, .inl (jk 6))),
  (gA g 75, .inl (g.2.1, 6, .inl (jk 7))),
  (gA g 76, .inl (g.2.1, 27, .inl (mo.2 30))),
  (gA g 77, .inl (g.2.1, 24, .inl (mo.2 31))),
  (gA g 78, .inl (g.2.1, 24, .inl (mo.2 32)))]
theorem gw_Bell {g : GG} {bb : Ob} {tx rw : Nat → Ob} {sb dy : Ob} {tn : Nat → Ob} {mo : Ob} {jk : Nat → Nat → Int32} : (gW g bb tx rw sb dy tn mo jk)[0]? = some (gA g 0, .inr (5, oBell g bb)) := rfl
theorem gw_Scribe {g : GG} {bb : Ob} {tx rw : Nat → Ob} {sb dy : Ob} {tn : Nat → Ob} {mo : Ob} {jk : Nat → Nat → Int32} : (gW g bb tx rw sb dy tn mo jk)[35]? = some (gA g 35, .inr (2, oScribe g sb)) := rfl
theorem gw_Scribe_a0 {g : GG} {bb : Ob} {tx rw : Nat → Ob} {sb dy : Ob} {tn : Nat → Ob} {mo : Ob} {jk : Nat → Nat → Int32} : (gW g bb tx rw sb dy tn mo jk)[36]? = some (gA g 36, .inl (g.2.1, 160, .inl (sb.2 0))) := rfl
theorem gs_Scribe_a0 {g : GG} {bb : Ob} {tx rw : Nat → Ob} {sb dy : Ob} {tn : Nat → Ob} {mo : Ob} {jk : Nat → Nat → Int32} {i x : Int32} : (gW g bb tx rw sb dy tn mo jk).set 36 (gA g 36, .inl (g.2.1, 160, .inl (upd (sb.2 0) i.toNatClampNeg (vp_nar .int x)))) = (gW g bb tx rw (stA sb 0 i x) dy tn mo jk) := rfl
theorem gw_Day {g : GG} {bb : Ob} {tx rw : Nat → Ob} {sb dy : Ob} {tn : Nat → Ob} {mo : Ob} {jk : Nat → Nat → Int32} : (gW g bb tx rw sb dy tn mo jk)[37]? = some (gA g 37, .inr (0, oDay g)) := rfl
theorem gw_Day_a0 {g : GG} {bb : Ob} {tx rw : Nat → Ob} {sb dy : Ob} {tn : Nat → Ob} {mo : Ob} {jk : Nat → Nat → Int32} : (gW g bb tx rw sb dy tn mo jk)[38]? = some (gA g 38, .inl (g.2.1, 24, .inl (dy.2 0))) := rfl
theorem gs_Day_a0 {g : GG} {bb : Ob} {tx rw : Nat → Ob} {sb dy : Ob} {tn : Nat → Ob} {mo : Ob} {jk : Nat → Nat → Int32} {i x : Int32} : (gW g bb tx rw sb dy tn mo jk).set 38 (gA g 38, .inl (g.2.1, 24, .inl (upd (dy.2 0) i.toNatClampNeg (vp_nar .int x)))) = (gW g bb tx rw sb (stA dy 0 i x) tn mo jk) := rfl
theorem gw_Day_a1 {g : GG} {bb : Ob} {tx rw : Nat → Ob} {sb dy : Ob} {tn : Nat → Ob} {mo : Ob} {jk : Nat → Nat → Int32} : (gW g bb tx rw sb dy tn mo jk)[39]? = some (gA g 39, .inl (g.2.1, 24, .inl (dy.2 1))) := rfl
theorem gs_Day_a1 {g : GG} {bb : Ob} {tx rw : Nat → Ob} {sb dy : Ob} {tn : Nat → Ob} {mo : Ob} {jk : Nat → Nat → Int32} {i x : Int32} : (gW g bb tx rw sb dy tn mo jk).set 39 (gA g 39, .inl (g.2.1, 24, .inl (upd (dy.2 1) i.toNatClampNeg (vp_nar .int x)))) = (gW g bb tx rw sb (stA dy 1 i x) tn mo jk) := rfl
theorem gw_Model {g : GG} {bb : Ob} {tx rw : Nat → Ob} {sb dy : Ob} {tn : Nat → Ob} {mo : Ob} {jk : Nat → Nat → Int32} : (gW g bb tx rw sb dy tn mo jk)[58]? = some (gA g 58, .inr (6, oModel g mo)) := rfl
theorem gw_Model_a1 {g : GG} {bb : Ob} {tx rw : Nat → Ob} {sb dy : Ob} {tn : Nat → Ob} {mo : Ob} {jk : Nat → Nat → Int32} : (gW g bb tx rw sb dy tn mo jk)[59]? = some (gA g 59, .inl (g.2.1, 6, .inl (mo.2 1))) := rfl
theorem gs_Model_a1 {g : GG} {bb : Ob} {tx rw : Nat → Ob} {sb dy : Ob} {tn : Nat → Ob} {mo : Ob} {jk : Nat → Nat → Int32} {i x : Int32} : (gW g bb tx rw sb dy tn mo jk).set 59 (gA g 59, .inl (g.2.1, 6, .inl (upd (mo.2 1) i.toNatClampNeg (vp_nar .int x)))) = (gW g bb tx rw sb dy tn (stA mo 1 i x) jk) := rfl
theorem gw_Model_a2 {g : GG} {bb : Ob} {tx rw : Nat → Ob} {sb dy : Ob} {tn : Nat → Ob} {mo : Ob} {jk : Nat → Nat → Int32} : (gW g bb tx rw sb dy tn mo jk)[60]? = some (gA g 60, .inl (g.2.1, 6, .inl (mo.2 2))) := rfl
theorem gs_Model_a2 {g : GG} {bb : Ob} {tx rw : Nat → Ob} {sb dy : Ob} {tn : Nat → Ob} {mo : Ob} {jk : Nat → Nat → Int32} {i x : Int32} : (gW g bb tx rw sb dy tn mo jk).set 60 (gA g 60, .inl (g.2.1, 6, .inl (upd (mo.2 2) i.toNatClampNeg (vp_nar .int x)))) = (gW g bb tx rw sb dy tn (stA mo 2 i x) jk) := rfl
theorem gw_Model_a3 {g : GG} {bb : Ob} {tx rw : Nat → Ob} {sb dy : Ob} {tn : Nat → Ob} {mo : Ob} {jk : Nat → Nat → Int32} : (gW g bb tx rw sb dy tn mo jk)[61]? = some (gA g 61, .inl (g.2.1, 24, .inl (mo.2 3))) := rfl
theorem gs_Model_a3 {g : GG} {bb : Ob} {tx rw : Nat → Ob} {sb dy : Ob} {tn : Nat → Ob} {mo : Ob} {jk : Nat → Nat → Int32} {i x : Int32} : (gW g bb tx rw sb dy tn mo jk).set 61 (gA g 61, .inl (g.2.1, 24, .inl (upd (mo.2 3) i.toNatClampNeg (vp_nar .int x)))) = (gW g bb tx rw sb dy tn (stA mo 3 i x) jk) := rfl
theorem gw_Model_a4 {g : GG} {bb : Ob} {tx rw : Nat → Ob} {sb dy : Ob} {tn : Nat → Ob} {mo : Ob} {jk : Nat → Nat → Int32} : (gW g bb tx rw sb dy tn mo jk)[62]? = some (gA g 62, .inl (g.2.1, 3, .inl (mo.2 4))) := rfl
theorem gs_Model_a4 {g : GG} {bb : Ob} {tx rw : Nat → Ob} {sb dy : Ob} {tn : Nat → Ob} {mo : Ob} {jk : Nat → Nat → Int32} {i x : Int32} : (gW g bb tx rw sb dy tn mo jk).set 62 (gA g 62, .inl (g.2.1, 3, .inl (upd (mo.2 4) i.toNatClampNeg (vp_nar .int x)))) = (gW g bb tx rw sb dy tn (stA mo 4 i x) jk) := rfl
theorem gw_Model_a5 {g : GG} {bb : Ob} {tx rw : Nat → Ob} {sb dy : Ob} {tn : Nat → Ob} {mo : Ob} {jk : Nat → Nat → Int32} : (gW g bb tx rw sb dy tn mo jk)[63]? = some (gA g 63, .inl (g.2.1, 160, .inl (mo.2 5))) := rfl
theorem gs_Model_a5 {g : GG} {bb : Ob} {tx rw : Nat → Ob} {sb dy : Ob} {tn : Nat → Ob} {mo : Ob} {jk : Nat → Nat → Int32} {i x : Int32} : (gW g bb tx rw sb dy tn mo jk).set 63 (gA g 63, .inl (g.2.1, 160, .inl (upd (mo.2 5) i.toNatClampNeg (vp_nar .int x)))) = (gW g bb tx rw sb dy tn (stA mo 5 i x) jk) := rfl
theorem gw_Model_a7 {g : GG} {bb : Ob} {tx rw : Nat → Ob} {sb dy : Ob} {tn : Nat → Ob} {mo : Ob} {jk : Nat → Nat → Int32} : (gW g bb tx rw sb dy tn mo jk)[64]? = some (gA g 64, .inl (g.2.1, 1200, .inl (mo.2 7))) := rfl
theorem gs_Model_a7 {g : GG} {bb : Ob} {tx rw : Nat → Ob} {sb dy : Ob} {tn : Nat → Ob} {mo : Ob} {jk : Nat → Nat → Int32} {i x : Int32} : (gW g bb tx rw sb dy tn mo jk).set 64 (gA g 64, .inl (g.2.1, 1200, .inl (upd (mo.2 7) i.toNatClampNeg (vp_nar .int x)))) = (gW g bb tx rw sb dy tn (stA mo 7 i x) jk) := rfl
theorem gw_Model_a8 {g : GG} {bb : Ob} {tx rw : Nat → Ob} {sb dy : Ob} {tn : Nat → Ob} {mo : Ob} {jk : Nat → Nat → Int32} : (gW g bb tx rw sb dy tn mo jk)[65]? = some (gA g 65, .inl (g.2.1, 24, .inl (mo.2 8))) := rfl
theorem gs_Model_a8 {g : GG} {bb : Ob} {tx rw : Nat → Ob} {sb dy : Ob} {tn : Nat → Ob} {mo : Ob} {jk : Nat → Nat → Int32} {i x : Int32} : (gW g bb tx rw sb dy tn mo jk).set 65 (gA g 65, .inl (g.2.1, 24, .inl (upd (mo.2 8) i.toNatClampNeg (vp_nar .int x)))) = (gW g bb tx rw sb dy tn (stA mo 8 i x) jk) := rfl
theorem gw_Model_a12 {g : GG} {bb : Ob} {tx rw : Nat → Ob} {sb dy : Ob} {tn : Nat → Ob} {mo : Ob} {jk : Nat → Nat → Int32} : (gW g bb tx rw sb dy tn mo jk)[66]? = some (gA g 66, .inl (g.2.1, 27, .inl (mo.2 12))) := rfl
theorem gs_Model_a12 {g : GG} {bb : Ob} {tx rw : Nat → Ob} {sb dy : Ob} {tn : Nat → Ob} {mo : Ob} {jk : Nat → Nat → Int32} {i x : Int32} : (gW g bb tx rw sb dy tn mo jk).set 66 (gA g 66, .inl (g.2.1, 27, .inl (upd (mo.2 12) i.toNatClampNeg (vp_nar .int x)))) = (gW g bb tx rw sb dy tn (stA mo 12 i x) jk) := rfl
theorem gw_Model_a13 {g : GG} {bb : Ob} {tx rw : Nat → Ob} {sb dy : Ob} {tn : Nat → Ob} {mo : Ob} {jk : Nat → Nat → Int32} : (gW g bb tx rw sb dy tn mo jk)[67]? = some (gA g 67, .inl (g.2.1, 2, .inl (mo.2 13))) := rfl
theorem gs_Model_a13 {g : GG} {bb : Ob} {tx rw : Nat → Ob} {sb dy : Ob} {tn : Nat → Ob} {mo : Ob} {jk : Nat → Nat → Int32} {i x : Int32} : (gW g bb tx rw sb dy tn mo jk).set 67 (gA g 67, .inl (g.2.1, 2, .inl (upd (mo.2 13) i.toNatClampNeg (vp_nar .int x)))) = (gW g bb tx rw sb dy tn (stA mo 13 i x) jk) := rfl
theorem gw_Model_a14 {g : GG} {bb : Ob} {tx rw : Nat → Ob} {sb dy : Ob} {tn : Nat → Ob} {mo : Ob} {jk : Nat → Nat → Int32} : (gW g bb tx rw sb dy tn mo jk)[68]? = some (gA g 68, .inl (g.2.1, 4, .inl (mo.2 14))) := rfl
theorem gs_Model_a14 {g : GG} {bb : Ob} {tx rw : Nat → Ob} {sb dy : Ob} {tn : Nat → Ob} {mo : Ob} {jk : Nat → Nat → Int32} {i x : Int32} : (gW g bb tx rw sb dy tn mo jk).set 68 (gA g 68, .inl (g.2.1, 4, .inl (upd (mo.2 14) i.toNatClampNeg (vp_nar .int x)))) = (gW g bb tx rw sb dy tn (stA mo 14 i x) jk) := rfl
theorem gw_Model_a15 {g : GG} {bb : Ob} {tx rw : Nat → Ob} {sb dy : Ob} {tn : Nat → Ob} {mo : Ob} {jk : Nat → Nat → Int32} : (gW g bb tx rw sb dy tn mo jk)[69]? = some (gA g 69, .inl (g.2.1, 4, .inl (mo.2 15))) := rfl
theorem gs_Model_a15 {g : GG} {bb : Ob} {tx rw : Nat → Ob} {sb dy : Ob} {tn : Nat → Ob} {mo : Ob} {jk : Nat → Nat → Int32} {i x : Int32} : (gW g bb tx rw sb dy tn mo jk).set 69 (gA g 69, .inl (g.2.1, 4, .inl (upd (mo.2 15) i.toNatClampNeg (vp_nar .int x)))) = (gW g bb tx rw sb dy tn (stA mo 15 i x) jk) := rfl
theorem gw_Model_a16 {g : GG} {bb : Ob} {tx rw : Nat → Ob} {sb dy : Ob} {tn : Nat → Ob} {mo : Ob} {jk : Nat → Nat → Int32} : (gW g bb tx rw sb dy tn mo jk)[70]? = some (gA g 70, .inl (g.2.1, 160, .inl (mo.2 16))) := rfl
theorem gs_Model_a16 {g : GG} {bb : Ob} {tx rw : Nat → Ob} {sb dy : Ob} {tn : Nat → Ob} {mo : Ob} {jk : Nat → Nat → Int32} {i x : Int32} : (gW g bb tx rw sb dy tn mo jk).set 70 (gA g 70, .inl (g.2.1, 160, .inl (upd (mo.2 16) i.toNatClampNeg (vp_nar .int x)))) = (gW g bb tx rw sb dy tn (stA mo 16 i x) jk) := rfl
theorem gw_Model_a17 {g : GG} {bb : Ob} {tx rw : Nat → Ob} {sb dy : Ob} {tn : Nat → Ob} {mo : Ob} {jk : Nat → Nat → Int32} : (gW g bb tx rw sb dy tn mo jk)[71]? = some (gA g 71, .inl (g.2.1, 34, .inl (mo.2 17))) := rfl
theorem gs_Model_a17 {g : GG} {bb : Ob} {tx rw : Nat → Ob} {sb dy : Ob} {tn : Nat → Ob} {mo : Ob} {jk : Nat → Nat → Int32} {i x : Int32} : (gW g bb tx rw sb dy tn mo jk).set 71 (gA g 71, .inl (g.2.1, 34, .inl (upd (mo.2 17) i.toNatClampNeg (vp_nar .int x)))) = (gW g bb tx rw sb dy tn (stA mo 17 i x) jk) := rfl
theorem gw_Model_a22 {g : GG} {bb : Ob} {tx rw : Nat → Ob} {sb dy : Ob} {tn : Nat → Ob} {mo : Ob} {jk : Nat → Nat → Int32} : (gW g bb tx rw sb dy tn mo jk)[72]? = some (gA g 72, .inl (g.2.1, 96, .inl (mo.2 22))) := rfl
theorem gs_Model_a22 {g : GG} {bb : Ob} {tx rw : Nat → Ob} {sb dy : Ob} {tn : Nat → Ob} {mo : Ob} {jk : Nat → Nat → Int32} {i x : Int32} : (gW g bb tx rw sb dy tn mo jk).set 72 (gA g 72, .inl (g.2.1, 96, .inl (upd (mo.2 22) i.toNatClampNeg (vp_nar .int x)))) = (gW g bb tx rw sb dy tn (stA mo 22 i x) jk) := rfl
theorem gw_Model_a23 {g : GG} {bb : Ob} {tx rw : Nat → Ob} {sb dy : Ob} {tn : Nat → Ob} {mo : Ob} {jk : Nat → Nat → Int32} : (gW g bb tx rw sb dy tn mo jk)[73]? = some (gA g 73, .inl (g.2.1, 200, .inl (mo.2 23))) := rfl
theorem gs_Model_a23 {g : GG} {bb : Ob} {tx rw : Nat → Ob} {sb dy : Ob} {tn : Nat → Ob} {mo : Ob} {jk : Nat → Nat → Int32} {i x : Int32} : (gW g bb tx rw sb dy tn mo jk).set 73 (gA g 73, .inl (g.2.1, 200, .inl (upd (mo.2 23) i.toNatClampNeg (vp_nar .int x)))) = (gW g bb tx rw sb dy tn (stA mo 23 i x) jk) := rfl
theorem gw_Model_a30 {g : GG} {bb : Ob} {tx rw : Nat → Ob} {sb dy : Ob} {tn : Nat → Ob} {mo : Ob} {jk : Nat → Nat → Int32} : (gW g bb tx rw sb dy tn mo jk)[76]? = some (gA g 76, .inl (g.2.1, 27, .inl (mo.2 30))) := rfl
theorem gs_Model_a30 {g : GG} {bb : Ob} {tx rw : Nat → Ob} {sb dy : Ob} {tn : Nat → Ob} {mo : Ob} {jk : Nat → Nat → Int32} {i x : Int32} : (gW g bb tx rw sb dy tn mo jk).set 76 (gA g 76, .inl (g.2.1, 27, .inl (upd (mo.2 30) i.toNatClampNeg (vp_nar .int x)))) = (gW g bb tx rw sb dy tn (stA mo 30 i x) jk) := rfl
theorem gw_Model_a31 {g : GG} {bb : Ob} {tx rw : Nat → Ob} {sb dy : Ob} {tn : Nat → Ob} {mo : Ob} {jk : Nat → Nat → Int32} : (gW g bb tx rw sb dy tn mo jk)[77]? = some (gA g 77, .inl (g.2.1, 24, .inl (mo.2 31))) := rfl
theorem gs_Model_a31 {g : GG} {bb : Ob} {tx rw : Nat → Ob} {sb dy : Ob} {tn : Nat → Ob} {mo : Ob} {jk : Nat → Nat → Int32} {i x : Int32} : (gW g bb tx rw sb dy tn mo jk).set 77 (gA g 77, .inl (g.2.1, 24, .inl (upd (mo.2 31) i.toNatClampNeg (vp_nar .int x)))) = (gW g bb tx rw sb dy tn (stA mo 31 i x) jk) := rfl
theorem gw_Model_a32 {g : GG} {bb : Ob} {tx rw : Nat → Ob} {sb dy : Ob} {tn : Nat → Ob} {mo : Ob} {jk : Nat → Nat → Int32} : (gW g bb tx rw sb dy tn mo jk)[78]? = some (gA g 78, .inl (g.2.1, 24, .inl (mo.2 32))) := rfl
theorem gs_Model_a32 {g : GG} {bb : Ob} {tx rw : Nat → Ob} {sb dy : Ob} {tn : Nat → Ob} {mo : Ob} {jk : Nat → Nat → Int32} {i x : Int32} : (gW g bb tx rw sb dy tn mo jk).set 78 (gA g 78, .inl (g.2.1, 24, .inl (upd (mo.2 32) i.toNatClampNeg (vp_nar .int x)))) = (gW g bb tx rw sb dy tn (stA mo 32 i x) jk) := rfl
theorem gw_Model_a27 {g : GG} {bb : Ob} {tx rw : Nat → Ob} {sb dy : Ob} {tn : Nat → Ob} {mo : Ob} {jk : Nat → Nat → Int32} : (gW g bb tx rw sb dy tn mo jk)[74]? = some (gA g 74, .inl (g.2.1, 200, .inl (jk 6))) := rfl
theorem gs_Model_a27 {g : GG} {bb : Ob} {tx rw : Nat → Ob} {sb dy : Ob} {tn : Nat → Ob} {mo : Ob} {jk : Nat → Nat → Int32} {i x : Int32} : (gW g bb tx rw sb dy tn mo jk).set 74 (gA g 74, .inl (g.2.1, 200, .inl (upd (jk 6) i.toNatClampNeg (vp_nar .int x)))) = (gW g bb tx rw sb dy tn mo (va_up jk 6 (upd (jk 6) i.toNatClampNeg x))) := rfl
theorem gw_Model_a28 {g : GG} {bb : Ob} {tx rw : Nat → Ob} {sb dy : Ob} {tn : Nat → Ob} {mo : Ob} {jk : Nat → Nat → Int32} : (gW g bb tx rw sb dy tn mo jk)[75]? = some (gA g 75, .inl (g.2.1, 6, .inl (jk 7))) := rfl
theorem gs_Model_a28 {g : GG} {bb : Ob} {tx rw : Nat → Ob} {sb dy : Ob} {tn : Nat → Ob} {mo : Ob} {jk : Nat → Nat → Int32} {i x : Int32} : (gW g bb tx rw sb dy tn mo jk).set 75 (gA g 75, .inl (g.2.1, 6, .inl (upd (jk 7) i.toNatClampNeg (vp_nar .int x)))) = (gW g bb tx rw sb dy tn mo (va_up jk 7 (upd (jk 7) i.toNatClampNeg x))) := rfl
theorem gs_Bell_f7 {g : GG} {bb : Ob} {tx rw : Nat → Ob} {sb dy : Ob} {tn : Nat → Ob} {mo : Ob} {jk : Nat → Nat → Int32} {v : Int32} : (gW g bb tx rw sb dy tn mo jk).set 0 (gA g 0, .inr (5, (oBell g bb).set 7 (.int v))) = (gW g (setS bb 7 v) tx rw sb dy tn mo jk) := rfl
theorem gs_Bell_f8 {g : GG} {bb : Ob} {tx rw : Nat → Ob} {sb dy : Ob} {tn : Nat → Ob} {mo : Ob} {jk : Nat → Nat → Int32} {v : Int32} : (gW g bb tx rw sb dy tn mo jk).set 0 (gA g 0, .inr (5, (oBell g bb).set 8 (.int v))) = (gW g (setS bb 8 v) tx rw sb dy tn mo jk) := rfl
theorem gs_Scribe_f1 {g : GG} {bb : Ob} {tx rw : Nat → Ob} {sb dy : Ob} {tn : Nat → Ob} {mo : Ob} {jk : Nat → Nat → Int32} {v : Int32} : (gW g bb tx rw sb dy tn mo jk).set 35 (gA g 35, .inr (2, (oScribe g sb).set 1 (.int v))) = (gW g bb tx rw (setS sb 1 v) dy tn mo jk) := rfl
theorem gs_Scribe_f2 {g : GG} {bb : Ob} {tx rw : Nat → Ob} {sb dy : Ob} {tn : Nat → Ob} {mo : Ob} {jk : Nat → Nat → Int32} {v : Int32} : (gW g bb tx rw sb dy tn mo jk).set 35 (gA g 35, .inr (2, (oScribe g sb).set 2 (.int v))) = (gW g bb tx rw (setS sb 2 v) dy tn mo jk) := rfl
theorem gs_Scribe_f3 {g : GG} {bb : Ob} {tx rw : Nat → Ob} {sb dy : Ob} {tn : Nat → Ob} {mo : Ob} {jk : Nat → Nat → Int32} {v : Int32} : (gW g bb tx rw sb dy tn mo jk).set 35 (gA g 35, .inr (2, (oScribe g sb).set 3 (.int v))) = (gW g bb tx rw (setS sb 3 v) dy tn mo jk) := rfl
theorem gs_Scribe_f4 {g : GG} {bb : Ob} {tx rw : Nat → Ob} {sb dy : Ob} {tn : Nat → Ob} {mo : Ob} {jk : Nat → Nat → Int32} {v : Int32} : (gW g bb tx rw sb dy tn mo jk).set 35 (gA g 35, .inr (2, (oScribe g sb).set 4 (.int v))) = (gW g bb tx rw (setS sb 4 v) dy tn mo jk) := rfl
theorem gs_Scribe_f5 {g : GG} {bb : Ob} {tx rw : Nat → Ob} {sb dy : Ob} {tn : Nat → Ob} {mo : Ob} {jk : Nat → Nat → Int32} {v : Int32} : (gW g bb tx rw sb dy tn mo jk).set 35 (gA g 35, .inr (2, (oScribe g sb).set 5 (.int v))) = (gW g bb tx rw (setS sb 5 v) dy tn mo jk) := rfl
theorem gs_Scribe_f6 {g : GG} {bb : Ob} {tx rw : Nat → Ob} {sb dy : Ob} {tn : Nat → Ob} {mo : Ob} {jk : Nat → Nat → Int32} {v : Int32} : (gW g bb tx rw sb dy tn mo jk).set 35 (gA g 35, .inr (2, (oScribe g sb).set 6 (.int v))) = (gW g bb tx rw (setS sb 6 v) dy tn mo jk) := rfl
theorem gs_Model_f0 {g : GG} {bb : Ob} {tx rw : Nat → Ob} {sb dy : Ob} {tn : Nat → Ob} {mo : Ob} {jk : Nat → Nat → Int32} {v : Int32} : (gW g bb tx rw sb dy tn mo jk).set 58 (gA g 58, .inr (6, (oModel g mo).set 0 (.int v))) = (gW g bb tx rw sb dy tn (setS mo 0 v) jk) := rfl
theorem gs_Model_f6 {g : GG} {bb : Ob} {tx rw : Nat → Ob} {sb dy : Ob} {tn : Nat → Ob} {mo : Ob} {jk : Nat → Nat → Int32} {v : Int32} : (gW g bb tx rw sb dy tn mo jk).set 58 (gA g 58, .inr (6, (oModel g mo).set 6 (.int v))) = (gW g bb tx rw sb dy tn (setS mo 6 v) jk) := rfl
theorem gs_Model_f9 {g : GG} {bb : Ob} {tx rw : Nat → Ob} {sb dy : Ob} {tn : Nat → Ob} {mo : Ob} {jk : Nat → Nat → Int32} {v : Int32} : (gW g bb tx rw sb dy tn mo jk).set 58 (gA g 58, .inr (6, (oModel g mo).set 9 (.int v))) = (gW g bb tx rw sb dy tn (setS mo 9 v) jk) := rfl
theorem gs_Model_f10 {g : GG} {bb : Ob} {tx rw : Nat → Ob} {sb dy : Ob} {tn : Nat → Ob} {mo : Ob} {jk : Nat → Nat → Int32} {v : Int32} : (gW g bb tx rw sb dy tn mo jk).set 58 (gA g 58, .inr (6, (oModel g mo).set 10 (.int v))) = (gW g bb tx rw sb dy tn (setS mo 10 v) jk) := rfl
theorem gs_Model_f11 {g : GG} {bb : Ob} {tx rw : Nat → Ob} {sb dy : Ob} {tn : Nat → Ob} {mo : Ob} {jk : Nat → Nat → Int32} {v : Int32} : (gW g bb tx rw sb dy tn mo jk).set 58 (gA g 58, .inr (6, (oModel g mo).set 11 (.int v))) = (gW g bb tx rw sb dy tn (setS mo 11 v) jk) := rfl
theorem gs_Model_f18 {g : GG} {bb : Ob} {tx rw : Nat → Ob} {sb dy : Ob} {tn : Nat → Ob} {mo : Ob} {jk : Nat → Nat → Int32} {v : Int32} : (gW g bb tx rw sb dy tn mo jk).set 58 (gA g 58, .inr (6, (oModel g mo).set 18 (.int v))) = (gW g bb tx rw sb dy tn (setS mo 18 v) jk) := rfl
theorem gs_Model_f19 {g : GG} {bb : Ob} {tx rw : Nat → Ob} {sb dy : Ob} {tn : Nat → Ob} {mo : Ob} {jk : Nat → Nat → Int32} {v : Int32} : (gW g bb tx rw sb dy tn mo jk).set 58 (gA g 58, .inr (6, (oModel g mo).set 19 (.int v))) = (gW g bb tx rw sb dy tn (setS mo 19 v) jk) := rfl
theorem gs_Model_f20 {g : GG} {bb : Ob} {tx rw : Nat → Ob} {sb dy : Ob} {tn : Nat → Ob} {mo : Ob} {jk : Nat → Nat → Int32} {v : Int32} : (gW g bb tx rw sb dy tn mo jk).set 58 (gA g 58, .inr (6, (oModel g mo).set 20 (.int v))) = (gW g bb tx rw sb dy tn (setS mo 20 v) jk) := rfl
theorem gs_Model_f21 {g : GG} {bb : Ob} {tx rw : Nat → Ob} {sb dy : Ob} {tn : Nat → Ob} {mo : Ob} {jk : Nat → Nat → Int32} {v : Int32} : (gW g bb tx rw sb dy tn mo jk).set 58 (gA g 58, .inr (6, (oModel g mo).set 21 (.int v))) = (gW g bb tx rw sb dy tn (setS mo 21 v) jk) := rfl
theorem gs_Model_f24 {g : GG} {bb : Ob} {tx rw : Nat → Ob} {sb dy : Ob} {tn : Nat → Ob} {mo : Ob} {jk : Nat → Nat → Int32} {v : Int32} : (gW g bb tx rw sb dy tn mo jk).set 58 (gA g 58, .inr (6, (oModel g mo).set 24 (.int v))) = (gW g bb tx rw sb dy tn (setS mo 24 v) jk) := rfl
theorem gs_Model_f25 {g : GG} {bb : Ob} {tx rw : Nat → Ob} {sb dy : Ob} {tn : Nat → Ob} {mo : Ob} {jk : Nat → Nat → Int32} {v : Int32} : (gW g bb tx rw sb dy tn mo jk).set 58 (gA g 58, .inr (6, (oModel g mo).set 25 (.int v))) = (gW g bb tx rw sb dy tn (setS mo 25 v) jk) := rfl
theorem gs_Model_f26 {g : GG} {bb : Ob} {tx rw : Nat → Ob} {sb dy : Ob} {tn : Nat → Ob} {mo : Ob} {jk : Nat → Nat → Int32} {v : Int32} : (gW g bb tx rw sb dy tn mo jk).set 58 (gA g 58, .inr (6, (oModel g mo).set 26 (.int v))) = (gW g bb tx rw sb dy tn (setS mo 26 v) jk) := rfl
theorem gs_Model_f29 {g : GG} {bb : Ob} {tx rw : Nat → Ob} {sb dy : Ob} {tn : Nat → Ob} {mo : Ob} {jk : Nat → Nat → Int32} {v : Int32} : (gW g bb tx rw sb dy tn mo jk).set 58 (gA g 58, .inr (6, (oModel g mo).set 29 (.int v))) = (gW g bb tx rw sb dy tn (setS mo 29 v) jk) := rfl
theorem gs_Model_f33 {g : GG} {bb : Ob} {tx rw : Nat → Ob} {sb dy : Ob} {tn : Nat → Ob} {mo : Ob} {jk : Nat → Nat → Int32} {v : Int32} : (gW g bb tx rw sb dy tn mo jk).set 58 (gA g 58, .inr (6, (oModel g mo).set 33 (.int v))) = (gW g bb tx rw sb dy tn (setS mo 33 v) jk) := rfl
theorem up_same {α : Type} (f : Nat → α) (k : Nat) (v : α) : va_up f k v k = v := by simp [va_up]
theorem up_self {α : Type} (f : Nat → α) (k : Nat) : va_up f k (f k) = f := by funext j; by_cases h : j = k <;> simp [va_up, h]
theorem up_up {α : Type} (f : Nat → α) (k : Nat) (v w : α) : va_up (va_up f k v) k w = va_up f k w := by funext j; by_cases h : j = k <;> simp [va_up, h]
theorem gw_Text {g : GG} {bb : Ob} {tx rw : Nat → Ob} {sb dy : Ob} {tn : Nat → Ob} {mo : Ob} {jk : Nat → Nat → Int32} {o : Nat} (ho : o < 6) {T : Ob} (hT : tx o = T) : (gW g bb tx rw sb dy tn mo jk)[3 + 4 * o]? = some (gA g (3 + 4 * o), .inr (3, oText g (3 + 4 * o) T)) := by
  subst hT
  rcases (show o = 0 ∨ o = 1 ∨ o = 2 ∨ o = 3 ∨ o = 4 ∨ o = 5 by omega) with rfl | rfl | rfl | rfl | rfl | rfl <;> rfl
theorem gs_Text_f3 {g : GG} {bb : Ob} {tx rw : Nat → Ob} {sb dy : Ob} {tn : Nat → Ob} {mo : Ob} {jk : Nat → Nat → Int32} {o : Nat} (ho : o < 6) {T : Ob} (hT : tx o = T) {v : Int32} : (gW g bb tx rw sb dy tn mo jk).set (3 + 4 * o) (gA g (3 + 4 * o), .inr (3, (oText g (3 + 4 * o) T).set 3 (.int v))) = (gW g bb (va_up tx o (setS T 3 v)) rw sb dy tn mo jk) := by
  subst hT
  rcases (show o = 0 ∨ o = 1 ∨ o = 2 ∨ o = 3 ∨ o = 4 ∨ o = 5 by omega) with rfl | rfl | rfl | rfl | rfl | rfl <;> rfl
theorem gw_Text_a0 {g : GG} {bb : Ob} {tx rw : Nat → Ob} {sb dy : Ob} {tn : Nat → Ob} {mo : Ob} {jk : Nat → Nat → Int32} {o : Nat} (ho : o < 6) {T : Ob} (hT : tx o = T) : (gW g bb tx rw sb dy tn mo jk)[3 + 4 * o + 1]? = some (gA g ((3 + 4 * o) + 1), .inl (g.2.1, 160, .inl (T.2 0))) := by
  subst hT
  rcases (show o = 0 ∨ o = 1 ∨ o = 2 ∨ o = 3 ∨ o = 4 ∨ o = 5 by omega) with rfl | rfl | rfl | rfl | rfl | rfl <;> rfl
theorem gs_Text_a0 {g : GG} {bb : Ob} {tx rw : Nat → Ob} {sb dy : Ob} {tn : Nat → Ob} {mo : Ob} {jk : Nat → Nat → Int32} {o : Nat} (ho : o < 6) {T : Ob} (hT : tx o = T) {i x : Int32} : (gW g bb tx rw sb dy tn mo jk).set (3 + 4 * o + 1) (gA g ((3 + 4 * o) + 1), .inl (g.2.1, 160, .inl (upd (T.2 0) i.toNatClampNeg (vp_nar .int x)))) = (gW g bb (va_up tx o (stA T 0 i x)) rw sb dy tn mo jk) := by
  subst hT
  rcases (show o = 0 ∨ o = 1 ∨ o = 2 ∨ o = 3 ∨ o = 4 ∨ o = 5 by omega) with rfl | rfl | rfl | rfl | rfl | rfl <;> rfl
theorem gw_Text_a2 {g : GG} {bb : Ob} {tx rw : Nat → Ob} {sb dy : Ob} {tn : Nat → Ob} {mo : Ob} {jk : Nat → Nat → Int32} {o : Nat} (ho : o < 6) {T : Ob} (hT : tx o = T) : (gW g bb tx rw sb dy tn mo jk)[3 + 4 * o + 3]? = some (gA g ((3 + 4 * o) + 3), .inl (g.2.1, 3, .inl (T.2 2))) := by
  subst hT
  rcases (show o = 0 ∨ o = 1 ∨ o = 2 ∨ o = 3 ∨ o = 4 ∨ o = 5 by omega) with rfl | rfl | rfl | rfl | rfl | rfl <;> rfl
theorem gs_Text_a2 {g : GG} {bb : Ob} {tx rw : Nat → Ob} {sb dy : Ob} {tn : Nat → Ob} {mo : Ob} {jk : Nat → Nat → Int32} {o : Nat} (ho : o < 6) {T : Ob} (hT : tx o = T) {i x : Int32} : (gW g bb tx rw sb dy tn mo jk).set (3 + 4 * o + 3) (gA g ((3 + 4 * o) + 3), .inl (g.2.1, 3, .inl (upd (T.2 2) i.toNatClampNeg (vp_nar .int x)))) = (gW g bb (va_up tx o (stA T 2 i x)) rw sb dy tn mo jk) := by
  subst hT
  rcases (show o = 0 ∨ o = 1 ∨ o = 2 ∨ o = 3 ∨ o = 4 ∨ o = 5 by omega) with rfl | rfl | rfl | rfl | rfl | rfl <;> rfl
theorem gw_Row {g : GG} {bb : Ob} {tx rw : Nat → Ob} {sb dy : Ob} {tn : Nat → Ob} {mo : Ob} {jk : Nat → Nat → Int32} {o : Nat} (ho : o < 4) {T : Ob} (hT : rw o = T) : (gW g bb tx rw sb dy tn mo jk)[27 + 2 * o]? = some (gA g (27 + 2 * o), .inr (1, oRow g (27 + 2 * o) T)) := by
  subst hT
  rcases (show o = 0 ∨ o = 1 ∨ o = 2 ∨ o = 3 by omega) with rfl | rfl | rfl | rfl <;> rfl
theorem gs_Row_f1 {g : GG} {bb : Ob} {tx rw : Nat → Ob} {sb dy : Ob} {tn : Nat → Ob} {mo : Ob} {jk : Nat → Nat → Int32} {o : Nat} (ho : o < 4) {T : Ob} (hT : rw o = T) {v : Int32} : (gW g bb tx rw sb dy tn mo jk).set (27 + 2 * o) (gA g (27 + 2 * o), .inr (1, (oRow g (27 + 2 * o) T).set 1 (.int v))) = (gW g bb tx (va_up rw o (setS T 1 v)) sb dy tn mo jk) := by
  subst hT
  rcases (show o = 0 ∨ o = 1 ∨ o = 2 ∨ o = 3 by omega) with rfl | rfl | rfl | rfl <;> rfl
theorem gs_Row_f2 {g : GG} {bb : Ob} {tx rw : Nat → Ob} {sb dy : Ob} {tn : Nat → Ob} {mo : Ob} {jk : Nat → Nat → Int32} {o : Nat} (ho : o < 4) {T : Ob} (hT : rw o = T) {v : Int32} : (gW g bb tx rw sb dy tn mo jk).set (27 + 2 * o) (gA g (27 + 2 * o), .inr (1, (oRow g (27 + 2 * o) T).set 2 (.int v))) = (gW g bb tx (va_up rw o (setS T 2 v)) sb dy tn mo jk) := by
  subst hT
  rcases (show o = 0 ∨ o = 1 ∨ o = 2 ∨ o = 3 by omega) with rfl | rfl | rfl | rfl <;> rfl
theorem gw_Row_a0 {g : GG} {bb : Ob} {tx rw : Nat → Ob} {sb dy : Ob} {tn : Nat → Ob} {mo : Ob} {jk : Nat → Nat → Int32} {o : Nat} (ho : o < 4) {T : Ob} (hT : rw o = T) : (gW g bb tx rw sb dy tn mo jk)[27 + 2 * o + 1]? = some (gA g ((27 + 2 * o) + 1), .inl (g.2.1, 40, .inl (T.2 0))) := by
  subst hT
  rcases (show o = 0 ∨ o = 1 ∨ o = 2 ∨ o = 3 by omega) with rfl | rfl | rfl | rfl <;> rfl
theorem gs_Row_a0 {g : GG} {bb : Ob} {tx rw : Nat → Ob} {sb dy : Ob} {tn : Nat → Ob} {mo : Ob} {jk : Nat → Nat → Int32} {o : Nat} (ho : o < 4) {T : Ob} (hT : rw o = T) {i x : Int32} : (gW g bb tx rw sb dy tn mo jk).set (27 + 2 * o + 1) (gA g ((27 + 2 * o) + 1), .inl (g.2.1, 40, .inl (upd (T.2 0) i.toNatClampNeg (vp_nar .int x)))) = (gW g bb tx (va_up rw o (stA T 0 i x)) sb dy tn mo jk) := by
  subst hT
  rcases (show o = 0 ∨ o = 1 ∨ o = 2 ∨ o = 3 by omega) with rfl | rfl | rfl | rfl <;> rfl
theorem gw_Town {g : GG} {bb : Ob} {tx rw : Nat → Ob} {sb dy : Ob} {tn : Nat → Ob} {mo : Ob} {jk : Nat → Nat → Int32} {o : Nat} (ho : o < 3) {T : Ob} (hT : tn o = T) : (gW g bb tx rw sb dy tn mo jk)[40 + 6 * o]? = some (gA g (40 + 6 * o), .inr (4, oTown g (40 + 6 * o) T)) := by
  subst hT
  rcases (show o = 0 ∨ o = 1 ∨ o = 2 by omega) with rfl | rfl | rfl <;> rfl
theorem gs_Town_f5 {g : GG} {bb : Ob} {tx rw : Nat → Ob} {sb dy : Ob} {tn : Nat → Ob} {mo : Ob} {jk : Nat → Nat → Int32} {o : Nat} (ho : o < 3) {T : Ob} (hT : tn o = T) {v : Int32} : (gW g bb tx rw sb dy tn mo jk).set (40 + 6 * o) (gA g (40 + 6 * o), .inr (4, (oTown g (40 + 6 * o) T).set 5 (.int v))) = (gW g bb tx rw sb dy (va_up tn o (setS T 5 v)) mo jk) := by
  subst hT
  rcases (show o = 0 ∨ o = 1 ∨ o = 2 by omega) with rfl | rfl | rfl <;> rfl
theorem gs_Town_f6 {g : GG} {bb : Ob} {tx rw : Nat → Ob} {sb dy : Ob} {tn : Nat → Ob} {mo : Ob} {jk : Nat → Nat → Int32} {o : Nat} (ho : o < 3) {T : Ob} (hT : tn o = T) {v : Int32} : (gW g bb tx rw sb dy tn mo jk).set (40 + 6 * o) (gA g (40 + 6 * o), .inr (4, (oTown g (40 + 6 * o) T).set 6 (.int v))) = (gW g bb tx rw sb dy (va_up tn o (setS T 6 v)) mo jk) := by
  subst hT
  rcases (show o = 0 ∨ o = 1 ∨ o = 2 by omega) with rfl | rfl | rfl <;> rfl
theorem gs_Town_f7 {g : GG} {bb : Ob} {tx rw : Nat → Ob} {sb dy : Ob} {tn : Nat → Ob} {mo : Ob} {jk : Nat → Nat → Int32} {o : Nat} (ho : o < 3) {T : Ob} (hT : tn o = T) {v : Int32} : (gW g bb tx rw sb dy tn mo jk).set (40 + 6 * o) (gA g (40 + 6 * o), .inr (4, (oTown g (40 + 6 * o) T).set 7 (.int v))) = (gW g bb tx rw sb dy (va_up tn o (setS T 7 v)) mo jk) := by
  subst hT
  rcases (show o = 0 ∨ o = 1 ∨ o = 2 by omega) with rfl | rfl | rfl <;> rfl
theorem gs_Town_f8 {g : GG} {bb : Ob} {tx rw : Nat → Ob} {sb dy : Ob} {tn : Nat → Ob} {mo : Ob} {jk : Nat → Nat → Int32} {o : Nat} (ho : o < 3) {T : Ob} (hT : tn o = T) {v : Int32} : (gW g bb tx rw sb dy tn mo jk).set (40 + 6 * o) (gA g (40 + 6 * o), .inr (4, (oTown g (40 + 6 * o) T).set 8 (.int v))) = (gW g bb tx rw sb dy (va_up tn o (setS T 8 v)) mo jk) := by
  subst hT
  rcases (show o = 0 ∨ o = 1 ∨ o = 2 by omega) with rfl | rfl | rfl <;> rfl
theorem gs_Town_f9 {g : GG} {bb : Ob} {tx rw : Nat → Ob} {sb dy : Ob} {tn : Nat → Ob} {mo : Ob} {jk : Nat → Nat → Int32} {o : Nat} (ho : o < 3) {T : Ob} (hT : tn o = T) {v : Int32} : (gW g bb tx rw sb dy tn mo jk).set (40 + 6 * o) (gA g (40 + 6 * o), .inr (4, (oTown g (40 + 6 * o) T).set 9 (.int v))) = (gW g bb tx rw sb dy (va_up tn o (setS T 9 v)) mo jk) := by
  subst hT
  rcases (show o = 0 ∨ o = 1 ∨ o = 2 by omega) with rfl | rfl | rfl <;> rfl
theorem gs_Town_f10 {g : GG} {bb : Ob} {tx rw : Nat → Ob} {sb dy : Ob} {tn : Nat → Ob} {mo : Ob} {jk : Nat → Nat → Int32} {o : Nat} (ho : o < 3) {T : Ob} (hT : tn o = T) {v : Int32} : (gW g bb tx rw sb dy tn mo jk).set (40 + 6 * o) (gA g (40 + 6 * o), .inr (4, (oTown g (40 + 6 * o) T).set 10 (.int v))) = (gW g bb tx rw sb dy (va_up tn o (setS T 10 v)) mo jk) := by
  subst hT
  rcases (show o = 0 ∨ o = 1 ∨ o = 2 by omega) with rfl | rfl | rfl <;> rfl
theorem gw_Town_a0 {g : GG} {bb : Ob} {tx rw : Nat → Ob} {sb dy : Ob} {tn : Nat → Ob} {mo : Ob} {jk : Nat → Nat → Int32} {o : Nat} (ho : o < 3) {T : Ob} (hT : tn o = T) : (gW g bb tx rw sb dy tn mo jk)[40 + 6 * o + 1]? = some (gA g ((40 + 6 * o) + 1), .inl (g.2.1, 6, .inl (T.2 0))) := by
  subst hT
  rcases (show o = 0 ∨ o = 1 ∨ o = 2 by omega) with rfl | rfl | rfl <;> rfl
theorem gs_Town_a0 {g : GG} {bb : Ob} {tx rw : Nat → Ob} {sb dy : Ob} {tn : Nat → Ob} {mo : Ob} {jk : Nat → Nat → Int32} {o : Nat} (ho : o < 3) {T : Ob} (hT : tn o = T) {i x : Int32} : (gW g bb tx rw sb dy tn mo jk).set (40 + 6 * o + 1) (gA g ((40 + 6 * o) + 1), .inl (g.2.1, 6, .inl (upd (T.2 0) i.toNatClampNeg (vp_nar .int x)))) = (gW g bb tx rw sb dy (va_up tn o (stA T 0 i x)) mo jk) := by
  subst hT
  rcases (show o = 0 ∨ o = 1 ∨ o = 2 by omega) with rfl | rfl | rfl <;> rfl
theorem gw_Town_a1 {g : GG} {bb : Ob} {tx rw : Nat → Ob} {sb dy : Ob} {tn : Nat → Ob} {mo : Ob} {jk : Nat → Nat → Int32} {o : Nat} (ho : o < 3) {T : Ob} (hT : tn o = T) : (gW g bb tx rw sb dy tn mo jk)[40 + 6 * o + 2]? = some (gA g ((40 + 6 * o) + 2), .inl (g.2.1, 6, .inl (T.2 1))) := by
  subst hT
  rcases (show o = 0 ∨ o = 1 ∨ o = 2 by omega) with rfl | rfl | rfl <;> rfl
theorem gs_Town_a1 {g : GG} {bb : Ob} {tx rw : Nat → Ob} {sb dy : Ob} {tn : Nat → Ob} {mo : Ob} {jk : Nat → Nat → Int32} {o : Nat} (ho : o < 3) {T : Ob} (hT : tn o = T) {i x : Int32} : (gW g bb tx rw sb dy tn mo jk).set (40 + 6 * o + 2) (gA g ((40 + 6 * o) + 2), .inl (g.2.1, 6, .inl (upd (T.2 1) i.toNatClampNeg (vp_nar .int x)))) = (gW g bb tx rw sb dy (va_up tn o (stA T 1 i x)) mo jk) := by
  subst hT
  rcases (show o = 0 ∨ o = 1 ∨ o = 2 by omega) with rfl | rfl | rfl <;> rfl
theorem gw_Town_a2 {g : GG} {bb : Ob} {tx rw : Nat → Ob} {sb dy : Ob} {tn : Nat → Ob} {mo : Ob} {jk : Nat → Nat → Int32} {o : Nat} (ho : o < 3) {T : Ob} (hT : tn o = T) : (gW g bb tx rw sb dy tn mo jk)[40 + 6 * o + 3]? = some (gA g ((40 + 6 * o) + 3), .inl (g.2.1, 6, .inl (T.2 2))) := by
  subst hT
  rcases (show o = 0 ∨ o = 1 ∨ o = 2 by omega) with rfl | rfl | rfl <;> rfl
theorem gs_Town_a2 {g : GG} {bb : Ob} {tx rw : Nat → Ob} {sb dy : Ob} {tn : Nat → Ob} {mo : Ob} {jk : Nat → Nat → Int32} {o : Nat} (ho : o < 3) {T : Ob} (hT : tn o = T) {i x : Int32} : (gW g bb tx rw sb dy tn mo jk).set (40 + 6 * o + 3) (gA g ((40 + 6 * o) + 3), .inl (g.2.1, 6, .inl (upd (T.2 2) i.toNatClampNeg (vp_nar .int x)))) = (gW g bb tx rw sb dy (va_up tn o (stA T 2 i x)) mo jk) := by
  subst hT
  rcases (show o = 0 ∨ o = 1 ∨ o = 2 by omega) with rfl | rfl | rfl <;> rfl
theorem gw_Town_a3 {g : GG} {bb : Ob} {tx rw : Nat → Ob} {sb dy : Ob} {tn : Nat → Ob} {mo : Ob} {jk : Nat → Nat → Int32} {o : Nat} (ho : o < 3) {T : Ob} (hT : tn o = T) : (gW g bb tx rw sb dy tn mo jk)[40 + 6 * o + 4]? = some (gA g ((40 + 6 * o) + 4), .inl (g.2.1, 6, .inl (T.2 3))) := by
  subst hT
  rcases (show o = 0 ∨ o = 1 ∨ o = 2 by omega) with rfl | rfl | rfl <;> rfl
theorem gs_Town_a3 {g : GG} {bb : Ob} {tx rw : Nat → Ob} {sb dy : Ob} {tn : Nat → Ob} {mo : Ob} {jk : Nat → Nat → Int32} {o : Nat} (ho : o < 3) {T : Ob} (hT : tn o = T) {i x : Int32} : (gW g bb tx rw sb dy tn mo jk).set (40 + 6 * o + 4) (gA g ((40 + 6 * o) + 4), .inl (g.2.1, 6, .inl (upd (T.2 3) i.toNatClampNeg (vp_nar .int x)))) = (gW g bb tx rw sb dy (va_up tn o (stA T 3 i x)) mo jk) := by
  subst hT
  rcases (show o = 0 ∨ o = 1 ∨ o = 2 by omega) with rfl | rfl | rfl <;> rfl
theorem gw_Town_a4 {g : GG} {bb : Ob} {tx rw : Nat → Ob} {sb dy : Ob} {tn : Nat → Ob} {mo : Ob} {jk : Nat → Nat → Int32} {o : Nat} (ho : o < 3) {T : Ob} (hT : tn o = T) : (gW g bb tx rw sb dy tn mo jk)[40 + 6 * o + 5]? = some (gA g ((40 + 6 * o) + 5), .inl (g.2.1, 6, .inl (T.2 4))) := by
  subst hT
  rcases (show o = 0 ∨ o = 1 ∨ o = 2 by omega) with rfl | rfl | rfl <;> rfl
theorem gs_Town_a4 {g : GG} {bb : Ob} {tx rw : Nat → Ob} {sb dy : Ob} {tn : Nat → Ob} {mo : Ob} {jk : Nat → Nat → Int32} {o : Nat} (ho : o < 3) {T : Ob} (hT : tn o = T) {i x : Int32} : (gW g bb tx rw sb dy tn mo jk).set (40 + 6 * o + 5) (gA g ((40 + 6 * o) + 5), .inl (g.2.1, 6, .inl (upd (T.2 4) i.toNatClampNeg (vp_nar .int x)))) = (gW g bb tx rw sb dy (va_up tn o (stA T 4 i x)) mo jk) := by
  subst hT
  rcases (show o = 0 ∨ o = 1 ∨ o = 2 by omega) with rfl | rfl | rfl <;> rfl
theorem gw_Text_a1 {g : GG} {bb : Ob} {tx rw : Nat → Ob} {sb dy : Ob} {tn : Nat → Ob} {mo : Ob} {jk : Nat → Nat → Int32} {o : Nat} (ho : o < 6) : (gW g bb tx rw sb dy tn mo jk)[3 + 4 * o + 2]? = some (gA g ((3 + 4 * o) + 2), .inl (g.2.1, 160, .inl (jk o))) := by
  rcases (show o = 0 ∨ o = 1 ∨ o = 2 ∨ o = 3 ∨ o = 4 ∨ o = 5 by omega) with rfl | rfl | rfl | rfl | rfl | rfl <;> rfl
theorem gs_Text_a1 {g : GG} {bb : Ob} {tx rw : Nat → Ob} {sb dy : Ob} {tn : Nat → Ob} {mo : Ob} {jk : Nat → Nat → Int32} {o : Nat} (ho : o < 6) {i x : Int32} : (gW g bb tx rw sb dy tn mo jk).set (3 + 4 * o + 2) (gA g ((3 + 4 * o) + 2), .inl (g.2.1, 160, .inl (upd (jk o) i.toNatClampNeg (vp_nar .int x)))) = (gW g bb tx rw sb dy tn mo (va_up jk o (upd (jk o) i.toNatClampNeg x))) := by
  rcases (show o = 0 ∨ o = 1 ∨ o = 2 ∨ o = 3 ∨ o = 4 ∨ o = 5 by omega) with rfl | rfl | rfl | rfl | rfl | rfl <;> rfl
theorem gs_Town_f11 {g : GG} {bb : Ob} {tx rw : Nat → Ob} {sb dy : Ob} {tn : Nat → Ob} {mo : Ob} {jk : Nat → Nat → Int32} {o : Nat} (ho : o < 3) {T : Ob} (hT : tn o = T) {t : Nat} (ht : t < 6) : (gW g bb tx rw sb dy tn mo jk).set (40 + 6 * o) (gA g (40 + 6 * o), .inr (4, (oTown g (40 + 6 * o) T).set 11 (.ref (gA g (3 + 4 * t))))) = (gW g bb tx rw sb dy (va_up tn o (setS T 11 (nI t))) mo jk) := by
  subst hT
  rcases (show o = 0 ∨ o = 1 ∨ o = 2 by omega) with rfl | rfl | rfl <;> (rcases (show t = 0 ∨ t = 1 ∨ t = 2 ∨ t = 3 ∨ t = 4 ∨ t = 5 by omega) with rfl | rfl | rfl | rfl | rfl | rfl) <;> rfl
theorem gt_Text_f3 {g : GG} {bb : Ob} {tx rw : Nat → Ob} {sb dy : Ob} {tn : Nat → Ob} {mo : Ob} {jk : Nat → Nat → Int32} {o : Nat} (ho : o < 6) {T : Ob} {v : Int32} : (gW g bb (va_up tx o T) rw sb dy tn mo jk).set (3 + 4 * o) (gA g (3 + 4 * o), .inr (3, (oText g (3 + 4 * o) T).set 3 (.int v))) = (gW g bb (va_up tx o (setS T 3 v)) rw sb dy tn mo jk) := (gs_Text_f3 ho (up_same _ _ _)).trans (by rw [up_up])
theorem gt_Text_a0 {g : GG} {bb : Ob} {tx rw : Nat → Ob} {sb dy : Ob} {tn : Nat → Ob} {mo : Ob} {jk : Nat → Nat → Int32} {o : Nat} (ho : o < 6) {T : Ob} {i x : Int32} : (gW g bb (va_up tx o T) rw sb dy tn mo jk).set (3 + 4 * o + 1) (gA g ((3 + 4 * o) + 1), .inl (g.2.1, 160, .inl (upd (T.2 0) i.toNatClampNeg (vp_nar .int x)))) = (gW g bb (va_up tx o (stA T 0 i x)) rw sb dy tn mo jk) := (gs_Text_a0 ho (up_same _ _ _)).trans (by rw [up_up])
theorem gt_Text_a2 {g : GG} {bb : Ob} {tx rw : Nat → Ob} {sb dy : Ob} {tn : Nat → Ob} {mo : Ob} {jk : Nat → Nat → Int32} {o : Nat} (ho : o < 6) {T : Ob} {i x : Int32} : (gW g bb (va_up tx o T) rw sb dy tn mo jk).set (3 + 4 * o + 3) (gA g ((3 + 4 * o) + 3), .inl (g.2.1, 3, .inl (upd (T.2 2) i.toNatClampNeg (vp_nar .int x)))) = (gW g bb (va_up tx o (stA T 2 i x)) rw sb dy tn mo jk) := (gs_Text_a2 ho (up_same _ _ _)).trans (by rw [up_up])
theorem gt_Row_f1 {g : GG} {bb : Ob} {tx rw : Nat → Ob} {sb dy : Ob} {tn : Nat → Ob} {mo : Ob} {jk : Nat → Nat → Int32} {o : Nat} (ho : o < 4) {T : Ob} {v : Int32} : (gW g bb tx (va_up rw o T) sb dy tn mo jk).set (27 + 2 * o) (gA g (27 + 2 * o), .inr (1, (oRow g (27 + 2 * o) T).set 1 (.int v))) = (gW g bb tx (va_up rw o (setS T 1 v)) sb dy tn mo jk) := (gs_Row_f1 ho (up_same _ _ _)).trans (by rw [up_up])
theorem gt_Row_f2 {g : GG} {bb : Ob} {tx rw : Nat → Ob} {sb dy : Ob} {tn : Nat → Ob} {mo : Ob} {jk : Nat → Nat → Int32} {o : Nat} (ho : o < 4) {T : Ob} {v : Int32} : (gW g bb tx (va_up rw o T) sb dy tn mo jk).set (27 + 2 * o) (gA g (27 + 2 * o), .inr (1, (oRow g (27 + 2 * o) T).set 2 (.int v))) = (gW g bb tx (va_up rw o (setS T 2 v)) sb dy tn mo jk) := (gs_Row_f2 ho (up_same _ _ _)).trans (by rw [up_up])
theorem gt_Row_a0 {g : GG} {bb : Ob} {tx rw : Nat → Ob} {sb dy : Ob} {tn : Nat → Ob} {mo : Ob} {jk : Nat → Nat → Int32} {o : Nat} (ho : o < 4) {T : Ob} {i x : Int32} : (gW g bb tx (va_up rw o T) sb dy tn mo jk).set (27 + 2 * o + 1) (gA g ((27 + 2 * o) + 1), .inl (g.2.1, 40, .inl (upd (T.2 0) i.toNatClampNeg (vp_nar .int x)))) = (gW g bb tx (va_up rw o (stA T 0 i x)) sb dy tn mo jk) := (gs_Row_a0 ho (up_same _ _ _)).trans (by rw [up_up])
theorem gt_Town_f5 {g : GG} {bb : Ob} {tx rw : Nat → Ob} {sb dy : Ob} {tn : Nat → Ob} {mo : Ob} {jk : Nat → Nat → Int32} {o : Nat} (ho : o < 3) {T : Ob} {v : Int32} : (gW g bb tx rw sb dy (va_up tn o T) mo jk).set (40 + 6 * o) (gA g (40 + 6 * o), .inr (4, (oTown g (40 + 6 * o) T).set 5 (.int v))) = (gW g bb tx rw sb dy (va_up tn o (setS T 5 v)) mo jk) := (gs_Town_f5 ho (up_same _ _ _)).trans (by rw [up_up])
theorem gt_Town_f6 {g : GG} {bb : Ob} {tx rw : Nat → Ob} {sb dy : Ob} {tn : Nat → Ob} {mo : Ob} {jk : Nat → Nat → Int32} {o : Nat} (ho : o < 3) {T : Ob} {v : Int32} : (gW g bb tx rw sb dy (va_up tn o T) mo jk).set (40 + 6 * o) (gA g (40 + 6 * o), .inr (4, (oTown g (40 + 6 * o) T).set 6 (.int v))) = (gW g bb tx rw sb dy (va_up tn o (setS T 6 v)) mo jk) := (gs_Town_f6 ho (up_same _ _ _)).trans (by rw [up_up])
theorem gt_Town_f7 {g : GG} {bb : Ob} {tx rw : Nat → Ob} {sb dy : Ob} {tn : Nat → Ob} {mo : Ob} {jk : Nat → Nat → Int32} {o : Nat} (ho : o < 3) {T : Ob} {v : Int32} : (gW g bb tx rw sb dy (va_up tn o T) mo jk).set (40 + 6 * o) (gA g (40 + 6 * o), .inr (4, (oTown g (40 + 6 * o) T).set 7 (.int v))) = (gW g bb tx rw sb dy (va_up tn o (setS T 7 v)) mo jk) := (gs_Town_f7 ho (up_same _ _ _)).trans (by rw [up_up])
theorem gt_Town_f8 {g : GG} {bb : Ob} {tx rw : Nat → Ob} {sb dy : Ob} {tn : Nat → Ob} {mo : Ob} {jk : Nat → Nat → Int32} {o : Nat} (ho : o < 3) {T : Ob} {v : Int32} : (gW g bb tx rw sb dy (va_up tn o T) mo jk).set (40 + 6 * o) (gA g (40 + 6 * o), .inr (4, (oTown g (40 + 6 * o) T).set 8 (.int v))) = (gW g bb tx rw sb dy (va_up tn o (setS T 8 v)) mo jk) := (gs_Town_f8 ho (up_same _ _ _)).trans (by rw [up_up])
theorem gt_Town_f9 {g : GG} {bb : Ob} {tx rw : Nat → Ob} {sb dy : Ob} {tn : Nat → Ob} {mo : Ob} {jk : Nat → Nat → Int32} {o : Nat} (ho : o < 3) {T : Ob} {v : Int32} : (gW g bb tx rw sb dy (va_up tn o T) mo jk).set (40 + 6 * o) (gA g (40 + 6 * o), .inr (4, (oTown g (40 + 6 * o) T).set 9 (.int v))) = (gW g bb tx rw sb dy (va_up tn o (setS T 9 v)) mo jk) := (gs_Town_f9 ho (up_same _ _ _)).trans (by rw [up_up])
theorem gt_Town_f10 {g : GG} {bb : Ob} {tx rw : Nat → Ob} {sb dy : Ob} {tn : Nat → Ob} {mo : Ob} {jk : Nat → Nat → Int32} {o : Nat} (ho : o < 3) {T : Ob} {v : Int32} : (gW g bb tx rw sb dy (va_up tn o T) mo jk).set (40 + 6 * o) (gA g (40 + 6 * o), .inr (4, (oTown g (40 + 6 * o) T).set 10 (.int v))) = (gW g bb tx rw sb dy (va_up tn o (setS T 10 v)) mo jk) := (gs_Town_f10 ho (up_same _ _ _)).trans (by rw [up_up])
theorem gt_Town_a0 {g : GG} {bb : Ob} {tx rw : Nat → Ob} {sb dy : Ob} {tn : Nat → Ob} {mo : Ob} {jk : Nat → Nat → Int32} {o : Nat} (ho : o < 3) {T : Ob} {i x : Int32} : (gW g bb tx rw sb dy (va_up tn o T) mo jk).set (40 + 6 * o + 1) (gA g ((40 + 6 * o) + 1), .inl (g.2.1, 6, .inl (upd (T.2 0) i.toNatClampNeg (vp_nar .int x)))) = (gW g bb tx rw sb dy (va_up tn o (stA T 0 i x)) mo jk) := (gs_Town_a0 ho (up_same _ _ _)).trans (by rw [up_up])
theorem gt_Town_a1 {g : GG} {bb : Ob} {tx rw : Nat → Ob} {sb dy : Ob} {tn : Nat → Ob} {mo : Ob} {jk : Nat → Nat → Int32} {o : Nat} (ho : o < 3) {T : Ob} {i x : Int32} : (gW g bb tx rw sb dy (va_up tn o T) mo jk).set (40 + 6 * o + 2) (gA g ((40 + 6 * o) + 2), .inl (g.2.1, 6, .inl (upd (T.2 1) i.toNatClampNeg (vp_nar .int x)))) = (gW g bb tx rw sb dy (va_up tn o (stA T 1 i x)) mo jk) := (gs_Town_a1 ho (up_same _ _ _)).trans (by rw [up_up])
theorem gt_Town_a2 {g : GG} {bb : Ob} {tx rw : Nat → Ob} {sb dy : Ob} {tn : Nat → Ob} {mo : Ob} {jk : Nat → Nat → Int32} {o : Nat} (ho : o < 3) {T : Ob} {i x : Int32} : (gW g bb tx rw sb dy (va_up tn o T) mo jk).set (40 + 6 * o + 3) (gA g ((40 + 6 * o) + 3), .inl (g.2.1, 6, .inl (upd (T.2 2) i.toNatClampNeg (vp_nar .int x)))) = (gW g bb tx rw sb dy (va_up tn o (stA T 2 i x)) mo jk) := (gs_Town_a2 ho (up_same _ _ _)).trans (by rw [up_up])
theorem gt_Town_a3 {g : GG} {bb : Ob} {tx rw : Nat → Ob} {sb dy : Ob} {tn : Nat → Ob} {mo : Ob} {jk : Nat → Nat → Int32} {o : Nat} (ho : o < 3) {T : Ob} {i x : Int32} : (gW g bb tx rw sb dy (va_up tn o T) mo jk).set (40 + 6 * o + 4) (gA g ((40 + 6 * o) + 4), .inl (g.2.1, 6, .inl (upd (T.2 3) i.toNatClampNeg (vp_nar .int x)))) = (gW g bb tx rw sb dy (va_up tn o (stA T 3 i x)) mo jk) := (gs_Town_a3 ho (up_same _ _ _)).trans (by rw [up_up])
theorem gt_Town_a4 {g : GG} {bb : Ob} {tx rw : Nat → Ob} {sb dy : Ob} {tn : Nat → Ob} {mo : Ob} {jk : Nat → Nat → Int32} {o : Nat} (ho : o < 3) {T : Ob} {i x : Int32} : (gW g bb tx rw sb dy (va_up tn o T) mo jk).set (40 + 6 * o + 5) (gA g ((40 + 6 * o) + 5), .inl (g.2.1, 6, .inl (upd (T.2 4) i.toNatClampNeg (vp_nar .int x)))) = (gW g bb tx rw sb dy (va_up tn o (stA T 4 i x)) mo jk) := (gs_Town_a4 ho (up_same _ _ _)).trans (by rw [up_up])
theorem gt_Town_f11 {g : GG} {bb : Ob} {tx rw : Nat → Ob} {sb dy : Ob} {tn : Nat → Ob} {mo : Ob} {jk : Nat → Nat → Int32} {o : Nat} (ho : o < 3) {T : Ob} {t : Nat} (ht : t < 6) : (gW g bb tx rw sb dy (va_up tn o T) mo jk).set (40 + 6 * o) (gA g (40 + 6 * o), .inr (4, (oTown g (40 + 6 * o) T).set 11 (.ref (gA g (3 + 4 * t))))) = (gW g bb tx rw sb dy (va_up tn o (setS T 11 (nI t))) mo jk) := (gs_Town_f11 ho (up_same _ _ _) ht).trans (by rw [up_up])
theorem gw_Text_j1 {g : GG} {bb : Ob} {tx rw : Nat → Ob} {sb dy : Ob} {tn : Nat → Ob} {mo : Ob} {jk : Nat → Nat → Int32} {o : Nat} (ho : o < 6) {S : Nat → Int32} : (gW g bb tx rw sb dy tn mo (va_up jk o S))[3 + 4 * o + 2]? = some (gA g (3 + 4 * o + 2), .inl (g.2.1, 160, .inl S)) := by
  have h := gw_Text_a1 (g := g) (bb := bb) (tx := tx) (rw := rw) (sb := sb) (dy := dy) (tn := tn) (mo := mo) (jk := va_up jk o S) ho
  rwa [up_same] at h
theorem gt_Text_j1 {g : GG} {bb : Ob} {tx rw : Nat → Ob} {sb dy : Ob} {tn : Nat → Ob} {mo : Ob} {jk : Nat → Nat → Int32} {o : Nat} (ho : o < 6) {S : Nat → Int32} {i x : Int32} : (gW g bb tx rw sb dy tn mo (va_up jk o S)).set (3 + 4 * o + 2) (gA g (3 + 4 * o + 2), .inl (g.2.1, 160, .inl (upd S i.toNatClampNeg (vp_nar .int x)))) = (gW g bb tx rw sb dy tn mo (va_up jk o (upd S i.toNatClampNeg x))) := by
  have h := gs_Text_a1 (g := g) (bb := bb) (tx := tx) (rw := rw) (sb := sb) (dy := dy) (tn := tn) (mo := mo) (jk := va_up jk o S) (i := i) (x := x) ho
  rwa [up_same, up_up] at h
theorem gw_Model_j27 {g : GG} {bb : Ob} {tx rw : Nat → Ob} {sb dy : Ob} {tn : Nat → Ob} {mo : Ob} {jk : Nat → Nat → Int32} {S : Nat → Int32} : (gW g bb tx rw sb dy tn mo (va_up jk 6 S))[74]? = some (gA g 74, .inl (g.2.1, 200, .inl S)) := rfl
theorem gt_Model_j27 {g : GG} {bb : Ob} {tx rw : Nat → Ob} {sb dy : Ob} {tn : Nat → Ob} {mo : Ob} {jk : Nat → Nat → Int32} {S : Nat → Int32} {i x : Int32} : (gW g bb tx rw sb dy tn mo (va_up jk 6 S)).set 74 (gA g 74, .inl (g.2.1, 200, .inl (upd S i.toNatClampNeg (vp_nar .int x)))) = (gW g bb tx rw sb dy tn mo (va_up jk 6 (upd S i.toNatClampNeg x))) := by
  have h := gs_Model_a27 (g := g) (bb := bb) (tx := tx) (rw := rw) (sb := sb) (dy := dy) (tn := tn) (mo := mo) (jk := va_up jk 6 S) (i := i) (x := x)
  rwa [up_same, up_up] at h
theorem gw_Model_j28 {g : GG} {bb : Ob} {tx rw : Nat → Ob} {sb dy : Ob} {tn : Nat → Ob} {mo : Ob} {jk : Nat → Nat → Int32} {S : Nat → Int32} : (gW g bb tx rw sb dy tn mo (va_up jk 7 S))[75]? = some (gA g 75, .inl (g.2.1, 6, .inl S)) := rfl
theorem gt_Model_j28 {g : GG} {bb : Ob} {tx rw : Nat → Ob} {sb dy : Ob} {tn : Nat → Ob} {mo : Ob} {jk : Nat → Nat → Int32} {S : Nat → Int32} {i x : Int32} : (gW g bb tx rw sb dy tn mo (va_up jk 7 S)).set 75 (gA g 75, .inl (g.2.1, 6, .inl (upd S i.toNatClampNeg (vp_nar .int x)))) = (gW g bb tx rw sb dy tn mo (va_up jk 7 (upd S i.toNatClampNeg x))) := by
  have h := gs_Model_a28 (g := g) (bb := bb) (tx := tx) (rw := rw) (sb := sb) (dy := dy) (tn := tn) (mo := mo) (jk := va_up jk 7 S) (i := i) (x := x)
  rwa [up_same, up_up] at h
-- NUMBERS (the first rows are the kit's family fb_)
theorem fb_rng (x : Int32) : -2147483648 ≤ x.toInt ∧ x.toInt < 2147483648 := by
  have h1 := Int32.le_toInt x
  have h2 := Int32.toInt_lt x
  omega
theorem fb_bmod {z : Int} (h1 : -2147483648 ≤ z) (h2 : z < 2147483648) : z.bmod (2 ^ 32) = z := by
  rw [Int.bmod_eq_of_le (by omega) (by omega)]
theorem fb_addI {x y : Int32} (h1 : -2147483648 ≤ x.toInt + y.toInt) (h2 : x.toInt + y.toInt < 2147483648) : (x + y).toInt = x.toInt + y.toInt := by
  rw [Int32.toInt_add, fb_bmod h1 h2]
theorem fb_subI {x y : Int32} (h1 : -2147483648 ≤ x.toInt - y.toInt) (h2 : x.toInt - y.toInt < 2147483648) : (x - y).toInt = x.toInt - y.toInt := by
  rw [Int32.toInt_sub, fb_bmod h1 h2]
theorem fb_mulI {x y : Int32} (h1 : -2147483648 ≤ x.toInt * y.toInt) (h2 : x.toInt * y.toInt < 2147483648) : (x * y).toInt = x.toInt * y.toInt := by
  rw [Int32.toInt_mul, fb_bmod h1 h2]
theorem i_lt {x y : Int32} : x < y ↔ x.toInt < y.toInt := Int32.lt_iff_toInt_lt
theorem i_le {x y : Int32} : x ≤ y ↔ x.toInt ≤ y.toInt := Int32.le_iff_toInt_le
theorem i_nlt {x y : Int32} (h : ¬ x < y) : y.toInt ≤ x.toInt := by rw [i_lt] at h; omega
theorem i_nle {x y : Int32} (h : ¬ x ≤ y) : y.toInt < x.toInt := by rw [i_le] at h; omega
theorem up1 {x b : Int32} {B : Int} (c : ¬ b ≤ x) (hb : b.toInt ≤ B) (h0 : 0 ≤ x.toInt) (hB : B ≤ 1000000) : (x + 1).toInt = x.toInt + 1 ∧ x.toInt < B := by
  have h := i_nle c
  exact ⟨by rw [fb_addI] <;> (show _ ; simp only [show (1 : Int32).toInt = 1 from rfl]) <;> omega, by omega⟩
theorem addL {x y : Int32} {k : Int} (hk : y.toInt = k) (h1 : -2147483648 ≤ x.toInt + k) (h2 : x.toInt + k < 2147483648) : (x + y).toInt = x.toInt + k := by subst hk; exact fb_addI h1 h2
theorem subL {x y : Int32} {k : Int} (hk : y.toInt = k) (h1 : -2147483648 ≤ x.toInt - k) (h2 : x.toInt - k < 2147483648) : (x - y).toInt = x.toInt - k := by subst hk; exact fb_subI h1 h2
theorem mulL {x y : Int32} {k : Int} (hk : x.toInt = k) (h1 : -2147483648 ≤ k * y.toInt) (h2 : k * y.toInt < 2147483648) : (x * y).toInt = k * y.toInt := by subst hk; exact fb_mulI h1 h2
theorem i_dec (x : Int32) : x + Int32.ofInt (-1) = x - 1 := by
  rw [Int32.sub_eq_add_neg]
  rfl
theorem vp_lt {i : Int32} {n : Nat} (h : vp_in i n) : i.toNatClampNeg < n := Nat.not_le.mp fun q => h (Or.inr q)
theorem vp_i {i : Int32} {n : Nat} (h0 : 0 ≤ i.toInt) (h1 : i.toInt < n) : vp_in i n := vp_in_iff.mpr ⟨h0, h1⟩
def jmax (x y : Int32) : Int32 := if x < y then y else x
def jmin (x y : Int32) : Int32 := if y < x then y else x
-- ROWS OVER A WORLD
/-- the words of the law's language, where the class keeps them -/
def gSk : List Nat := [115, 117, 119, 121, 123, 125, 127, 129, 131, 133, 135, 137]
def gSt : List String := ["nerve", "told", "hour", "last", "people", "more", "lies", "costs", "strokes", "or", "and", "not"]
def gLen : List Nat := [5, 4, 4, 4, 6, 4, 4, 5, 7, 2, 3, 3]
def gByt : List (List Int32) := [[110, 101, 114, 118, 101], [116, 111, 108, 100], [104, 111, 117, 114], [108, 97, 115, 116], [112, 101, 111, 112, 108, 101], [109, 111, 114, 101], [108, 105, 101, 115], [99, 111, 115, 116, 115], [115, 116, 114, 111, 107, 101, 115], [111, 114], [97, 110, 100], [110, 111, 116]]
/-- what of a state the methods need beside the cells -/
def gK (g : GG) (A : Nat → Prop) (s : State) : Prop := va_K g.1 vwCl (gTys g) s ∧ va_Nw (.methodLinkNest RX4 54 yX5_isWithin RX5) s ∧ vk_S 12 gLen gByt (fun i => gA g (100 + i)) (fun i => gA g (200 + i)) A s s.heap ∧ (∀ i : Nat, i < 12 → vk_R RX2 (gSk.getD i 0) (gSt.getD i "") (gA g (100 + i)) s) ∧ va_Z "java/lang/String" "COMPACT_STRINGS" "Z" (.int 1) A s s.heap ∧ va_Zq "jdk/internal/util/Preconditions" "SIOOBE_FORMATTER" "Ljava/util/function/BiFunction;" A s s.heap ∧ ∀ q : Nat, s.heap.size ≤ q → A q
theorem gK_to {g : GG} {A B : Nat → Prop} {s U : State} (h : gK g A s) (hW : s.WarmedH U.vm) (hq : ∀ a : Nat, a < s.heap.size → ¬ A a → U.heap[a]? = s.heap[a]?) (hAB : ∀ q, B q → A q) (hB : ∀ q : Nat, U.heap.size ≤ q → B q) : gK g B U :=
  ⟨va_K.moved hW.alike h.1, va_Nw.warmM hW h.2.1, ((h.2.2.1.moved hW.alike).kept hq).narrow hAB, fun i hi => vk_R.warm hW (h.2.2.2.1 i hi), ((h.2.2.2.2.1.moved hW.alike).kept hq).narrow hAB, ((h.2.2.2.2.2.1.moved hW.alike).kept hq).narrow hAB, hB⟩
def gS (g : GG) (A : Nat → Prop) (s : State) (H : Heap) (locs : List Loc) (w : va_W) : Prop := gK g A s ∧ va_P g.1 vwCl w H ∧ va_D A w ∧ va_S A s.heap H locs
/-- a method's start and end, over a world -/
def gB (g : GG) (sz : Nat) (w : va_W) (U : State) : Prop := U.heap.size = sz ∧ va_P g.1 vwCl w U.heap ∧ gK g (va_A w sz) U ∧ va_D (fun _ => True) w
def gC (g : GG) (A : Nat → Prop) (w : va_W) (t : State) : Prop := va_P g.1 vwCl w t.heap ∧ va_K g.1 vwCl (gTys g) t ∧ va_D A w
theorem gB_blind {g : GG} {sz : Nat} {w : va_W} {vs : List Value} : FrameBlind (va_Pc vs (gB g sz w)) := fun a U h mk q => by
  obtain ⟨q0, q1, qP, qK, qD⟩ := q
  exact ⟨q0, q1, qP, ⟨va_K.moved (u := U) (U := U.calling h mk a) (Vm.Alike.refl U.vm) qK.1, va_Nw.same (u := U) (U := U.calling h mk a) rfl rfl qK.2.1, vk_S.moved (u := U) (U := U.calling h mk a) (Vm.Alike.refl U.vm) qK.2.2.1, fun i hi => vk_R.same (u := U) (U := U.calling h mk a) rfl (qK.2.2.2.1 i hi), va_Z.moved (u := U) (U := U.calling h mk a) (Vm.Alike.refl U.vm) qK.2.2.2.2.1, va_Zq.moved (u := U) (U := U.calling h mk a) (Vm.Alike.refl U.vm) qK.2.2.2.2.2.1, qK.2.2.2.2.2.2⟩, qD⟩
theorem Met.weak {l : Launch} {y : MethodName} {ws : List Cond} {rm : Room} {Pc : Array Value → State → Prop} {Qc Qc' : Array Value → State → Outcome → State → Prop} {mc ms : Nat} {free : Addr → Prop} (h : Met l y ws rm Pc Qc mc ms free) (hq : ∀ a s o t, Qc a s o t → Qc' a s o t) : Met l y ws rm Pc Qc' mc ms free := by
  intro p e ha hc hk s m args below hf happ hP hT
  obtain ⟨k, o, h1, h2, h3, hQ, hL⟩ := h p e ha hc hk s m args below hf happ hP hT
  exact ⟨k, o, h1, h2, h3, hq _ _ _ _ hQ, hL⟩
def rmL (n : Nat) : Room := { frames := n, cells := 0, slots := 0, locals := 40 * n }
section GROWS
variable {p : Program} {l : Launch} {e : Env} {R : Room} {s : State} {m : MethodId} {args : Array Value} {below : List Frame} {meth : Method} {c : Code} {H : Heap} {locs : List Loc} {cells slots : Nat} {Q : State → Prop}
variable {cc : ByteArray} {pc : Nat} {ls : Array Slot} {rest : List Value} {g : GG} {A : Nat → Prop} {a : Nat} {w w' : va_W}
theorem g_get (hx : p.tables.exec = Jvm.exec) (hb : c.code = cc) {own C : String} {T : u_T} {N ci index : Nat} (hts : ∀ w ∈ TT, w.before args s = true) (hin : ∀ w ∈ u_ws C T N, w ∈ TT) (hown : s.vm.findClass own = some m.cls) (hG : gS g A s H locs w) {q0 : Nat} {fs : List Value} (he : w[q0]? = some (a, .inr (ci, fs))) (hc : vwCl[ci]? = some (C, T, N)) (k : Nat) (hk : k < N) (hlink : Cond.fieldLink own index (T k).1 (T k).2.1 (T k).2.2.1 ∈ TT) {v : Value} (hv : fs[k]? = some v) (hdg : decode cc pc = .ok (.getfield index, 3))
    (kk : W p l e R s m args below meth c H locs cells slots Q (F0 m (pc + 3) ls (v :: rest))) : W p l e R s m args below meth c H locs cells slots Q (F0 m pc ls (.ref a :: rest)) :=
  va_get (ref := (T k).1) hx hb hts hin hown hG.1.1 hG.2.1 q0 he hc k hk (hts _ hlink) (fun _ h => h) hv hdg kk
theorem g_put (hx : p.tables.exec = Jvm.exec) (hb : c.code = cc) {own C : String} {T : u_T} {N ci index : Nat} (hts : ∀ w ∈ TT, w.before args s = true) (hin : ∀ w ∈ u_ws C T N, w ∈ TT) (ty0 : Nat → FieldType) (hty : ∀ k, k < N → parseFieldDescriptor (T k).2.2.1 = some (ty0 k)) (hnm : ∀ a, a < N → ∀ b, b < N → a ≠ b → (T a).2.1 ≠ (T b).2.1) (hown : s.vm.findClass own = some m.cls) (hG : gS g A s H locs w) {q0 : Nat} {fs : List Value} (he : w[q0]? = some (a, .inr (ci, fs))) (hc : vwCl[ci]? = some (C, T, N)) (k : Nat) (hk : k < N) (hlink : Cond.fieldLink own index (T k).1 (T k).2.1 (T k).2.2.1 ∈ TT) (hfin : (T k).2.2.2 = false) {v : Value} (hn : narrow (ty0 k) v = v) (hfit : fits (ty0 k) v = true) (hl : k < fs.length) (hset : w.set q0 (a, .inr (ci, fs.set k v)) = w')
    (hdg : decode cc pc = .ok (.putfield index, 3)) (kk : ∀ (H1 : Heap) (locs1 : List Loc), gS g A s H1 locs1 w' → W p l e R s m args below meth c H1 locs1 cells slots Q (F0 m (pc + 3) ls rest)) : W p l e R s m args below meth c H locs cells slots Q (F0 m pc ls (v :: .ref a :: rest)) :=
  va_put (ref := (T k).1) hx hb hts hin ty0 hty hnm hown hG.1.1 hG.2.1 hG.2.2.1 hG.2.2.2 q0 he hc k hk (hts _ hlink) (fun _ h => h) hfin (hty k hk) hn hfit hl hdg (fun H1 locs1 hP hD hS => kk H1 locs1 ⟨hG.1, hset ▸ hP, hset ▸ hD, hS⟩)
theorem g_ild (hx : p.tables.exec = Jvm.exec) (hb : c.code = cc) (hG : gS g A s H locs w) {q0 n : Nat} {f : Nat → Int32} (he : w[q0]? = some (a, .inl (g.2.1, n, .inl f))) {i : Int32} (hin : vp_in i n) (hdg : decode cc pc = .ok (.iaload, 1))
    (kk : W p l e R s m args below meth c H locs cells slots Q (F0 m (pc + 1) ls (.int (f i.toNatClampNeg) :: rest))) : W p l e R s m args below meth c H locs cells slots Q (F0 m pc ls (.int i :: .ref a :: rest)) :=
  va_iald hx hb hG.1.1 hG.2.1 q0 0 he rfl hin hdg kk
theorem g_ist (hx : p.tables.exec = Jvm.exec) (hb : c.code = cc) (hG : gS g A s H locs w) {q0 n : Nat} {f : Nat → Int32} (he : w[q0]? = some (a, .inl (g.2.1, n, .inl f))) {i x : Int32} (hin : vp_in i n) (hset : w.set q0 (a, .inl (g.2.1, n, .inl (upd f i.toNatClampNeg (vp_nar .int x)))) = w') (hdg : decode cc pc = .ok (.iastore, 1))
    (kk : ∀ (H1 : Heap) (locs1 : List Loc), gS g A s H1 locs1 w' → W p l e R s m args below meth c H1 locs1 cells slots Q (F0 m (pc + 1) ls rest)) : W p l e R s m args below meth c H locs cells slots Q (F0 m pc ls (.int x :: .int i :: .ref a :: rest)) :=
  va_iast hx hb hG.1.1 hG.2.1 hG.2.2.1 hG.2.2.2 q0 0 he rfl hin hdg (fun H1 locs1 hP hD hS => kk H1 locs1 ⟨hG.1, hset ▸ hP, hset ▸ hD, hS⟩)
theorem g_ald (hx : p.tables.exec = Jvm.exec) (hb : c.code = cc) (hG : gS g A s H locs w) {q0 t0 n : Nat} {cA : ClassId} {C : String} {f : Nat → Option Nat} (he : w[q0]? = some (a, .inl (cA, n, .inr (.inr (.inr (.inr f)))))) (ht : (gTys g)[t0]? = some (cA, .object C)) {i : Int32} (hin : vp_in i n) {b : Nat} (hf : f i.toNatClampNeg = some b) (hdg : decode cc pc = .ok (.aaload, 1))
    (kk : W p l e R s m args below meth c H locs cells slots Q (F0 m (pc + 1) ls (.ref b :: rest))) : W p l e R s m args below meth c H locs cells slots Q (F0 m pc ls (.int i :: .ref a :: rest)) :=
  va_aldq hx hb hG.1.1 hG.2.1 q0 t0 he ht hin hdg (by rw [hf]; exact kk)
theorem g_iret {U : Type} {post : Int32 → U → Prop} {wf : U → va_W} {v : Int32} (hx : p.tables.exec = Jvm.exec) (hb : c.code = cc) (hr : meth.sig.returnType = some .int) (hlocks : meth.locks = false) (hG : gS g A s H locs w) (u : U) (hw : wf u = w) (hp : post v u) (hdg : decode cc pc = .ok (.ireturn, 1)) :
    W p l e R s m args below meth c H locs cells slots (MQ below (va_Qi post (fun u t => gC g A (wf u) t) A) args s cells slots A) (F0 m pc ls [.int v]) :=
  W.iret hx hb hr (fun t ht hW => ⟨⟨v, u, rfl, hp, by rw [ht, hw]; exact hG.2.1, va_K.moved hW.alike hG.1.1, by rw [hw]; exact hG.2.2.1⟩, hG.2.2.2.F ht⟩) hG.2.2.2.2.2 hdg hlocks
theorem g_zret {U : Type} {post : Int32 → U → Prop} {wf : U → va_W} {v : Int32} (hx : p.tables.exec = Jvm.exec) (hb : c.code = cc) (hr : meth.sig.returnType = some .boolean) (hlocks : meth.locks = false) (hG : gS g A s H locs w) (hv : v = 0 ∨ v = 1) (u : U) (hw : wf u = w) (hp : post v u) (hdg : decode cc pc = .ok (.ireturn, 1)) :
    W p l e R s m args below meth c H locs cells slots (MQ below (va_Qi post (fun u t => gC g A (wf u) t) A) args s cells slots A) (F0 m pc ls [.int v]) :=
  W.zret hx hb hr (by rcases hv with rfl | rfl <;> rfl) (fun t ht hW => ⟨⟨v, u, rfl, hp, by rw [ht, hw]; exact hG.2.1, va_K.moved hW.alike hG.1.1, by rw [hw]; exact hG.2.2.1⟩, hG.2.2.2.F ht⟩) hG.2.2.2.2.2 hdg hlocks
theorem g_lret {U : Type} {post : Int64 → U → Prop} {wf : U → va_W} {v : Int64} (hx : p.tables.exec = Jvm.exec) (hb : c.code = cc) (hr : meth.sig.returnType = some .long) (hlocks : meth.locks = false) (hG : gS g A s H locs w) (u : U) (hw : wf u = w) (hp : post v u) (hdg : decode cc pc = .ok (.lreturn, 1)) :
    W p l e R s m args below meth c H locs cells slots (MQ below (va_Ql post (fun u t => gC g A (wf u) t) A) args s cells slots A) (F0 m pc ls [.long v]) :=
  W.lret hx hb hr (fun t ht hW => ⟨⟨v, u, rfl, hp, by rw [ht, hw]; exact hG.2.1, va_K.moved hW.alike hG.1.1, by rw [hw]; exact hG.2.2.1⟩, hG.2.2.2.F ht⟩) hG.2.2.2.2.2 hdg hlocks
theorem g_vret {U : Type} {post : U → Prop} {wf : U → va_W} (hx : p.tables.exec = Jvm.exec) (hb : c.code = cc) (hr : meth.sig.returnType = none) (hlocks : meth.locks = false) (hG : gS g A s H locs w) (u : U) (hw : wf u = w) (hp : post u) (hdg : decode cc pc = .ok (.return_, 1)) :
    W p l e R s m args below meth c H locs cells slots (MQ below (va_Qv post (fun u t => gC g A (wf u) t) A) args s cells slots A) (F0 m pc ls []) :=
  W.vret hx hb hr (fun t ht hW => ⟨⟨u, rfl, hp, by rw [ht, hw]; exact hG.2.1, va_K.moved hW.alike hG.1.1, by rw [hw]; exact hG.2.2.1⟩, hG.2.2.2.F ht⟩) hG.2.2.2.2.2 hdg hlocks
theorem g_aret {U : Type} {post : U → Prop} {wf : U → va_W} {b : Nat} {rt : String} (hx : p.tables.exec = Jvm.exec) (hb : c.code = cc) (hr : meth.sig.returnType = some (.object rt)) (hlocks : meth.locks = false) (hG : gS g A s H locs w) (u : U) (hw : wf u = w) (hp : post u) (hdg : decode cc pc = .ok (.areturn, 1)) :
    W p l e R s m args below meth c H locs cells slots (MQ below (va_Qr post (fun u x t => x = b ∧ gC g A (wf u) t) A) args s cells slots A) (F0 m pc ls [.ref b]) :=
  W.aret hx hb hr (Or.inl ⟨_, rfl⟩) (Or.inr ⟨_, rfl⟩) (fun t ht hW => ⟨⟨u, b, rfl, hp, rfl, by rw [ht, hw]; exact hG.2.1, va_K.moved hW.alike hG.1.1, by rw [hw]; exact hG.2.2.1⟩, hG.2.2.2.F ht⟩) hG.2.2.2.2.2 hdg hlocks
/-- what a call leaves: the callee's world, over the caller's part -/
theorem gS_back {A1 : Nat → Prop} {t : State} {H1 : Heap} {locs1 : List Loc} (hG : gS g A s H locs w) (hA : ∀ q, s.heap.size ≤ q → A q) (h1 : A1 = va_A w H.size) (ht : t.heap = H1) (hB : gC g A1 w' t) (hS : va_S A s.heap H1 locs1) : gS g A s H1 locs1 w' := by
  subst h1
  subst ht
  exact ⟨hG.1, hB.1, hB.2.2.weaken (fun k q _ h => by
    rcases h with ⟨k, e, h⟩ | h
    · exact hG.2.2.1.2 k (q.1, e) h
    · exact hA _ (Nat.le_trans hG.2.2.2.1 h)), hS⟩
theorem gS_free (hG : gS g A s H locs w) (hA : ∀ q, s.heap.size ≤ q → A q) : ∀ q, va_A w H.size q → A q := fun q h => by
  rcases h with ⟨k, e, h⟩ | h
  · exact hG.2.2.1.2 k _ h
  · exact hA _ (Nat.le_trans hG.2.2.2.1 h)
theorem gS_sub (hG : gS g A s H locs w) : gS g A s H locs [] := ⟨hG.1, fun _ _ h => by simp at h, ⟨fun _ _ _ _ h => by simp at h, fun _ _ h => by simp at h⟩, hG.2.2.2⟩
theorem gS_kept {H1 : Heap} {locs1 : List Loc} (hG : gS g A s H locs w) (hk : ∀ q : Nat, q < H.size → ¬ va_A [] H.size q → H1[q]? = H[q]?) (hS : va_S A s.heap H1 locs1) : gS g A s H1 locs1 w := ⟨hG.1, hG.2.1.kept (fun k q h => hk _ ((hG.2.1 k q h).lt) (fun z => by
    rcases z with ⟨k2, e, z⟩ | z
    · simp at z
    · exact absurd ((hG.2.1 k q h).lt) (Nat.not_lt.mpr z))), hG.2.2.1, hS⟩
theorem gS_pre (hG : gS g A s H locs w) {vs : List Value} {U : State} (hU : U.heap = H) (hW : s.WarmedH U.vm) : va_Pc vs (gB g H.size w) vs.toArray U := ⟨rfl, by rw [hU], by rw [hU]; exact hG.2.1, gK_to hG.1 hW (by rw [hU]; exact hG.2.2.2.2.1) (gS_free hG hG.1.2.2.2.2.2.2) (fun q h => Or.inr (by rw [← hU]; exact h)), hG.2.2.1.weaken (fun _ _ _ _ => trivial)⟩
theorem g_max {own : String} {index : Nat} (hx : p.tables.exec = Jvm.exec) (hb : c.code = cc) {nL : Nat} (hml : c.maxLocals = nL) (hsz : ls.size = nL) (hts : ∀ w ∈ TT, w.before args s = true) (hown : s.vm.findClass own = some m.cls) (h1 : Cond.methodLink own index Lib.Math.max.name ∈ TT) (h2 : Cond.static Lib.Math.max.name ∈ TT) (h3 : Cond.initialized "java/lang/Math" ∈ TT) (h4 : Cond.code Lib.Math.max.name Lib.Math.max.code 2 (some .int) ∈ TT) (hf : 1 ≤ R.frames) (hlo : (rest.map fun v => v.category).sum + 13 ≤ R.locals) {x y : Int32} (hdg : decode cc pc = .ok (.invokestatic index, 3)) (hc : cells ≤ R.cells := by first | exact Nat.le_refl _ | exact Nat.zero_le _) (hs : slots ≤ R.slots := by first | exact Nat.le_refl _ | exact Nat.zero_le _)
    (kk : W p l e R s m args below meth c H locs cells slots Q (F0 m (pc + 3) ls (.int (jmax x y) :: rest))) : W p l e R s m args below meth c H locs cells slots Q (F0 m pc ls (.int y :: .int x :: rest)) :=
  va_mmax hx hb (hml.trans hsz.symm) hown (hts _ h1) (hts _ h2) (hts _ h3) (hts _ h4) hf hlo hc hs hdg kk
theorem g_min {own : String} {index : Nat} (hx : p.tables.exec = Jvm.exec) (hb : c.code = cc) {nL : Nat} (hml : c.maxLocals = nL) (hsz : ls.size = nL) (hts : ∀ w ∈ TT, w.before args s = true) (hown : s.vm.findClass own = some m.cls) (h1 : Cond.methodLink own index Lib.Math.min.name ∈ TT) (h2 : Cond.static Lib.Math.min.name ∈ TT) (h3 : Cond.initialized "java/lang/Math" ∈ TT) (h4 : Cond.code Lib.Math.min.name Lib.Math.min.code 2 (some .int) ∈ TT) (hf : 1 ≤ R.frames) (hlo : (rest.map fun v => v.category).sum + 13 ≤ R.locals) {x y : Int32} (hdg : decode cc pc = .ok (.invokestatic index, 3)) (hc : cells ≤ R.cells := by first | exact Nat.le_refl _ | exact Nat.zero_le _) (hs : slots ≤ R.slots := by first | exact Nat.le_refl _ | exact Nat.zero_le _)
    (kk : W p l e R s m args below meth c H locs cells slots Q (F0 m (pc + 3) ls (.int (jmin x y) :: rest))) : W p l e R s m args below meth c H locs cells slots Q (F0 m pc ls (.int y :: .int x :: rest)) :=
  va_mmin hx hb (hml.trans hsz.symm) hown (hts _ h1) (hts _ h2) (hts _ h3) (hts _ h4) hf hlo hc hs hdg kk
section CALLS
variable {nL n index maxL ci q0 b N : Nat} {own : String} {y : MethodName} {bytes : ByteArray} {ret : Option FieldType} {rm : Room} {As st0 fs : List Value} {T : u_T} {U : Type} {wf : U → va_W}
theorem g_words {maxL n index : Nat} {own : String} {y : MethodName} {bytes : ByteArray} {ret : Option FieldType} {rm : Room} (hts : ∀ w ∈ TT, w.before args s = true) (m1 : Cond.methodLink own index y ∈ TT) (m4 : Cond.initialized y.cls ∈ TT) (m5 : Cond.code y bytes maxL ret ∈ TT) (hrc : rm.cells = 0) (hrs : rm.slots = 0) (hd : y.cls ≠ "java/lang/invoke/MethodHandle" ∧ y.cls ≠ "java/lang/invoke/VarHandle" ∧ (parseMethodDescriptor y.desc).map (fun d => d.parameters.length) = some n) (hR : rm.frames + 1 ≤ R.frames ∧ 8 + (maxL + 11) + rm.locals ≤ R.locals) : CallB R s args own index y bytes maxL ret (Cond.code y bytes maxL ret :: TT) rm 0 0 n :=
  callB_of n hts (TT_good (fun w hw => by rcases List.mem_cons.mp hw with rfl | h; exact m5; exact h) (fun w h => h)) rfl hrc hrs (hts _ m4) (hts _ m1) hd hR
theorem g_runV {Qc : Array Value → State → Outcome → State → Prop} (hx : p.tables.exec = Jvm.exec) (hb : c.code = cc) (hml : c.maxLocals = nL) (hown : s.vm.findClass own = some m.cls) (hts : ∀ w ∈ TT, w.before args s = true) (hG : gS g A s H locs w) (hM : Met l y (Cond.code y bytes maxL ret :: TT) rm (va_Pc (.ref b :: As) (gB g H.size w)) Qc 0 0 (va_A w H.size)) (m1 : Cond.methodLink own index y ∈ TT) (m2 : Cond.instanceMethod y ∈ TT) (m3 : Cond.selects y.cls y y ∈ TT) (m4 : Cond.initialized y.cls ∈ TT) (m5 : Cond.code y bytes maxL ret ∈ TT) (hd : y.cls ≠ "java/lang/invoke/MethodHandle" ∧ y.cls ≠ "java/lang/invoke/VarHandle" ∧ (parseMethodDescriptor y.desc).map (fun d => d.parameters.length) = some n) (hrm : rm.cells = 0 ∧ rm.slots = 0 ∧ rm.frames + 1 ≤ R.frames ∧ 8 + (maxL + 11) + rm.locals ≤ R.locals) (he : w[q0]? = some (b, .inr (ci, fs))) (hc : vwCl[ci]? = some (y.cls, T, N)) (hn : As.length = n) (hsz : ls.size = nL) (hst : st0 = As.reverse ++ .ref b :: rest) (hWr : (rest.map fun v => v.category).sum ≤ 8) (hdg : decode cc pc = .ok (.invokevirtual index, 3)) (hf : cells ≤ R.cells ∧ slots ≤ R.slots) :
    va_Run p l e R s m args below meth c H locs cells slots 0 0 (F0 m pc ls st0) rest (Qc (Value.ref b :: As).toArray) (va_A w H.size) :=
  va_runV ⟨hx, hb, hml, hown, hts⟩ hM ⟨g_words hts m1 m4 m5 hrm.1 hrm.2.1 hd hrm.2.2, hts _ m2, hts _ m3⟩ ⟨gB_blind, va_recv (q := (y.cls, T, N)) hG.1.1 hG.2.1 hc he, fun U hU hW => gS_pre hG hU hW⟩ rfl hn hsz hst (lv_room hWr) hdg hf
theorem g_runK {i : Nat} {Qc : Array Value → State → Outcome → State → Prop} (hx : p.tables.exec = Jvm.exec) (hb : c.code = cc) (hml : c.maxLocals = nL) (hown : s.vm.findClass own = some m.cls) (hts : ∀ w ∈ TT, w.before args s = true) (hG : gS g A s H locs w) (hM : Met l y (Cond.code y bytes maxL ret :: TT) rm (va_Pc (.ref (gA g (100 + i)) :: As) (gB g H.size [])) Qc 0 0 (va_A [] H.size)) (m1 : Cond.methodLink own index y ∈ TT) (m2 : Cond.instanceMethod y ∈ TT) (m3 : Cond.selects y.cls y y ∈ TT) (m4 : Cond.initialized y.cls ∈ TT) (m5 : Cond.code y bytes maxL ret ∈ TT) (hd : y.cls ≠ "java/lang/invoke/MethodHandle" ∧ y.cls ≠ "java/lang/invoke/VarHandle" ∧ (parseMethodDescriptor y.desc).map (fun d => d.parameters.length) = some n) (hrm : rm.cells = 0 ∧ rm.slots = 0 ∧ rm.frames + 1 ≤ R.frames ∧ 8 + (maxL + 11) + rm.locals ≤ R.locals) (hi : i < 12) (hcl : y.cls = "java/lang/String") (hn : As.length = n) (hsz : ls.size = nL) (hst : st0 = As.reverse ++ .ref (gA g (100 + i)) :: rest) (hWr : (rest.map fun v => v.category).sum ≤ 8) (hdg : decode cc pc = .ok (.invokevirtual index, 3)) (hf : cells ≤ R.cells ∧ slots ≤ R.slots) :
    va_Run p l e R s m args below meth c H locs cells slots 0 0 (F0 m pc ls st0) rest (Qc (Value.ref (gA g (100 + i)) :: As).toArray) (va_A [] H.size) :=
  va_runV (C := y.cls) ⟨hx, hb, hml, hown, hts⟩ hM ⟨g_words hts m1 m4 m5 hrm.1 hrm.2.1 hd hrm.2.2, hts _ m2, hts _ m3⟩ ⟨gB_blind, by rw [hcl]; exact vk_recv (adK := fun i => gA g (100 + i)) (i := i) hG.1.2.2.1 hi hG.2.2.2, fun U hU hW => gS_pre (gS_sub hG) hU hW⟩ rfl hn hsz hst (lv_room hWr) hdg hf
theorem g_runS {Qc : Array Value → State → Outcome → State → Prop} (hx : p.tables.exec = Jvm.exec) (hb : c.code = cc) (hml : c.maxLocals = nL) (hown : s.vm.findClass own = some m.cls) (hts : ∀ w ∈ TT, w.before args s = true) (hG : gS g A s H locs w) (hM : Met l y (Cond.code y bytes maxL ret :: TT) rm (va_Pc As (gB g H.size [])) Qc 0 0 (va_A [] H.size)) (m1 : Cond.methodLink own index y ∈ TT) (m2 : Cond.static y ∈ TT) (m4 : Cond.initialized y.cls ∈ TT) (m5 : Cond.code y bytes maxL ret ∈ TT) (hd : y.cls ≠ "java/lang/invoke/MethodHandle" ∧ y.cls ≠ "java/lang/invoke/VarHandle" ∧ (parseMethodDescriptor y.desc).map (fun d => d.parameters.length) = some n) (hrm : rm.cells = 0 ∧ rm.slots = 0 ∧ rm.frames + 1 ≤ R.frames ∧ 8 + (maxL + 11) + rm.locals ≤ R.locals) (hn : As.length = n) (hsz : ls.size = nL) (hst : st0 = As.reverse ++ rest) (hWr : (rest.map fun v => v.category).sum ≤ 8) (hdg : decode cc pc = .ok (.invokestatic index, 3)) (hf : cells ≤ R.cells ∧ slots ≤ R.slots) :
    va_Run p l e R s m args below meth c H locs cells slots 0 0 (F0 m pc ls st0) rest (Qc As.toArray) (va_A [] H.size) :=
  va_runS ⟨hx, hb, hml, hown, hts⟩ hM ⟨g_words hts m1 m4 m5 hrm.1 hrm.2.1 hd hrm.2.2, hts _ m2⟩ ⟨gB_blind, fun U hU hW => gS_pre (gS_sub hG) hU hW⟩ rfl hn hsz hst (lv_room hWr) hdg hf
theorem g_runSN {host : String} {Qc : Array Value → State → Outcome → State → Prop} (hx : p.tables.exec = Jvm.exec) (hb : c.code = cc) (hml : c.maxLocals = nL) (hown : s.vm.findClass own = some m.cls) (hts : ∀ w ∈ TT, w.before args s = true) (hG : gS g A s H locs w) (hM : Met l y (Cond.code y bytes maxL ret :: TT) rm (va_Pc As (gB g H.size [])) Qc 0 0 (va_A [] H.size)) (m1 : va_Nw (.methodLinkNest own index y host) s) (m2 : Cond.static y ∈ TT) (m4 : Cond.initialized y.cls ∈ TT) (m5 : Cond.code y bytes maxL ret ∈ TT) (hd : y.cls ≠ "java/lang/invoke/MethodHandle" ∧ y.cls ≠ "java/lang/invoke/VarHandle" ∧ (parseMethodDescriptor y.desc).map (fun d => d.parameters.length) = some n) (hrm : rm.cells = 0 ∧ rm.slots = 0 ∧ rm.frames + 1 ≤ R.frames ∧ 8 + (maxL + 11) + rm.locals ≤ R.locals) (hn : As.length = n) (hsz : ls.size = nL) (hst : st0 = As.reverse ++ rest) (hWr : (rest.map fun v => v.category).sum ≤ 8) (hdg : decode cc pc = .ok (.invokestatic index, 3)) (hf : cells ≤ R.cells ∧ slots ≤ R.slots) :
    va_Run p l e R s m args below meth c H locs cells slots 0 0 (F0 m pc ls st0) rest (Qc As.toArray) (va_A [] H.size) :=
  va_runSN ⟨hx, hb, hml, hown, hts⟩ hM ⟨va_cnB n hts (TT_good (fun w hw => by rcases List.mem_cons.mp hw with rfl | h; exact m5; exact h) (fun w h => h)) rfl hrm.1 hrm.2.1 m1 (hts _ m4) hd hrm.2.2, hts _ m2, trivial⟩ ⟨gB_blind, fun U hU hW => gS_pre (gS_sub hG) hU hW⟩ rfl hn hsz hst (lv_room hWr) hdg hf
variable {ar : Array Value}
theorem g_ci {post : Int32 → U → Prop} (hr : va_Run p l e R s m args below meth c H locs cells slots 0 0 (F0 m pc ls st0) rest (va_Qi post (fun u t => gC g (va_A w H.size) (wf u) t) (va_A w H.size) ar) (va_A w H.size)) (hG : gS g A s H locs w) (hA : ∀ q, s.heap.size ≤ q → A q)
    (kk : ∀ (r : Int32) (u : U) (H1 : Heap) (locs1 : List Loc), post r u → gS g A s H1 locs1 (wf u) → W p l e R s m args below meth c H1 locs1 cells slots Q (F0 m (pc + 3) ls (.int r :: rest))) : W p l e R s m args below meth c H locs cells slots Q (F0 m pc ls st0) :=
  va_calli hr hG.2.2.2 (fun q _ h => gS_free hG hA q h) (gS_free hG hA) (fun r u t H1 locs1 ht hvm hp hB hz hk hS => kk r u H1 locs1 hp (gS_back hG hA rfl ht hB hS))
theorem g_cl {post : Int64 → U → Prop} (hr : va_Run p l e R s m args below meth c H locs cells slots 0 0 (F0 m pc ls st0) rest (va_Ql post (fun u t => gC g (va_A w H.size) (wf u) t) (va_A w H.size) ar) (va_A w H.size)) (hG : gS g A s H locs w) (hA : ∀ q, s.heap.size ≤ q → A q)
    (kk : ∀ (r : Int64) (u : U) (H1 : Heap) (locs1 : List Loc), post r u → gS g A s H1 locs1 (wf u) → W p l e R s m args below meth c H1 locs1 cells slots Q (F0 m (pc + 3) ls (.long r :: rest))) : W p l e R s m args below meth c H locs cells slots Q (F0 m pc ls st0) :=
  va_calll hr hG.2.2.2 (fun q _ h => gS_free hG hA q h) (gS_free hG hA) (fun r u t H1 locs1 ht hvm hp hB hz hk hS => kk r u H1 locs1 hp (gS_back hG hA rfl ht hB hS))
theorem g_cv {post : U → Prop} (hr : va_Run p l e R s m args below meth c H locs cells slots 0 0 (F0 m pc ls st0) rest (va_Qv post (fun u t => gC g (va_A w H.size) (wf u) t) (va_A w H.size) ar) (va_A w H.size)) (hG : gS g A s H locs w) (hA : ∀ q, s.heap.size ≤ q → A q)
    (kk : ∀ (u : U) (H1 : Heap) (locs1 : List Loc), post u → gS g A s H1 locs1 (wf u) → W p l e R s m args below meth c H1 locs1 cells slots Q (F0 m (pc + 3) ls rest)) : W p l e R s m args below meth c H locs cells slots Q (F0 m pc ls st0) :=
  va_callv hr hG.2.2.2 (fun q _ h => gS_free hG hA q h) (gS_free hG hA) (fun u t H1 locs1 ht hvm hp hB hz hk hS => kk u H1 locs1 hp (gS_back hG hA rfl ht hB hS))
theorem g_cr {post : U → Prop} {b1 : Nat} (hr : va_Run p l e R s m args below meth c H locs cells slots 0 0 (F0 m pc ls st0) rest (va_Qr post (fun u x t => x = b1 ∧ gC g (va_A w H.size) (wf u) t) (va_A w H.size) ar) (va_A w H.size)) (hG : gS g A s H locs w) (hA : ∀ q, s.heap.size ≤ q → A q)
    (kk : ∀ (u : U) (H1 : Heap) (locs1 : List Loc), post u → gS g A s H1 locs1 (wf u) → W p l e R s m args below meth c H1 locs1 cells slots Q (F0 m (pc + 3) ls (.ref b1 :: rest))) : W p l e R s m args below meth c H locs cells slots Q (F0 m pc ls st0) :=
  va_callr hr hG.2.2.2 (fun q _ h => gS_free hG hA q h) (gS_free hG hA) (fun u ra t H1 locs1 ht hvm hp hB hz hk hS => by
    obtain ⟨rfl, hB⟩ := hB
    exact kk u H1 locs1 hp (gS_back hG hA rfl ht hB hS))
/-- a static method that looks at no cell -/
theorem g_si {v : Int32} (hr : va_Run p l e R s m args below meth c H locs cells slots 0 0 (F0 m pc ls st0) rest (va_Qi (fun r (_ : Unit) => r = v) (fun _ t => gC g (va_A [] H.size) [] t) (va_A [] H.size) ar) (va_A [] H.size)) (hG : gS g A s H locs w) (hA : ∀ q, s.heap.size ≤ q → A q)
    (kk : ∀ (H1 : Heap) (locs1 : List Loc), gS g A s H1 locs1 w → W p l e R s m args below meth c H1 locs1 cells slots Q (F0 m (pc + 3) ls (.int v :: rest))) : W p l e R s m args below meth c H locs cells slots Q (F0 m pc ls st0) :=
  va_calli hr hG.2.2.2 (fun q _ h => gS_free (gS_sub hG) hA q h) (gS_free (gS_sub hG) hA) (fun r u t H1 locs1 ht hvm hp hB hz hk hS => by
    subst hp
    exact kk H1 locs1 (gS_kept hG hk hS))
theorem g_sl {v : Int64} (hr : va_Run p l e R s m args below meth c H locs cells slots 0 0 (F0 m pc ls st0) rest (va_Ql (fun r (_ : Unit) => r = v) (fun _ t => gC g (va_A [] H.size) [] t) (va_A [] H.size) ar) (va_A [] H.size)) (hG : gS g A s H locs w) (hA : ∀ q, s.heap.size ≤ q → A q)
    (kk : ∀ (H1 : Heap) (locs1 : List Loc), gS g A s H1 locs1 w → W p l e R s m args below meth c H1 locs1 cells slots Q (F0 m (pc + 3) ls (.long v :: rest))) : W p l e R s m args below meth c H locs cells slots Q (F0 m pc ls st0) :=
  va_calll hr hG.2.2.2 (fun q _ h => gS_free (gS_sub hG) hA q h) (gS_free (gS_sub hG) hA) (fun r u t H1 locs1 ht hvm hp hB hz hk hS => by
    subst hp
    exact kk H1 locs1 (gS_kept hG hk hS))
end CALLS
end GROWS
/-- a method, from its entry, over a world -/
theorem g_of {l : Launch} {y : MethodName} {rm : Room} {vs : List Value} {g : GG} {sz : Nat} {w : va_W} {Qf : (Nat → Prop) → Array Value → State → Outcome → State → Prop} {cc : ByteArray} {maxL : Nat} {ret : Option FieldType} (hy : plainName y.cls = true) (hn : (lg_sl vs).length ≤ maxL)
    (body : ∀ (p : Program) (e : Env) (s : State) (m : MethodId) (below : List Frame) (meth : Method) (c : Code) (A : Nat → Prop) (ls : Array Slot), p.tables.exec = Jvm.exec → c.code = cc → c.maxLocals = maxL → meth.sig.returnType = ret → meth.locks = false → (∀ w ∈ TT, w.before vs.toArray s = true) → s.vm.findClass y.cls = some m.cls → (∀ q, s.heap.size ≤ q → A q) → gS g A s s.heap [] w → lv_has ls maxL (lv_args 0 vs) →
      W p l e rm s m vs.toArray below meth c s.heap [] 0 0 (MQ below (Qf A) vs.toArray s 0 0 A) (F0 m 0 ls [])) :
    Met l y (Cond.code y cc maxL ret :: TT) rm (va_Pc vs (gB g sz w)) (Qf (va_A w sz)) 0 0 (va_A w sz) := by
  refine Met.ofW (cc := cc) (maxL := maxL) (ret := ret) hy rfl ?_
  intro p e s m args below meth c s₁ B hml hv
  obtain ⟨rfl, hsz, hP, hK, hD0⟩ := hv
  subst hsz
  have hl := lv_entry vs (n := maxL) hn
  rw [lg_entry_eq]
  exact body p e s m below meth c (va_A w s.heap.size) _ B.exec B.bytes hml B.returns B.notSynchronized (fun w h => atoms_spec (ws := Cond.code y cc maxL ret :: TT) B.pre w (List.mem_cons_of_mem _ h)) (findClass_of_methodNamed B.named) (fun q h => Or.inr h) ⟨hK, hP, hD0.self, va_S.rf⟩ hl
