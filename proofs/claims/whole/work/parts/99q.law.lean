-- THE LAW, FROM ITS ENTRY
set_option maxHeartbeats 4000000 in
set_option maxRecDepth 100000 in
theorem law_loop {p : Program} {e : Env} {s : State} {m : MethodId} {below : List Frame} {meth : Method} {c : Code} (l : Launch) {b L : Nat} {xs : Nat → Int32} {g : GG} (hL : L ≤ 3584) (C0 : lw_At p s m meth c b L xs) : ∀ (n : Nat) (i : Int32) (bb : Ob) (tx rw : Nat → Ob) (sb dy : Ob) (tn : Nat → Ob) (mo : Ob) (jk : Nat → Nat → Int32) (H : Heap) (locs : List Loc) (ls : Array Slot), SR bb tx rw sb tn mo → gS g (lwA s) s H locs (gW g bb tx rw sb dy tn mo jk) → lv_has ls 4 [(0, .ref b), (1, .ref (gA g 0)), (2, .ref (gA g 58)), (3, .int i)] → 0 ≤ i.toInt → i.toInt ≤ L → (L : Int) < i.toInt + n → W p l e room_1 s m #[Value.ref b] below meth c H locs 600000 7302250 (lw_Z below #[Value.ref b] s) (F0 m 18 ls []) := by
  obtain ⟨hx, hb, hr, hml, hown, hts0, hX, hbl, hlocks, hgv⟩ := id C0
  replace hb : c.code = cL_law := hb
  replace hown : s.vm.findClass RL = some m.cls := hown
  have hts : ∀ w ∈ TT, w.before #[Value.ref b] s = true := fun w h => hts0 w (TT_in w h)
  have hA : ∀ q, s.heap.size ≤ q → lwA s q := fun _ h => h
  have hbA : ¬ lwA s b := Nat.not_le.mpr hbl
  have eL : (Int32.ofNat L).toInt = (L : Int) := nI_toInt (by omega)
  have e7 : (Int32.ofNat L - 7).toInt = (L : Int) - 7 := by rw [subL (k := 7) (by decide +kernel) (by omega) (by omega), eL]
  intro n
  induction n with
  | zero => intro i bb tx rw sb dy tn mo jk H locs ls _ _ _ h0 h1 h2; omega
  | succ n ih =>
    intro i bb tx rw sb dy tn mo jk H locs ls hS hG hl h0 h1 h2
    refine lv_iload_n hx hb dL_law_18 rfl (lv_at hl 3 rfl) ?_
    refine lv_aload_n hx hb dL_law_19 rfl (lv_at hl 0 rfl) ?_
    refine va_slen hx hb hX hbl hbA hG.2.2.2 dL_law_20 ?_
    refine lv_bipush (v := 7) hx hb dL_law_21 (by decide) ?_
    refine lv_isub hx hb dL_law_23 ?_
    refine lv_icmp_gt (tgt := 1381) hx hb dL_law_24 (by decide) (fun c_1 => ?_) (fun c_1 => ?_)
    · refine lv_iconst (v := 1) hx hb dL_law_1381 (by decide) ?_
      exact va_forget hG.2.2.2.2.2 (lw_ret hx hb hr hlocks dL_law_1382)
    · have q1 : ¬ ((L : Int) - 7 < i.toInt) := fun z => c_1 (i_lt.mpr (by rw [e7]; exact z))
      have hi : ∀ k : Int32, 0 ≤ k.toInt → k.toInt ≤ 6 → vp_in (i + k) L := fun k k0 k6 => by
        have ek : (i + k).toInt = i.toInt + k.toInt := fb_addI (by omega) (by omega)
        exact vp_i (by omega) (by omega)
      have hi0 : vp_in i L := vp_i h0 (by omega)
      have e1 : (i + 7).toInt = i.toInt + 7 := addL (k := 7) (by decide +kernel) (by omega) (by omega)
      have K : ∀ (bb : Ob) (tx rw : Nat → Ob) (sb dy : Ob) (tn : Nat → Ob) (mo : Ob) (jk : Nat → Nat → Int32) (H : Heap) (locs : List Loc), SR bb tx rw sb tn mo → gS g (lwA s) s H locs (gW g bb tx rw sb dy tn mo jk) → W p l e room_1 s m #[Value.ref b] below meth c H locs 600000 7302250 (lw_Z below #[Value.ref b] s) (F0 m 1375 ls []) := fun bb tx rw sb dy tn mo jk H locs hS hG => by
        refine lv_iinc (v := (i + 7)) (lv' := [(3, .int (i + 7)), (0, .ref b), (1, .ref (gA g 0)), (2, .ref (gA g 58))]) hx hb dL_law_1375 hl (k := 3) rfl rfl (by decide) rfl (fun ls hl => ?_)
        refine lv_goto (tgt := 18) hx hb dL_law_1378 (by decide) ?_
        exact ih (i + 7) bb tx rw sb dy tn mo jk H locs ls hS hG (lv_sub hl [1, 2, 3, 0] rfl) (by omega) (by omega) (by omega)
      refine lv_aload_n hx hb dL_law_27 rfl (lv_at hl 0 rfl) ?_
      refine lv_iload_n hx hb dL_law_28 rfl (lv_at hl 3 rfl) ?_
      refine va_sld hx hb hX hbl hbA hG.2.2.2 hi0 dL_law_29 ?_
      refine lv_bipush (v := 63) hx hb dL_law_30 (by decide) ?_
      refine lv_iand hx hb dL_law_32 ?_
      obtain ⟨x, hxx⟩ : ∃ x : Int32, x = xs i.toNatClampNeg &&& 63 := ⟨_, rfl⟩
      rw [← hxx]
      clear hxx
      rcases (show x.toInt < 0 ∨ 35 < x.toInt ∨ x.toInt = 0 ∨ x.toInt = 1 ∨ x.toInt = 2 ∨ x.toInt = 3 ∨ x.toInt = 4 ∨ x.toInt = 5 ∨ x.toInt = 6 ∨ x.toInt = 7 ∨ x.toInt = 8 ∨ x.toInt = 9 ∨ x.toInt = 10 ∨ x.toInt = 11 ∨ x.toInt = 12 ∨ x.toInt = 13 ∨ x.toInt = 14 ∨ x.toInt = 15 ∨ x.toInt = 16 ∨ x.toInt = 17 ∨ x.toInt = 18 ∨ x.toInt = 19 ∨ x.toInt = 20 ∨ x.toInt = 21 ∨ x.toInt = 22 ∨ x.toInt = 23 ∨ x.toInt = 24 ∨ x.toInt = 25 ∨ x.toInt = 26 ∨ x.toInt = 27 ∨ x.toInt = 28 ∨ x.toInt = 29 ∨ x.toInt = 30 ∨ x.toInt = 31 ∨ x.toInt = 32 ∨ x.toInt = 33 ∨ x.toInt = 34 ∨ x.toInt = 35 by omega) with q | q | q | q | q | q | q | q | q | q | q | q | q | q | q | q | q | q | q | q | q | q | q | q | q | q | q | q | q | q | q | q | q | q | q | q | q | q
      · exact lv_tableOut (tgt := 1375) hx hb dL_law_33 (Or.inl q) (by decide) (K _ _ _ _ _ _ _ _ _ _ hS hG)
      · exact lv_tableOut (tgt := 1375) hx hb dL_law_33 (Or.inr q) (by decide) (K _ _ _ _ _ _ _ _ _ _ hS hG)
      · have ex : x = 0 := Int32.toInt_inj.mp (q.trans (by decide))
        subst ex
        exact lv_tableIn (tgt := 192) hx hb dL_law_33 (by decide) (by decide) rfl (by decide) (lc_count hx hb hml hts hown hA hX hbl hbA hi hS hG hl K)
      · have ex : x = 1 := Int32.toInt_inj.mp (q.trans (by decide))
        subst ex
        exact lv_tableIn (tgt := 215) hx hb dL_law_33 (by decide) (by decide) rfl (by decide) (lc_clock hx hb hml hts hown hA hX hbl hbA hi hS hG hl K)
      · have ex : x = 2 := Int32.toInt_inj.mp (q.trans (by decide))
        subst ex
        exact lv_tableIn (tgt := 238) hx hb dL_law_33 (by decide) (by decide) rfl (by decide) (lc_feed hx hb hml hts hown hA hX hbl hbA hi hS hG hl K)
      · have ex : x = 3 := Int32.toInt_inj.mp (q.trans (by decide))
        subst ex
        exact lv_tableIn (tgt := 313) hx hb dL_law_33 (by decide) (by decide) rfl (by decide) (lc_text hx hb hml hts hown hA hX hbl hbA hi hS hG hl K)
      · have ex : x = 4 := Int32.toInt_inj.mp (q.trans (by decide))
        subst ex
        exact lv_tableIn (tgt := 326) hx hb dL_law_33 (by decide) (by decide) rfl (by decide) (lc_force hx hb hml hts hown hA hX hbl hbA hi hS hG hl K)
      · have ex : x = 5 := Int32.toInt_inj.mp (q.trans (by decide))
        subst ex
        exact lv_tableIn (tgt := 349) hx hb dL_law_33 (by decide) (by decide) rfl (by decide) (lc_asks hx hb hml hts hown hA hX hbl hbA hi hS hG hl K)
      · have ex : x = 6 := Int32.toInt_inj.mp (q.trans (by decide))
        subst ex
        exact lv_tableIn (tgt := 382) hx hb dL_law_33 (by decide) (by decide) rfl (by decide) (lc_person hx hb hml hts hown hA hX hbl hbA hi hS hG hl K)
      · have ex : x = 7 := Int32.toInt_inj.mp (q.trans (by decide))
        subst ex
        exact lv_tableIn (tgt := 425) hx hb dL_law_33 (by decide) (by decide) rfl (by decide) (lc_put hx hb hml hts hown hA hX hbl hbA hi hS hG hl K)
      · have ex : x = 8 := Int32.toInt_inj.mp (q.trans (by decide))
        subst ex
        exact lv_tableIn (tgt := 468) hx hb dL_law_33 (by decide) (by decide) rfl (by decide) (lc_tells hx hb hml hts hown hA hX hbl hbA hi hS hG hl K)
      · have ex : x = 9 := Int32.toInt_inj.mp (q.trans (by decide))
        subst ex
        exact lv_tableIn (tgt := 501) hx hb dL_law_33 (by decide) (by decide) rfl (by decide) (lc_bell hx hb hml hts hown hA hX hbl hbA hi hS hG hl K)
      · have ex : x = 10 := Int32.toInt_inj.mp (q.trans (by decide))
        subst ex
        exact lv_tableIn (tgt := 524) hx hb dL_law_33 (by decide) (by decide) rfl (by decide) (lc_strike hx hb hml hts hown hA hX hbl hbA hi hS hG hl K)
      · have ex : x = 11 := Int32.toInt_inj.mp (q.trans (by decide))
        subst ex
        exact lv_tableIn (tgt := 537) hx hb dL_law_33 (by decide) (by decide) rfl (by decide) (lc_run hx hb hml hts hown hA hX hbl hbA hi hS hG hl K)
      · have ex : x = 12 := Int32.toInt_inj.mp (q.trans (by decide))
        subst ex
        exact lv_tableIn (tgt := 570) hx hb dL_law_33 (by decide) (by decide) rfl (by decide) (lc_when hx hb hml hts hown hA hX hbl hbA hi hS hG hl K)
      · have ex : x = 13 := Int32.toInt_inj.mp (q.trans (by decide))
        subst ex
        exact lv_tableIn (tgt := 593) hx hb dL_law_33 (by decide) (by decide) rfl (by decide) (lc_dial hx hb hml hts hown hA hX hbl hbA hi hS hG hl K)
      · have ex : x = 14 := Int32.toInt_inj.mp (q.trans (by decide))
        subst ex
        exact lv_tableIn (tgt := 616) hx hb dL_law_33 (by decide) (by decide) rfl (by decide) (lc_hush hx hb hml hts hown hA hX hbl hbA hi hS hG hl K)
      · have ex : x = 15 := Int32.toInt_inj.mp (q.trans (by decide))
        subst ex
        exact lv_tableIn (tgt := 639) hx hb dL_law_33 (by decide) (by decide) rfl (by decide) (lc_council hx hb hml hts hown hA hX hbl hbA hi hS hG hl K)
      · have ex : x = 16 := Int32.toInt_inj.mp (q.trans (by decide))
        subst ex
        exact lv_tableIn (tgt := 682) hx hb dL_law_33 (by decide) (by decide) rfl (by decide) (lc_lesson hx hb hml hts hown hA hX hbl hbA hi hS hG hl K)
      · have ex : x = 17 := Int32.toInt_inj.mp (q.trans (by decide))
        subst ex
        exact lv_tableIn (tgt := 715) hx hb dL_law_33 (by decide) (by decide) rfl (by decide) (lc_pair hx hb hml hts hown hA hX hbl hbA hi hS hG hl K)
      · have ex : x = 18 := Int32.toInt_inj.mp (q.trans (by decide))
        subst ex
        exact lv_tableIn (tgt := 738) hx hb dL_law_33 (by decide) (by decide) rfl (by decide) (lc_mean hx hb hml hts hown hA hX hbl hbA hi hS hG hl K)
      · have ex : x = 19 := Int32.toInt_inj.mp (q.trans (by decide))
        subst ex
        exact lv_tableIn (tgt := 772) hx hb dL_law_33 (by decide) (by decide) rfl (by decide) (lc_share hx hb hml hts hown hA hX hbl hbA hi hS hG hl K)
      · have ex : x = 20 := Int32.toInt_inj.mp (q.trans (by decide))
        subst ex
        exact lv_tableIn (tgt := 806) hx hb dL_law_33 (by decide) (by decide) rfl (by decide) (lc_judge hx hb hml hts hown hA hX hbl hbA hi hS hG hl K)
      · have ex : x = 21 := Int32.toInt_inj.mp (q.trans (by decide))
        subst ex
        exact lv_tableIn (tgt := 829) hx hb dL_law_33 (by decide) (by decide) rfl (by decide) (lc_kinds hx hb hml hts hown hA hX hbl hbA hi hS hG hl K)
      · have ex : x = 22 := Int32.toInt_inj.mp (q.trans (by decide))
        subst ex
        exact lv_tableIn (tgt := 872) hx hb dL_law_33 (by decide) (by decide) rfl (by decide) (lc_nerves hx hb hml hts hown hA hX hbl hbA hi hS hG hl K)
      · have ex : x = 23 := Int32.toInt_inj.mp (q.trans (by decide))
        subst ex
        exact lv_tableIn (tgt := 915) hx hb dL_law_33 (by decide) (by decide) rfl (by decide) (lc_turned hx hb hml hts hown hA hX hbl hbA hi hS hG hl K)
      · have ex : x = 24 := Int32.toInt_inj.mp (q.trans (by decide))
        subst ex
        exact lv_tableIn (tgt := 938) hx hb dL_law_33 (by decide) (by decide) rfl (by decide) (lc_hours hx hb hml hts hown hA hX hbl hbA hi hS hG hl K)
      · have ex : x = 25 := Int32.toInt_inj.mp (q.trans (by decide))
        subst ex
        exact lv_tableIn (tgt := 961) hx hb dL_law_33 (by decide) (by decide) rfl (by decide) (lc_laws hx hb hml hts hown hA hX hbl hbA hi hS hG hl K)
      · have ex : x = 26 := Int32.toInt_inj.mp (q.trans (by decide))
        subst ex
        exact lv_tableIn (tgt := 984) hx hb dL_law_33 (by decide) (by decide) rfl (by decide) (lc_film hx hb hml hts hown hA hX hbl hbA hi hS hG hl K)
      · have ex : x = 27 := Int32.toInt_inj.mp (q.trans (by decide))
        subst ex
        exact lv_tableIn (tgt := 1017) hx hb dL_law_33 (by decide) (by decide) rfl (by decide) (lc_drawn hx hb hml hts hown hA hX hbl hbA hi hS hG hl K)
      · have ex : x = 28 := Int32.toInt_inj.mp (q.trans (by decide))
        subst ex
        exact lv_tableIn (tgt := 1060) hx hb dL_law_33 (by decide) (by decide) rfl (by decide) (lc_odds hx hb hml hts hown hA hX hbl hbA hi hS hG hl K)
      · have ex : x = 29 := Int32.toInt_inj.mp (q.trans (by decide))
        subst ex
        exact lv_tableIn (tgt := 1114) hx hb dL_law_33 (by decide) (by decide) rfl (by decide) (lc_image hx hb hml hts hown hA hX hbl hbA hi hS hG hl K)
      · have ex : x = 30 := Int32.toInt_inj.mp (q.trans (by decide))
        subst ex
        exact lv_tableIn (tgt := 1127) hx hb dL_law_33 (by decide) (by decide) rfl (by decide) (lc_back hx hb hml hts hown hA hX hbl hbA hi hS hG hl K)
      · have ex : x = 31 := Int32.toInt_inj.mp (q.trans (by decide))
        subst ex
        exact lv_tableIn (tgt := 1140) hx hb dL_law_33 (by decide) (by decide) rfl (by decide) (lc_sheet hx hb hml hts hown hA hX hbl hbA hi hS hG hl K)
      · have ex : x = 32 := Int32.toInt_inj.mp (q.trans (by decide))
        subst ex
        exact lv_tableIn (tgt := 1183) hx hb dL_law_33 (by decide) (by decide) rfl (by decide) (lc_cell hx hb hml hts hown hA hX hbl hbA hi hS hG hl K)
      · have ex : x = 33 := Int32.toInt_inj.mp (q.trans (by decide))
        subst ex
        exact lv_tableIn (tgt := 1226) hx hb dL_law_33 (by decide) (by decide) rfl (by decide) (lc_copy hx hb hml hts hown hA hX hbl hbA hi hS hG hl K)
      · have ex : x = 34 := Int32.toInt_inj.mp (q.trans (by decide))
        subst ex
        exact lv_tableIn (tgt := 1289) hx hb dL_law_33 (by decide) (by decide) rfl (by decide) (lc_townBy hx hb hml hts hown hA hX hbl hbA hi hS hG hl K)
      · have ex : x = 35 := Int32.toInt_inj.mp (q.trans (by decide))
        subst ex
        exact lv_tableIn (tgt := 1342) hx hb dL_law_33 (by decide) (by decide) rfl (by decide) (lc_taken hx hb hml hts hown hA hX hbl hbA hi hS hG hl K)
theorem vk_same {N : Nat} {len : List Nat} {byt : List (List Int32)} {a a1 v v1 : Nat → Nat} {A : Nat → Prop} {U : State} {H : Heap} (h : vk_S N len byt a v A U H) (ha : ∀ i, i < N → a1 i = a i) (hv : ∀ i, i < N → v1 i = v i) : vk_S N len byt a1 v1 A U H := by
  obtain ⟨h1, h2⟩ := h
  refine ⟨fun i hi => ?_, fun i j hi hj hij => h2 i j hi hj (by rw [← ha i hi, ← ha j hj]; exact hij)⟩
  rw [ha i hi, hv i hi]
  exact h1 i hi
theorem kqN_moved {s U : State} (hW : s.WarmedH U.vm) (h : kqN s) : kqN U := by
  obtain ⟨a, b, c, d, e, f⟩ := h
  exact ⟨va_Nw.warmM hW a, va_Nw.warmM hW b, va_Nw.warmM hW c, va_Nw.warmM hW d, va_AO.moved hW.alike e, va_AO.moved hW.alike f⟩
theorem kqN_blind {D : va_G} {tys : List (ClassId × FieldType)} {sz : Nat} {w : va_W} {vs : List Value} : FrameBlind (va_Pc vs (fun U => kqB D tys sz w U ∧ kqN U)) := fun a U h mk q => by
  obtain ⟨q0, ⟨q1, qP, qK, qD⟩, n1, n2, n3, n4, n5, n6⟩ := q
  exact ⟨q0, ⟨q1, qP, va_K.moved (u := U) (U := U.calling h mk a) (Vm.Alike.refl U.vm) qK, qD⟩, va_Nw.same (u := U) (U := U.calling h mk a) rfl rfl n1, va_Nw.same (u := U) (U := U.calling h mk a) rfl rfl n2, va_Nw.same (u := U) (U := U.calling h mk a) rfl rfl n3, va_Nw.same (u := U) (U := U.calling h mk a) rfl rfl n4, va_AO.moved (u := U) (U := U.calling h mk a) (Vm.Alike.refl U.vm) n5, va_AO.moved (u := U) (U := U.calling h mk a) (Vm.Alike.refl U.vm) n6⟩
/-- the world's names, once the reference's object is there -/
def gY (g : GG) (q : Nat) (adK adV : Nat → Nat) : GG := (g.1, g.2.1, g.2.2.1, g.2.2.2.1, fun k => if k < 58 then gA g k else if k = 58 then q else if k < 200 then adK (k - 100) else adV (k - 200))
theorem gY_lo {g : GG} {q k : Nat} {adK adV : Nat → Nat} (h : k < 58) : gA (gY g q adK adV) k = gA g k := if_pos h
theorem gY_K {g : GG} {q i : Nat} {adK adV : Nat → Nat} (h : i < 12) : gA (gY g q adK adV) (100 + i) = adK i := by
  show (if 100 + i < 58 then gA g (100 + i) else if 100 + i = 58 then q else if 100 + i < 200 then adK (100 + i - 100) else adV (100 + i - 200)) = adK i
  rw [if_neg (by omega), if_neg (by omega), if_pos (by omega), Nat.add_sub_cancel_left]
theorem gY_V {g : GG} {q i : Nat} {adK adV : Nat → Nat} (h : i < 12) : gA (gY g q adK adV) (200 + i) = adV i := by
  show (if 200 + i < 58 then gA g (200 + i) else if 200 + i = 58 then q else if 200 + i < 200 then adK (200 + i - 100) else adV (200 + i - 200)) = adV i
  rw [if_neg (by omega), if_neg (by omega), if_neg (by omega), Nat.add_sub_cancel_left]
theorem gY_W {g : GG} {q : Nat} {adK adV : Nat → Nat} {D : va_G} {H : Heap} (hP : va_P D vwCl (wB g) H) : va_P D vwCl (wB (gY g q adK adV)) H := by
  have h2 := P_fix 2 (f' := fun i => some (gA (gY g q adK adV) (27 + 2 * i))) (P_fix 1 (f' := fun i => some (gA (gY g q adK adV) (3 + 4 * i))) hP rfl (fun i hi => congrArg some (gY_lo (by omega)).symm)) rfl (fun i hi => congrArg some (gY_lo (by omega)).symm)
  have eB : wB (gY g q adK adV) = ((wB g).set 1 (gA g 1, .inl (g.2.2.2.1, 6, .inr (.inr (.inr (.inr (fun i => some (gA (gY g q adK adV) (3 + 4 * i))))))))).set 2 (gA g 2, .inl (g.2.2.1, 4, .inr (.inr (.inr (.inr (fun i => some (gA (gY g q adK adV) (27 + 2 * i)))))))) := rfl
  rw [eB]
  exact h2
set_option maxHeartbeats 4000000 in
set_option maxRecDepth 100000 in
theorem whole_start {p : Program} {e : Env} {s : State} {m : MethodId} {below : List Frame} {meth : Method} {c : Code} (l : Launch) (hflags : l.flags = flags0) {b L : Nat} {xs : Nat → Int32} (hL : L ≤ 3584) (C0 : lw_At p s m meth c b L xs) : W p l e room_1 s m #[Value.ref b] below meth c s.heap [] 0 0 (lw_Z below #[Value.ref b] s) (entryFrame m ([Value.ref b] : List Value).toArray 4) := by
  obtain ⟨hx, hb, hr, hml, hown, hts0, hX, hbl, hlocks, hgv⟩ := id C0
  replace hb : c.code = cL_law := hb
  replace hown : s.vm.findClass RL = some m.cls := hown
  have hts : ∀ w ∈ TT, w.before #[Value.ref b] s = true := fun w h => hts0 w (TT_in w h)
  have hA : ∀ q, s.heap.size ≤ q → lwA s q := fun _ h => h
  obtain ⟨D, cI, adK, adV, hK, hN, h54, hStr, hRs, hZ, hZq⟩ := law_known hts0 hgv
  have hl := lv_entry ([.ref b]) (n := 4) (Nat.le_of_ble_eq_true rfl)
  rw [lg_entry_eq]
  generalize (lg_sl ([.ref b]) ++ List.replicate (4 - (lg_sl ([.ref b])).length) Slot.unset).toArray = ls at hl ⊢
  replace hl : lv_has ls 4 [(0, .ref b)] := hl
  have hG0 : kqS D [(cI, .int)] (lwA s) s s.heap [] [] := ⟨hK, fun k q h => by simp at h, ⟨fun i j p q h => by simp at h, fun k q h => by simp at h⟩, va_S.rf⟩
  show W p l e room_1 s m #[Value.ref b] below meth c s.heap [] 0 0 (lw_Z below #[Value.ref b] s) (F0 m 0 ls [])
  refine kq_new (own := RL) (index := 7) (ci := 5) (fs := [.null, .null, .null, .null, .null, .null, .null, .int 0, .int 0]) hx hb hts hiX5 tyX5 tyX5_ok hown tw_cl_RL_7 tw_ia_RX5 tw_in_RX5 hG0 hA rfl (fun j hj => by rcases (show j = 0 ∨ j = 1 ∨ j = 2 ∨ j = 3 ∨ j = 4 ∨ j = 5 ∨ j = 6 ∨ j = 7 ∨ j = 8 by omega) with rfl | rfl | rfl | rfl | rfl | rfl | rfl | rfl | rfl <;> rfl) (Nat.le_of_ble_eq_true rfl) (Nat.le_of_ble_eq_true rfl) dL_law_0 (fun q0 H hG => ?_)
  refine lv_dup hx hb dL_law_3 rfl ?_
  refine va_callv (va_runI (As := []) (rest := [.ref q0]) ⟨hx, hb, hml, hown, hts⟩ (n_Bell (l := l) (D := D) (cI := cI) (h0 := q0) (sz := H.size)) (cwI 0 hts (kq_good tw_cd_X5_init) rfl rfl rfl (hts _ tw_in_RX5) (hts _ tw_ml_RL_9) (hts _ tw_im_X5_init) rfl (by decide +kernel) ⟨Nat.le_of_ble_eq_true rfl, Nat.le_of_ble_eq_true rfl⟩) ⟨kqN_blind, fun U hU hW => ⟨rfl, ⟨by rw [hU], by rw [hU]; exact P_tail hG.2.1, va_K.moved hW.alike hK, (D_tail hG.2.2.1).weaken (fun _ _ _ _ => trivial)⟩, kqN_moved hW hN⟩⟩ rfl rfl hl.1 rfl (lv_room (Nat.le_of_ble_eq_true rfl)) dL_law_4 ⟨Nat.le_of_ble_eq_true rfl, Nat.le_of_ble_eq_true rfl⟩) hG.2.2.2 (fun q _ h => kqS_free hG hA q h) (kqS_free hG hA) (fun g1 t H1 locs ht hvm hp hB hz hk hS => ?_)
  obtain ⟨⟨hP1, hD1⟩, hK1⟩ := hB
  rw [ht] at hP1
  replace hK1 : va_K D vwCl (gTys g1) s := va_K.moved hvm.symm hK1
  obtain ⟨hP, hD⟩ := join_tail hG.2.1 hG.2.2.1 hk (kqS_free hG hA) hP1 hD1
  obtain ⟨r1, r2, r3⟩ := hp
  subst r1
  subst r2
  subst r3
  clear hG hG0 hP1 hD1 hk hz ht hvm
  have hG : kqS g1.1 (gTys g1) (lwA s) s H1 locs (wB g1) := ⟨hK1, hP, hD, hS⟩
  clear hP hD hS
  refine lv_astore_n (lv' := [(1, .ref (gA g1 0)), (0, .ref b)]) hx hb dL_law_7 rfl hl (by decide) rfl (fun ls hl => ?_)
  refine kq_new (own := RL) (index := 10) (ci := 6) (fs := [.int 0, .null, .null, .null, .null, .null, .int 0, .null, .null, .int 0, .int 0, .int 0, .null, .null, .null, .null, .null, .null, .int 0, .int 0, .int 0, .int 0, .null, .null, .int 0, .int 0, .int 0, .null, .null, .int 0, .null, .null, .null, .int 0]) hx hb hts hiX6 tyX6 tyX6_ok hown tw_cl_RL_10 tw_ia_RX6 tw_in_RX6 hG hA rfl (fun j hj => by rcases (show j = 0 ∨ j = 1 ∨ j = 2 ∨ j = 3 ∨ j = 4 ∨ j = 5 ∨ j = 6 ∨ j = 7 ∨ j = 8 ∨ j = 9 ∨ j = 10 ∨ j = 11 ∨ j = 12 ∨ j = 13 ∨ j = 14 ∨ j = 15 ∨ j = 16 ∨ j = 17 ∨ j = 18 ∨ j = 19 ∨ j = 20 ∨ j = 21 ∨ j = 22 ∨ j = 23 ∨ j = 24 ∨ j = 25 ∨ j = 26 ∨ j = 27 ∨ j = 28 ∨ j = 29 ∨ j = 30 ∨ j = 31 ∨ j = 32 ∨ j = 33 by omega) with rfl | rfl | rfl | rfl | rfl | rfl | rfl | rfl | rfl | rfl | rfl | rfl | rfl | rfl | rfl | rfl | rfl | rfl | rfl | rfl | rfl | rfl | rfl | rfl | rfl | rfl | rfl | rfl | rfl | rfl | rfl | rfl | rfl | rfl <;> rfl) (Nat.le_of_ble_eq_true rfl) (Nat.le_of_ble_eq_true rfl) dL_law_8 (fun q58 H hG => ?_)
  refine lv_dup hx hb dL_law_11 rfl ?_
  have hG2 : gS (gY g1 q58 adK adV) (lwA s) s H locs (wB (gY g1 q58 adK adV) ++ [mBl (gY g1 q58 adK adV)]) := ⟨⟨hG.1, h54, vk_same hStr (fun i hi => gY_K hi) (fun i hi => gY_V hi), fun i hi => by rw [gY_K hi]; exact hRs i hi, hZ, hZq, hA⟩, va_P.app (gY_W (P_head hG.2.1)) (P_tail hG.2.1), D_addr hG.2.2.1 rfl, hG.2.2.2⟩
  refine va_callv (va_runI (As := []) (rest := [.ref q58]) ⟨hx, hb, hml, hown, hts⟩ (n_Model (l := l) (g := gY g1 q58 adK adV) (sz := H.size)) (cwI 0 hts (kq_good tw_cd_X6_init) rfl rfl rfl (hts _ tw_in_RX6) (hts _ tw_ml_RL_12) (hts _ tw_im_X6_init) rfl (by decide +kernel) ⟨Nat.le_of_ble_eq_true rfl, Nat.le_of_ble_eq_true rfl⟩) ⟨gB_blind, fun U hU hW => gS_pre hG2 hU hW⟩ rfl rfl hl.1 rfl (lv_room (Nat.le_of_ble_eq_true rfl)) dL_law_12 ⟨Nat.le_of_ble_eq_true rfl, Nat.le_of_ble_eq_true rfl⟩) hG2.2.2.2 (fun q _ h => gS_free hG2 hA q h) (gS_free hG2 hA) (fun qs t H1 locs ht hvm hp hB hz hk hS => ?_)
  obtain ⟨hP1, hK9, hD1⟩ := hB
  rw [ht] at hP1
  have hG3 : gS (gX (gY g1 q58 adK adV) qs) (lwA s) s H1 locs (gWF (gX (gY g1 q58 adK adV) qs) mF) := ⟨gK_X hG2.1, hP1, hD1.weaken (fun k q _ h => gS_free hG2 hA _ h), hS⟩
  clear hG2 hG hP1 hK9 hD1 hz hk hS
  refine W.widen (k := 600000) (n := 7302250) (Nat.le_of_ble_eq_true rfl) (Nat.le_of_ble_eq_true rfl) ?_
  refine lv_astore_n (lv' := [(2, .ref q58), (1, .ref (gA g1 0)), (0, .ref b)]) hx hb dL_law_15 rfl hl (by decide) rfl (fun ls hl => ?_)
  refine lv_iconst (v := 0) hx hb dL_law_16 (by decide) ?_
  refine lv_istore_n (lv' := [(3, .int 0), (2, .ref q58), (1, .ref (gA g1 0)), (0, .ref b)]) hx hb dL_law_17 rfl hl (by decide) rfl (fun ls hl => ?_)
  exact law_loop l hL C0 (L + 1) 0 bbF txF rwF zOb zOb tnF mF jkF H1 locs ls SR_first hG3 (lv_sub hl [3, 2, 1, 0] rfl) (by decide) (by show (0 : Int32).toInt ≤ _; have e0 : (0 : Int32).toInt = 0 := rfl; omega) (by have e0 : (0 : Int32).toInt = 0 := rfl; omega)
