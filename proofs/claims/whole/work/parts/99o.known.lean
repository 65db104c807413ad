-- THE LAW'S BEGINNING: the classes, the strings
def lwA (s : State) : Nat → Prop := fun q => s.heap.size ≤ q
set_option maxHeartbeats 4000000 in
theorem law_known {s : State} {b : Nat} (hts0 : ∀ w ∈ lw_tbl, w.before #[Value.ref b] s = true) (hgv : (Jvm.Cond.and given_1 narrow_1).before #[Value.ref b] s = true) : ∃ (D : va_G) (cI : ClassId) (adK adV : Nat → Nat), va_K D vwCl [(cI, .int)] s ∧ kqN s ∧ va_Nw (.methodLinkNest RX4 54 yX5_isWithin RX5) s ∧ vk_S 12 gLen gByt adK adV (lwA s) s s.heap ∧ (∀ i : Nat, i < 12 → vk_R RX2 (gSk.getD i 0) (gSt.getD i "") (adK i) s) ∧ va_Z "java/lang/String" "COMPACT_STRINGS" "Z" (.int 1) (lwA s) s s.heap ∧ va_Zq "jdk/internal/util/Preconditions" "SIOOBE_FORMATTER" "Ljava/util/function/BiFunction;" (lwA s) s s.heap := by
  have hts : ∀ w ∈ TT, w.before #[Value.ref b] s = true := fun w h => hts0 w (TT_in w h)
  have hf : ∀ w ∈ lw_flat, w.before #[Value.ref b] s = true := flat_of_before _ hgv
  have hA : ∀ a : Nat, a < s.heap.size → ¬ lwA s a := fun a h => Nat.not_le.mpr h
  obtain ⟨c0, i0, k0⟩ := u_known (C := RX0) (T := TX0) (N := 2) hts hiX0 (hts _ tw_ia_RX0)
  obtain ⟨c1, i1, k1⟩ := u_known (C := RX1) (T := TX1) (N := 3) hts hiX1 (hts _ tw_ia_RX1)
  obtain ⟨c2, i2, k2⟩ := u_known (C := RX2) (T := TX2) (N := 7) hts hiX2 (hts _ tw_ia_RX2)
  obtain ⟨c3, i3, k3⟩ := u_known (C := RX3) (T := TX3) (N := 4) hts hiX3 (hts _ tw_ia_RX3)
  obtain ⟨c4, i4, k4⟩ := u_known (C := RX4) (T := TX4) (N := 12) hts hiX4 (hts _ tw_ia_RX4)
  obtain ⟨c5, i5, k5⟩ := u_known (C := RX5) (T := TX5) (N := 9) hts hiX5 (hts _ tw_ia_RX5)
  obtain ⟨c6, i6, k6⟩ := u_known (C := RX6) (T := TX6) (N := 34) hts hiX6 (hts _ tw_ia_RX6)
  obtain ⟨cA, kA, comp, a1, a2, a3⟩ := Cond.arrayClass_spec (hts _ tw_ac_1_56)
  obtain ⟨adK, adV, hS, hE⟩ := vk_Sof (args := #[Value.ref b]) (s := s) (N := 12) (tm := tmS) (len := gLen) (byt := gByt) (A := lwA s) (by decide) (fun i hi => hf _ (fl_ex i hi)) (fun i hi => hf _ (fl_co i hi)) (fun i hi => hf _ (fl_ar i hi)) (fun i hi => hf _ (fl_le i hi)) (fun i hi j hj => hf _ (fl_el i hi j hj)) (fun i j hi hj hne => (fl_ne i hi j hj hne).imp (hf _) (hf _)) hA
  refine ⟨(fun k => [c0, c1, c2, c3, c4, c5, c6].getD k 0, fun k => [i0, i1, i2, i3, i4, i5, i6].getD k (fun _ => 0)), cA, adK, adV, ⟨fun k q hq => ?_, fun k q hq => ?_⟩, ⟨va_Nw.of rfl (hts0 _ tl_n23), va_Nw.of rfl (hts0 _ tl_n30), va_Nw.of rfl (hts0 _ tl_n43), va_Nw.of rfl (hts0 _ tl_n47), va_AO.of (hts0 _ tl_o3), va_AO.of (hts0 _ tl_o1)⟩, va_Nw.of rfl (hts0 _ tl_n54), hS, fun i hi => vk_R.of (hts0 _ (tl_sr i hi)) (hE i hi), va_Zof (hts0 _ tl_ls1) (hts0 _ tl_in1) (va_eqi (hf _ fl_cs)) hA, va_Zqof (hts0 _ tl_ls2) (hts0 _ tl_in2) (hf _ fl_sf) hA⟩
  · match k, hq with
    | 0, hq => cases hq; exact k0
    | 1, hq => cases hq; exact k1
    | 2, hq => cases hq; exact k2
    | 3, hq => cases hq; exact k3
    | 4, hq => cases hq; exact k4
    | 5, hq => cases hq; exact k5
    | 6, hq => cases hq; exact k6
    | k + 7, hq => simp [vwCl] at hq
  · match k, hq with
    | 0, hq => cases hq; exact ⟨fun n z => ⟨fun k h => (by cases h), kA, a2, comp, a3⟩, a1⟩
    | k + 1, hq => simp at hq
