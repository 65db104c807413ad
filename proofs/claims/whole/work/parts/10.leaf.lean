def F_X5_isWithin (p0 : Int32) (p1 : Int32) (p2 : Int32) : Int32 :=
  (if p0 < p1 then 0 else (if p2 < p0 then 0 else 1))
set_option maxHeartbeats 4000000 in
set_option maxRecDepth 100000 in
theorem c_X5_isWithin {l : Launch} {g : GG} {sz : Nat}  (p0 : Int32) (p1 : Int32) (p2 : Int32)  : Met l yX5_isWithin (Cond.code yX5_isWithin cX5_isWithin 3 (some .boolean) :: TT) (rmL 1) (va_Pc [.int p0, .int p1, .int p2] (gB g sz [])) (va_Qi (fun r (_ : Unit) => r = (F_X5_isWithin p0 p1 p2)) (fun u t => gC g (va_A [] sz) [] t) (va_A [] sz)) 0 0 (va_A [] sz) := by
  generalize hE : F_X5_isWithin p0 p1 p2 = EE
  refine g_of (Qf := fun A => (va_Qi (fun r (_ : Unit) => r = EE) (fun u t => gC g A [] t) A)) (cc := cX5_isWithin) (maxL := 3) (ret := (some .boolean)) (by decide) (Nat.le_of_ble_eq_true rfl) ?_
  intro p e s m below meth c A ls hx hb hml hr hlocks hts hown hA hG hl
  replace hown : s.vm.findClass RX5 = some m.cls := hown
  replace hl : lv_has ls 3 [(0, .int p0), (1, .int p1), (2, .int p2)] := hl
  show W p l e (rmL 1) s m [.int p0, .int p1, .int p2].toArray below meth c s.heap [] 0 0 (MQ below (va_Qi (fun r (_ : Unit) => r = EE) (fun u t => gC g A [] t) A) [.int p0, .int p1, .int p2].toArray s 0 0 A) (F0 m 0 ls [])
  generalize hQ : MQ below (va_Qi (fun r (_ : Unit) => r = EE) (fun u t => gC g A [] t) A) [.int p0, .int p1, .int p2].toArray s 0 0 A = Q
  unfold F_X5_isWithin at hE
  refine lv_iload_n hx hb dX5_isWithin_0 rfl (lv_at hl 0 rfl) ?_
  refine lv_iload_n hx hb dX5_isWithin_1 rfl (lv_at hl 1 rfl) ?_
  refine lv_icmp_lt (tgt := 14) hx hb dX5_isWithin_2 (by decide) (fun c_2 => ?_) (fun c_2 => ?_)
  · replace hE := (if_pos c_2).symm.trans hE
    have i_2 : p0.toInt < p1.toInt := i_lt.mp c_2
    refine lv_iconst (v := 0) hx hb dX5_isWithin_14 (by decide) ?_
    subst hQ
    exact g_zret hx hb hr hlocks hG (Or.inl rfl) () rfl hE dX5_isWithin_15
  replace hE := (if_neg c_2).symm.trans hE
  have i_2 : p1.toInt ≤ p0.toInt := i_nlt c_2
  refine lv_iload_n hx hb dX5_isWithin_5 rfl (lv_at hl 0 rfl) ?_
  refine lv_iload_n hx hb dX5_isWithin_6 rfl (lv_at hl 2 rfl) ?_
  refine lv_icmp_gt (tgt := 14) hx hb dX5_isWithin_7 (by decide) (fun c_7 => ?_) (fun c_7 => ?_)
  · replace hE := (if_pos c_7).symm.trans hE
    have i_7 : p2.toInt < p0.toInt := i_lt.mp c_7
    refine lv_iconst (v := 0) hx hb dX5_isWithin_14 (by decide) ?_
    subst hQ
    exact g_zret hx hb hr hlocks hG (Or.inl rfl) () rfl hE dX5_isWithin_15
  replace hE := (if_neg c_7).symm.trans hE
  have i_7 : p0.toInt ≤ p2.toInt := i_nlt c_7
  refine lv_iconst (v := 1) hx hb dX5_isWithin_10 (by decide) ?_
  refine lv_goto (tgt := 15) hx hb dX5_isWithin_11 (by decide) ?_
  subst hQ
  exact g_zret hx hb hr hlocks hG (Or.inr rfl) () rfl hE dX5_isWithin_15
theorem within_f {v a b : Int32} (h : ¬ F_X5_isWithin v a b = 0) : a.toInt ≤ v.toInt ∧ v.toInt ≤ b.toInt := by
  unfold F_X5_isWithin at h
  by_cases h1 : v < a
  · exact absurd (if_pos h1) h
  · by_cases h2 : b < v
    · exact absurd ((if_neg h1).trans (if_pos h2)) h
    · exact ⟨i_nlt h1, i_nlt h2⟩
theorem F_X5_isWithin_01 (v a b : Int32) : F_X5_isWithin v a b = 0 ∨ F_X5_isWithin v a b = 1 := by
  unfold F_X5_isWithin
  split
  · exact Or.inl rfl
  · split
    · exact Or.inl rfl
    · exact Or.inr rfl
def F_X5_isByte (p0 : Int32) : Int32 :=
  (F_X5_isWithin p0 0 255)
set_option maxHeartbeats 4000000 in
set_option maxRecDepth 100000 in
theorem c_X5_isByte {l : Launch} {g : GG} {sz : Nat}  (p0 : Int32)  : Met l yX5_isByte (Cond.code yX5_isByte cX5_isByte 1 (some .boolean) :: TT) (rmL 2) (va_Pc [.int p0] (gB g sz [])) (va_Qi (fun r (_ : Unit) => r = (F_X5_isByte p0)) (fun u t => gC g (va_A [] sz) [] t) (va_A [] sz)) 0 0 (va_A [] sz) := by
  generalize hE : F_X5_isByte p0 = EE
  refine g_of (Qf := fun A => (va_Qi (fun r (_ : Unit) => r = EE) (fun u t => gC g A [] t) A)) (cc := cX5_isByte) (maxL := 1) (ret := (some .boolean)) (by decide) (Nat.le_of_ble_eq_true rfl) ?_
  intro p e s m below meth c A ls hx hb hml hr hlocks hts hown hA hG hl
  replace hown : s.vm.findClass RX5 = some m.cls := hown
  replace hl : lv_has ls 1 [(0, .int p0)] := hl
  show W p l e (rmL 2) s m [.int p0].toArray below meth c s.heap [] 0 0 (MQ below (va_Qi (fun r (_ : Unit) => r = EE) (fun u t => gC g A [] t) A) [.int p0].toArray s 0 0 A) (F0 m 0 ls [])
  generalize hQ : MQ below (va_Qi (fun r (_ : Unit) => r = EE) (fun u t => gC g A [] t) A) [.int p0].toArray s 0 0 A = Q
  unfold F_X5_isByte at hE
  refine lv_iload_n hx hb dX5_isByte_0 rfl (lv_at hl 0 rfl) ?_
  refine lv_iconst (v := 0) hx hb dX5_isByte_1 (by decide) ?_
  refine lv_sipush (v := 255) hx hb dX5_isByte_2 (by decide) ?_
  refine g_si (g_runS (n := 3) (rest := []) hx hb hml hown hts hG (c_X5_isWithin p0 0 255) tw_ml_RX5_81 tw_st_X5_isWithin tw_in_RX5 tw_cd_X5_isWithin (by decide +kernel) ⟨rfl, rfl, Nat.le_of_ble_eq_true rfl, Nat.le_of_ble_eq_true rfl⟩ rfl hl.1 rfl (Nat.le_of_ble_eq_true rfl) dX5_isByte_5 ⟨Nat.le_refl _, Nat.le_refl _⟩) hG hA (fun H locs hG => ?_)
  subst hQ
  exact g_zret hx hb hr hlocks hG (F_X5_isWithin_01 _ _ _) () rfl hE dX5_isByte_8
def F_X5_isSheet (p0 : Int32) : Int32 :=
  (F_X5_isWithin p0 0 3)
set_option maxHeartbeats 4000000 in
set_option maxRecDepth 100000 in
theorem c_X5_isSheet {l : Launch} {g : GG} {sz : Nat}  (p0 : Int32)  : Met l yX5_isSheet (Cond.code yX5_isSheet cX5_isSheet 1 (some .boolean) :: TT) (rmL 2) (va_Pc [.int p0] (gB g sz [])) (va_Qi (fun r (_ : Unit) => r = (F_X5_isSheet p0)) (fun u t => gC g (va_A [] sz) [] t) (va_A [] sz)) 0 0 (va_A [] sz) := by
  generalize hE : F_X5_isSheet p0 = EE
  refine g_of (Qf := fun A => (va_Qi (fun r (_ : Unit) => r = EE) (fun u t => gC g A [] t) A)) (cc := cX5_isSheet) (maxL := 1) (ret := (some .boolean)) (by decide) (Nat.le_of_ble_eq_true rfl) ?_
  intro p e s m below meth c A ls hx hb hml hr hlocks hts hown hA hG hl
  replace hown : s.vm.findClass RX5 = some m.cls := hown
  replace hl : lv_has ls 1 [(0, .int p0)] := hl
  show W p l e (rmL 2) s m [.int p0].toArray below meth c s.heap [] 0 0 (MQ below (va_Qi (fun r (_ : Unit) => r = EE) (fun u t => gC g A [] t) A) [.int p0].toArray s 0 0 A) (F0 m 0 ls [])
  generalize hQ : MQ below (va_Qi (fun r (_ : Unit) => r = EE) (fun u t => gC g A [] t) A) [.int p0].toArray s 0 0 A = Q
  unfold F_X5_isSheet at hE
  refine lv_iload_n hx hb dX5_isSheet_0 rfl (lv_at hl 0 rfl) ?_
  refine lv_iconst (v := 0) hx hb dX5_isSheet_1 (by decide) ?_
  refine lv_iconst (v := 3) hx hb dX5_isSheet_2 (by decide) ?_
  refine g_si (g_runS (n := 3) (rest := []) hx hb hml hown hts hG (c_X5_isWithin p0 0 3) tw_ml_RX5_81 tw_st_X5_isWithin tw_in_RX5 tw_cd_X5_isWithin (by decide +kernel) ⟨rfl, rfl, Nat.le_of_ble_eq_true rfl, Nat.le_of_ble_eq_true rfl⟩ rfl hl.1 rfl (Nat.le_of_ble_eq_true rfl) dX5_isSheet_3 ⟨Nat.le_refl _, Nat.le_refl _⟩) hG hA (fun H locs hG => ?_)
  subst hQ
  exact g_zret hx hb hr hlocks hG (F_X5_isWithin_01 _ _ _) () rfl hE dX5_isSheet_6
def F_X5_isKindOf (p0 : Int32) (p1 : Int32) : Int32 :=
  (if p0 = 3 then (if p1 = 3 then 1 else (if p1 = 1 then 1 else (if p1 = 0 then 1 else 0))) else (if p0 = 4 then (if p1 = 4 then 1 else (if p1 = 2 then 1 else (if p1 = 0 then 1 else 0))) else (if p1 = p0 then 1 else (if p1 = 0 then 1 else 0))))
set_option maxHeartbeats 4000000 in
set_option maxRecDepth 100000 in
theorem c_X5_isKindOf {l : Launch} {g : GG} {sz : Nat}  (p0 : Int32) (p1 : Int32)  : Met l yX5_isKindOf (Cond.code yX5_isKindOf cX5_isKindOf 2 (some .boolean) :: TT) (rmL 1) (va_Pc [.int p0, .int p1] (gB g sz [])) (va_Qi (fun r (_ : Unit) => r = (F_X5_isKindOf p0 p1)) (fun u t => gC g (va_A [] sz) [] t) (va_A [] sz)) 0 0 (va_A [] sz) := by
  generalize hE : F_X5_isKindOf p0 p1 = EE
  refine g_of (Qf := fun A => (va_Qi (fun r (_ : Unit) => r = EE) (fun u t => gC g A [] t) A)) (cc := cX5_isKindOf) (maxL := 2) (ret := (some .boolean)) (by decide) (Nat.le_of_ble_eq_true rfl) ?_
  intro p e s m below meth c A ls hx hb hml hr hlocks hts hown hA hG hl
  replace hown : s.vm.findClass RX5 = some m.cls := hown
  replace hl : lv_has ls 2 [(0, .int p0), (1, .int p1)] := hl
  show W p l e (rmL 1) s m [.int p0, .int p1].toArray below meth c s.heap [] 0 0 (MQ below (va_Qi (fun r (_ : Unit) => r = EE) (fun u t => gC g A [] t) A) [.int p0, .int p1].toArray s 0 0 A) (F0 m 0 ls [])
  generalize hQ : MQ below (va_Qi (fun r (_ : Unit) => r = EE) (fun u t => gC g A [] t) A) [.int p0, .int p1].toArray s 0 0 A = Q
  unfold F_X5_isKindOf at hE
  refine lv_iload_n hx hb dX5_isKindOf_0 rfl (lv_at hl 0 rfl) ?_
  by_cases c_1_0 : p0 = 3
  · replace hE := (if_pos c_1_0).symm.trans hE
    refine lv_lookup (off := 27) (tgt := 28) hx hb dX5_isKindOf_1 (by decide) (by rw [c_1_0]; decide) (by decide) ?_
    have i_1_0 : p0.toInt = 3 := congrArg Int32.toInt c_1_0
    refine lv_iload_n hx hb dX5_isKindOf_28 rfl (lv_at hl 1 rfl) ?_
    refine lv_iconst (v := 3) hx hb dX5_isKindOf_29 (by decide) ?_
    refine lv_icmp_eq (tgt := 42) hx hb dX5_isKindOf_30 (by decide) (fun c_30 => ?_) (fun c_30 => ?_)
    · replace hE := (if_pos c_30).symm.trans hE
      have i_30 : p1.toInt = 3 := congrArg Int32.toInt c_30
      refine lv_iconst (v := 1) hx hb dX5_isKindOf_42 (by decide) ?_
      refine lv_goto (tgt := 47) hx hb dX5_isKindOf_43 (by decide) ?_
      subst hQ
      exact g_zret hx hb hr hlocks hG (Or.inr rfl) () rfl hE dX5_isKindOf_47
    replace hE := (if_neg c_30).symm.trans hE
    have i_30 : p1.toInt ≠ 3 := fun h => c_30 (Int32.toInt_inj.mp h)
    refine lv_iload_n hx hb dX5_isKindOf_33 rfl (lv_at hl 1 rfl) ?_
    refine lv_iconst (v := 1) hx hb dX5_isKindOf_34 (by decide) ?_
    refine lv_icmp_eq (tgt := 42) hx hb dX5_isKindOf_35 (by decide) (fun c_35 => ?_) (fun c_35 => ?_)
    · replace hE := (if_pos c_35).symm.trans hE
      have i_35 : p1.toInt = 1 := congrArg Int32.toInt c_35
      refine lv_iconst (v := 1) hx hb dX5_isKindOf_42 (by decide) ?_
      refine lv_goto (tgt := 47) hx hb dX5_isKindOf_43 (by decide) ?_
      subst hQ
      exact g_zret hx hb hr hlocks hG (Or.inr rfl) () rfl hE dX5_isKindOf_47
    replace hE := (if_neg c_35).symm.trans hE
    have i_35 : p1.toInt ≠ 1 := fun h => c_35 (Int32.toInt_inj.mp h)
    refine lv_iload_n hx hb dX5_isKindOf_38 rfl (lv_at hl 1 rfl) ?_
    refine lv_if_ne (tgt := 46) hx hb dX5_isKindOf_39 (by decide) (fun c_39 => ?_) (fun c_39 => ?_)
    · replace hE := (if_neg c_39).symm.trans hE
      have i_39 : p1.toInt ≠ 0 := fun h => c_39 (Int32.toInt_inj.mp h)
      refine lv_iconst (v := 0) hx hb dX5_isKindOf_46 (by decide) ?_
      subst hQ
      exact g_zret hx hb hr hlocks hG (Or.inl rfl) () rfl hE dX5_isKindOf_47
    replace hE := (if_pos c_39).symm.trans hE
    have i_39 : p1.toInt = 0 := congrArg Int32.toInt c_39
    refine lv_iconst (v := 1) hx hb dX5_isKindOf_42 (by decide) ?_
    refine lv_goto (tgt := 47) hx hb dX5_isKindOf_43 (by decide) ?_
    subst hQ
    exact g_zret hx hb hr hlocks hG (Or.inr rfl) () rfl hE dX5_isKindOf_47
  replace hE := (if_neg c_1_0).symm.trans hE
  by_cases c_1_1 : p0 = 4
  · replace hE := (if_pos c_1_1).symm.trans hE
    refine lv_lookup (off := 47) (tgt := 48) hx hb dX5_isKindOf_1 (by decide) (by rw [c_1_1]; decide) (by decide) ?_
    have i_1_1 : p0.toInt = 4 := congrArg Int32.toInt c_1_1
    refine lv_iload_n hx hb dX5_isKindOf_48 rfl (lv_at hl 1 rfl) ?_
    refine lv_iconst (v := 4) hx hb dX5_isKindOf_49 (by decide) ?_
    refine lv_icmp_eq (tgt := 62) hx hb dX5_isKindOf_50 (by decide) (fun c_50 => ?_) (fun c_50 => ?_)
    · replace hE := (if_pos c_50).symm.trans hE
      have i_50 : p1.toInt = 4 := congrArg Int32.toInt c_50
      refine lv_iconst (v := 1) hx hb dX5_isKindOf_62 (by decide) ?_
      refine lv_goto (tgt := 67) hx hb dX5_isKindOf_63 (by decide) ?_
      subst hQ
      exact g_zret hx hb hr hlocks hG (Or.inr rfl) () rfl hE dX5_isKindOf_67
    replace hE := (if_neg c_50).symm.trans hE
    have i_50 : p1.toInt ≠ 4 := fun h => c_50 (Int32.toInt_inj.mp h)
    refine lv_iload_n hx hb dX5_isKindOf_53 rfl (lv_at hl 1 rfl) ?_
    refine lv_iconst (v := 2) hx hb dX5_isKindOf_54 (by decide) ?_
    refine lv_icmp_eq (tgt := 62) hx hb dX5_isKindOf_55 (by decide) (fun c_55 => ?_) (fun c_55 => ?_)
    · replace hE := (if_pos c_55).symm.trans hE
      have i_55 : p1.toInt = 2 := congrArg Int32.toInt c_55
      refine lv_iconst (v := 1) hx hb dX5_isKindOf_62 (by decide) ?_
      refine lv_goto (tgt := 67) hx hb dX5_isKindOf_63 (by decide) ?_
      subst hQ
      exact g_zret hx hb hr hlocks hG (Or.inr rfl) () rfl hE dX5_isKindOf_67
    replace hE := (if_neg c_55).symm.trans hE
    have i_55 : p1.toInt ≠ 2 := fun h => c_55 (Int32.toInt_inj.mp h)
    refine lv_iload_n hx hb dX5_isKindOf_58 rfl (lv_at hl 1 rfl) ?_
    refine lv_if_ne (tgt := 66) hx hb dX5_isKindOf_59 (by decide) (fun c_59 => ?_) (fun c_59 => ?_)
    · replace hE := (if_neg c_59).symm.trans hE
      have i_59 : p1.toInt ≠ 0 := fun h => c_59 (Int32.toInt_inj.mp h)
      refine lv_iconst (v := 0) hx hb dX5_isKindOf_66 (by decide) ?_
      subst hQ
      exact g_zret hx hb hr hlocks hG (Or.inl rfl) () rfl hE dX5_isKindOf_67
    replace hE := (if_pos c_59).symm.trans hE
    have i_59 : p1.toInt = 0 := congrArg Int32.toInt c_59
    refine lv_iconst (v := 1) hx hb dX5_isKindOf_62 (by decide) ?_
    refine lv_goto (tgt := 67) hx hb dX5_isKindOf_63 (by decide) ?_
    subst hQ
    exact g_zret hx hb hr hlocks hG (Or.inr rfl) () rfl hE dX5_isKindOf_67
  replace hE := (if_neg c_1_1).symm.trans hE
  refine lv_lookup (off := 67) (tgt := 68) hx hb dX5_isKindOf_1 (by decide) (by show Op.lookupswitch.offset [(3, 27), (4, 47)] 67 p0.toInt = _; rw [lv_osw c_1_0 (a := 3) (by decide), lv_osw c_1_1 (a := 4) (by decide)]; rfl) (by decide) ?_
  refine lv_iload_n hx hb dX5_isKindOf_68 rfl (lv_at hl 1 rfl) ?_
  refine lv_iload_n hx hb dX5_isKindOf_69 rfl (lv_at hl 0 rfl) ?_
  refine lv_icmp_eq (tgt := 77) hx hb dX5_isKindOf_70 (by decide) (fun c_70 => ?_) (fun c_70 => ?_)
  · replace hE := (if_pos c_70).symm.trans hE
    have i_70 : p1.toInt = p0.toInt := congrArg Int32.toInt c_70
    refine lv_iconst (v := 1) hx hb dX5_isKindOf_77 (by decide) ?_
    refine lv_goto (tgt := 82) hx hb dX5_isKindOf_78 (by decide) ?_
    subst hQ
    exact g_zret hx hb hr hlocks hG (Or.inr rfl) () rfl hE dX5_isKindOf_82
  replace hE := (if_neg c_70).symm.trans hE
  have i_70 : p1.toInt ≠ p0.toInt := fun h => c_70 (Int32.toInt_inj.mp h)
  refine lv_iload_n hx hb dX5_isKindOf_73 rfl (lv_at hl 1 rfl) ?_
  refine lv_if_ne (tgt := 81) hx hb dX5_isKindOf_74 (by decide) (fun c_74 => ?_) (fun c_74 => ?_)
  · replace hE := (if_neg c_74).symm.trans hE
    have i_74 : p1.toInt ≠ 0 := fun h => c_74 (Int32.toInt_inj.mp h)
    refine lv_iconst (v := 0) hx hb dX5_isKindOf_81 (by decide) ?_
    subst hQ
    exact g_zret hx hb hr hlocks hG (Or.inl rfl) () rfl hE dX5_isKindOf_82
  replace hE := (if_pos c_74).symm.trans hE
  have i_74 : p1.toInt = 0 := congrArg Int32.toInt c_74
  refine lv_iconst (v := 1) hx hb dX5_isKindOf_77 (by decide) ?_
  refine lv_goto (tgt := 82) hx hb dX5_isKindOf_78 (by decide) ?_
  subst hQ
  exact g_zret hx hb hr hlocks hG (Or.inr rfl) () rfl hE dX5_isKindOf_82
def F_X5_mostOf (p0 : Int32) : Int32 :=
  (if p0 = 0 then 99 else (if p0 = 1 then 9999 else (if p0 = 2 then 16777215 else (if p0 = 3 then 1 else (-1)))))
set_option maxHeartbeats 4000000 in
set_option maxRecDepth 100000 in
theorem c_X5_mostOf {l : Launch} {g : GG} {sz : Nat}  (p0 : Int32)  : Met l yX5_mostOf (Cond.code yX5_mostOf cX5_mostOf 1 (some .int) :: TT) (rmL 1) (va_Pc [.int p0] (gB g sz [])) (va_Qi (fun r (_ : Unit) => r = (F_X5_mostOf p0)) (fun u t => gC g (va_A [] sz) [] t) (va_A [] sz)) 0 0 (va_A [] sz) := by
  generalize hE : F_X5_mostOf p0 = EE
  refine g_of (Qf := fun A => (va_Qi (fun r (_ : Unit) => r = EE) (fun u t => gC g A [] t) A)) (cc := cX5_mostOf) (maxL := 1) (ret := (some .int)) (by decide) (Nat.le_of_ble_eq_true rfl) ?_
  intro p e s m below meth c A ls hx hb hml hr hlocks hts hown hA hG hl
  replace hown : s.vm.findClass RX5 = some m.cls := hown
  replace hl : lv_has ls 1 [(0, .int p0)] := hl
  show W p l e (rmL 1) s m [.int p0].toArray below meth c s.heap [] 0 0 (MQ below (va_Qi (fun r (_ : Unit) => r = EE) (fun u t => gC g A [] t) A) [.int p0].toArray s 0 0 A) (F0 m 0 ls [])
  generalize hQ : MQ below (va_Qi (fun r (_ : Unit) => r = EE) (fun u t => gC g A [] t) A) [.int p0].toArray s 0 0 A = Q
  unfold F_X5_mostOf at hE
  refine lv_iload_n hx hb dX5_mostOf_0 rfl (lv_at hl 0 rfl) ?_
  by_cases c_1_0 : p0 = 0
  · replace hE := (if_pos c_1_0).symm.trans hE
    refine lv_tableIn (off := 31) (tgt := 32) hx hb dX5_mostOf_1 (by rw [c_1_0]; decide) (by rw [c_1_0]; decide) (by rw [c_1_0]; decide) (by decide) ?_
    have i_1_0 : p0.toInt = 0 := congrArg Int32.toInt c_1_0
    refine lv_bipush (v := 99) hx hb dX5_mostOf_32 (by decide) ?_
    subst hQ
    exact g_iret hx hb hr hlocks hG () rfl hE dX5_mostOf_34
  replace hE := (if_neg c_1_0).symm.trans hE
  by_cases c_1_1 : p0 = 1
  · replace hE := (if_pos c_1_1).symm.trans hE
    refine lv_tableIn (off := 34) (tgt := 35) hx hb dX5_mostOf_1 (by rw [c_1_1]; decide) (by rw [c_1_1]; decide) (by rw [c_1_1]; decide) (by decide) ?_
    have i_1_1 : p0.toInt = 1 := congrArg Int32.toInt c_1_1
    refine lv_sipush (v := 9999) hx hb dX5_mostOf_35 (by decide) ?_
    subst hQ
    exact g_iret hx hb hr hlocks hG () rfl hE dX5_mostOf_38
  replace hE := (if_neg c_1_1).symm.trans hE
  by_cases c_1_2 : p0 = 2
  · replace hE := (if_pos c_1_2).symm.trans hE
    refine lv_tableIn (off := 38) (tgt := 39) hx hb dX5_mostOf_1 (by rw [c_1_2]; decide) (by rw [c_1_2]; decide) (by rw [c_1_2]; decide) (by decide) ?_
    have i_1_2 : p0.toInt = 2 := congrArg Int32.toInt c_1_2
    refine lv_ldcw (v := 16777215) hx hb hown (hts _ tw_co_RX5_257) dX5_mostOf_39 ?_
    subst hQ
    exact g_iret hx hb hr hlocks hG () rfl hE dX5_mostOf_42
  replace hE := (if_neg c_1_2).symm.trans hE
  by_cases c_1_3 : p0 = 3
  · replace hE := (if_pos c_1_3).symm.trans hE
    refine lv_tableIn (off := 42) (tgt := 43) hx hb dX5_mostOf_1 (by rw [c_1_3]; decide) (by rw [c_1_3]; decide) (by rw [c_1_3]; decide) (by decide) ?_
    have i_1_3 : p0.toInt = 3 := congrArg Int32.toInt c_1_3
    refine lv_iconst (v := 1) hx hb dX5_mostOf_43 (by decide) ?_
    subst hQ
    exact g_iret hx hb hr hlocks hG () rfl hE dX5_mostOf_44
  replace hE := (if_neg c_1_3).symm.trans hE
  refine lv_tableOut (tgt := 45) hx hb dX5_mostOf_1 (by have k0 := lv_neT c_1_0 (a := 0) (by decide); have k1 := lv_neT c_1_1 (a := 1) (by decide); have k2 := lv_neT c_1_2 (a := 2) (by decide); have k3 := lv_neT c_1_3 (a := 3) (by decide); omega) (by decide) ?_
  refine lv_iconst (v := (-1)) hx hb dX5_mostOf_45 (by decide) ?_
  subst hQ
  exact g_iret hx hb hr hlocks hG () rfl hE dX5_mostOf_46
def F_X3_joined (p0 : Int32) (p1 : Int32) (p2 : Int32) : Int32 :=
  (if p0 = (-13) then (p1 - p2) else (if p0 = (-12) then (p1 + p2) else (if p0 = (-11) then (if p1 = p2 then 1 else 0) else (if p0 = (-10) then (if p2 ≤ p1 then 0 else 1) else (if p0 = (-9) then (p1 * p2) else (if p0 = (-8) then (if p1 = 0 then 0 else (if p2 = 0 then 0 else 1)) else (if p0 = (-7) then (if p1 = 0 then (if p2 = 0 then 0 else 1) else 1) else (p1 * p2))))))))
set_option maxHeartbeats 4000000 in
set_option maxRecDepth 100000 in
theorem c_X3_joined {l : Launch} {g : GG} {sz : Nat}  (p0 : Int32) (p1 : Int32) (p2 : Int32)  : Met l yX3_joined (Cond.code yX3_joined cX3_joined 3 (some .int) :: TT) (rmL 1) (va_Pc [.int p0, .int p1, .int p2] (gB g sz [])) (va_Qi (fun r (_ : Unit) => r = (F_X3_joined p0 p1 p2)) (fun u t => gC g (va_A [] sz) [] t) (va_A [] sz)) 0 0 (va_A [] sz) := by
  generalize hE : F_X3_joined p0 p1 p2 = EE
  refine g_of (Qf := fun A => (va_Qi (fun r (_ : Unit) => r = EE) (fun u t => gC g A [] t) A)) (cc := cX3_joined) (maxL := 3) (ret := (some .int)) (by decide) (Nat.le_of_ble_eq_true rfl) ?_
  intro p e s m below meth c A ls hx hb hml hr hlocks hts hown hA hG hl
  replace hown : s.vm.findClass RX3 = some m.cls := hown
  replace hl : lv_has ls 3 [(0, .int p0), (1, .int p1), (2, .int p2)] := hl
  show W p l e (rmL 1) s m [.int p0, .int p1, .int p2].toArray below meth c s.heap [] 0 0 (MQ below (va_Qi (fun r (_ : Unit) => r = EE) (fun u t => gC g A [] t) A) [.int p0, .int p1, .int p2].toArray s 0 0 A) (F0 m 0 ls [])
  generalize hQ : MQ below (va_Qi (fun r (_ : Unit) => r = EE) (fun u t => gC g A [] t) A) [.int p0, .int p1, .int p2].toArray s 0 0 A = Q
  unfold F_X3_joined at hE
  refine lv_iload_n hx hb dX3_joined_0 rfl (lv_at hl 0 rfl) ?_
  by_cases c_1_0 : p0 = (-13)
  · replace hE := (if_pos c_1_0).symm.trans hE
    refine lv_tableIn (off := 97) (tgt := 98) hx hb dX3_joined_1 (by rw [c_1_0]; decide) (by rw [c_1_0]; decide) (by rw [c_1_0]; decide) (by decide) ?_
    have i_1_0 : p0.toInt = (-13) := congrArg Int32.toInt c_1_0
    refine lv_iload_n hx hb dX3_joined_98 rfl (lv_at hl 1 rfl) ?_
    refine lv_iload_n hx hb dX3_joined_99 rfl (lv_at hl 2 rfl) ?_
    refine lv_isub hx hb dX3_joined_100 ?_
    subst hQ
    exact g_iret hx hb hr hlocks hG () rfl hE dX3_joined_101
  replace hE := (if_neg c_1_0).symm.trans hE
  by_cases c_1_1 : p0 = (-12)
  · replace hE := (if_pos c_1_1).symm.trans hE
    refine lv_tableIn (off := 93) (tgt := 94) hx hb dX3_joined_1 (by rw [c_1_1]; decide) (by rw [c_1_1]; decide) (by rw [c_1_1]; decide) (by decide) ?_
    have i_1_1 : p0.toInt = (-12) := congrArg Int32.toInt c_1_1
    refine lv_iload_n hx hb dX3_joined_94 rfl (lv_at hl 1 rfl) ?_
    refine lv_iload_n hx hb dX3_joined_95 rfl (lv_at hl 2 rfl) ?_
    refine lv_iadd hx hb dX3_joined_96 ?_
    subst hQ
    exact g_iret hx hb hr hlocks hG () rfl hE dX3_joined_97
  replace hE := (if_neg c_1_1).symm.trans hE
  by_cases c_1_2 : p0 = (-11)
  · replace hE := (if_pos c_1_2).symm.trans hE
    refine lv_tableIn (off := 82) (tgt := 83) hx hb dX3_joined_1 (by rw [c_1_2]; decide) (by rw [c_1_2]; decide) (by rw [c_1_2]; decide) (by decide) ?_
    have i_1_2 : p0.toInt = (-11) := congrArg Int32.toInt c_1_2
    refine lv_iload_n hx hb dX3_joined_83 rfl (lv_at hl 1 rfl) ?_
    refine lv_iload_n hx hb dX3_joined_84 rfl (lv_at hl 2 rfl) ?_
    refine lv_icmp_ne (tgt := 92) hx hb dX3_joined_85 (by decide) (fun c_85 => ?_) (fun c_85 => ?_)
    · replace hE := (if_neg c_85).symm.trans hE
      have i_85 : p1.toInt ≠ p2.toInt := fun h => c_85 (Int32.toInt_inj.mp h)
      refine lv_iconst (v := 0) hx hb dX3_joined_92 (by decide) ?_
      subst hQ
      exact g_iret hx hb hr hlocks hG () rfl hE dX3_joined_93
    replace hE := (if_pos c_85).symm.trans hE
    have i_85 : p1.toInt = p2.toInt := congrArg Int32.toInt c_85
    refine lv_iconst (v := 1) hx hb dX3_joined_88 (by decide) ?_
    refine lv_goto (tgt := 93) hx hb dX3_joined_89 (by decide) ?_
    subst hQ
    exact g_iret hx hb hr hlocks hG () rfl hE dX3_joined_93
  replace hE := (if_neg c_1_2).symm.trans hE
  by_cases c_1_3 : p0 = (-10)
  · replace hE := (if_pos c_1_3).symm.trans hE
    refine lv_tableIn (off := 71) (tgt := 72) hx hb dX3_joined_1 (by rw [c_1_3]; decide) (by rw [c_1_3]; decide) (by rw [c_1_3]; decide) (by decide) ?_
    have i_1_3 : p0.toInt = (-10) := congrArg Int32.toInt c_1_3
    refine lv_iload_n hx hb dX3_joined_72 rfl (lv_at hl 1 rfl) ?_
    refine lv_iload_n hx hb dX3_joined_73 rfl (lv_at hl 2 rfl) ?_
    refine lv_icmp_ge (tgt := 81) hx hb dX3_joined_74 (by decide) (fun c_74 => ?_) (fun c_74 => ?_)
    · replace hE := (if_pos c_74).symm.trans hE
      have i_74 : p2.toInt ≤ p1.toInt := i_le.mp c_74
      refine lv_iconst (v := 0) hx hb dX3_joined_81 (by decide) ?_
      subst hQ
      exact g_iret hx hb hr hlocks hG () rfl hE dX3_joined_82
    replace hE := (if_neg c_74).symm.trans hE
    have i_74 : p1.toInt < p2.toInt := i_nle c_74
    refine lv_iconst (v := 1) hx hb dX3_joined_77 (by decide) ?_
    refine lv_goto (tgt := 82) hx hb dX3_joined_78 (by decide) ?_
    subst hQ
    exact g_iret hx hb hr hlocks hG () rfl hE dX3_joined_82
  replace hE := (if_neg c_1_3).symm.trans hE
  by_cases c_1_4 : p0 = (-9)
  · replace hE := (if_pos c_1_4).symm.trans hE
    refine lv_tableIn (off := 101) (tgt := 102) hx hb dX3_joined_1 (by rw [c_1_4]; decide) (by rw [c_1_4]; decide) (by rw [c_1_4]; decide) (by decide) ?_
    have i_1_4 : p0.toInt = (-9) := congrArg Int32.toInt c_1_4
    refine lv_iload_n hx hb dX3_joined_102 rfl (lv_at hl 1 rfl) ?_
    refine lv_iload_n hx hb dX3_joined_103 rfl (lv_at hl 2 rfl) ?_
    refine lv_imul hx hb dX3_joined_104 ?_
    subst hQ
    exact g_iret hx hb hr hlocks hG () rfl hE dX3_joined_105
  replace hE := (if_neg c_1_4).symm.trans hE
  by_cases c_1_5 : p0 = (-8)
  · replace hE := (if_pos c_1_5).symm.trans hE
    refine lv_tableIn (off := 57) (tgt := 58) hx hb dX3_joined_1 (by rw [c_1_5]; decide) (by rw [c_1_5]; decide) (by rw [c_1_5]; decide) (by decide) ?_
    have i_1_5 : p0.toInt = (-8) := congrArg Int32.toInt c_1_5
    refine lv_iload_n hx hb dX3_joined_58 rfl (lv_at hl 1 rfl) ?_
    refine lv_if_eq (tgt := 70) hx hb dX3_joined_59 (by decide) (fun c_59 => ?_) (fun c_59 => ?_)
    · replace hE := (if_pos c_59).symm.trans hE
      have i_59 : p1.toInt = 0 := congrArg Int32.toInt c_59
      refine lv_iconst (v := 0) hx hb dX3_joined_70 (by decide) ?_
      subst hQ
      exact g_iret hx hb hr hlocks hG () rfl hE dX3_joined_71
    replace hE := (if_neg c_59).symm.trans hE
    have i_59 : p1.toInt ≠ 0 := fun h => c_59 (Int32.toInt_inj.mp h)
    refine lv_iload_n hx hb dX3_joined_62 rfl (lv_at hl 2 rfl) ?_
    refine lv_if_eq (tgt := 70) hx hb dX3_joined_63 (by decide) (fun c_63 => ?_) (fun c_63 => ?_)
    · replace hE := (if_pos c_63).symm.trans hE
      have i_63 : p2.toInt = 0 := congrArg Int32.toInt c_63
      refine lv_iconst (v := 0) hx hb dX3_joined_70 (by decide) ?_
      subst hQ
      exact g_iret hx hb hr hlocks hG () rfl hE dX3_joined_71
    replace hE := (if_neg c_63).symm.trans hE
    have i_63 : p2.toInt ≠ 0 := fun h => c_63 (Int32.toInt_inj.mp h)
    refine lv_iconst (v := 1) hx hb dX3_joined_66 (by decide) ?_
    refine lv_goto (tgt := 71) hx hb dX3_joined_67 (by decide) ?_
    subst hQ
    exact g_iret hx hb hr hlocks hG () rfl hE dX3_joined_71
  replace hE := (if_neg c_1_5).symm.trans hE
  by_cases c_1_6 : p0 = (-7)
  · replace hE := (if_pos c_1_6).symm.trans hE
    refine lv_tableIn (off := 43) (tgt := 44) hx hb dX3_joined_1 (by rw [c_1_6]; decide) (by rw [c_1_6]; decide) (by rw [c_1_6]; decide) (by decide) ?_
    have i_1_6 : p0.toInt = (-7) := congrArg Int32.toInt c_1_6
    refine lv_iload_n hx hb dX3_joined_44 rfl (lv_at hl 1 rfl) ?_
    refine lv_if_ne (tgt := 52) hx hb dX3_joined_45 (by decide) (fun c_45 => ?_) (fun c_45 => ?_)
    · replace hE := (if_neg c_45).symm.trans hE
      have i_45 : p1.toInt ≠ 0 := fun h => c_45 (Int32.toInt_inj.mp h)
      refine lv_iconst (v := 1) hx hb dX3_joined_52 (by decide) ?_
      refine lv_goto (tgt := 57) hx hb dX3_joined_53 (by decide) ?_
      subst hQ
      exact g_iret hx hb hr hlocks hG () rfl hE dX3_joined_57
    replace hE := (if_pos c_45).symm.trans hE
    have i_45 : p1.toInt = 0 := congrArg Int32.toInt c_45
    refine lv_iload_n hx hb dX3_joined_48 rfl (lv_at hl 2 rfl) ?_
    refine lv_if_eq (tgt := 56) hx hb dX3_joined_49 (by decide) (fun c_49 => ?_) (fun c_49 => ?_)
    · replace hE := (if_pos c_49).symm.trans hE
      have i_49 : p2.toInt = 0 := congrArg Int32.toInt c_49
      refine lv_iconst (v := 0) hx hb dX3_joined_56 (by decide) ?_
      subst hQ
      exact g_iret hx hb hr hlocks hG () rfl hE dX3_joined_57
    replace hE := (if_neg c_49).symm.trans hE
    have i_49 : p2.toInt ≠ 0 := fun h => c_49 (Int32.toInt_inj.mp h)
    refine lv_iconst (v := 1) hx hb dX3_joined_52 (by decide) ?_
    refine lv_goto (tgt := 57) hx hb dX3_joined_53 (by decide) ?_
    subst hQ
    exact g_iret hx hb hr hlocks hG () rfl hE dX3_joined_57
  replace hE := (if_neg c_1_6).symm.trans hE
  refine lv_tableOut (tgt := 102) hx hb dX3_joined_1 (by have k0 := lv_neT c_1_0 (a := -13) (by decide); have k1 := lv_neT c_1_1 (a := -12) (by decide); have k2 := lv_neT c_1_2 (a := -11) (by decide); have k3 := lv_neT c_1_3 (a := -10) (by decide); have k4 := lv_neT c_1_4 (a := -9) (by decide); have k5 := lv_neT c_1_5 (a := -8) (by decide); have k6 := lv_neT c_1_6 (a := -7) (by decide); omega) (by decide) ?_
  refine lv_iload_n hx hb dX3_joined_102 rfl (lv_at hl 1 rfl) ?_
  refine lv_iload_n hx hb dX3_joined_103 rfl (lv_at hl 2 rfl) ?_
  refine lv_imul hx hb dX3_joined_104 ?_
  subst hQ
  exact g_iret hx hb hr hlocks hG () rfl hE dX3_joined_105
def F_X2_isLetter (p0 : Int32) : Int32 :=
  (if p0 < 97 then 0 else (if 122 < p0 then 0 else 1))
set_option maxHeartbeats 4000000 in
set_option maxRecDepth 100000 in
theorem c_X2_isLetter {l : Launch} {g : GG} {sz : Nat}  (p0 : Int32)  : Met l yX2_isLetter (Cond.code yX2_isLetter cX2_isLetter 1 (some .boolean) :: TT) (rmL 1) (va_Pc [.int p0] (gB g sz [])) (va_Qi (fun r (_ : Unit) => r = (F_X2_isLetter p0)) (fun u t => gC g (va_A [] sz) [] t) (va_A [] sz)) 0 0 (va_A [] sz) := by
  generalize hE : F_X2_isLetter p0 = EE
  refine g_of (Qf := fun A => (va_Qi (fun r (_ : Unit) => r = EE) (fun u t => gC g A [] t) A)) (cc := cX2_isLetter) (maxL := 1) (ret := (some .boolean)) (by decide) (Nat.le_of_ble_eq_true rfl) ?_
  intro p e s m below meth c A ls hx hb hml hr hlocks hts hown hA hG hl
  replace hown : s.vm.findClass RX2 = some m.cls := hown
  replace hl : lv_has ls 1 [(0, .int p0)] := hl
  show W p l e (rmL 1) s m [.int p0].toArray below meth c s.heap [] 0 0 (MQ below (va_Qi (fun r (_ : Unit) => r = EE) (fun u t => gC g A [] t) A) [.int p0].toArray s 0 0 A) (F0 m 0 ls [])
  generalize hQ : MQ below (va_Qi (fun r (_ : Unit) => r = EE) (fun u t => gC g A [] t) A) [.int p0].toArray s 0 0 A = Q
  unfold F_X2_isLetter at hE
  refine lv_iload_n hx hb dX2_isLetter_0 rfl (lv_at hl 0 rfl) ?_
  refine lv_bipush (v := 97) hx hb dX2_isLetter_1 (by decide) ?_
  refine lv_icmp_lt (tgt := 16) hx hb dX2_isLetter_3 (by decide) (fun c_3 => ?_) (fun c_3 => ?_)
  · replace hE := (if_pos c_3).symm.trans hE
    have i_3 : p0.toInt < 97 := i_lt.mp c_3
    refine lv_iconst (v := 0) hx hb dX2_isLetter_16 (by decide) ?_
    subst hQ
    exact g_zret hx hb hr hlocks hG (Or.inl rfl) () rfl hE dX2_isLetter_17
  replace hE := (if_neg c_3).symm.trans hE
  have i_3 : 97 ≤ p0.toInt := i_nlt c_3
  refine lv_iload_n hx hb dX2_isLetter_6 rfl (lv_at hl 0 rfl) ?_
  refine lv_bipush (v := 122) hx hb dX2_isLetter_7 (by decide) ?_
  refine lv_icmp_gt (tgt := 16) hx hb dX2_isLetter_9 (by decide) (fun c_9 => ?_) (fun c_9 => ?_)
  · replace hE := (if_pos c_9).symm.trans hE
    have i_9 : 122 < p0.toInt := i_lt.mp c_9
    refine lv_iconst (v := 0) hx hb dX2_isLetter_16 (by decide) ?_
    subst hQ
    exact g_zret hx hb hr hlocks hG (Or.inl rfl) () rfl hE dX2_isLetter_17
  replace hE := (if_neg c_9).symm.trans hE
  have i_9 : p0.toInt ≤ 122 := i_nlt c_9
  refine lv_iconst (v := 1) hx hb dX2_isLetter_12 (by decide) ?_
  refine lv_goto (tgt := 17) hx hb dX2_isLetter_13 (by decide) ?_
  subst hQ
  exact g_zret hx hb hr hlocks hG (Or.inr rfl) () rfl hE dX2_isLetter_17
def F_X2_isDigit (p0 : Int32) : Int32 :=
  (if p0 < 48 then 0 else (if 57 < p0 then 0 else 1))
set_option maxHeartbeats 4000000 in
set_option maxRecDepth 100000 in
theorem c_X2_isDigit {l : Launch} {g : GG} {sz : Nat}  (p0 : Int32)  : Met l yX2_isDigit (Cond.code yX2_isDigit cX2_isDigit 1 (some .boolean) :: TT) (rmL 1) (va_Pc [.int p0] (gB g sz [])) (va_Qi (fun r (_ : Unit) => r = (F_X2_isDigit p0)) (fun u t => gC g (va_A [] sz) [] t) (va_A [] sz)) 0 0 (va_A [] sz) := by
  generalize hE : F_X2_isDigit p0 = EE
  refine g_of (Qf := fun A => (va_Qi (fun r (_ : Unit) => r = EE) (fun u t => gC g A [] t) A)) (cc := cX2_isDigit) (maxL := 1) (ret := (some .boolean)) (by decide) (Nat.le_of_ble_eq_true rfl) ?_
  intro p e s m below meth c A ls hx hb hml hr hlocks hts hown hA hG hl
  replace hown : s.vm.findClass RX2 = some m.cls := hown
  replace hl : lv_has ls 1 [(0, .int p0)] := hl
  show W p l e (rmL 1) s m [.int p0].toArray below meth c s.heap [] 0 0 (MQ below (va_Qi (fun r (_ : Unit) => r = EE) (fun u t => gC g A [] t) A) [.int p0].toArray s 0 0 A) (F0 m 0 ls [])
  generalize hQ : MQ below (va_Qi (fun r (_ : Unit) => r = EE) (fun u t => gC g A [] t) A) [.int p0].toArray s 0 0 A = Q
  unfold F_X2_isDigit at hE
  refine lv_iload_n hx hb dX2_isDigit_0 rfl (lv_at hl 0 rfl) ?_
  refine lv_bipush (v := 48) hx hb dX2_isDigit_1 (by decide) ?_
  refine lv_icmp_lt (tgt := 16) hx hb dX2_isDigit_3 (by decide) (fun c_3 => ?_) (fun c_3 => ?_)
  · replace hE := (if_pos c_3).symm.trans hE
    have i_3 : p0.toInt < 48 := i_lt.mp c_3
    refine lv_iconst (v := 0) hx hb dX2_isDigit_16 (by decide) ?_
    subst hQ
    exact g_zret hx hb hr hlocks hG (Or.inl rfl) () rfl hE dX2_isDigit_17
  replace hE := (if_neg c_3).symm.trans hE
  have i_3 : 48 ≤ p0.toInt := i_nlt c_3
  refine lv_iload_n hx hb dX2_isDigit_6 rfl (lv_at hl 0 rfl) ?_
  refine lv_bipush (v := 57) hx hb dX2_isDigit_7 (by decide) ?_
  refine lv_icmp_gt (tgt := 16) hx hb dX2_isDigit_9 (by decide) (fun c_9 => ?_) (fun c_9 => ?_)
  · replace hE := (if_pos c_9).symm.trans hE
    have i_9 : 57 < p0.toInt := i_lt.mp c_9
    refine lv_iconst (v := 0) hx hb dX2_isDigit_16 (by decide) ?_
    subst hQ
    exact g_zret hx hb hr hlocks hG (Or.inl rfl) () rfl hE dX2_isDigit_17
  replace hE := (if_neg c_9).symm.trans hE
  have i_9 : p0.toInt ≤ 57 := i_nlt c_9
  refine lv_iconst (v := 1) hx hb dX2_isDigit_12 (by decide) ?_
  refine lv_goto (tgt := 17) hx hb dX2_isDigit_13 (by decide) ?_
  subst hQ
  exact g_zret hx hb hr hlocks hG (Or.inr rfl) () rfl hE dX2_isDigit_17
def F_X2_isSign (p0 : Int32) : Int32 :=
  (if p0 = 40 then 1 else (if p0 = 41 then 1 else (if p0 = 59 then 1 else (if p0 = 43 then 1 else (if p0 = 45 then 1 else (if p0 = 42 then 1 else (if p0 = 60 then 1 else (if p0 = 61 then 1 else 0))))))))
set_option maxHeartbeats 4000000 in
set_option maxRecDepth 100000 in
theorem c_X2_isSign {l : Launch} {g : GG} {sz : Nat}  (p0 : Int32)  : Met l yX2_isSign (Cond.code yX2_isSign cX2_isSign 1 (some .boolean) :: TT) (rmL 1) (va_Pc [.int p0] (gB g sz [])) (va_Qi (fun r (_ : Unit) => r = (F_X2_isSign p0)) (fun u t => gC g (va_A [] sz) [] t) (va_A [] sz)) 0 0 (va_A [] sz) := by
  generalize hE : F_X2_isSign p0 = EE
  refine g_of (Qf := fun A => (va_Qi (fun r (_ : Unit) => r = EE) (fun u t => gC g A [] t) A)) (cc := cX2_isSign) (maxL := 1) (ret := (some .boolean)) (by decide) (Nat.le_of_ble_eq_true rfl) ?_
  intro p e s m below meth c A ls hx hb hml hr hlocks hts hown hA hG hl
  replace hown : s.vm.findClass RX2 = some m.cls := hown
  replace hl : lv_has ls 1 [(0, .int p0)] := hl
  show W p l e (rmL 1) s m [.int p0].toArray below meth c s.heap [] 0 0 (MQ below (va_Qi (fun r (_ : Unit) => r = EE) (fun u t => gC g A [] t) A) [.int p0].toArray s 0 0 A) (F0 m 0 ls [])
  generalize hQ : MQ below (va_Qi (fun r (_ : Unit) => r = EE) (fun u t => gC g A [] t) A) [.int p0].toArray s 0 0 A = Q
  unfold F_X2_isSign at hE
  refine lv_iload_n hx hb dX2_isSign_0 rfl (lv_at hl 0 rfl) ?_
  refine lv_bipush (v := 40) hx hb dX2_isSign_1 (by decide) ?_
  refine lv_icmp_eq (tgt := 48) hx hb dX2_isSign_3 (by decide) (fun c_3 => ?_) (fun c_3 => ?_)
  · replace hE := (if_pos c_3).symm.trans hE
    have i_3 : p0.toInt = 40 := congrArg Int32.toInt c_3
    refine lv_iconst (v := 1) hx hb dX2_isSign_48 (by decide) ?_
    refine lv_goto (tgt := 53) hx hb dX2_isSign_49 (by decide) ?_
    subst hQ
    exact g_zret hx hb hr hlocks hG (Or.inr rfl) () rfl hE dX2_isSign_53
  replace hE := (if_neg c_3).symm.trans hE
  have i_3 : p0.toInt ≠ 40 := fun h => c_3 (Int32.toInt_inj.mp h)
  refine lv_iload_n hx hb dX2_isSign_6 rfl (lv_at hl 0 rfl) ?_
  refine lv_bipush (v := 41) hx hb dX2_isSign_7 (by decide) ?_
  refine lv_icmp_eq (tgt := 48) hx hb dX2_isSign_9 (by decide) (fun c_9 => ?_) (fun c_9 => ?_)
  · replace hE := (if_pos c_9).symm.trans hE
    have i_9 : p0.toInt = 41 := congrArg Int32.toInt c_9
    refine lv_iconst (v := 1) hx hb dX2_isSign_48 (by decide) ?_
    refine lv_goto (tgt := 53) hx hb dX2_isSign_49 (by decide) ?_
    subst hQ
    exact g_zret hx hb hr hlocks hG (Or.inr rfl) () rfl hE dX2_isSign_53
  replace hE := (if_neg c_9).symm.trans hE
  have i_9 : p0.toInt ≠ 41 := fun h => c_9 (Int32.toInt_inj.mp h)
  refine lv_iload_n hx hb dX2_isSign_12 rfl (lv_at hl 0 rfl) ?_
  refine lv_bipush (v := 59) hx hb dX2_isSign_13 (by decide) ?_
  refine lv_icmp_eq (tgt := 48) hx hb dX2_isSign_15 (by decide) (fun c_15 => ?_) (fun c_15 => ?_)
  · replace hE := (if_pos c_15).symm.trans hE
    have i_15 : p0.toInt = 59 := congrArg Int32.toInt c_15
    refine lv_iconst (v := 1) hx hb dX2_isSign_48 (by decide) ?_
    refine lv_goto (tgt := 53) hx hb dX2_isSign_49 (by decide) ?_
    subst hQ
    exact g_zret hx hb hr hlocks hG (Or.inr rfl) () rfl hE dX2_isSign_53
  replace hE := (if_neg c_15).symm.trans hE
  have i_15 : p0.toInt ≠ 59 := fun h => c_15 (Int32.toInt_inj.mp h)
  refine lv_iload_n hx hb dX2_isSign_18 rfl (lv_at hl 0 rfl) ?_
  refine lv_bipush (v := 43) hx hb dX2_isSign_19 (by decide) ?_
  refine lv_icmp_eq (tgt := 48) hx hb dX2_isSign_21 (by decide) (fun c_21 => ?_) (fun c_21 => ?_)
  · replace hE := (if_pos c_21).symm.trans hE
    have i_21 : p0.toInt = 43 := congrArg Int32.toInt c_21
    refine lv_iconst (v := 1) hx hb dX2_isSign_48 (by decide) ?_
    refine lv_goto (tgt := 53) hx hb dX2_isSign_49 (by decide) ?_
    subst hQ
    exact g_zret hx hb hr hlocks hG (Or.inr rfl) () rfl hE dX2_isSign_53
  replace hE := (if_neg c_21).symm.trans hE
  have i_21 : p0.toInt ≠ 43 := fun h => c_21 (Int32.toInt_inj.mp h)
  refine lv_iload_n hx hb dX2_isSign_24 rfl (lv_at hl 0 rfl) ?_
  refine lv_bipush (v := 45) hx hb dX2_isSign_25 (by decide) ?_
  refine lv_icmp_eq (tgt := 48) hx hb dX2_isSign_27 (by decide) (fun c_27 => ?_) (fun c_27 => ?_)
  · replace hE := (if_pos c_27).symm.trans hE
    have i_27 : p0.toInt = 45 := congrArg Int32.toInt c_27
    refine lv_iconst (v := 1) hx hb dX2_isSign_48 (by decide) ?_
    refine lv_goto (tgt := 53) hx hb dX2_isSign_49 (by decide) ?_
    subst hQ
    exact g_zret hx hb hr hlocks hG (Or.inr rfl) () rfl hE dX2_isSign_53
  replace hE := (if_neg c_27).symm.trans hE
  have i_27 : p0.toInt ≠ 45 := fun h => c_27 (Int32.toInt_inj.mp h)
  refine lv_iload_n hx hb dX2_isSign_30 rfl (lv_at hl 0 rfl) ?_
  refine lv_bipush (v := 42) hx hb dX2_isSign_31 (by decide) ?_
  refine lv_icmp_eq (tgt := 48) hx hb dX2_isSign_33 (by decide) (fun c_33 => ?_) (fun c_33 => ?_)
  · replace hE := (if_pos c_33).symm.trans hE
    have i_33 : p0.toInt = 42 := congrArg Int32.toInt c_33
    refine lv_iconst (v := 1) hx hb dX2_isSign_48 (by decide) ?_
    refine lv_goto (tgt := 53) hx hb dX2_isSign_49 (by decide) ?_
    subst hQ
    exact g_zret hx hb hr hlocks hG (Or.inr rfl) () rfl hE dX2_isSign_53
  replace hE := (if_neg c_33).symm.trans hE
  have i_33 : p0.toInt ≠ 42 := fun h => c_33 (Int32.toInt_inj.mp h)
  refine lv_iload_n hx hb dX2_isSign_36 rfl (lv_at hl 0 rfl) ?_
  refine lv_bipush (v := 60) hx hb dX2_isSign_37 (by decide) ?_
  refine lv_icmp_eq (tgt := 48) hx hb dX2_isSign_39 (by decide) (fun c_39 => ?_) (fun c_39 => ?_)
  · replace hE := (if_pos c_39).symm.trans hE
    have i_39 : p0.toInt = 60 := congrArg Int32.toInt c_39
    refine lv_iconst (v := 1) hx hb dX2_isSign_48 (by decide) ?_
    refine lv_goto (tgt := 53) hx hb dX2_isSign_49 (by decide) ?_
    subst hQ
    exact g_zret hx hb hr hlocks hG (Or.inr rfl) () rfl hE dX2_isSign_53
  replace hE := (if_neg c_39).symm.trans hE
  have i_39 : p0.toInt ≠ 60 := fun h => c_39 (Int32.toInt_inj.mp h)
  refine lv_iload_n hx hb dX2_isSign_42 rfl (lv_at hl 0 rfl) ?_
  refine lv_bipush (v := 61) hx hb dX2_isSign_43 (by decide) ?_
  refine lv_icmp_ne (tgt := 52) hx hb dX2_isSign_45 (by decide) (fun c_45 => ?_) (fun c_45 => ?_)
  · replace hE := (if_neg c_45).symm.trans hE
    have i_45 : p0.toInt ≠ 61 := fun h => c_45 (Int32.toInt_inj.mp h)
    refine lv_iconst (v := 0) hx hb dX2_isSign_52 (by decide) ?_
    subst hQ
    exact g_zret hx hb hr hlocks hG (Or.inl rfl) () rfl hE dX2_isSign_53
  replace hE := (if_pos c_45).symm.trans hE
  have i_45 : p0.toInt = 61 := congrArg Int32.toInt c_45
  refine lv_iconst (v := 1) hx hb dX2_isSign_48 (by decide) ?_
  refine lv_goto (tgt := 53) hx hb dX2_isSign_49 (by decide) ?_
  subst hQ
  exact g_zret hx hb hr hlocks hG (Or.inr rfl) () rfl hE dX2_isSign_53
def F_X1_become_l12 : Nat → Ob → Int32 → Ob
  | 0, T, _ => T
  | n + 1, T, x3 =>
    (if 40 ≤ x3 then T else ((F_X1_become_l12 n ) (stA T 0 x3 0) (x3 + 1)))
def F_X1_become (T : Ob) (p1 : Int32) (p2 : Int32) : Ob :=
  (F_X1_become_l12 41  (setS (setS T 1 p1) 2 p2) 0)
set_option maxHeartbeats 4000000 in
set_option maxRecDepth 100000 in
theorem c_X1_become {l : Launch} {g : GG} {sz : Nat} {bb : Ob} {tx rw : Nat → Ob} {sb dy : Ob} {tn : Nat → Ob} {mo : Ob} {jk : Nat → Nat → Int32} {o : Nat} (ho : o < 4) {T : Ob} (hT : rw o = T) (p1 : Int32) (p2 : Int32)  : Met l yX1_become (Cond.code yX1_become cX1_become 4 none :: TT) (rmL 1) (va_Pc [.ref (gA g (27 + 2 * o)), .int p1, .int p2] (gB g sz (gW g bb tx rw sb dy tn mo jk))) (va_Qv (fun (u : Ob) => (F_X1_become T p1 p2) = (u)) (fun u t => gC g (va_A (gW g bb tx rw sb dy tn mo jk) sz) (gW g bb tx (va_up rw o u) sb dy tn mo jk) t) (va_A (gW g bb tx rw sb dy tn mo jk) sz)) 0 0 (va_A (gW g bb tx rw sb dy tn mo jk) sz) := by
  generalize hE : F_X1_become T p1 p2 = EE
  refine g_of (Qf := fun A => (va_Qv (fun (u : Ob) => EE = (u)) (fun u t => gC g A (gW g bb tx (va_up rw o u) sb dy tn mo jk) t) A)) (cc := cX1_become) (maxL := 4) (ret := none) (by decide) (Nat.le_of_ble_eq_true rfl) ?_
  intro p e s m below meth c A ls hx hb hml hr hlocks hts hown hA hG hl
  replace hown : s.vm.findClass RX1 = some m.cls := hown
  replace hl : lv_has ls 4 [(0, .ref (gA g (27 + 2 * o))), (1, .int p1), (2, .int p2)] := hl
  show W p l e (rmL 1) s m [.ref (gA g (27 + 2 * o)), .int p1, .int p2].toArray below meth c s.heap [] 0 0 (MQ below (va_Qv (fun (u : Ob) => EE = (u)) (fun u t => gC g A (gW g bb tx (va_up rw o u) sb dy tn mo jk) t) A) [.ref (gA g (27 + 2 * o)), .int p1, .int p2].toArray s 0 0 A) (F0 m 0 ls [])
  generalize hQ : MQ below (va_Qv (fun (u : Ob) => EE = (u)) (fun u t => gC g A (gW g bb tx (va_up rw o u) sb dy tn mo jk) t) A) [.ref (gA g (27 + 2 * o)), .int p1, .int p2].toArray s 0 0 A = Q
  replace hG : gS g A s s.heap [] (gW g bb tx (va_up rw o T) sb dy tn mo jk) := by simpa only [← hT, up_self] using hG
  unfold F_X1_become at hE
  refine lv_aload_n hx hb dX1_become_0 rfl (lv_at hl 0 rfl) ?_
  refine lv_iload_n hx hb dX1_become_1 rfl (lv_at hl 1 rfl) ?_
  refine g_put hx hb hts hiX1 tyX1 tyX1_ok nmX1 hown hG (gw_Row ho (up_same _ _ _)) rfl 1 (by decide) (index := 15) tw_fl_RX1_15 rfl rfl rfl (Nat.le_of_ble_eq_true rfl) (gt_Row_f1 ho) dX1_become_2 (fun H locs hG => ?_)
  refine lv_aload_n hx hb dX1_become_5 rfl (lv_at hl 0 rfl) ?_
  refine lv_iload_n hx hb dX1_become_6 rfl (lv_at hl 2 rfl) ?_
  refine g_put hx hb hts hiX1 tyX1 tyX1_ok nmX1 hown hG (gw_Row ho (up_same _ _ _)) rfl 2 (by decide) (index := 19) tw_fl_RX1_19 rfl rfl rfl (Nat.le_of_ble_eq_true rfl) (gt_Row_f2 ho) dX1_become_7 (fun H locs hG => ?_)
  refine lv_iconst (v := 0) hx hb dX1_become_10 (by decide) ?_
  refine lv_istore_n (lv' := [(3, .int 0), (0, .ref (gA g (27 + 2 * o))), (1, .int p1), (2, .int p2)]) hx hb dX1_become_11 rfl hl (by decide) rfl (fun ls hl => ?_)
  replace hl := lv_sub hl [1, 2, 3, 0] (l' := [(0, .ref (gA g (27 + 2 * o))), (1, .int p1), (2, .int p2), (3, .int 0)]) rfl
  have L12 : ∀ (n : Nat) (x3_12 : Int32) (T_12 : Ob) (H : Heap) (locs : List Loc), gS g A s H locs (gW g bb tx (va_up rw o T_12) sb dy tn mo jk) → ∀ ls : Array Slot, lv_has ls 4 [(0, .ref (gA g (27 + 2 * o))), (3, .int x3_12)] → 0 ≤ x3_12.toInt → x3_12.toInt ≤ 40 → 40 < x3_12.toInt + n → F_X1_become_l12 n  T_12 x3_12 = EE → W p l e (rmL 1) s m [.ref (gA g (27 + 2 * o)), .int p1, .int p2].toArray below meth c H locs 0 0 Q (F0 m 12 ls []) := by
    intro n
    induction n with
    | zero =>
      intro x3_12 T_12 H locs hG ls hl h0_12 h1_12 hm_12 hE
      omega
    | succ n ih12 =>
      intro x3_12 T_12 H locs hG ls hl h0_12 h1_12 hm_12 hE
      unfold F_X1_become_l12 at hE
      refine lv_iload_n hx hb dX1_become_12 rfl (lv_at hl 1 rfl) ?_
      refine lv_bipush (v := 40) hx hb dX1_become_13 (by decide) ?_
      refine lv_icmp_ge (tgt := 31) hx hb dX1_become_15 (by decide) (fun c_15 => ?_) (fun c_15 => ?_)
      · replace hE := (if_pos c_15).symm.trans hE
        have i_15 : 40 ≤ x3_12.toInt := i_le.mp c_15
        subst hQ
        exact g_vret hx hb hr hlocks hG ((T_12) : Ob) rfl hE.symm dX1_become_31
      replace hE := (if_neg c_15).symm.trans hE
      have i_15 : x3_12.toInt < 40 := i_nle c_15
      refine lv_aload_n hx hb dX1_become_18 rfl (lv_at hl 0 rfl) ?_
      refine g_get hx hb hts hiX1 hown hG (gw_Row ho (up_same _ _ _)) rfl 0 (by decide) (index := 9) tw_fl_RX1_9 (v := .ref (gA g (27 + 2 * o + 1))) rfl dX1_become_19 ?_
      refine lv_iload_n hx hb dX1_become_22 rfl (lv_at hl 1 rfl) ?_
      refine lv_iconst (v := 0) hx hb dX1_become_23 (by decide) ?_
      refine g_ist hx hb hG (gw_Row_a0 ho (up_same _ _ _)) (vp_i (by clear hE; omega) (by clear hE; omega)) (gt_Row_a0 ho) dX1_become_24 (fun H locs hG => ?_)
      refine lv_iinc (v := (x3_12 + 1)) (lv' := [(3, .int (x3_12 + 1)), (0, .ref (gA g (27 + 2 * o)))]) hx hb dX1_become_25 hl (k := 1) rfl rfl (by decide) rfl (fun ls hl => ?_)
      replace hl := lv_sub hl [1, 0] (l' := [(0, .ref (gA g (27 + 2 * o))), (3, .int (x3_12 + 1))]) rfl
      refine lv_goto (tgt := 12) hx hb dX1_become_28 (by decide) ?_
      have e1 : (x3_12 + 1).toInt = x3_12.toInt + 1 := addL (k := 1) (by decide +kernel) (by clear hE; omega) (by clear hE; omega)
      exact ih12 (x3_12 + 1) (stA T_12 0 x3_12 0) _ _ hG _ (lv_sub hl [0, 1] rfl) (by clear hE; omega) (by clear hE; omega) (by clear hE; omega) hE
  exact L12 41 0 (setS (setS T 1 p1) 2 p2) _ _ hG _ (lv_sub hl [0, 3] rfl) (by decide) (by decide) (by decide) hE
def F_X1_isMissing (T : Ob) : Int32 :=
  (if (T.1 1) = (-1) then 1 else 0)
set_option maxHeartbeats 4000000 in
set_option maxRecDepth 100000 in
theorem c_X1_isMissing {l : Launch} {g : GG} {sz : Nat} {bb : Ob} {tx rw : Nat → Ob} {sb dy : Ob} {tn : Nat → Ob} {mo : Ob} {jk : Nat → Nat → Int32} {o : Nat} (ho : o < 4) {T : Ob} (hT : rw o = T)   : Met l yX1_isMissing (Cond.code yX1_isMissing cX1_isMissing 1 (some .boolean) :: TT) (rmL 1) (va_Pc [.ref (gA g (27 + 2 * o))] (gB g sz (gW g bb tx rw sb dy tn mo jk))) (va_Qi (fun r (_ : Unit) => r = (F_X1_isMissing T)) (fun u t => gC g (va_A (gW g bb tx rw sb dy tn mo jk) sz) (gW g bb tx rw sb dy tn mo jk) t) (va_A (gW g bb tx rw sb dy tn mo jk) sz)) 0 0 (va_A (gW g bb tx rw sb dy tn mo jk) sz) := by
  generalize hE : F_X1_isMissing T = EE
  refine g_of (Qf := fun A => (va_Qi (fun r (_ : Unit) => r = EE) (fun u t => gC g A (gW g bb tx rw sb dy tn mo jk) t) A)) (cc := cX1_isMissing) (maxL := 1) (ret := (some .boolean)) (by decide) (Nat.le_of_ble_eq_true rfl) ?_
  intro p e s m below meth c A ls hx hb hml hr hlocks hts hown hA hG hl
  replace hown : s.vm.findClass RX1 = some m.cls := hown
  replace hl : lv_has ls 1 [(0, .ref (gA g (27 + 2 * o)))] := hl
  show W p l e (rmL 1) s m [.ref (gA g (27 + 2 * o))].toArray below meth c s.heap [] 0 0 (MQ below (va_Qi (fun r (_ : Unit) => r = EE) (fun u t => gC g A (gW g bb tx rw sb dy tn mo jk) t) A) [.ref (gA g (27 + 2 * o))].toArray s 0 0 A) (F0 m 0 ls [])
  generalize hQ : MQ below (va_Qi (fun r (_ : Unit) => r = EE) (fun u t => gC g A (gW g bb tx rw sb dy tn mo jk) t) A) [.ref (gA g (27 + 2 * o))].toArray s 0 0 A = Q
  unfold F_X1_isMissing at hE
  refine lv_aload_n hx hb dX1_isMissing_0 rfl (lv_at hl 0 rfl) ?_
  refine g_get hx hb hts hiX1 hown hG (gw_Row ho hT) rfl 1 (by decide) (index := 15) tw_fl_RX1_15 (v := .int (T.1 1)) rfl dX1_isMissing_1 ?_
  refine lv_iconst (v := (-1)) hx hb dX1_isMissing_4 (by decide) ?_
  refine lv_icmp_ne (tgt := 12) hx hb dX1_isMissing_5 (by decide) (fun c_5 => ?_) (fun c_5 => ?_)
  · replace hE := (if_neg c_5).symm.trans hE
    have i_5 : (T.1 1).toInt ≠ (-1) := fun h => c_5 (Int32.toInt_inj.mp h)
    refine lv_iconst (v := 0) hx hb dX1_isMissing_12 (by decide) ?_
    subst hQ
    exact g_zret hx hb hr hlocks hG (Or.inl rfl) () rfl hE dX1_isMissing_13
  replace hE := (if_pos c_5).symm.trans hE
  have i_5 : (T.1 1).toInt = (-1) := congrArg Int32.toInt c_5
  refine lv_iconst (v := 1) hx hb dX1_isMissing_8 (by decide) ?_
  refine lv_goto (tgt := 13) hx hb dX1_isMissing_9 (by decide) ?_
  subst hQ
  exact g_zret hx hb hr hlocks hG (Or.inr rfl) () rfl hE dX1_isMissing_13
def F_X1_has (T : Ob) (p1 : Int32) (p2 : Int32) : Int32 :=
  (if p1 < 0 then 0 else (if p2 < 0 then 0 else (if (T.1 2) < p1 then 0 else (if ((T.1 2) - p1) < p2 then 0 else 1))))
set_option maxHeartbeats 4000000 in
set_option maxRecDepth 100000 in
theorem c_X1_has {l : Launch} {g : GG} {sz : Nat} {bb : Ob} {tx rw : Nat → Ob} {sb dy : Ob} {tn : Nat → Ob} {mo : Ob} {jk : Nat → Nat → Int32} {o : Nat} (ho : o < 4) {T : Ob} (hT : rw o = T) (p1 : Int32) (p2 : Int32)  : Met l yX1_has (Cond.code yX1_has cX1_has 3 (some .boolean) :: TT) (rmL 1) (va_Pc [.ref (gA g (27 + 2 * o)), .int p1, .int p2] (gB g sz (gW g bb tx rw sb dy tn mo jk))) (va_Qi (fun r (_ : Unit) => r = (F_X1_has T p1 p2)) (fun u t => gC g (va_A (gW g bb tx rw sb dy tn mo jk) sz) (gW g bb tx rw sb dy tn mo jk) t) (va_A (gW g bb tx rw sb dy tn mo jk) sz)) 0 0 (va_A (gW g bb tx rw sb dy tn mo jk) sz) := by
  generalize hE : F_X1_has T p1 p2 = EE
  refine g_of (Qf := fun A => (va_Qi (fun r (_ : Unit) => r = EE) (fun u t => gC g A (gW g bb tx rw sb dy tn mo jk) t) A)) (cc := cX1_has) (maxL := 3) (ret := (some .boolean)) (by decide) (Nat.le_of_ble_eq_true rfl) ?_
  intro p e s m below meth c A ls hx hb hml hr hlocks hts hown hA hG hl
  replace hown : s.vm.findClass RX1 = some m.cls := hown
  replace hl : lv_has ls 3 [(0, .ref (gA g (27 + 2 * o))), (1, .int p1), (2, .int p2)] := hl
  show W p l e (rmL 1) s m [.ref (gA g (27 + 2 * o)), .int p1, .int p2].toArray below meth c s.heap [] 0 0 (MQ below (va_Qi (fun r (_ : Unit) => r = EE) (fun u t => gC g A (gW g bb tx rw sb dy tn mo jk) t) A) [.ref (gA g (27 + 2 * o)), .int p1, .int p2].toArray s 0 0 A) (F0 m 0 ls [])
  generalize hQ : MQ below (va_Qi (fun r (_ : Unit) => r = EE) (fun u t => gC g A (gW g bb tx rw sb dy tn mo jk) t) A) [.ref (gA g (27 + 2 * o)), .int p1, .int p2].toArray s 0 0 A = Q
  unfold F_X1_has at hE
  refine lv_iload_n hx hb dX1_has_0 rfl (lv_at hl 1 rfl) ?_
  refine lv_if_lt (tgt := 30) hx hb dX1_has_1 (by decide) (fun c_1 => ?_) (fun c_1 => ?_)
  · replace hE := (if_pos c_1).symm.trans hE
    have i_1 : p1.toInt < 0 := i_lt.mp c_1
    refine lv_iconst (v := 0) hx hb dX1_has_30 (by decide) ?_
    subst hQ
    exact g_zret hx hb hr hlocks hG (Or.inl rfl) () rfl hE dX1_has_31
  replace hE := (if_neg c_1).symm.trans hE
  have i_1 : 0 ≤ p1.toInt := i_nlt c_1
  refine lv_iload_n hx hb dX1_has_4 rfl (lv_at hl 2 rfl) ?_
  refine lv_if_lt (tgt := 30) hx hb dX1_has_5 (by decide) (fun c_5 => ?_) (fun c_5 => ?_)
  · replace hE := (if_pos c_5).symm.trans hE
    have i_5 : p2.toInt < 0 := i_lt.mp c_5
    refine lv_iconst (v := 0) hx hb dX1_has_30 (by decide) ?_
    subst hQ
    exact g_zret hx hb hr hlocks hG (Or.inl rfl) () rfl hE dX1_has_31
  replace hE := (if_neg c_5).symm.trans hE
  have i_5 : 0 ≤ p2.toInt := i_nlt c_5
  refine lv_iload_n hx hb dX1_has_8 rfl (lv_at hl 1 rfl) ?_
  refine lv_aload_n hx hb dX1_has_9 rfl (lv_at hl 0 rfl) ?_
  refine g_get hx hb hts hiX1 hown hG (gw_Row ho hT) rfl 2 (by decide) (index := 19) tw_fl_RX1_19 (v := .int (T.1 2)) rfl dX1_has_10 ?_
  refine lv_icmp_gt (tgt := 30) hx hb dX1_has_13 (by decide) (fun c_13 => ?_) (fun c_13 => ?_)
  · replace hE := (if_pos c_13).symm.trans hE
    have i_13 : (T.1 2).toInt < p1.toInt := i_lt.mp c_13
    refine lv_iconst (v := 0) hx hb dX1_has_30 (by decide) ?_
    subst hQ
    exact g_zret hx hb hr hlocks hG (Or.inl rfl) () rfl hE dX1_has_31
  replace hE := (if_neg c_13).symm.trans hE
  have i_13 : p1.toInt ≤ (T.1 2).toInt := i_nlt c_13
  refine lv_iload_n hx hb dX1_has_16 rfl (lv_at hl 2 rfl) ?_
  refine lv_aload_n hx hb dX1_has_17 rfl (lv_at hl 0 rfl) ?_
  refine g_get hx hb hts hiX1 hown hG (gw_Row ho hT) rfl 2 (by decide) (index := 19) tw_fl_RX1_19 (v := .int (T.1 2)) rfl dX1_has_18 ?_
  refine lv_iload_n hx hb dX1_has_21 rfl (lv_at hl 1 rfl) ?_
  refine lv_isub hx hb dX1_has_22 ?_
  refine lv_icmp_gt (tgt := 30) hx hb dX1_has_23 (by decide) (fun c_23 => ?_) (fun c_23 => ?_)
  · replace hE := (if_pos c_23).symm.trans hE
    have i_23 : ((T.1 2) - p1).toInt < p2.toInt := i_lt.mp c_23
    refine lv_iconst (v := 0) hx hb dX1_has_30 (by decide) ?_
    subst hQ
    exact g_zret hx hb hr hlocks hG (Or.inl rfl) () rfl hE dX1_has_31
  replace hE := (if_neg c_23).symm.trans hE
  have i_23 : p2.toInt ≤ ((T.1 2) - p1).toInt := i_nlt c_23
  refine lv_iconst (v := 1) hx hb dX1_has_26 (by decide) ?_
  refine lv_goto (tgt := 31) hx hb dX1_has_27 (by decide) ?_
  subst hQ
  exact g_zret hx hb hr hlocks hG (Or.inr rfl) () rfl hE dX1_has_31
def F_X1_write_b42 (T : Ob) (z1 : Int32) (z2 : Int32) : Ob :=
  (stA T 0 z1 z2)
def F_X1_write (T : Ob) (p1 : Int32) (p2 : Int32) : Ob :=
  (if p1 < 0 then T else (if p1 < 40 then (if (T.1 1) = 0 then (F_X1_write_b42  T p1 (Int8.toInt32 (Int32.toInt8 p2))) else (if (T.1 1) = 1 then (F_X1_write_b42  T p1 (Int16.toInt32 (Int32.toInt16 p2))) else (F_X1_write_b42  T p1 p2))) else T))
set_option maxHeartbeats 4000000 in
set_option maxRecDepth 100000 in
theorem c_X1_write {l : Launch} {g : GG} {sz : Nat} {bb : Ob} {tx rw : Nat → Ob} {sb dy : Ob} {tn : Nat → Ob} {mo : Ob} {jk : Nat → Nat → Int32} {o : Nat} (ho : o < 4) {T : Ob} (hT : rw o = T) (p1 : Int32) (p2 : Int32)  : Met l yX1_write (Cond.code yX1_write cX1_write 3 none :: TT) (rmL 1) (va_Pc [.ref (gA g (27 + 2 * o)), .int p1, .int p2] (gB g sz (gW g bb tx rw sb dy tn mo jk))) (va_Qv (fun (u : Ob) => (F_X1_write T p1 p2) = (u)) (fun u t => gC g (va_A (gW g bb tx rw sb dy tn mo jk) sz) (gW g bb tx (va_up rw o u) sb dy tn mo jk) t) (va_A (gW g bb tx rw sb dy tn mo jk) sz)) 0 0 (va_A (gW g bb tx rw sb dy tn mo jk) sz) := by
  generalize hE : F_X1_write T p1 p2 = EE
  refine g_of (Qf := fun A => (va_Qv (fun (u : Ob) => EE = (u)) (fun u t => gC g A (gW g bb tx (va_up rw o u) sb dy tn mo jk) t) A)) (cc := cX1_write) (maxL := 3) (ret := none) (by decide) (Nat.le_of_ble_eq_true rfl) ?_
  intro p e s m below meth c A ls hx hb hml hr hlocks hts hown hA hG hl
  replace hown : s.vm.findClass RX1 = some m.cls := hown
  replace hl : lv_has ls 3 [(0, .ref (gA g (27 + 2 * o))), (1, .int p1), (2, .int p2)] := hl
  show W p l e (rmL 1) s m [.ref (gA g (27 + 2 * o)), .int p1, .int p2].toArray below meth c s.heap [] 0 0 (MQ below (va_Qv (fun (u : Ob) => EE = (u)) (fun u t => gC g A (gW g bb tx (va_up rw o u) sb dy tn mo jk) t) A) [.ref (gA g (27 + 2 * o)), .int p1, .int p2].toArray s 0 0 A) (F0 m 0 ls [])
  generalize hQ : MQ below (va_Qv (fun (u : Ob) => EE = (u)) (fun u t => gC g A (gW g bb tx (va_up rw o u) sb dy tn mo jk) t) A) [.ref (gA g (27 + 2 * o)), .int p1, .int p2].toArray s 0 0 A = Q
  replace hG : gS g A s s.heap [] (gW g bb tx (va_up rw o T) sb dy tn mo jk) := by simpa only [← hT, up_self] using hG
  unfold F_X1_write at hE
  refine lv_iload_n hx hb dX1_write_0 rfl (lv_at hl 1 rfl) ?_
  refine lv_if_lt (tgt := 10) hx hb dX1_write_1 (by decide) (fun c_1 => ?_) (fun c_1 => ?_)
  · replace hE := (if_pos c_1).symm.trans hE
    have i_1 : p1.toInt < 0 := i_lt.mp c_1
    subst hQ
    exact g_vret hx hb hr hlocks hG ((T) : Ob) rfl hE.symm dX1_write_10
  replace hE := (if_neg c_1).symm.trans hE
  have i_1 : 0 ≤ p1.toInt := i_nlt c_1
  refine lv_iload_n hx hb dX1_write_4 rfl (lv_at hl 1 rfl) ?_
  refine lv_bipush (v := 40) hx hb dX1_write_5 (by decide) ?_
  refine lv_icmp_lt (tgt := 11) hx hb dX1_write_7 (by decide) (fun c_7 => ?_) (fun c_7 => ?_)
  · replace hE := (if_pos c_7).symm.trans hE
    have i_7 : p1.toInt < 40 := i_lt.mp c_7
    refine lv_aload_n hx hb dX1_write_11 rfl (lv_at hl 0 rfl) ?_
    refine g_get hx hb hts hiX1 hown hG (gw_Row ho (up_same _ _ _)) rfl 0 (by decide) (index := 9) tw_fl_RX1_9 (v := .ref (gA g (27 + 2 * o + 1))) rfl dX1_write_12 ?_
    refine lv_iload_n hx hb dX1_write_15 rfl (lv_at hl 1 rfl) ?_
    refine lv_aload_n hx hb dX1_write_16 rfl (lv_at hl 0 rfl) ?_
    refine g_get hx hb hts hiX1 hown hG (gw_Row ho (up_same _ _ _)) rfl 1 (by decide) (index := 15) tw_fl_RX1_15 (v := .int (T.1 1)) rfl dX1_write_17 ?_
    have J42 : ∀ (z2_42 : Int32) (H : Heap) (locs : List Loc), gS g A s H locs (gW g bb tx (va_up rw o T) sb dy tn mo jk) → ∀ ls : Array Slot, lv_has ls 3 [] → F_X1_write_b42   T p1 z2_42 = EE → W p l e (rmL 1) s m [.ref (gA g (27 + 2 * o)), .int p1, .int p2].toArray below meth c H locs 0 0 Q (F0 m 42 ls [.int z2_42, .int p1, .ref (gA g (27 + 2 * o + 1))]) := by
      intro z2_42 H locs hG ls hl  hE
      unfold F_X1_write_b42 at hE
      refine g_ist hx hb hG (gw_Row_a0 ho (up_same _ _ _)) (vp_i (by clear hE; omega) (by clear hE; omega)) (gt_Row_a0 ho) dX1_write_42 (fun H locs hG => ?_)
      subst hQ
      exact g_vret hx hb hr hlocks hG (((stA T 0 p1 z2_42)) : Ob) rfl hE.symm dX1_write_43
    refine lv_if_ne (tgt := 28) hx hb dX1_write_20 (by decide) (fun c_20 => ?_) (fun c_20 => ?_)
    · replace hE := (if_neg c_20).symm.trans hE
      have i_20 : (T.1 1).toInt ≠ 0 := fun h => c_20 (Int32.toInt_inj.mp h)
      refine lv_aload_n hx hb dX1_write_28 rfl (lv_at hl 0 rfl) ?_
      refine g_get hx hb hts hiX1 hown hG (gw_Row ho (up_same _ _ _)) rfl 1 (by decide) (index := 15) tw_fl_RX1_15 (v := .int (T.1 1)) rfl dX1_write_29 ?_
      refine lv_iconst (v := 1) hx hb dX1_write_32 (by decide) ?_
      refine lv_icmp_ne (tgt := 41) hx hb dX1_write_33 (by decide) (fun c_33 => ?_) (fun c_33 => ?_)
      · replace hE := (if_neg c_33).symm.trans hE
        have i_33 : (T.1 1).toInt ≠ 1 := fun h => c_33 (Int32.toInt_inj.mp h)
        refine lv_iload_n hx hb dX1_write_41 rfl (lv_at hl 2 rfl) ?_
        exact J42 p2 _ _ hG _ (lv_sub hl [] rfl) hE
      replace hE := (if_pos c_33).symm.trans hE
      have i_33 : (T.1 1).toInt = 1 := congrArg Int32.toInt c_33
      refine lv_iload_n hx hb dX1_write_36 rfl (lv_at hl 2 rfl) ?_
      refine lv_i2s (v := (Int16.toInt32 (Int32.toInt16 p2))) hx hb dX1_write_37 rfl ?_
      refine lv_goto (tgt := 42) hx hb dX1_write_38 (by decide) ?_
      exact J42 (Int16.toInt32 (Int32.toInt16 p2)) _ _ hG _ (lv_sub hl [] rfl) hE
    replace hE := (if_pos c_20).symm.trans hE
    have i_20 : (T.1 1).toInt = 0 := congrArg Int32.toInt c_20
    refine lv_iload_n hx hb dX1_write_23 rfl (lv_at hl 2 rfl) ?_
    refine lv_i2b (v := (Int8.toInt32 (Int32.toInt8 p2))) hx hb dX1_write_24 rfl ?_
    refine lv_goto (tgt := 42) hx hb dX1_write_25 (by decide) ?_
    exact J42 (Int8.toInt32 (Int32.toInt8 p2)) _ _ hG _ (lv_sub hl [] rfl) hE
  replace hE := (if_neg c_7).symm.trans hE
  have i_7 : 40 ≤ p1.toInt := i_nlt c_7
  subst hQ
  exact g_vret hx hb hr hlocks hG ((T) : Ob) rfl hE.symm dX1_write_10
def F_X0_hoursOf_b23 (K4 : Ob → Int32 → Int32 → Int32 → Int32) (dy : Ob) (x1 : Int32) (x2 : Int32) (x3 : Int32) : Int32 :=
  (K4 dy x1 x2 (x3 + 1))
def F_X0_hoursOf_l4 : Nat → Ob → Int32 → Int32 → Int32 → Int32
  | 0, _, _, _, _ => 0
  | n + 1, dy, x1, x2, x3 =>
    (if 24 ≤ x3 then x2 else (if ((dy.2 0) (Int32.toNatClampNeg x3)) = x1 then (F_X0_hoursOf_b23 (F_X0_hoursOf_l4 n ) dy x1 (x2 + 1) x3) else (F_X0_hoursOf_b23 (F_X0_hoursOf_l4 n ) dy x1 x2 x3)))
def F_X0_hoursOf (dy : Ob) (p1 : Int32) : Int32 :=
  (F_X0_hoursOf_l4 25  dy p1 0 0)
set_option maxHeartbeats 4000000 in
set_option maxRecDepth 100000 in
theorem c_X0_hoursOf {l : Launch} {g : GG} {sz : Nat} {bb : Ob} {tx rw : Nat → Ob} {sb dy : Ob} {tn : Nat → Ob} {mo : Ob} {jk : Nat → Nat → Int32}  (p1 : Int32)  : Met l yX0_hoursOf (Cond.code yX0_hoursOf cX0_hoursOf 4 (some .int) :: TT) (rmL 1) (va_Pc [.ref (gA g 37), .int p1] (gB g sz (gW g bb tx rw sb dy tn mo jk))) (va_Qi (fun r (_ : Unit) => r = (F_X0_hoursOf dy p1)) (fun u t => gC g (va_A (gW g bb tx rw sb dy tn mo jk) sz) (gW g bb tx rw sb dy tn mo jk) t) (va_A (gW g bb tx rw sb dy tn mo jk) sz)) 0 0 (va_A (gW g bb tx rw sb dy tn mo jk) sz) := by
  generalize hE : F_X0_hoursOf dy p1 = EE
  refine g_of (Qf := fun A => (va_Qi (fun r (_ : Unit) => r = EE) (fun u t => gC g A (gW g bb tx rw sb dy tn mo jk) t) A)) (cc := cX0_hoursOf) (maxL := 4) (ret := (some .int)) (by decide) (Nat.le_of_ble_eq_true rfl) ?_
  intro p e s m below meth c A ls hx hb hml hr hlocks hts hown hA hG hl
  replace hown : s.vm.findClass RX0 = some m.cls := hown
  replace hl : lv_has ls 4 [(0, .ref (gA g 37)), (1, .int p1)] := hl
  show W p l e (rmL 1) s m [.ref (gA g 37), .int p1].toArray below meth c s.heap [] 0 0 (MQ below (va_Qi (fun r (_ : Unit) => r = EE) (fun u t => gC g A (gW g bb tx rw sb dy tn mo jk) t) A) [.ref (gA g 37), .int p1].toArray s 0 0 A) (F0 m 0 ls [])
  generalize hQ : MQ below (va_Qi (fun r (_ : Unit) => r = EE) (fun u t => gC g A (gW g bb tx rw sb dy tn mo jk) t) A) [.ref (gA g 37), .int p1].toArray s 0 0 A = Q
  unfold F_X0_hoursOf at hE
  refine lv_iconst (v := 0) hx hb dX0_hoursOf_0 (by decide) ?_
  refine lv_istore_n (lv' := [(2, .int 0), (0, .ref (gA g 37)), (1, .int p1)]) hx hb dX0_hoursOf_1 rfl hl (by decide) rfl (fun ls hl => ?_)
  replace hl := lv_sub hl [1, 2, 0] (l' := [(0, .ref (gA g 37)), (1, .int p1), (2, .int 0)]) rfl
  refine lv_iconst (v := 0) hx hb dX0_hoursOf_2 (by decide) ?_
  refine lv_istore_n (lv' := [(3, .int 0), (0, .ref (gA g 37)), (1, .int p1), (2, .int 0)]) hx hb dX0_hoursOf_3 rfl hl (by decide) rfl (fun ls hl => ?_)
  replace hl := lv_sub hl [1, 2, 3, 0] (l' := [(0, .ref (gA g 37)), (1, .int p1), (2, .int 0), (3, .int 0)]) rfl
  have L4 : ∀ (n : Nat) (x2_4 : Int32) (x3_4 : Int32) (H : Heap) (locs : List Loc), gS g A s H locs (gW g bb tx rw sb dy tn mo jk) → ∀ ls : Array Slot, lv_has ls 4 [(0, .ref (gA g 37)), (1, .int p1), (2, .int x2_4), (3, .int x3_4)] → 0 ≤ x3_4.toInt → x3_4.toInt ≤ 24 → 24 < x3_4.toInt + n → F_X0_hoursOf_l4 n  dy p1 x2_4 x3_4 = EE → W p l e (rmL 1) s m [.ref (gA g 37), .int p1].toArray below meth c H locs 0 0 Q (F0 m 4 ls []) := by
    intro n
    induction n with
    | zero =>
      intro x2_4 x3_4 H locs hG ls hl h0_4 h1_4 hm_4 hE
      omega
    | succ n ih4 =>
      intro x2_4 x3_4 H locs hG ls hl h0_4 h1_4 hm_4 hE
      unfold F_X0_hoursOf_l4 at hE
      refine lv_iload_n hx hb dX0_hoursOf_4 rfl (lv_at hl 3 rfl) ?_
      refine lv_bipush (v := 24) hx hb dX0_hoursOf_5 (by decide) ?_
      refine lv_icmp_ge (tgt := 29) hx hb dX0_hoursOf_7 (by decide) (fun c_7 => ?_) (fun c_7 => ?_)
      · replace hE := (if_pos c_7).symm.trans hE
        have i_7 : 24 ≤ x3_4.toInt := i_le.mp c_7
        refine lv_iload_n hx hb dX0_hoursOf_29 rfl (lv_at hl 2 rfl) ?_
        subst hQ
        exact g_iret hx hb hr hlocks hG () rfl hE dX0_hoursOf_30
      replace hE := (if_neg c_7).symm.trans hE
      have i_7 : x3_4.toInt < 24 := i_nle c_7
      refine lv_aload_n hx hb dX0_hoursOf_10 rfl (lv_at hl 0 rfl) ?_
      refine g_get hx hb hts hiX0 hown hG gw_Day rfl 0 (by decide) (index := 9) tw_fl_RX0_9 (v := .ref (gA g 38)) rfl dX0_hoursOf_11 ?_
      refine lv_iload_n hx hb dX0_hoursOf_14 rfl (lv_at hl 3 rfl) ?_
      refine g_ild hx hb hG gw_Day_a0 (vp_i (by clear hE; omega) (by clear hE; omega)) dX0_hoursOf_15 ?_
      refine lv_iload_n hx hb dX0_hoursOf_16 rfl (lv_at hl 1 rfl) ?_
      have J23 : ∀ (x2_23 : Int32) (H : Heap) (locs : List Loc), gS g A s H locs (gW g bb tx rw sb dy tn mo jk) → ∀ ls : Array Slot, lv_has ls 4 [(0, .ref (gA g 37)), (1, .int p1), (2, .int x2_23), (3, .int x3_4)] → F_X0_hoursOf_b23  (F_X0_hoursOf_l4 n ) dy p1 x2_23 x3_4 = EE → W p l e (rmL 1) s m [.ref (gA g 37), .int p1].toArray below meth c H locs 0 0 Q (F0 m 23 ls []) := by
        intro x2_23 H locs hG ls hl  hE
        unfold F_X0_hoursOf_b23 at hE
        refine lv_iinc (v := (x3_4 + 1)) (lv' := [(3, .int (x3_4 + 1)), (0, .ref (gA g 37)), (1, .int p1), (2, .int x2_23)]) hx hb dX0_hoursOf_23 hl (k := 3) rfl rfl (by decide) rfl (fun ls hl => ?_)
        replace hl := lv_sub hl [1, 2, 3, 0] (l' := [(0, .ref (gA g 37)), (1, .int p1), (2, .int x2_23), (3, .int (x3_4 + 1))]) rfl
        refine lv_goto (tgt := 4) hx hb dX0_hoursOf_26 (by decide) ?_
        have e1 : (x3_4 + 1).toInt = x3_4.toInt + 1 := addL (k := 1) (by decide +kernel) (by clear hE; omega) (by clear hE; omega)
        exact ih4 x2_23 (x3_4 + 1) _ _ hG _ (lv_sub hl [0, 1, 2, 3] rfl) (by clear hE; omega) (by clear hE; omega) (by clear hE; omega) hE
      refine lv_icmp_ne (tgt := 23) hx hb dX0_hoursOf_17 (by decide) (fun c_17 => ?_) (fun c_17 => ?_)
      · replace hE := (if_neg c_17).symm.trans hE
        have i_17 : ((dy.2 0) (Int32.toNatClampNeg x3_4)).toInt ≠ p1.toInt := fun h => c_17 (Int32.toInt_inj.mp h)
        exact J23 x2_4 _ _ hG _ (lv_sub hl [0, 1, 2, 3] rfl) hE
      replace hE := (if_pos c_17).symm.trans hE
      have i_17 : ((dy.2 0) (Int32.toNatClampNeg x3_4)).toInt = p1.toInt := congrArg Int32.toInt c_17
      refine lv_iinc (v := (x2_4 + 1)) (lv' := [(2, .int (x2_4 + 1)), (0, .ref (gA g 37)), (1, .int p1), (3, .int x3_4)]) hx hb dX0_hoursOf_20 hl (k := 2) rfl rfl (by decide) rfl (fun ls hl => ?_)
      replace hl := lv_sub hl [1, 2, 0, 3] (l' := [(0, .ref (gA g 37)), (1, .int p1), (2, .int (x2_4 + 1)), (3, .int x3_4)]) rfl
      exact J23 (x2_4 + 1) _ _ hG _ (lv_sub hl [0, 1, 2, 3] rfl) hE
  exact L4 25 0 0 _ _ hG _ (lv_sub hl [0, 1, 2, 3] rfl) (by decide) (by decide) (by decide) hE
def F_X0_hoursAlone_b27 (K4 : Ob → Int32 → Int32 → Int32) (dy : Ob) (x1 : Int32) (x2 : Int32) : Int32 :=
  (K4 dy x1 (x2 + 1))
def F_X0_hoursAlone_l4 : Nat → Ob → Int32 → Int32 → Int32
  | 0, _, _, _ => 0
  | n + 1, dy, x1, x2 =>
    (if 24 ≤ x2 then x1 else (if (F_X0_hoursOf dy ((dy.2 0) (Int32.toNatClampNeg x2))) = 1 then (F_X0_hoursAlone_b27 (F_X0_hoursAlone_l4 n ) dy (x1 + 1) x2) else (F_X0_hoursAlone_b27 (F_X0_hoursAlone_l4 n ) dy x1 x2)))
def F_X0_hoursAlone (dy : Ob) : Int32 :=
  (F_X0_hoursAlone_l4 25  dy 0 0)
set_option maxHeartbeats 4000000 in
set_option maxRecDepth 100000 in
theorem c_X0_hoursAlone {l : Launch} {g : GG} {sz : Nat} {bb : Ob} {tx rw : Nat → Ob} {sb dy : Ob} {tn : Nat → Ob} {mo : Ob} {jk : Nat → Nat → Int32}    : Met l yX0_hoursAlone (Cond.code yX0_hoursAlone cX0_hoursAlone 3 (some .int) :: TT) (rmL 2) (va_Pc [.ref (gA g 37)] (gB g sz (gW g bb tx rw sb dy tn mo jk))) (va_Qi (fun r (_ : Unit) => r = (F_X0_hoursAlone dy)) (fun u t => gC g (va_A (gW g bb tx rw sb dy tn mo jk) sz) (gW g bb tx rw sb dy tn mo jk) t) (va_A (gW g bb tx rw sb dy tn mo jk) sz)) 0 0 (va_A (gW g bb tx rw sb dy tn mo jk) sz) := by
  generalize hE : F_X0_hoursAlone dy = EE
  refine g_of (Qf := fun A => (va_Qi (fun r (_ : Unit) => r = EE) (fun u t => gC g A (gW g bb tx rw sb dy tn mo jk) t) A)) (cc := cX0_hoursAlone) (maxL := 3) (ret := (some .int)) (by decide) (Nat.le_of_ble_eq_true rfl) ?_
  intro p e s m below meth c A ls hx hb hml hr hlocks hts hown hA hG hl
  replace hown : s.vm.findClass RX0 = some m.cls := hown
  replace hl : lv_has ls 3 [(0, .ref (gA g 37))] := hl
  show W p l e (rmL 2) s m [.ref (gA g 37)].toArray below meth c s.heap [] 0 0 (MQ below (va_Qi (fun r (_ : Unit) => r = EE) (fun u t => gC g A (gW g bb tx rw sb dy tn mo jk) t) A) [.ref (gA g 37)].toArray s 0 0 A) (F0 m 0 ls [])
  generalize hQ : MQ below (va_Qi (fun r (_ : Unit) => r = EE) (fun u t => gC g A (gW g bb tx rw sb dy tn mo jk) t) A) [.ref (gA g 37)].toArray s 0 0 A = Q
  unfold F_X0_hoursAlone at hE
  refine lv_iconst (v := 0) hx hb dX0_hoursAlone_0 (by decide) ?_
  refine lv_istore_n (lv' := [(1, .int 0), (0, .ref (gA g 37))]) hx hb dX0_hoursAlone_1 rfl hl (by decide) rfl (fun ls hl => ?_)
  replace hl := lv_sub hl [1, 0] (l' := [(0, .ref (gA g 37)), (1, .int 0)]) rfl
  refine lv_iconst (v := 0) hx hb dX0_hoursAlone_2 (by decide) ?_
  refine lv_istore_n (lv' := [(2, .int 0), (0, .ref (gA g 37)), (1, .int 0)]) hx hb dX0_hoursAlone_3 rfl hl (by decide) rfl (fun ls hl => ?_)
  replace hl := lv_sub hl [1, 2, 0] (l' := [(0, .ref (gA g 37)), (1, .int 0), (2, .int 0)]) rfl
  have L4 : ∀ (n : Nat) (x1_4 : Int32) (x2_4 : Int32) (H : Heap) (locs : List Loc), gS g A s H locs (gW g bb tx rw sb dy tn mo jk) → ∀ ls : Array Slot, lv_has ls 3 [(0, .ref (gA g 37)), (1, .int x1_4), (2, .int x2_4)] → 0 ≤ x2_4.toInt → x2_4.toInt ≤ 24 → 24 < x2_4.toInt + n → F_X0_hoursAlone_l4 n  dy x1_4 x2_4 = EE → W p l e (rmL 2) s m [.ref (gA g 37)].toArray below meth c H locs 0 0 Q (F0 m 4 ls []) := by
    intro n
    induction n with
    | zero =>
      intro x1_4 x2_4 H locs hG ls hl h0_4 h1_4 hm_4 hE
      omega
    | succ n ih4 =>
      intro x1_4 x2_4 H locs hG ls hl h0_4 h1_4 hm_4 hE
      unfold F_X0_hoursAlone_l4 at hE
      refine lv_iload_n hx hb dX0_hoursAlone_4 rfl (lv_at hl 2 rfl) ?_
      refine lv_bipush (v := 24) hx hb dX0_hoursAlone_5 (by decide) ?_
      refine lv_icmp_ge (tgt := 33) hx hb dX0_hoursAlone_7 (by decide) (fun c_7 => ?_) (fun c_7 => ?_)
      · replace hE := (if_pos c_7).symm.trans hE
        have i_7 : 24 ≤ x2_4.toInt := i_le.mp c_7
        refine lv_iload_n hx hb dX0_hoursAlone_33 rfl (lv_at hl 1 rfl) ?_
        subst hQ
        exact g_iret hx hb hr hlocks hG () rfl hE dX0_hoursAlone_34
      replace hE := (if_neg c_7).symm.trans hE
      have i_7 : x2_4.toInt < 24 := i_nle c_7
      refine lv_aload_n hx hb dX0_hoursAlone_10 rfl (lv_at hl 0 rfl) ?_
      refine lv_aload_n hx hb dX0_hoursAlone_11 rfl (lv_at hl 0 rfl) ?_
      refine g_get hx hb hts hiX0 hown hG gw_Day rfl 0 (by decide) (index := 9) tw_fl_RX0_9 (v := .ref (gA g 38)) rfl dX0_hoursAlone_12 ?_
      refine lv_iload_n hx hb dX0_hoursAlone_15 rfl (lv_at hl 2 rfl) ?_
      refine g_ild hx hb hG gw_Day_a0 (vp_i (by clear hE; omega) (by clear hE; omega)) dX0_hoursAlone_16 ?_
      refine g_ci (g_runV (n := 1) (rest := []) hx hb hml hown hts hG (c_X0_hoursOf ((dy.2 0) (Int32.toNatClampNeg x2_4))) tw_ml_RX0_27 tw_im_X0_hoursOf tw_se_X0_hoursOf tw_in_RX0 tw_cd_X0_hoursOf (by decide +kernel) ⟨rfl, rfl, Nat.le_of_ble_eq_true rfl, Nat.le_of_ble_eq_true rfl⟩ gw_Day rfl rfl hl.1 rfl (Nat.le_of_ble_eq_true rfl) dX0_hoursAlone_17 ⟨Nat.le_refl _, Nat.le_refl _⟩) hG hA (fun r _ H locs hp hG => ?_)
      subst hp
      replace hG : gS g A s H locs (gW g bb tx rw sb dy tn mo jk) := hG
      refine lv_iconst (v := 1) hx hb dX0_hoursAlone_20 (by decide) ?_
      have J27 : ∀ (x1_27 : Int32) (H : Heap) (locs : List Loc), gS g A s H locs (gW g bb tx rw sb dy tn mo jk) → ∀ ls : Array Slot, lv_has ls 3 [(0, .ref (gA g 37)), (1, .int x1_27), (2, .int x2_4)] → F_X0_hoursAlone_b27  (F_X0_hoursAlone_l4 n ) dy x1_27 x2_4 = EE → W p l e (rmL 2) s m [.ref (gA g 37)].toArray below meth c H locs 0 0 Q (F0 m 27 ls []) := by
        intro x1_27 H locs hG ls hl  hE
        unfold F_X0_hoursAlone_b27 at hE
        refine lv_iinc (v := (x2_4 + 1)) (lv' := [(2, .int (x2_4 + 1)), (0, .ref (gA g 37)), (1, .int x1_27)]) hx hb dX0_hoursAlone_27 hl (k := 2) rfl rfl (by decide) rfl (fun ls hl => ?_)
        replace hl := lv_sub hl [1, 2, 0] (l' := [(0, .ref (gA g 37)), (1, .int x1_27), (2, .int (x2_4 + 1))]) rfl
        refine lv_goto (tgt := 4) hx hb dX0_hoursAlone_30 (by decide) ?_
        have e1 : (x2_4 + 1).toInt = x2_4.toInt + 1 := addL (k := 1) (by decide +kernel) (by clear hE; omega) (by clear hE; omega)
        exact ih4 x1_27 (x2_4 + 1) _ _ hG _ (lv_sub hl [0, 1, 2] rfl) (by clear hE; omega) (by clear hE; omega) (by clear hE; omega) hE
      refine lv_icmp_ne (tgt := 27) hx hb dX0_hoursAlone_21 (by decide) (fun c_21 => ?_) (fun c_21 => ?_)
      · replace hE := (if_neg c_21).symm.trans hE
        exact J27 x1_4 _ _ hG _ (lv_sub hl [0, 1, 2] rfl) hE
      replace hE := (if_pos c_21).symm.trans hE
      refine lv_iinc (v := (x1_4 + 1)) (lv' := [(1, .int (x1_4 + 1)), (0, .ref (gA g 37)), (2, .int x2_4)]) hx hb dX0_hoursAlone_24 hl (k := 1) rfl rfl (by decide) rfl (fun ls hl => ?_)
      replace hl := lv_sub hl [1, 0, 2] (l' := [(0, .ref (gA g 37)), (1, .int (x1_4 + 1)), (2, .int x2_4)]) rfl
      exact J27 (x1_4 + 1) _ _ hG _ (lv_sub hl [0, 1, 2] rfl) hE
  exact L4 25 0 0 _ _ hG _ (lv_sub hl [0, 1, 2] rfl) (by decide) (by decide) (by decide) hE
def F_X0_longestRow_b36 (K6 : Ob → Int32 → Int32 → Int32 → Int32) (dy : Ob) (x1 : Int32) (x3 : Int32) (z0 : Int32) : Int32 :=
  (K6 dy (jmax x1 z0) z0 (x3 + 1))
def F_X0_longestRow_l6 : Nat → Ob → Int32 → Int32 → Int32 → Int32
  | 0, _, _, _, _ => 0
  | n + 1, dy, x1, x2, x3 =>
    (if 24 ≤ x3 then x1 else (if ((dy.2 0) (Int32.toNatClampNeg x3)) = ((dy.2 0) (Int32.toNatClampNeg (x3 - 1))) then (F_X0_longestRow_b36 (F_X0_longestRow_l6 n ) dy x1 x3 (x2 + 1)) else (F_X0_longestRow_b36 (F_X0_longestRow_l6 n ) dy x1 x3 1)))
def F_X0_longestRow (dy : Ob) : Int32 :=
  (F_X0_longestRow_l6 24  dy 1 1 1)
set_option maxHeartbeats 4000000 in
set_option maxRecDepth 100000 in
theorem c_X0_longestRow {l : Launch} {g : GG} {sz : Nat} {bb : Ob} {tx rw : Nat → Ob} {sb dy : Ob} {tn : Nat → Ob} {mo : Ob} {jk : Nat → Nat → Int32}    : Met l yX0_longestRow (Cond.code yX0_longestRow cX0_longestRow 4 (some .int) :: TT) (rmL 2) (va_Pc [.ref (gA g 37)] (gB g sz (gW g bb tx rw sb dy tn mo jk))) (va_Qi (fun r (_ : Unit) => r = (F_X0_longestRow dy)) (fun u t => gC g (va_A (gW g bb tx rw sb dy tn mo jk) sz) (gW g bb tx rw sb dy tn mo jk) t) (va_A (gW g bb tx rw sb dy tn mo jk) sz)) 0 0 (va_A (gW g bb tx rw sb dy tn mo jk) sz) := by
  generalize hE : F_X0_longestRow dy = EE
  refine g_of (Qf := fun A => (va_Qi (fun r (_ : Unit) => r = EE) (fun u t => gC g A (gW g bb tx rw sb dy tn mo jk) t) A)) (cc := cX0_longestRow) (maxL := 4) (ret := (some .int)) (by decide) (Nat.le_of_ble_eq_true rfl) ?_
  intro p e s m below meth c A ls hx hb hml hr hlocks hts hown hA hG hl
  replace hown : s.vm.findClass RX0 = some m.cls := hown
  replace hl : lv_has ls 4 [(0, .ref (gA g 37))] := hl
  show W p l e (rmL 2) s m [.ref (gA g 37)].toArray below meth c s.heap [] 0 0 (MQ below (va_Qi (fun r (_ : Unit) => r = EE) (fun u t => gC g A (gW g bb tx rw sb dy tn mo jk) t) A) [.ref (gA g 37)].toArray s 0 0 A) (F0 m 0 ls [])
  generalize hQ : MQ below (va_Qi (fun r (_ : Unit) => r = EE) (fun u t => gC g A (gW g bb tx rw sb dy tn mo jk) t) A) [.ref (gA g 37)].toArray s 0 0 A = Q
  unfold F_X0_longestRow at hE
  refine lv_iconst (v := 1) hx hb dX0_longestRow_0 (by decide) ?_
  refine lv_istore_n (lv' := [(1, .int 1), (0, .ref (gA g 37))]) hx hb dX0_longestRow_1 rfl hl (by decide) rfl (fun ls hl => ?_)
  replace hl := lv_sub hl [1, 0] (l' := [(0, .ref (gA g 37)), (1, .int 1)]) rfl
  refine lv_iconst (v := 1) hx hb dX0_longestRow_2 (by decide) ?_
  refine lv_istore_n (lv' := [(2, .int 1), (0, .ref (gA g 37)), (1, .int 1)]) hx hb dX0_longestRow_3 rfl hl (by decide) rfl (fun ls hl => ?_)
  replace hl := lv_sub hl [1, 2, 0] (l' := [(0, .ref (gA g 37)), (1, .int 1), (2, .int 1)]) rfl
  refine lv_iconst (v := 1) hx hb dX0_longestRow_4 (by decide) ?_
  refine lv_istore_n (lv' := [(3, .int 1), (0, .ref (gA g 37)), (1, .int 1), (2, .int 1)]) hx hb dX0_longestRow_5 rfl hl (by decide) rfl (fun ls hl => ?_)
  replace hl := lv_sub hl [1, 2, 3, 0] (l' := [(0, .ref (gA g 37)), (1, .int 1), (2, .int 1), (3, .int 1)]) rfl
  have L6 : ∀ (n : Nat) (x1_6 : Int32) (x2_6 : Int32) (x3_6 : Int32) (H : Heap) (locs : List Loc), gS g A s H locs (gW g bb tx rw sb dy tn mo jk) → ∀ ls : Array Slot, lv_has ls 4 [(0, .ref (gA g 37)), (1, .int x1_6), (2, .int x2_6), (3, .int x3_6)] → 1 ≤ x3_6.toInt → x3_6.toInt ≤ 24 → 24 < x3_6.toInt + n → F_X0_longestRow_l6 n  dy x1_6 x2_6 x3_6 = EE → W p l e (rmL 2) s m [.ref (gA g 37)].toArray below meth c H locs 0 0 Q (F0 m 6 ls []) := by
    intro n
    induction n with
    | zero =>
      intro x1_6 x2_6 x3_6 H locs hG ls hl h0_6 h1_6 hm_6 hE
      omega
    | succ n ih6 =>
      intro x1_6 x2_6 x3_6 H locs hG ls hl h0_6 h1_6 hm_6 hE
      unfold F_X0_longestRow_l6 at hE
      refine lv_iload_n hx hb dX0_longestRow_6 rfl (lv_at hl 3 rfl) ?_
      refine lv_bipush (v := 24) hx hb dX0_longestRow_7 (by decide) ?_
      refine lv_icmp_ge (tgt := 49) hx hb dX0_longestRow_9 (by decide) (fun c_9 => ?_) (fun c_9 => ?_)
      · replace hE := (if_pos c_9).symm.trans hE
        have i_9 : 24 ≤ x3_6.toInt := i_le.mp c_9
        refine lv_iload_n hx hb dX0_longestRow_49 rfl (lv_at hl 1 rfl) ?_
        subst hQ
        exact g_iret hx hb hr hlocks hG () rfl hE dX0_longestRow_50
      replace hE := (if_neg c_9).symm.trans hE
      have i_9 : x3_6.toInt < 24 := i_nle c_9
      refine lv_aload_n hx hb dX0_longestRow_12 rfl (lv_at hl 0 rfl) ?_
      refine g_get hx hb hts hiX0 hown hG gw_Day rfl 0 (by decide) (index := 9) tw_fl_RX0_9 (v := .ref (gA g 38)) rfl dX0_longestRow_13 ?_
      refine lv_iload_n hx hb dX0_longestRow_16 rfl (lv_at hl 3 rfl) ?_
      refine g_ild hx hb hG gw_Day_a0 (vp_i (by clear hE; omega) (by clear hE; omega)) dX0_longestRow_17 ?_
      refine lv_aload_n hx hb dX0_longestRow_18 rfl (lv_at hl 0 rfl) ?_
      refine g_get hx hb hts hiX0 hown hG gw_Day rfl 0 (by decide) (index := 9) tw_fl_RX0_9 (v := .ref (gA g 38)) rfl dX0_longestRow_19 ?_
      refine lv_iload_n hx hb dX0_longestRow_22 rfl (lv_at hl 3 rfl) ?_
      refine lv_iconst (v := 1) hx hb dX0_longestRow_23 (by decide) ?_
      refine lv_isub hx hb dX0_longestRow_24 ?_
      have e1 : (x3_6 - 1).toInt = x3_6.toInt - 1 := subL (k := 1) (by decide +kernel) (by clear hE; omega) (by clear hE; omega)
      refine g_ild hx hb hG gw_Day_a0 (vp_i (by clear hE; omega) (by clear hE; omega)) dX0_longestRow_25 ?_
      have J36 : ∀ (z0_36 : Int32) (H : Heap) (locs : List Loc), gS g A s H locs (gW g bb tx rw sb dy tn mo jk) → ∀ ls : Array Slot, lv_has ls 4 [(0, .ref (gA g 37)), (1, .int x1_6), (3, .int x3_6)] → F_X0_longestRow_b36  (F_X0_longestRow_l6 n ) dy x1_6 x3_6 z0_36 = EE → W p l e (rmL 2) s m [.ref (gA g 37)].toArray below meth c H locs 0 0 Q (F0 m 36 ls [.int z0_36]) := by
        intro z0_36 H locs hG ls hl  hE
        unfold F_X0_longestRow_b36 at hE
        refine lv_istore_n (lv' := [(2, .int z0_36), (0, .ref (gA g 37)), (1, .int x1_6), (3, .int x3_6)]) hx hb dX0_longestRow_36 rfl hl (by decide) rfl (fun ls hl => ?_)
        replace hl := lv_sub hl [1, 2, 0, 3] (l' := [(0, .ref (gA g 37)), (1, .int x1_6), (2, .int z0_36), (3, .int x3_6)]) rfl
        refine lv_iload_n hx hb dX0_longestRow_37 rfl (lv_at hl 1 rfl) ?_
        refine lv_iload_n hx hb dX0_longestRow_38 rfl (lv_at hl 2 rfl) ?_
        refine g_max hx hb hml hl.1 hts hown tw_ml_RX0_30 tw_st_Mmax tw_in_RJ9 tw_cd_Mmax (Nat.le_of_ble_eq_true rfl) (Nat.le_of_ble_eq_true rfl) dX0_longestRow_39 (kk := ?_)
        refine lv_istore_n (lv' := [(1, .int (jmax x1_6 z0_36)), (0, .ref (gA g 37)), (2, .int z0_36), (3, .int x3_6)]) hx hb dX0_longestRow_42 rfl hl (by decide) rfl (fun ls hl => ?_)
        replace hl := lv_sub hl [1, 0, 2, 3] (l' := [(0, .ref (gA g 37)), (1, .int (jmax x1_6 z0_36)), (2, .int z0_36), (3, .int x3_6)]) rfl
        refine lv_iinc (v := (x3_6 + 1)) (lv' := [(3, .int (x3_6 + 1)), (0, .ref (gA g 37)), (1, .int (jmax x1_6 z0_36)), (2, .int z0_36)]) hx hb dX0_longestRow_43 hl (k := 3) rfl rfl (by decide) rfl (fun ls hl => ?_)
        replace hl := lv_sub hl [1, 2, 3, 0] (l' := [(0, .ref (gA g 37)), (1, .int (jmax x1_6 z0_36)), (2, .int z0_36), (3, .int (x3_6 + 1))]) rfl
        refine lv_goto (tgt := 6) hx hb dX0_longestRow_46 (by decide) ?_
        have e2 : (x3_6 + 1).toInt = x3_6.toInt + 1 := addL (k := 1) (by decide +kernel) (by clear hE; omega) (by clear hE; omega)
        exact ih6 (jmax x1_6 z0_36) z0_36 (x3_6 + 1) _ _ hG _ (lv_sub hl [0, 1, 2, 3] rfl) (by clear hE; omega) (by clear hE; omega) (by clear hE; omega) hE
      refine lv_icmp_ne (tgt := 35) hx hb dX0_longestRow_26 (by decide) (fun c_26 => ?_) (fun c_26 => ?_)
      · replace hE := (if_neg c_26).symm.trans hE
        have i_26 : ((dy.2 0) (Int32.toNatClampNeg x3_6)).toInt ≠ ((dy.2 0) (Int32.toNatClampNeg (x3_6 - 1))).toInt := fun h => c_26 (Int32.toInt_inj.mp h)
        refine lv_iconst (v := 1) hx hb dX0_longestRow_35 (by decide) ?_
        exact J36 1 _ _ hG _ (lv_sub hl [0, 1, 3] rfl) hE
      replace hE := (if_pos c_26).symm.trans hE
      have i_26 : ((dy.2 0) (Int32.toNatClampNeg x3_6)).toInt = ((dy.2 0) (Int32.toNatClampNeg (x3_6 - 1))).toInt := congrArg Int32.toInt c_26
      refine lv_iload_n hx hb dX0_longestRow_29 rfl (lv_at hl 2 rfl) ?_
      refine lv_iconst (v := 1) hx hb dX0_longestRow_30 (by decide) ?_
      refine lv_iadd hx hb dX0_longestRow_31 ?_
      refine lv_goto (tgt := 36) hx hb dX0_longestRow_32 (by decide) ?_
      exact J36 (x2_6 + 1) _ _ hG _ (lv_sub hl [0, 1, 3] rfl) hE
  exact L6 24 1 1 1 _ _ hG _ (lv_sub hl [0, 1, 2, 3] rfl) (by decide) (by decide) (by decide) hE
def F_X0_mostStrikes_l4 : Nat → Ob → Int32 → Int32 → Int32
  | 0, _, _, _ => 0
  | n + 1, dy, x1, x2 =>
    (if 24 ≤ x2 then x1 else ((F_X0_mostStrikes_l4 n ) dy (jmax x1 ((dy.2 0) (Int32.toNatClampNeg x2))) (x2 + 1)))
def F_X0_mostStrikes (dy : Ob) : Int32 :=
  (F_X0_mostStrikes_l4 25  dy 0 0)
set_option maxHeartbeats 4000000 in
set_option maxRecDepth 100000 in
theorem c_X0_mostStrikes {l : Launch} {g : GG} {sz : Nat} {bb : Ob} {tx rw : Nat → Ob} {sb dy : Ob} {tn : Nat → Ob} {mo : Ob} {jk : Nat → Nat → Int32}    : Met l yX0_mostStrikes (Cond.code yX0_mostStrikes cX0_mostStrikes 3 (some .int) :: TT) (rmL 2) (va_Pc [.ref (gA g 37)] (gB g sz (gW g bb tx rw sb dy tn mo jk))) (va_Qi (fun r (_ : Unit) => r = (F_X0_mostStrikes dy)) (fun u t => gC g (va_A (gW g bb tx rw sb dy tn mo jk) sz) (gW g bb tx rw sb dy tn mo jk) t) (va_A (gW g bb tx rw sb dy tn mo jk) sz)) 0 0 (va_A (gW g bb tx rw sb dy tn mo jk) sz) := by
  generalize hE : F_X0_mostStrikes dy = EE
  refine g_of (Qf := fun A => (va_Qi (fun r (_ : Unit) => r = EE) (fun u t => gC g A (gW g bb tx rw sb dy tn mo jk) t) A)) (cc := cX0_mostStrikes) (maxL := 3) (ret := (some .int)) (by decide) (Nat.le_of_ble_eq_true rfl) ?_
  intro p e s m below meth c A ls hx hb hml hr hlocks hts hown hA hG hl
  replace hown : s.vm.findClass RX0 = some m.cls := hown
  replace hl : lv_has ls 3 [(0, .ref (gA g 37))] := hl
  show W p l e (rmL 2) s m [.ref (gA g 37)].toArray below meth c s.heap [] 0 0 (MQ below (va_Qi (fun r (_ : Unit) => r = EE) (fun u t => gC g A (gW g bb tx rw sb dy tn mo jk) t) A) [.ref (gA g 37)].toArray s 0 0 A) (F0 m 0 ls [])
  generalize hQ : MQ below (va_Qi (fun r (_ : Unit) => r = EE) (fun u t => gC g A (gW g bb tx rw sb dy tn mo jk) t) A) [.ref (gA g 37)].toArray s 0 0 A = Q
  unfold F_X0_mostStrikes at hE
  refine lv_iconst (v := 0) hx hb dX0_mostStrikes_0 (by decide) ?_
  refine lv_istore_n (lv' := [(1, .int 0), (0, .ref (gA g 37))]) hx hb dX0_mostStrikes_1 rfl hl (by decide) rfl (fun ls hl => ?_)
  replace hl := lv_sub hl [1, 0] (l' := [(0, .ref (gA g 37)), (1, .int 0)]) rfl
  refine lv_iconst (v := 0) hx hb dX0_mostStrikes_2 (by decide) ?_
  refine lv_istore_n (lv' := [(2, .int 0), (0, .ref (gA g 37)), (1, .int 0)]) hx hb dX0_mostStrikes_3 rfl hl (by decide) rfl (fun ls hl => ?_)
  replace hl := lv_sub hl [1, 2, 0] (l' := [(0, .ref (gA g 37)), (1, .int 0), (2, .int 0)]) rfl
  have L4 : ∀ (n : Nat) (x1_4 : Int32) (x2_4 : Int32) (H : Heap) (locs : List Loc), gS g A s H locs (gW g bb tx rw sb dy tn mo jk) → ∀ ls : Array Slot, lv_has ls 3 [(0, .ref (gA g 37)), (1, .int x1_4), (2, .int x2_4)] → 0 ≤ x2_4.toInt → x2_4.toInt ≤ 24 → 24 < x2_4.toInt + n → F_X0_mostStrikes_l4 n  dy x1_4 x2_4 = EE → W p l e (rmL 2) s m [.ref (gA g 37)].toArray below meth c H locs 0 0 Q (F0 m 4 ls []) := by
    intro n
    induction n with
    | zero =>
      intro x1_4 x2_4 H locs hG ls hl h0_4 h1_4 hm_4 hE
      omega
    | succ n ih4 =>
      intro x1_4 x2_4 H locs hG ls hl h0_4 h1_4 hm_4 hE
      unfold F_X0_mostStrikes_l4 at hE
      refine lv_iload_n hx hb dX0_mostStrikes_4 rfl (lv_at hl 2 rfl) ?_
      refine lv_bipush (v := 24) hx hb dX0_mostStrikes_5 (by decide) ?_
      refine lv_icmp_ge (tgt := 27) hx hb dX0_mostStrikes_7 (by decide) (fun c_7 => ?_) (fun c_7 => ?_)
      · replace hE := (if_pos c_7).symm.trans hE
        have i_7 : 24 ≤ x2_4.toInt := i_le.mp c_7
        refine lv_iload_n hx hb dX0_mostStrikes_27 rfl (lv_at hl 1 rfl) ?_
        subst hQ
        exact g_iret hx hb hr hlocks hG () rfl hE dX0_mostStrikes_28
      replace hE := (if_neg c_7).symm.trans hE
      have i_7 : x2_4.toInt < 24 := i_nle c_7
      refine lv_iload_n hx hb dX0_mostStrikes_10 rfl (lv_at hl 1 rfl) ?_
      refine lv_aload_n hx hb dX0_mostStrikes_11 rfl (lv_at hl 0 rfl) ?_
      refine g_get hx hb hts hiX0 hown hG gw_Day rfl 0 (by decide) (index := 9) tw_fl_RX0_9 (v := .ref (gA g 38)) rfl dX0_mostStrikes_12 ?_
      refine lv_iload_n hx hb dX0_mostStrikes_15 rfl (lv_at hl 2 rfl) ?_
      refine g_ild hx hb hG gw_Day_a0 (vp_i (by clear hE; omega) (by clear hE; omega)) dX0_mostStrikes_16 ?_
      refine g_max hx hb hml hl.1 hts hown tw_ml_RX0_30 tw_st_Mmax tw_in_RJ9 tw_cd_Mmax (Nat.le_of_ble_eq_true rfl) (Nat.le_of_ble_eq_true rfl) dX0_mostStrikes_17 (kk := ?_)
      refine lv_istore_n (lv' := [(1, .int (jmax x1_4 ((dy.2 0) (Int32.toNatClampNeg x2_4)))), (0, .ref (gA g 37)), (2, .int x2_4)]) hx hb dX0_mostStrikes_20 rfl hl (by decide) rfl (fun ls hl => ?_)
      replace hl := lv_sub hl [1, 0, 2] (l' := [(0, .ref (gA g 37)), (1, .int (jmax x1_4 ((dy.2 0) (Int32.toNatClampNeg x2_4)))), (2, .int x2_4)]) rfl
      refine lv_iinc (v := (x2_4 + 1)) (lv' := [(2, .int (x2_4 + 1)), (0, .ref (gA g 37)), (1, .int (jmax x1_4 ((dy.2 0) (Int32.toNatClampNeg x2_4))))]) hx hb dX0_mostStrikes_21 hl (k := 2) rfl rfl (by decide) rfl (fun ls hl => ?_)
      replace hl := lv_sub hl [1, 2, 0] (l' := [(0, .ref (gA g 37)), (1, .int (jmax x1_4 ((dy.2 0) (Int32.toNatClampNeg x2_4)))), (2, .int (x2_4 + 1))]) rfl
      refine lv_goto (tgt := 4) hx hb dX0_mostStrikes_24 (by decide) ?_
      have e1 : (x2_4 + 1).toInt = x2_4.toInt + 1 := addL (k := 1) (by decide +kernel) (by clear hE; omega) (by clear hE; omega)
      exact ih4 (jmax x1_4 ((dy.2 0) (Int32.toNatClampNeg x2_4))) (x2_4 + 1) _ _ hG _ (lv_sub hl [0, 1, 2] rfl) (by clear hE; omega) (by clear hE; omega) (by clear hE; omega) hE
  exact L4 25 0 0 _ _ hG _ (lv_sub hl [0, 1, 2] rfl) (by decide) (by decide) (by decide) hE
def F_X0_firstOf_l2 : Nat → Ob → Int32 → Int32 → Int32
  | 0, _, _, _ => 0
  | n + 1, dy, x1, x2 =>
    (if 24 ≤ x2 then (-1) else (if ((dy.2 0) (Int32.toNatClampNeg x2)) = x1 then x2 else ((F_X0_firstOf_l2 n ) dy x1 (x2 + 1))))
def F_X0_firstOf (dy : Ob) (p1 : Int32) : Int32 :=
  (F_X0_firstOf_l2 25  dy p1 0)
set_option maxHeartbeats 4000000 in
set_option maxRecDepth 100000 in
theorem c_X0_firstOf {l : Launch} {g : GG} {sz : Nat} {bb : Ob} {tx rw : Nat → Ob} {sb dy : Ob} {tn : Nat → Ob} {mo : Ob} {jk : Nat → Nat → Int32}  (p1 : Int32)  : Met l yX0_firstOf (Cond.code yX0_firstOf cX0_firstOf 3 (some .int) :: TT) (rmL 1) (va_Pc [.ref (gA g 37), .int p1] (gB g sz (gW g bb tx rw sb dy tn mo jk))) (va_Qi (fun r (_ : Unit) => r = (F_X0_firstOf dy p1)) (fun u t => gC g (va_A (gW g bb tx rw sb dy tn mo jk) sz) (gW g bb tx rw sb dy tn mo jk) t) (va_A (gW g bb tx rw sb dy tn mo jk) sz)) 0 0 (va_A (gW g bb tx rw sb dy tn mo jk) sz) := by
  generalize hE : F_X0_firstOf dy p1 = EE
  refine g_of (Qf := fun A => (va_Qi (fun r (_ : Unit) => r = EE) (fun u t => gC g A (gW g bb tx rw sb dy tn mo jk) t) A)) (cc := cX0_firstOf) (maxL := 3) (ret := (some .int)) (by decide) (Nat.le_of_ble_eq_true rfl) ?_
  intro p e s m below meth c A ls hx hb hml hr hlocks hts hown hA hG hl
  replace hown : s.vm.findClass RX0 = some m.cls := hown
  replace hl : lv_has ls 3 [(0, .ref (gA g 37)), (1, .int p1)] := hl
  show W p l e (rmL 1) s m [.ref (gA g 37), .int p1].toArray below meth c s.heap [] 0 0 (MQ below (va_Qi (fun r (_ : Unit) => r = EE) (fun u t => gC g A (gW g bb tx rw sb dy tn mo jk) t) A) [.ref (gA g 37), .int p1].toArray s 0 0 A) (F0 m 0 ls [])
  generalize hQ : MQ below (va_Qi (fun r (_ : Unit) => r = EE) (fun u t => gC g A (gW g bb tx rw sb dy tn mo jk) t) A) [.ref (gA g 37), .int p1].toArray s 0 0 A = Q
  unfold F_X0_firstOf at hE
  refine lv_iconst (v := 0) hx hb dX0_firstOf_0 (by decide) ?_
  refine lv_istore_n (lv' := [(2, .int 0), (0, .ref (gA g 37)), (1, .int p1)]) hx hb dX0_firstOf_1 rfl hl (by decide) rfl (fun ls hl => ?_)
  replace hl := lv_sub hl [1, 2, 0] (l' := [(0, .ref (gA g 37)), (1, .int p1), (2, .int 0)]) rfl
  have L2 : ∀ (n : Nat) (x2_2 : Int32) (H : Heap) (locs : List Loc), gS g A s H locs (gW g bb tx rw sb dy tn mo jk) → ∀ ls : Array Slot, lv_has ls 3 [(0, .ref (gA g 37)), (1, .int p1), (2, .int x2_2)] → 0 ≤ x2_2.toInt → x2_2.toInt ≤ 24 → 24 < x2_2.toInt + n → F_X0_firstOf_l2 n  dy p1 x2_2 = EE → W p l e (rmL 1) s m [.ref (gA g 37), .int p1].toArray below meth c H locs 0 0 Q (F0 m 2 ls []) := by
    intro n
    induction n with
    | zero =>
      intro x2_2 H locs hG ls hl h0_2 h1_2 hm_2 hE
      omega
    | succ n ih2 =>
      intro x2_2 H locs hG ls hl h0_2 h1_2 hm_2 hE
      unfold F_X0_firstOf_l2 at hE
      refine lv_iload_n hx hb dX0_firstOf_2 rfl (lv_at hl 2 rfl) ?_
      refine lv_bipush (v := 24) hx hb dX0_firstOf_3 (by decide) ?_
      refine lv_icmp_ge (tgt := 26) hx hb dX0_firstOf_5 (by decide) (fun c_5 => ?_) (fun c_5 => ?_)
      · replace hE := (if_pos c_5).symm.trans hE
        have i_5 : 24 ≤ x2_2.toInt := i_le.mp c_5
        refine lv_iconst (v := (-1)) hx hb dX0_firstOf_26 (by decide) ?_
        subst hQ
        exact g_iret hx hb hr hlocks hG () rfl hE dX0_firstOf_27
      replace hE := (if_neg c_5).symm.trans hE
      have i_5 : x2_2.toInt < 24 := i_nle c_5
      refine lv_aload_n hx hb dX0_firstOf_8 rfl (lv_at hl 0 rfl) ?_
      refine g_get hx hb hts hiX0 hown hG gw_Day rfl 0 (by decide) (index := 9) tw_fl_RX0_9 (v := .ref (gA g 38)) rfl dX0_firstOf_9 ?_
      refine lv_iload_n hx hb dX0_firstOf_12 rfl (lv_at hl 2 rfl) ?_
      refine g_ild hx hb hG gw_Day_a0 (vp_i (by clear hE; omega) (by clear hE; omega)) dX0_firstOf_13 ?_
      refine lv_iload_n hx hb dX0_firstOf_14 rfl (lv_at hl 1 rfl) ?_
      refine lv_icmp_ne (tgt := 20) hx hb dX0_firstOf_15 (by decide) (fun c_15 => ?_) (fun c_15 => ?_)
      · replace hE := (if_neg c_15).symm.trans hE
        have i_15 : ((dy.2 0) (Int32.toNatClampNeg x2_2)).toInt ≠ p1.toInt := fun h => c_15 (Int32.toInt_inj.mp h)
        refine lv_iinc (v := (x2_2 + 1)) (lv' := [(2, .int (x2_2 + 1)), (0, .ref (gA g 37)), (1, .int p1)]) hx hb dX0_firstOf_20 hl (k := 2) rfl rfl (by decide) rfl (fun ls hl => ?_)
        replace hl := lv_sub hl [1, 2, 0] (l' := [(0, .ref (gA g 37)), (1, .int p1), (2, .int (x2_2 + 1))]) rfl
        refine lv_goto (tgt := 2) hx hb dX0_firstOf_23 (by decide) ?_
        have e1 : (x2_2 + 1).toInt = x2_2.toInt + 1 := addL (k := 1) (by decide +kernel) (by clear hE; omega) (by clear hE; omega)
        exact ih2 (x2_2 + 1) _ _ hG _ (lv_sub hl [0, 1, 2] rfl) (by clear hE; omega) (by clear hE; omega) (by clear hE; omega) hE
      replace hE := (if_pos c_15).symm.trans hE
      have i_15 : ((dy.2 0) (Int32.toNatClampNeg x2_2)).toInt = p1.toInt := congrArg Int32.toInt c_15
      refine lv_iload_n hx hb dX0_firstOf_18 rfl (lv_at hl 2 rfl) ?_
      subst hQ
      exact g_iret hx hb hr hlocks hG () rfl hE dX0_firstOf_19
  exact L2 25 0 _ _ hG _ (lv_sub hl [0, 1, 2] rfl) (by decide) (by decide) (by decide) hE
def F_X0_hoursOfBoth_l5 : Nat → Ob → Int32 → Int32 → Int32 → Int32 → Int32
  | 0, _, _, _, _, _ => 0
  | n + 1, dy, x1, x2, x3, x4 =>
    (if 24 ≤ x4 then x3 else ((F_X0_hoursOfBoth_l5 n ) dy x1 x2 (x3 + (((((dy.2 1) (Int32.toNatClampNeg x4)) >>> (x1 &&& 31)) &&& (((dy.2 1) (Int32.toNatClampNeg x4)) >>> (x2 &&& 31))) &&& 1)) (x4 + 1)))
def F_X0_hoursOfBoth (dy : Ob) (p1 : Int32) (p2 : Int32) : Int32 :=
  (F_X0_hoursOfBoth_l5 25  dy p1 p2 0 0)
set_option maxHeartbeats 4000000 in
set_option maxRecDepth 100000 in
theorem c_X0_hoursOfBoth {l : Launch} {g : GG} {sz : Nat} {bb : Ob} {tx rw : Nat → Ob} {sb dy : Ob} {tn : Nat → Ob} {mo : Ob} {jk : Nat → Nat → Int32}  (p1 : Int32) (p2 : Int32)  : Met l yX0_hoursOfBoth (Cond.code yX0_hoursOfBoth cX0_hoursOfBoth 5 (some .int) :: TT) (rmL 1) (va_Pc [.ref (gA g 37), .int p1, .int p2] (gB g sz (gW g bb tx rw sb dy tn mo jk))) (va_Qi (fun r (_ : Unit) => r = (F_X0_hoursOfBoth dy p1 p2)) (fun u t => gC g (va_A (gW g bb tx rw sb dy tn mo jk) sz) (gW g bb tx rw sb dy tn mo jk) t) (va_A (gW g bb tx rw sb dy tn mo jk) sz)) 0 0 (va_A (gW g bb tx rw sb dy tn mo jk) sz) := by
  generalize hE : F_X0_hoursOfBoth dy p1 p2 = EE
  refine g_of (Qf := fun A => (va_Qi (fun r (_ : Unit) => r = EE) (fun u t => gC g A (gW g bb tx rw sb dy tn mo jk) t) A)) (cc := cX0_hoursOfBoth) (maxL := 5) (ret := (some .int)) (by decide) (Nat.le_of_ble_eq_true rfl) ?_
  intro p e s m below meth c A ls hx hb hml hr hlocks hts hown hA hG hl
  replace hown : s.vm.findClass RX0 = some m.cls := hown
  replace hl : lv_has ls 5 [(0, .ref (gA g 37)), (1, .int p1), (2, .int p2)] := hl
  show W p l e (rmL 1) s m [.ref (gA g 37), .int p1, .int p2].toArray below meth c s.heap [] 0 0 (MQ below (va_Qi (fun r (_ : Unit) => r = EE) (fun u t => gC g A (gW g bb tx rw sb dy tn mo jk) t) A) [.ref (gA g 37), .int p1, .int p2].toArray s 0 0 A) (F0 m 0 ls [])
  generalize hQ : MQ below (va_Qi (fun r (_ : Unit) => r = EE) (fun u t => gC g A (gW g bb tx rw sb dy tn mo jk) t) A) [.ref (gA g 37), .int p1, .int p2].toArray s 0 0 A = Q
  unfold F_X0_hoursOfBoth at hE
  refine lv_iconst (v := 0) hx hb dX0_hoursOfBoth_0 (by decide) ?_
  refine lv_istore_n (lv' := [(3, .int 0), (0, .ref (gA g 37)), (1, .int p1), (2, .int p2)]) hx hb dX0_hoursOfBoth_1 rfl hl (by decide) rfl (fun ls hl => ?_)
  replace hl := lv_sub hl [1, 2, 3, 0] (l' := [(0, .ref (gA g 37)), (1, .int p1), (2, .int p2), (3, .int 0)]) rfl
  refine lv_iconst (v := 0) hx hb dX0_hoursOfBoth_2 (by decide) ?_
  refine lv_istore (lv' := [(4, .int 0), (0, .ref (gA g 37)), (1, .int p1), (2, .int p2), (3, .int 0)]) hx hb dX0_hoursOfBoth_3 hl (by decide) rfl (fun ls hl => ?_)
  replace hl := lv_sub hl [1, 2, 3, 4, 0] (l' := [(0, .ref (gA g 37)), (1, .int p1), (2, .int p2), (3, .int 0), (4, .int 0)]) rfl
  have L5 : ∀ (n : Nat) (x3_5 : Int32) (x4_5 : Int32) (H : Heap) (locs : List Loc), gS g A s H locs (gW g bb tx rw sb dy tn mo jk) → ∀ ls : Array Slot, lv_has ls 5 [(0, .ref (gA g 37)), (1, .int p1), (2, .int p2), (3, .int x3_5), (4, .int x4_5)] → 0 ≤ x4_5.toInt → x4_5.toInt ≤ 24 → 24 < x4_5.toInt + n → F_X0_hoursOfBoth_l5 n  dy p1 p2 x3_5 x4_5 = EE → W p l e (rmL 1) s m [.ref (gA g 37), .int p1, .int p2].toArray below meth c H locs 0 0 Q (F0 m 5 ls []) := by
    intro n
    induction n with
    | zero =>
      intro x3_5 x4_5 H locs hG ls hl h0_5 h1_5 hm_5 hE
      omega
    | succ n ih5 =>
      intro x3_5 x4_5 H locs hG ls hl h0_5 h1_5 hm_5 hE
      unfold F_X0_hoursOfBoth_l5 at hE
      refine lv_iload hx hb dX0_hoursOfBoth_5 (lv_at hl 4 rfl) ?_
      refine lv_bipush (v := 24) hx hb dX0_hoursOfBoth_7 (by decide) ?_
      refine lv_icmp_ge (tgt := 42) hx hb dX0_hoursOfBoth_9 (by decide) (fun c_9 => ?_) (fun c_9 => ?_)
      · replace hE := (if_pos c_9).symm.trans hE
        have i_9 : 24 ≤ x4_5.toInt := i_le.mp c_9
        refine lv_iload_n hx hb dX0_hoursOfBoth_42 rfl (lv_at hl 3 rfl) ?_
        subst hQ
        exact g_iret hx hb hr hlocks hG () rfl hE dX0_hoursOfBoth_43
      replace hE := (if_neg c_9).symm.trans hE
      have i_9 : x4_5.toInt < 24 := i_nle c_9
      refine lv_iload_n hx hb dX0_hoursOfBoth_12 rfl (lv_at hl 3 rfl) ?_
      refine lv_aload_n hx hb dX0_hoursOfBoth_13 rfl (lv_at hl 0 rfl) ?_
      refine g_get hx hb hts hiX0 hown hG gw_Day rfl 1 (by decide) (index := 15) tw_fl_RX0_15 (v := .ref (gA g 39)) rfl dX0_hoursOfBoth_14 ?_
      refine lv_iload hx hb dX0_hoursOfBoth_17 (lv_at hl 4 rfl) ?_
      refine g_ild hx hb hG gw_Day_a1 (vp_i (by clear hE; omega) (by clear hE; omega)) dX0_hoursOfBoth_19 ?_
      refine lv_iload_n hx hb dX0_hoursOfBoth_20 rfl (lv_at hl 1 rfl) ?_
      refine lv_ishr hx hb dX0_hoursOfBoth_21 ?_
      refine lv_aload_n hx hb dX0_hoursOfBoth_22 rfl (lv_at hl 0 rfl) ?_
      refine g_get hx hb hts hiX0 hown hG gw_Day rfl 1 (by decide) (index := 15) tw_fl_RX0_15 (v := .ref (gA g 39)) rfl dX0_hoursOfBoth_23 ?_
      refine lv_iload hx hb dX0_hoursOfBoth_26 (lv_at hl 4 rfl) ?_
      refine g_ild hx hb hG gw_Day_a1 (vp_i (by clear hE; omega) (by clear hE; omega)) dX0_hoursOfBoth_28 ?_
      refine lv_iload_n hx hb dX0_hoursOfBoth_29 rfl (lv_at hl 2 rfl) ?_
      refine lv_ishr hx hb dX0_hoursOfBoth_30 ?_
      refine lv_iand hx hb dX0_hoursOfBoth_31 ?_
      refine lv_iconst (v := 1) hx hb dX0_hoursOfBoth_32 (by decide) ?_
      refine lv_iand hx hb dX0_hoursOfBoth_33 ?_
      refine lv_iadd hx hb dX0_hoursOfBoth_34 ?_
      refine lv_istore_n (lv' := [(3, .int (x3_5 + (((((dy.2 1) (Int32.toNatClampNeg x4_5)) >>> (p1 &&& 31)) &&& (((dy.2 1) (Int32.toNatClampNeg x4_5)) >>> (p2 &&& 31))) &&& 1))), (0, .ref (gA g 37)), (1, .int p1), (2, .int p2), (4, .int x4_5)]) hx hb dX0_hoursOfBoth_35 rfl hl (by decide) rfl (fun ls hl => ?_)
      replace hl := lv_sub hl [1, 2, 3, 0, 4] (l' := [(0, .ref (gA g 37)), (1, .int p1), (2, .int p2), (3, .int (x3_5 + (((((dy.2 1) (Int32.toNatClampNeg x4_5)) >>> (p1 &&& 31)) &&& (((dy.2 1) (Int32.toNatClampNeg x4_5)) >>> (p2 &&& 31))) &&& 1))), (4, .int x4_5)]) rfl
      refine lv_iinc (v := (x4_5 + 1)) (lv' := [(4, .int (x4_5 + 1)), (0, .ref (gA g 37)), (1, .int p1), (2, .int p2), (3, .int (x3_5 + (((((dy.2 1) (Int32.toNatClampNeg x4_5)) >>> (p1 &&& 31)) &&& (((dy.2 1) (Int32.toNatClampNeg x4_5)) >>> (p2 &&& 31))) &&& 1)))]) hx hb dX0_hoursOfBoth_36 hl (k := 4) rfl rfl (by decide) rfl (fun ls hl => ?_)
      replace hl := lv_sub hl [1, 2, 3, 4, 0] (l' := [(0, .ref (gA g 37)), (1, .int p1), (2, .int p2), (3, .int (x3_5 + (((((dy.2 1) (Int32.toNatClampNeg x4_5)) >>> (p1 &&& 31)) &&& (((dy.2 1) (Int32.toNatClampNeg x4_5)) >>> (p2 &&& 31))) &&& 1))), (4, .int (x4_5 + 1))]) rfl
      refine lv_goto (tgt := 5) hx hb dX0_hoursOfBoth_39 (by decide) ?_
      have e1 : (x4_5 + 1).toInt = x4_5.toInt + 1 := addL (k := 1) (by decide +kernel) (by clear hE; omega) (by clear hE; omega)
      exact ih5 (x3_5 + (((((dy.2 1) (Int32.toNatClampNeg x4_5)) >>> (p1 &&& 31)) &&& (((dy.2 1) (Int32.toNatClampNeg x4_5)) >>> (p2 &&& 31))) &&& 1)) (x4_5 + 1) _ _ hG _ (lv_sub hl [0, 1, 2, 3, 4] rfl) (by clear hE; omega) (by clear hE; omega) (by clear hE; omega) hE
  exact L5 25 0 0 _ _ hG _ (lv_sub hl [0, 1, 2, 3, 4] rfl) (by decide) (by decide) (by decide) hE
def F_X3_empty (T : Ob) : Ob :=
  (setS T 3 0)
set_option maxHeartbeats 4000000 in
set_option maxRecDepth 100000 in
theorem c_X3_empty {l : Launch} {g : GG} {sz : Nat} {bb : Ob} {tx rw : Nat → Ob} {sb dy : Ob} {tn : Nat → Ob} {mo : Ob} {jk : Nat → Nat → Int32} {o : Nat} (ho : o < 6) {T : Ob} (hT : tx o = T)   : Met l yX3_empty (Cond.code yX3_empty cX3_empty 1 none :: TT) (rmL 1) (va_Pc [.ref (gA g (3 + 4 * o))] (gB g sz (gW g bb tx rw sb dy tn mo jk))) (va_Qv (fun (u : Ob) => (F_X3_empty T) = (u)) (fun u t => gC g (va_A (gW g bb tx rw sb dy tn mo jk) sz) (gW g bb (va_up tx o u) rw sb dy tn mo jk) t) (va_A (gW g bb tx rw sb dy tn mo jk) sz)) 0 0 (va_A (gW g bb tx rw sb dy tn mo jk) sz) := by
  generalize hE : F_X3_empty T = EE
  refine g_of (Qf := fun A => (va_Qv (fun (u : Ob) => EE = (u)) (fun u t => gC g A (gW g bb (va_up tx o u) rw sb dy tn mo jk) t) A)) (cc := cX3_empty) (maxL := 1) (ret := none) (by decide) (Nat.le_of_ble_eq_true rfl) ?_
  intro p e s m below meth c A ls hx hb hml hr hlocks hts hown hA hG hl
  replace hown : s.vm.findClass RX3 = some m.cls := hown
  replace hl : lv_has ls 1 [(0, .ref (gA g (3 + 4 * o)))] := hl
  show W p l e (rmL 1) s m [.ref (gA g (3 + 4 * o))].toArray below meth c s.heap [] 0 0 (MQ below (va_Qv (fun (u : Ob) => EE = (u)) (fun u t => gC g A (gW g bb (va_up tx o u) rw sb dy tn mo jk) t) A) [.ref (gA g (3 + 4 * o))].toArray s 0 0 A) (F0 m 0 ls [])
  generalize hQ : MQ below (va_Qv (fun (u : Ob) => EE = (u)) (fun u t => gC g A (gW g bb (va_up tx o u) rw sb dy tn mo jk) t) A) [.ref (gA g (3 + 4 * o))].toArray s 0 0 A = Q
  replace hG : gS g A s s.heap [] (gW g bb (va_up tx o T) rw sb dy tn mo jk) := by simpa only [← hT, up_self] using hG
  unfold F_X3_empty at hE
  refine lv_aload_n hx hb dX3_empty_0 rfl (lv_at hl 0 rfl) ?_
  refine lv_iconst (v := 0) hx hb dX3_empty_1 (by decide) ?_
  refine g_put hx hb hts hiX3 tyX3 tyX3_ok nmX3 hown hG (gw_Text ho (up_same _ _ _)) rfl 3 (by decide) (index := 21) tw_fl_RX3_21 rfl rfl rfl (Nat.le_of_ble_eq_true rfl) (gt_Text_f3 ho) dX3_empty_2 (fun H locs hG => ?_)
  subst hQ
  exact g_vret hx hb hr hlocks hG (((setS T 3 0)) : Ob) rfl hE.symm dX3_empty_5
def F_X3_add (T : Ob) (p1 : Int32) : Ob :=
  (if 160 ≤ (T.1 3) then T else (setS (stA T 0 (T.1 3) p1) 3 (((stA T 0 (T.1 3) p1).1 3) + 1)))
set_option maxHeartbeats 4000000 in
set_option maxRecDepth 100000 in
theorem c_X3_add {l : Launch} {g : GG} {sz : Nat} {bb : Ob} {tx rw : Nat → Ob} {sb dy : Ob} {tn : Nat → Ob} {mo : Ob} {jk : Nat → Nat → Int32} {o : Nat} (ho : o < 6) {T : Ob} (hT : tx o = T) (p1 : Int32) (hs : 0 ≤ (T.1 3).toInt) : Met l yX3_add (Cond.code yX3_add cX3_add 2 none :: TT) (rmL 1) (va_Pc [.ref (gA g (3 + 4 * o)), .int p1] (gB g sz (gW g bb tx rw sb dy tn mo jk))) (va_Qv (fun (u : Ob) => (F_X3_add T p1) = (u)) (fun u t => gC g (va_A (gW g bb tx rw sb dy tn mo jk) sz) (gW g bb (va_up tx o u) rw sb dy tn mo jk) t) (va_A (gW g bb tx rw sb dy tn mo jk) sz)) 0 0 (va_A (gW g bb tx rw sb dy tn mo jk) sz) := by
  generalize hE : F_X3_add T p1 = EE
  refine g_of (Qf := fun A => (va_Qv (fun (u : Ob) => EE = (u)) (fun u t => gC g A (gW g bb (va_up tx o u) rw sb dy tn mo jk) t) A)) (cc := cX3_add) (maxL := 2) (ret := none) (by decide) (Nat.le_of_ble_eq_true rfl) ?_
  intro p e s m below meth c A ls hx hb hml hr hlocks hts hown hA hG hl
  replace hown : s.vm.findClass RX3 = some m.cls := hown
  replace hl : lv_has ls 2 [(0, .ref (gA g (3 + 4 * o))), (1, .int p1)] := hl
  show W p l e (rmL 1) s m [.ref (gA g (3 + 4 * o)), .int p1].toArray below meth c s.heap [] 0 0 (MQ below (va_Qv (fun (u : Ob) => EE = (u)) (fun u t => gC g A (gW g bb (va_up tx o u) rw sb dy tn mo jk) t) A) [.ref (gA g (3 + 4 * o)), .int p1].toArray s 0 0 A) (F0 m 0 ls [])
  generalize hQ : MQ below (va_Qv (fun (u : Ob) => EE = (u)) (fun u t => gC g A (gW g bb (va_up tx o u) rw sb dy tn mo jk) t) A) [.ref (gA g (3 + 4 * o)), .int p1].toArray s 0 0 A = Q
  replace hG : gS g A s s.heap [] (gW g bb (va_up tx o T) rw sb dy tn mo jk) := by simpa only [← hT, up_self] using hG
  unfold F_X3_add at hE
  refine lv_aload_n hx hb dX3_add_0 rfl (lv_at hl 0 rfl) ?_
  refine g_get hx hb hts hiX3 hown hG (gw_Text ho (up_same _ _ _)) rfl 3 (by decide) (index := 21) tw_fl_RX3_21 (v := .int (T.1 3)) rfl dX3_add_1 ?_
  refine lv_sipush (v := 160) hx hb dX3_add_4 (by decide) ?_
  refine lv_icmp_ge (tgt := 30) hx hb dX3_add_7 (by decide) (fun c_7 => ?_) (fun c_7 => ?_)
  · replace hE := (if_pos c_7).symm.trans hE
    have i_7 : 160 ≤ (T.1 3).toInt := i_le.mp c_7
    subst hQ
    exact g_vret hx hb hr hlocks hG ((T) : Ob) rfl hE.symm dX3_add_30
  replace hE := (if_neg c_7).symm.trans hE
  have i_7 : (T.1 3).toInt < 160 := i_nle c_7
  refine lv_aload_n hx hb dX3_add_10 rfl (lv_at hl 0 rfl) ?_
  refine g_get hx hb hts hiX3 hown hG (gw_Text ho (up_same _ _ _)) rfl 0 (by decide) (index := 9) tw_fl_RX3_9 (v := .ref (gA g (3 + 4 * o + 1))) rfl dX3_add_11 ?_
  refine lv_aload_n hx hb dX3_add_14 rfl (lv_at hl 0 rfl) ?_
  refine g_get hx hb hts hiX3 hown hG (gw_Text ho (up_same _ _ _)) rfl 3 (by decide) (index := 21) tw_fl_RX3_21 (v := .int (T.1 3)) rfl dX3_add_15 ?_
  refine lv_iload_n hx hb dX3_add_18 rfl (lv_at hl 1 rfl) ?_
  refine g_ist hx hb hG (gw_Text_a0 ho (up_same _ _ _)) (vp_i (by clear hE; omega) (by clear hE; omega)) (gt_Text_a0 ho) dX3_add_19 (fun H locs hG => ?_)
  refine lv_aload_n hx hb dX3_add_20 rfl (lv_at hl 0 rfl) ?_
  refine lv_dup hx hb dX3_add_21 rfl ?_
  refine g_get hx hb hts hiX3 hown hG (gw_Text ho (up_same _ _ _)) rfl 3 (by decide) (index := 21) tw_fl_RX3_21 (v := .int ((stA T 0 (T.1 3) p1).1 3)) rfl dX3_add_22 ?_
  refine lv_iconst (v := 1) hx hb dX3_add_25 (by decide) ?_
  refine lv_iadd hx hb dX3_add_26 ?_
  refine g_put hx hb hts hiX3 tyX3 tyX3_ok nmX3 hown hG (gw_Text ho (up_same _ _ _)) rfl 3 (by decide) (index := 21) tw_fl_RX3_21 rfl rfl rfl (Nat.le_of_ble_eq_true rfl) (gt_Text_f3 ho) dX3_add_27 (fun H locs hG => ?_)
  subst hQ
  exact g_vret hx hb hr hlocks hG (((setS (stA T 0 (T.1 3) p1) 3 (((stA T 0 (T.1 3) p1).1 3) + 1))) : Ob) rfl hE.symm dX3_add_30
def F_X3_endPart (T : Ob) (p1 : Int32) : Ob :=
  (stA T 2 p1 (T.1 3))
set_option maxHeartbeats 4000000 in
set_option maxRecDepth 100000 in
theorem c_X3_endPart {l : Launch} {g : GG} {sz : Nat} {bb : Ob} {tx rw : Nat → Ob} {sb dy : Ob} {tn : Nat → Ob} {mo : Ob} {jk : Nat → Nat → Int32} {o : Nat} (ho : o < 6) {T : Ob} (hT : tx o = T) (p1 : Int32) (hpt : 0 ≤ p1.toInt ∧ p1.toInt < 3) : Met l yX3_endPart (Cond.code yX3_endPart cX3_endPart 2 none :: TT) (rmL 1) (va_Pc [.ref (gA g (3 + 4 * o)), .int p1] (gB g sz (gW g bb tx rw sb dy tn mo jk))) (va_Qv (fun (u : Ob) => (F_X3_endPart T p1) = (u)) (fun u t => gC g (va_A (gW g bb tx rw sb dy tn mo jk) sz) (gW g bb (va_up tx o u) rw sb dy tn mo jk) t) (va_A (gW g bb tx rw sb dy tn mo jk) sz)) 0 0 (va_A (gW g bb tx rw sb dy tn mo jk) sz) := by
  generalize hE : F_X3_endPart T p1 = EE
  refine g_of (Qf := fun A => (va_Qv (fun (u : Ob) => EE = (u)) (fun u t => gC g A (gW g bb (va_up tx o u) rw sb dy tn mo jk) t) A)) (cc := cX3_endPart) (maxL := 2) (ret := none) (by decide) (Nat.le_of_ble_eq_true rfl) ?_
  intro p e s m below meth c A ls hx hb hml hr hlocks hts hown hA hG hl
  replace hown : s.vm.findClass RX3 = some m.cls := hown
  replace hl : lv_has ls 2 [(0, .ref (gA g (3 + 4 * o))), (1, .int p1)] := hl
  show W p l e (rmL 1) s m [.ref (gA g (3 + 4 * o)), .int p1].toArray below meth c s.heap [] 0 0 (MQ below (va_Qv (fun (u : Ob) => EE = (u)) (fun u t => gC g A (gW g bb (va_up tx o u) rw sb dy tn mo jk) t) A) [.ref (gA g (3 + 4 * o)), .int p1].toArray s 0 0 A) (F0 m 0 ls [])
  generalize hQ : MQ below (va_Qv (fun (u : Ob) => EE = (u)) (fun u t => gC g A (gW g bb (va_up tx o u) rw sb dy tn mo jk) t) A) [.ref (gA g (3 + 4 * o)), .int p1].toArray s 0 0 A = Q
  replace hG : gS g A s s.heap [] (gW g bb (va_up tx o T) rw sb dy tn mo jk) := by simpa only [← hT, up_self] using hG
  unfold F_X3_endPart at hE
  refine lv_aload_n hx hb dX3_endPart_0 rfl (lv_at hl 0 rfl) ?_
  refine g_get hx hb hts hiX3 hown hG (gw_Text ho (up_same _ _ _)) rfl 2 (by decide) (index := 18) tw_fl_RX3_18 (v := .ref (gA g (3 + 4 * o + 3))) rfl dX3_endPart_1 ?_
  refine lv_iload_n hx hb dX3_endPart_4 rfl (lv_at hl 1 rfl) ?_
  refine lv_aload_n hx hb dX3_endPart_5 rfl (lv_at hl 0 rfl) ?_
  refine g_get hx hb hts hiX3 hown hG (gw_Text ho (up_same _ _ _)) rfl 3 (by decide) (index := 21) tw_fl_RX3_21 (v := .int (T.1 3)) rfl dX3_endPart_6 ?_
  refine g_ist hx hb hG (gw_Text_a2 ho (up_same _ _ _)) (vp_i (by clear hE; omega) (by clear hE; omega)) (gt_Text_a2 ho) dX3_endPart_9 (fun H locs hG => ?_)
  subst hQ
  exact g_vret hx hb hr hlocks hG (((stA T 2 p1 (T.1 3))) : Ob) rfl hE.symm dX3_endPart_10
