theorem tb_1 {w : Cond} (h : w ∈ tables_1_1) : w ∈ lw_tbl := List.mem_append_right _ (List.mem_append_left _ h)
theorem tb_2 {w : Cond} (h : w ∈ tables_1_2) : w ∈ lw_tbl := List.mem_append_right _ (List.mem_append_right _ (List.mem_append_left _ h))
theorem tb_3 {w : Cond} (h : w ∈ tables_1_3) : w ∈ lw_tbl := List.mem_append_right _ (List.mem_append_right _ (List.mem_append_right _ (List.mem_append_left _ h)))
theorem tb_4 {w : Cond} (h : w ∈ tables_1_4) : w ∈ lw_tbl := List.mem_append_right _ (List.mem_append_right _ (List.mem_append_right _ (List.mem_append_right _ (List.mem_append_left _ h))))
theorem tb_5 {w : Cond} (h : w ∈ tables_1_5) : w ∈ lw_tbl := List.mem_append_right _ (List.mem_append_right _ (List.mem_append_right _ (List.mem_append_right _ (List.mem_append_right _ h))))
theorem tb_0 {w : Cond} (h : w ∈ k2_sels lw_privs) : w ∈ lw_tbl := List.mem_append_left _ h
/-- the words that stay when a class warms up -/
def TT : List Cond := lw_tbl.filter goodWord
theorem tm {w : Cond} (h : w ∈ lw_tbl) (g : goodWord w = true) : w ∈ TT := List.mem_filter.mpr ⟨h, g⟩
theorem TT_in : ∀ w ∈ TT, w ∈ lw_tbl := fun _ h => (List.mem_filter.mp h).1
theorem TT_good {big ws : List Cond} (h : ∀ w ∈ ws, w ∈ TT) (hb : ∀ w ∈ TT, w ∈ big) : GoodIn big ws := fun w hw => ⟨hb w (h w hw), good_of_word (List.mem_filter.mp (h w hw)).2⟩
theorem tw_in_RL : Cond.initialized RL ∈ TT := tm (tb_1 (List.mem_of_getElem? (i := 0) rfl)) rfl
theorem tw_in_RX5 : Cond.initialized RX5 ∈ TT := tm (tb_1 (List.mem_of_getElem? (i := 1) rfl)) rfl
theorem tw_in_RX2 : Cond.initialized RX2 ∈ TT := tm (tb_1 (List.mem_of_getElem? (i := 2) rfl)) rfl
theorem tw_in_RX0 : Cond.initialized RX0 ∈ TT := tm (tb_1 (List.mem_of_getElem? (i := 3) rfl)) rfl
theorem tw_in_RX3 : Cond.initialized RX3 ∈ TT := tm (tb_1 (List.mem_of_getElem? (i := 4) rfl)) rfl
theorem tw_in_RX1 : Cond.initialized RX1 ∈ TT := tm (tb_1 (List.mem_of_getElem? (i := 5) rfl)) rfl
theorem tw_in_RX4 : Cond.initialized RX4 ∈ TT := tm (tb_1 (List.mem_of_getElem? (i := 6) rfl)) rfl
theorem tw_in_RX6 : Cond.initialized RX6 ∈ TT := tm (tb_1 (List.mem_of_getElem? (i := 7) rfl)) rfl
theorem tw_in_RJ0 : Cond.initialized RJ0 ∈ TT := tm (tb_1 (List.mem_of_getElem? (i := 8) rfl)) rfl
theorem tw_in_RJ1 : Cond.initialized RJ1 ∈ TT := tm (tb_1 (List.mem_of_getElem? (i := 9) rfl)) rfl
theorem tw_in_RJ3 : Cond.initialized RJ3 ∈ TT := tm (tb_1 (List.mem_of_getElem? (i := 10) rfl)) rfl
theorem tw_in_RJ2 : Cond.initialized RJ2 ∈ TT := tm (tb_1 (List.mem_of_getElem? (i := 11) rfl)) rfl
theorem tw_in_RJ9 : Cond.initialized RJ9 ∈ TT := tm (tb_1 (List.mem_of_getElem? (i := 12) rfl)) rfl
theorem tw_in_RJ6 : Cond.initialized RJ6 ∈ TT := tm (tb_1 (List.mem_of_getElem? (i := 13) rfl)) rfl
theorem tw_in_RJ10 : Cond.initialized RJ10 ∈ TT := tm (tb_1 (List.mem_of_getElem? (i := 14) rfl)) rfl
theorem tw_cl_RL_7 : Cond.classLink RL 7 RX5 ∈ TT := tm (tb_1 (List.mem_of_getElem? (i := 15) rfl)) rfl
theorem tw_ia_RX5 : Cond.instantiable RX5 9 ∈ TT := tm (tb_1 (List.mem_of_getElem? (i := 16) rfl)) rfl
theorem tw_ml_RL_9 : Cond.methodLink RL 9 yX5_init ∈ TT := tm (tb_1 (List.mem_of_getElem? (i := 17) rfl)) rfl
theorem tw_im_X5_init : Cond.instanceMethod yX5_init ∈ TT := tm (tb_1 (List.mem_of_getElem? (i := 18) rfl)) rfl
theorem tw_cd_X5_init : Cond.code yX5_init cX5_init 3 none ∈ TT := tm (tb_1 (List.mem_of_getElem? (i := 19) rfl)) rfl
theorem tw_ml_RX5_1 : Cond.methodLink RX5 1 objectInit ∈ TT := tm (tb_1 (List.mem_of_getElem? (i := 20) rfl)) rfl
theorem tw_im_objectInit : Cond.instanceMethod objectInit ∈ TT := tm (tb_1 (List.mem_of_getElem? (i := 21) rfl)) rfl
theorem tw_cd_objectInit : Cond.code objectInit ⟨#[0xb1]⟩ 1 none ∈ TT := tm (tb_1 (List.mem_of_getElem? (i := 22) rfl)) rfl
theorem tw_cl_RX5_9 : Cond.classLink RX5 9 RX3 ∈ TT := tm (tb_1 (List.mem_of_getElem? (i := 23) rfl)) rfl
theorem tw_cl_RX5_15 : Cond.classLink RX5 15 RX1 ∈ TT := tm (tb_1 (List.mem_of_getElem? (i := 25) rfl)) rfl
theorem tw_cl_RX5_21 : Cond.classLink RX5 21 RX2 ∈ TT := tm (tb_1 (List.mem_of_getElem? (i := 27) rfl)) rfl
theorem tw_ia_RX2 : Cond.instantiable RX2 7 ∈ TT := tm (tb_1 (List.mem_of_getElem? (i := 28) rfl)) rfl
theorem tw_im_X2_init : Cond.instanceMethod yX2_init ∈ TT := tm (tb_1 (List.mem_of_getElem? (i := 30) rfl)) rfl
theorem tw_cd_X2_init : Cond.code yX2_init cX2_init 1 none ∈ TT := tm (tb_1 (List.mem_of_getElem? (i := 31) rfl)) rfl
theorem tw_ml_RX2_3 : Cond.methodLink RX2 3 objectInit ∈ TT := tm (tb_1 (List.mem_of_getElem? (i := 32) rfl)) rfl
theorem tw_fl_RX2_9 : Cond.fieldLink RX2 9 "BellOfLies$Scribe" "tape" "[I" ∈ TT := tm (tb_1 (List.mem_of_getElem? (i := 33) rfl)) rfl
theorem tw_fl_RX2_15 : Cond.fieldLink RX2 15 "BellOfLies$Scribe" "size" "I" ∈ TT := tm (tb_1 (List.mem_of_getElem? (i := 34) rfl)) rfl
theorem tw_fl_RX5_75 : Cond.fieldLink RX5 75 "BellOfLies$Scribe" "size" "I" ∈ TT := tm (tb_1 (List.mem_of_getElem? (i := 35) rfl)) rfl
theorem tw_fl_RX2_19 : Cond.fieldLink RX2 19 "BellOfLies$Scribe" "at" "I" ∈ TT := tm (tb_1 (List.mem_of_getElem? (i := 36) rfl)) rfl
theorem tw_fl_RX2_50 : Cond.fieldLink RX2 50 "BellOfLies$Scribe" "start" "I" ∈ TT := tm (tb_1 (List.mem_of_getElem? (i := 37) rfl)) rfl
theorem tw_fl_RX2_44 : Cond.fieldLink RX2 44 "BellOfLies$Scribe" "token" "I" ∈ TT := tm (tb_1 (List.mem_of_getElem? (i := 38) rfl)) rfl
theorem tw_fl_RX2_75 : Cond.fieldLink RX2 75 "BellOfLies$Scribe" "number" "I" ∈ TT := tm (tb_1 (List.mem_of_getElem? (i := 39) rfl)) rfl
theorem tw_fl_RX2_22 : Cond.fieldLink RX2 22 "BellOfLies$Scribe" "fault" "I" ∈ TT := tm (tb_1 (List.mem_of_getElem? (i := 40) rfl)) rfl
theorem tw_ac_1_56 : ((Jvm.Cond.arrayClass Jvm.ClassFile.FieldType.int)) ∈ TT := tm (tb_1 (List.mem_of_getElem? (i := 56) rfl)) rfl
theorem tw_cl_RX5_28 : Cond.classLink RX5 28 RX0 ∈ TT := tm (tb_1 (List.mem_of_getElem? (i := 57) rfl)) rfl
theorem tw_ia_RX0 : Cond.instantiable RX0 2 ∈ TT := tm (tb_1 (List.mem_of_getElem? (i := 58) rfl)) rfl
theorem tw_im_X0_init : Cond.instanceMethod yX0_init ∈ TT := tm (tb_1 (List.mem_of_getElem? (i := 60) rfl)) rfl
theorem tw_cd_X0_init : Cond.code yX0_init cX0_init 1 none ∈ TT := tm (tb_1 (List.mem_of_getElem? (i := 61) rfl)) rfl
theorem tw_ml_RX0_3 : Cond.methodLink RX0 3 objectInit ∈ TT := tm (tb_1 (List.mem_of_getElem? (i := 62) rfl)) rfl
theorem tw_fl_RX0_9 : Cond.fieldLink RX0 9 "BellOfLies$Day" "strikes" "[I" ∈ TT := tm (tb_1 (List.mem_of_getElem? (i := 63) rfl)) rfl
theorem tw_fl_RX0_15 : Cond.fieldLink RX0 15 "BellOfLies$Day" "liars" "[I" ∈ TT := tm (tb_1 (List.mem_of_getElem? (i := 64) rfl)) rfl
theorem tw_ia_RX3 : Cond.instantiable RX3 4 ∈ TT := tm (tb_1 (List.mem_of_getElem? (i := 70) rfl)) rfl
theorem tw_im_X3_init : Cond.instanceMethod yX3_init ∈ TT := tm (tb_1 (List.mem_of_getElem? (i := 72) rfl)) rfl
theorem tw_cd_X3_init : Cond.code yX3_init cX3_init 1 none ∈ TT := tm (tb_1 (List.mem_of_getElem? (i := 73) rfl)) rfl
theorem tw_ml_RX3_3 : Cond.methodLink RX3 3 objectInit ∈ TT := tm (tb_1 (List.mem_of_getElem? (i := 74) rfl)) rfl
theorem tw_fl_RX3_9 : Cond.fieldLink RX3 9 "BellOfLies$Text" "steps" "[I" ∈ TT := tm (tb_1 (List.mem_of_getElem? (i := 75) rfl)) rfl
theorem tw_fl_RX3_15 : Cond.fieldLink RX3 15 "BellOfLies$Text" "stack" "[I" ∈ TT := tm (tb_1 (List.mem_of_getElem? (i := 76) rfl)) rfl
theorem tw_fl_RX3_18 : Cond.fieldLink RX3 18 "BellOfLies$Text" "ends" "[I" ∈ TT := tm (tb_1 (List.mem_of_getElem? (i := 77) rfl)) rfl
theorem tw_fl_RX3_21 : Cond.fieldLink RX3 21 "BellOfLies$Text" "size" "I" ∈ TT := tm (tb_1 (List.mem_of_getElem? (i := 78) rfl)) rfl
theorem tw_ml_RX5_44 : Cond.methodLink RX5 44 yX3_becomeFirstLaw ∈ TT := tm (tb_1 (List.mem_of_getElem? (i := 88) rfl)) rfl
theorem tw_im_X3_becomeFirstLaw : Cond.instanceMethod yX3_becomeFirstLaw ∈ TT := tm (tb_1 (List.mem_of_getElem? (i := 89) rfl)) rfl
theorem tw_se_X3_becomeFirstLaw : Cond.selects RX3 yX3_becomeFirstLaw yX3_becomeFirstLaw ∈ TT := tm (tb_1 (List.mem_of_getElem? (i := 90) rfl)) rfl
theorem tw_cd_X3_becomeFirstLaw : Cond.code yX3_becomeFirstLaw cX3_becomeFirstLaw 1 none ∈ TT := tm (tb_1 (List.mem_of_getElem? (i := 91) rfl)) rfl
theorem tw_ml_RX3_25 : Cond.methodLink RX3 25 yX3_empty ∈ TT := tm (tb_1 (List.mem_of_getElem? (i := 92) rfl)) rfl
theorem tw_im_X3_empty : Cond.instanceMethod yX3_empty ∈ TT := tm (tb_1 (List.mem_of_getElem? (i := 93) rfl)) rfl
theorem tw_se_X3_empty : Cond.selects RX3 yX3_empty yX3_empty ∈ TT := tm (tb_1 (List.mem_of_getElem? (i := 94) rfl)) rfl
theorem tw_cd_X3_empty : Cond.code yX3_empty cX3_empty 1 none ∈ TT := tm (tb_1 (List.mem_of_getElem? (i := 95) rfl)) rfl
theorem tw_ml_RX3_28 : Cond.methodLink RX3 28 yX3_add ∈ TT := tm (tb_1 (List.mem_of_getElem? (i := 96) rfl)) rfl
theorem tw_im_X3_add : Cond.instanceMethod yX3_add ∈ TT := tm (tb_1 (List.mem_of_getElem? (i := 97) rfl)) rfl
theorem tw_se_X3_add : Cond.selects RX3 yX3_add yX3_add ∈ TT := tm (tb_1 (List.mem_of_getElem? (i := 98) rfl)) rfl
theorem tw_cd_X3_add : Cond.code yX3_add cX3_add 2 none ∈ TT := tm (tb_1 (List.mem_of_getElem? (i := 99) rfl)) rfl
theorem tw_ml_RX3_32 : Cond.methodLink RX3 32 yX3_endPart ∈ TT := tm (tb_1 (List.mem_of_getElem? (i := 100) rfl)) rfl
theorem tw_im_X3_endPart : Cond.instanceMethod yX3_endPart ∈ TT := tm (tb_1 (List.mem_of_getElem? (i := 101) rfl)) rfl
theorem tw_se_X3_endPart : Cond.selects RX3 yX3_endPart yX3_endPart ∈ TT := tm (tb_1 (List.mem_of_getElem? (i := 102) rfl)) rfl
theorem tw_cd_X3_endPart : Cond.code yX3_endPart cX3_endPart 2 none ∈ TT := tm (tb_1 (List.mem_of_getElem? (i := 103) rfl)) rfl
theorem tw_ia_RX1 : Cond.instantiable RX1 3 ∈ TT := tm (tb_1 (List.mem_of_getElem? (i := 104) rfl)) rfl
theorem tw_im_X1_init : Cond.instanceMethod yX1_init ∈ TT := tm (tb_1 (List.mem_of_getElem? (i := 106) rfl)) rfl
theorem tw_cd_X1_init : Cond.code yX1_init cX1_init 1 none ∈ TT := tm (tb_1 (List.mem_of_getElem? (i := 107) rfl)) rfl
theorem tw_ml_RX1_3 : Cond.methodLink RX1 3 objectInit ∈ TT := tm (tb_1 (List.mem_of_getElem? (i := 108) rfl)) rfl
theorem tw_fl_RX1_9 : Cond.fieldLink RX1 9 "BellOfLies$Row" "cells" "[I" ∈ TT := tm (tb_1 (List.mem_of_getElem? (i := 109) rfl)) rfl
theorem tw_fl_RX5_242 : Cond.fieldLink RX5 242 "BellOfLies$Row" "cells" "[I" ∈ TT := tm (tb_1 (List.mem_of_getElem? (i := 110) rfl)) rfl
theorem tw_fl_RX1_15 : Cond.fieldLink RX1 15 "BellOfLies$Row" "sort" "I" ∈ TT := tm (tb_1 (List.mem_of_getElem? (i := 111) rfl)) rfl
theorem tw_fl_RX5_239 : Cond.fieldLink RX5 239 "BellOfLies$Row" "sort" "I" ∈ TT := tm (tb_1 (List.mem_of_getElem? (i := 112) rfl)) rfl
theorem tw_fl_RX1_19 : Cond.fieldLink RX1 19 "BellOfLies$Row" "size" "I" ∈ TT := tm (tb_1 (List.mem_of_getElem? (i := 113) rfl)) rfl
theorem tw_fl_RX5_258 : Cond.fieldLink RX5 258 "BellOfLies$Row" "size" "I" ∈ TT := tm (tb_1 (List.mem_of_getElem? (i := 114) rfl)) rfl
theorem tw_cl_RX5_48 : Cond.classLink RX5 48 RX4 ∈ TT := tm (tb_1 (List.mem_of_getElem? (i := 122) rfl)) rfl
theorem tw_ia_RX4 : Cond.instantiable RX4 12 ∈ TT := tm (tb_1 (List.mem_of_getElem? (i := 123) rfl)) rfl
theorem tw_ml_RX5_50 : Cond.methodLink RX5 50 yX4_init ∈ TT := tm (tb_1 (List.mem_of_getElem? (i := 124) rfl)) rfl
theorem tw_im_X4_init : Cond.instanceMethod yX4_init ∈ TT := tm (tb_1 (List.mem_of_getElem? (i := 125) rfl)) rfl
theorem tw_cd_X4_init : Cond.code yX4_init cX4_init 2 none ∈ TT := tm (tb_1 (List.mem_of_getElem? (i := 126) rfl)) rfl
theorem tw_ml_RX4_3 : Cond.methodLink RX4 3 objectInit ∈ TT := tm (tb_1 (List.mem_of_getElem? (i := 127) rfl)) rfl
theorem tw_fl_RX4_9 : Cond.fieldLink RX4 9 "BellOfLies$Town" "kind" "[I" ∈ TT := tm (tb_1 (List.mem_of_getElem? (i := 128) rfl)) rfl
theorem tw_fl_RX5_128 : Cond.fieldLink RX5 128 "BellOfLies$Town" "kind" "[I" ∈ TT := tm (tb_1 (List.mem_of_getElem? (i := 129) rfl)) rfl
theorem tw_fl_RX4_15 : Cond.fieldLink RX4 15 "BellOfLies$Town" "more" "[I" ∈ TT := tm (tb_1 (List.mem_of_getElem? (i := 130) rfl)) rfl
theorem tw_fl_RX5_132 : Cond.fieldLink RX5 132 "BellOfLies$Town" "more" "[I" ∈ TT := tm (tb_1 (List.mem_of_getElem? (i := 131) rfl)) rfl
theorem tw_fl_RX4_18 : Cond.fieldLink RX4 18 "BellOfLies$Town" "nerve" "[I" ∈ TT := tm (tb_1 (List.mem_of_getElem? (i := 132) rfl)) rfl
theorem tw_fl_RX5_214 : Cond.fieldLink RX5 214 "BellOfLies$Town" "nerve" "[I" ∈ TT := tm (tb_1 (List.mem_of_getElem? (i := 133) rfl)) rfl
theorem tw_fl_RX4_21 : Cond.fieldLink RX4 21 "BellOfLies$Town" "told" "[I" ∈ TT := tm (tb_1 (List.mem_of_getElem? (i := 134) rfl)) rfl
theorem tw_fl_RX4_24 : Cond.fieldLink RX4 24 "BellOfLies$Town" "own" "[I" ∈ TT := tm (tb_1 (List.mem_of_getElem? (i := 135) rfl)) rfl
theorem tw_fl_RX5_251 : Cond.fieldLink RX5 251 "BellOfLies$Town" "own" "[I" ∈ TT := tm (tb_1 (List.mem_of_getElem? (i := 136) rfl)) rfl
theorem tw_fl_RX4_27 : Cond.fieldLink RX4 27 "BellOfLies$Town" "vows" "I" ∈ TT := tm (tb_1 (List.mem_of_getElem? (i := 137) rfl)) rfl
theorem tw_fl_RX5_151 : Cond.fieldLink RX5 151 "BellOfLies$Town" "vows" "I" ∈ TT := tm (tb_1 (List.mem_of_getElem? (i := 138) rfl)) rfl
theorem tw_fl_RX4_31 : Cond.fieldLink RX4 31 "BellOfLies$Town" "people" "I" ∈ TT := tm (tb_1 (List.mem_of_getElem? (i := 139) rfl)) rfl
theorem tw_fl_RX5_63 : Cond.fieldLink RX5 63 "BellOfLies$Town" "people" "I" ∈ TT := tm (tb_1 (List.mem_of_getElem? (i := 140) rfl)) rfl
theorem tw_fl_RX4_34 : Cond.fieldLink RX4 34 "BellOfLies$Town" "hour" "I" ∈ TT := tm (tb_1 (List.mem_of_getElem? (i := 141) rfl)) rfl
theorem tw_fl_RX5_66 : Cond.fieldLink RX5 66 "BellOfLies$Town" "hour" "I" ∈ TT := tm (tb_1 (List.mem_of_getElem? (i := 142) rfl)) rfl
theorem tw_fl_RX4_37 : Cond.fieldLink RX4 37 "BellOfLies$Town" "toll" "I" ∈ TT := tm (tb_1 (List.mem_of_getElem? (i := 143) rfl)) rfl
theorem tw_fl_RX5_69 : Cond.fieldLink RX5 69 "BellOfLies$Town" "toll" "I" ∈ TT := tm (tb_1 (List.mem_of_getElem? (i := 144) rfl)) rfl
theorem tw_fl_RX4_40 : Cond.fieldLink RX4 40 "BellOfLies$Town" "last" "I" ∈ TT := tm (tb_1 (List.mem_of_getElem? (i := 145) rfl)) rfl
theorem tw_fl_RX5_78 : Cond.fieldLink RX5 78 "BellOfLies$Town" "last" "I" ∈ TT := tm (tb_1 (List.mem_of_getElem? (i := 146) rfl)) rfl
theorem tw_fl_RX4_43 : Cond.fieldLink RX4 43 "BellOfLies$Town" "lawNumber" "I" ∈ TT := tm (tb_1 (List.mem_of_getElem? (i := 147) rfl)) rfl
theorem tw_fl_RX5_72 : Cond.fieldLink RX5 72 "BellOfLies$Town" "lawNumber" "I" ∈ TT := tm (tb_1 (List.mem_of_getElem? (i := 148) rfl)) rfl
theorem tw_fl_RX4_46 : Cond.fieldLink RX4 46 "BellOfLies$Town" "law" "LBellOfLies$Text;" ∈ TT := tm (tb_1 (List.mem_of_getElem? (i := 149) rfl)) rfl
theorem tw_fl_RX5_104 : Cond.fieldLink RX5 104 "BellOfLies$Town" "law" "LBellOfLies$Text;" ∈ TT := tm (tb_1 (List.mem_of_getElem? (i := 150) rfl)) rfl
theorem tw_fl_RX5_11 : Cond.fieldLink RX5 11 "BellOfLies" "texts" "[LBellOfLies$Text;" ∈ TT := tm (tb_1 (List.mem_of_getElem? (i := 176) rfl)) rfl
theorem tw_fl_RX5_17 : Cond.fieldLink RX5 17 "BellOfLies" "rows" "[LBellOfLies$Row;" ∈ TT := tm (tb_1 (List.mem_of_getElem? (i := 177) rfl)) rfl
theorem tw_fl_RX5_24 : Cond.fieldLink RX5 24 "BellOfLies" "scribe" "LBellOfLies$Scribe;" ∈ TT := tm (tb_1 (List.mem_of_getElem? (i := 178) rfl)) rfl
theorem tw_fl_RX5_31 : Cond.fieldLink RX5 31 "BellOfLies" "day" "LBellOfLies$Day;" ∈ TT := tm (tb_1 (List.mem_of_getElem? (i := 179) rfl)) rfl
theorem tw_fl_RX5_53 : Cond.fieldLink RX5 53 "BellOfLies" "now" "LBellOfLies$Town;" ∈ TT := tm (tb_1 (List.mem_of_getElem? (i := 180) rfl)) rfl
theorem tw_fl_RX5_57 : Cond.fieldLink RX5 57 "BellOfLies" "thought" "LBellOfLies$Town;" ∈ TT := tm (tb_1 (List.mem_of_getElem? (i := 181) rfl)) rfl
theorem tw_fl_RX5_60 : Cond.fieldLink RX5 60 "BellOfLies" "kept" "LBellOfLies$Town;" ∈ TT := tm (tb_1 (List.mem_of_getElem? (i := 182) rfl)) rfl
theorem tw_fl_RX5_35 : Cond.fieldLink RX5 35 "BellOfLies" "textsRead" "I" ∈ TT := tm (tb_1 (List.mem_of_getElem? (i := 183) rfl)) rfl
theorem tw_fl_RX5_39 : Cond.fieldLink RX5 39 "BellOfLies" "hasImage" "Z" ∈ TT := tm (tb_1 (List.mem_of_getElem? (i := 184) rfl)) rfl
theorem tw_ml_RL_13 : Cond.methodLink RL 13 yX5_count ∈ TT := tm (tb_1 (List.mem_of_getElem? (i := 204) rfl)) rfl
theorem tw_im_X5_count : Cond.instanceMethod yX5_count ∈ TT := tm (tb_1 (List.mem_of_getElem? (i := 205) rfl)) rfl
theorem tw_se_X5_count : Cond.selects RX5 yX5_count yX5_count ∈ TT := tm (tb_1 (List.mem_of_getElem? (i := 206) rfl)) rfl
theorem tw_cd_X5_count : Cond.code yX5_count cX5_count 2 (Option.some Jvm.ClassFile.FieldType.int) ∈ TT := tm (tb_1 (List.mem_of_getElem? (i := 207) rfl)) rfl
theorem tw_ml_RL_18 : Cond.methodLink RL 18 yX5_clock ∈ TT := tm (tb_1 (List.mem_of_getElem? (i := 208) rfl)) rfl
theorem tw_im_X5_clock : Cond.instanceMethod yX5_clock ∈ TT := tm (tb_1 (List.mem_of_getElem? (i := 209) rfl)) rfl
theorem tw_se_X5_clock : Cond.selects RX5 yX5_clock yX5_clock ∈ TT := tm (tb_1 (List.mem_of_getElem? (i := 210) rfl)) rfl
theorem tw_cd_X5_clock : Cond.code yX5_clock cX5_clock 3 (Option.some Jvm.ClassFile.FieldType.int) ∈ TT := tm (tb_1 (List.mem_of_getElem? (i := 211) rfl)) rfl
theorem tw_ml_RX5_81 : Cond.methodLink RX5 81 yX5_isWithin ∈ TT := tm (tb_1 (List.mem_of_getElem? (i := 212) rfl)) rfl
theorem tw_st_X5_isWithin : Cond.static yX5_isWithin ∈ TT := tm (tb_1 (List.mem_of_getElem? (i := 213) rfl)) rfl
theorem tw_cd_X5_isWithin : Cond.code yX5_isWithin cX5_isWithin 3 (Option.some Jvm.ClassFile.FieldType.boolean) ∈ TT := tm (tb_1 (List.mem_of_getElem? (i := 214) rfl)) rfl
theorem tw_ml_RL_22 : Cond.methodLink RL 22 yX5_feed ∈ TT := tm (tb_1 (List.mem_of_getElem? (i := 215) rfl)) rfl
theorem tw_im_X5_feed : Cond.instanceMethod yX5_feed ∈ TT := tm (tb_1 (List.mem_of_getElem? (i := 216) rfl)) rfl
theorem tw_se_X5_feed : Cond.selects RX5 yX5_feed yX5_feed ∈ TT := tm (tb_1 (List.mem_of_getElem? (i := 217) rfl)) rfl
theorem tw_cd_X5_feed : Cond.code yX5_feed cX5_feed 8 (Option.some Jvm.ClassFile.FieldType.int) ∈ TT := tm (tb_1 (List.mem_of_getElem? (i := 218) rfl)) rfl
theorem tw_ml_RX5_85 : Cond.methodLink RX5 85 yX5_isByte ∈ TT := tm (tb_1 (List.mem_of_getElem? (i := 219) rfl)) rfl
theorem tw_st_X5_isByte : Cond.static yX5_isByte ∈ TT := tm (tb_1 (List.mem_of_getElem? (i := 220) rfl)) rfl
theorem tw_cd_X5_isByte : Cond.code yX5_isByte cX5_isByte 1 (Option.some Jvm.ClassFile.FieldType.boolean) ∈ TT := tm (tb_1 (List.mem_of_getElem? (i := 221) rfl)) rfl
theorem tw_ml_RX5_89 : Cond.methodLink RX5 89 yX2_add ∈ TT := tm (tb_1 (List.mem_of_getElem? (i := 222) rfl)) rfl
theorem tw_im_X2_add : Cond.instanceMethod yX2_add ∈ TT := tm (tb_1 (List.mem_of_getElem? (i := 223) rfl)) rfl
theorem tw_se_X2_add : Cond.selects RX2 yX2_add yX2_add ∈ TT := tm (tb_1 (List.mem_of_getElem? (i := 224) rfl)) rfl
theorem tw_cd_X2_add : Cond.code yX2_add cX2_add 2 none ∈ TT := tm (tb_1 (List.mem_of_getElem? (i := 225) rfl)) rfl
theorem tw_ml_RL_27 : Cond.methodLink RL 27 yX5_text ∈ TT := tm (tb_1 (List.mem_of_getElem? (i := 226) rfl)) rfl
theorem tw_im_X5_text : Cond.instanceMethod yX5_text ∈ TT := tm (tb_1 (List.mem_of_getElem? (i := 227) rfl)) rfl
theorem tw_se_X5_text : Cond.selects RX5 yX5_text yX5_text ∈ TT := tm (tb_1 (List.mem_of_getElem? (i := 228) rfl)) rfl
theorem tw_cd_X5_text : Cond.code yX5_text cX5_text 2 (Option.some Jvm.ClassFile.FieldType.int) ∈ TT := tm (tb_1 (List.mem_of_getElem? (i := 229) rfl)) rfl
theorem tw_ml_RX5_93 : Cond.methodLink RX5 93 yX2_readInto ∈ TT := tm (tb_1 (List.mem_of_getElem? (i := 230) rfl)) rfl
theorem tw_im_X2_readInto : Cond.instanceMethod yX2_readInto ∈ TT := tm (tb_1 (List.mem_of_getElem? (i := 231) rfl)) rfl
theorem tw_se_X2_readInto : Cond.selects RX2 yX2_readInto yX2_readInto ∈ TT := tm (tb_1 (List.mem_of_getElem? (i := 232) rfl)) rfl
theorem tw_cd_X2_readInto : Cond.code yX2_readInto cX2_readInto 3 (Option.some Jvm.ClassFile.FieldType.int) ∈ TT := tm (tb_1 (List.mem_of_getElem? (i := 233) rfl)) rfl
theorem tw_ml_RX2_25 : Cond.methodLink RX2 25 yX3_empty ∈ TT := tm (tb_1 (List.mem_of_getElem? (i := 234) rfl)) rfl
theorem tw_ml_RX2_30 : Cond.methodLink RX2 30 yX2_step ∈ TT := tm (tb_1 (List.mem_of_getElem? (i := 235) rfl)) rfl
theorem tw_im_X2_step : Cond.instanceMethod yX2_step ∈ TT := tm (tb_1 (List.mem_of_getElem? (i := 237) rfl)) rfl
theorem tw_cd_X2_step : Cond.code yX2_step cX2_step 2 none ∈ TT := tm (tb_1 (List.mem_of_getElem? (i := 238) rfl)) rfl
theorem tw_ml_RX2_78 : Cond.methodLink RX2 78 yX2_byteAt ∈ TT := tm (tb_1 (List.mem_of_getElem? (i := 239) rfl)) rfl
theorem tw_im_X2_byteAt : Cond.instanceMethod yX2_byteAt ∈ TT := tm (tb_2 (List.mem_of_getElem? (i := 1) rfl)) rfl
theorem tw_cd_X2_byteAt : Cond.code yX2_byteAt cX2_byteAt 2 (Option.some Jvm.ClassFile.FieldType.int) ∈ TT := tm (tb_2 (List.mem_of_getElem? (i := 2) rfl)) rfl
theorem tw_ml_RX2_82 : Cond.methodLink RX2 82 yX2_isLetter ∈ TT := tm (tb_2 (List.mem_of_getElem? (i := 3) rfl)) rfl
theorem tw_st_X2_isLetter : Cond.static yX2_isLetter ∈ TT := tm (tb_2 (List.mem_of_getElem? (i := 4) rfl)) rfl
theorem tw_cd_X2_isLetter : Cond.code yX2_isLetter cX2_isLetter 1 (Option.some Jvm.ClassFile.FieldType.boolean) ∈ TT := tm (tb_2 (List.mem_of_getElem? (i := 5) rfl)) rfl
theorem tw_ml_RX2_85 : Cond.methodLink RX2 85 yX2_takeWord ∈ TT := tm (tb_2 (List.mem_of_getElem? (i := 6) rfl)) rfl
theorem tw_im_X2_takeWord : Cond.instanceMethod yX2_takeWord ∈ TT := tm (tb_2 (List.mem_of_getElem? (i := 8) rfl)) rfl
theorem tw_cd_X2_takeWord : Cond.code yX2_takeWord cX2_takeWord 2 none ∈ TT := tm (tb_2 (List.mem_of_getElem? (i := 9) rfl)) rfl
theorem tw_ml_RX2_97 : Cond.methodLink RX2 97 yX2_wordOf ∈ TT := tm (tb_2 (List.mem_of_getElem? (i := 10) rfl)) rfl
theorem tw_st_X2_wordOf : Cond.static yX2_wordOf ∈ TT := tm (tb_2 (List.mem_of_getElem? (i := 11) rfl)) rfl
theorem tw_cd_X2_wordOf : Cond.code yX2_wordOf cX2_wordOf 1 (Option.some (Jvm.ClassFile.FieldType.object "java/lang/String")) ∈ TT := tm (tb_2 (List.mem_of_getElem? (i := 12) rfl)) rfl
theorem tw_ml_RX2_101 : Cond.methodLink RX2 101 yX2_isWord ∈ TT := tm (tb_2 (List.mem_of_getElem? (i := 25) rfl)) rfl
theorem tw_im_X2_isWord : Cond.instanceMethod yX2_isWord ∈ TT := tm (tb_2 (List.mem_of_getElem? (i := 27) rfl)) rfl
theorem tw_cd_X2_isWord : Cond.code yX2_isWord cX2_isWord 3 (Option.some Jvm.ClassFile.FieldType.boolean) ∈ TT := tm (tb_2 (List.mem_of_getElem? (i := 28) rfl)) rfl
theorem tw_ml_RX2_105 : Cond.methodLink RX2 105 yJ0_length_8abf5 ∈ TT := tm (tb_2 (List.mem_of_getElem? (i := 29) rfl)) rfl
theorem tw_im_J0_length_8abf5 : Cond.instanceMethod yJ0_length_8abf5 ∈ TT := tm (tb_2 (List.mem_of_getElem? (i := 30) rfl)) rfl
theorem tw_se_J0_length_8abf5 : Cond.selects RJ0 yJ0_length_8abf5 yJ0_length_8abf5 ∈ TT := tm (tb_2 (List.mem_of_getElem? (i := 31) rfl)) rfl
theorem tw_cd_J0_length_8abf5 : Cond.code yJ0_length_8abf5 cJ0_length_8abf5 1 (Option.some Jvm.ClassFile.FieldType.int) ∈ TT := tm (tb_2 (List.mem_of_getElem? (i := 32) rfl)) rfl
theorem tw_ml_RJ0_335 : Cond.methodLink RJ0 335 yJ0_coder_7d493 ∈ TT := tm (tb_2 (List.mem_of_getElem? (i := 33) rfl)) rfl
theorem tw_im_J0_coder_7d493 : Cond.instanceMethod yJ0_coder_7d493 ∈ TT := tm (tb_2 (List.mem_of_getElem? (i := 34) rfl)) rfl
theorem tw_se_J0_coder_7d493 : Cond.selects RJ0 yJ0_coder_7d493 yJ0_coder_7d493 ∈ TT := tm (tb_2 (List.mem_of_getElem? (i := 35) rfl)) rfl
theorem tw_cd_J0_coder_7d493 : Cond.code yJ0_coder_7d493 cJ0_coder_7d493 1 (Option.some Jvm.ClassFile.FieldType.byte) ∈ TT := tm (tb_2 (List.mem_of_getElem? (i := 36) rfl)) rfl
theorem tw_fl_RJ0_38 : Cond.fieldLink RJ0 38 "java/lang/String" "COMPACT_STRINGS" "Z" ∈ TT := tm (tb_2 (List.mem_of_getElem? (i := 37) rfl)) rfl
theorem tw_ml_RX2_111 : Cond.methodLink RX2 111 yJ0_charAt_5068e ∈ TT := tm (tb_2 (List.mem_of_getElem? (i := 39) rfl)) rfl
theorem tw_im_J0_charAt_5068e : Cond.instanceMethod yJ0_charAt_5068e ∈ TT := tm (tb_2 (List.mem_of_getElem? (i := 40) rfl)) rfl
theorem tw_se_J0_charAt_5068e : Cond.selects RJ0 yJ0_charAt_5068e yJ0_charAt_5068e ∈ TT := tm (tb_2 (List.mem_of_getElem? (i := 41) rfl)) rfl
theorem tw_cd_J0_charAt_5068e : Cond.code yJ0_charAt_5068e cJ0_charAt_5068e 2 (Option.some Jvm.ClassFile.FieldType.char) ∈ TT := tm (tb_2 (List.mem_of_getElem? (i := 42) rfl)) rfl
theorem tw_ml_RJ0_492 : Cond.methodLink RJ0 492 yJ0_isLatin1_aae02 ∈ TT := tm (tb_2 (List.mem_of_getElem? (i := 43) rfl)) rfl
theorem tw_im_J0_isLatin1_aae02 : Cond.instanceMethod yJ0_isLatin1_aae02 ∈ TT := tm (tb_2 (List.mem_of_getElem? (i := 44) rfl)) rfl
theorem tw_se_J0_isLatin1_aae02 : Cond.selects RJ0 yJ0_isLatin1_aae02 yJ0_isLatin1_aae02 ∈ TT := tm (tb_2 (List.mem_of_getElem? (i := 45) rfl)) rfl
theorem tw_cd_J0_isLatin1_aae02 : Cond.code yJ0_isLatin1_aae02 cJ0_isLatin1_aae02 1 (Option.some Jvm.ClassFile.FieldType.boolean) ∈ TT := tm (tb_2 (List.mem_of_getElem? (i := 46) rfl)) rfl
theorem tw_ml_RJ0_495 : Cond.methodLink RJ0 495 yJ1_charAt_3b067 ∈ TT := tm (tb_2 (List.mem_of_getElem? (i := 47) rfl)) rfl
theorem tw_st_J1_charAt_3b067 : Cond.static yJ1_charAt_3b067 ∈ TT := tm (tb_2 (List.mem_of_getElem? (i := 48) rfl)) rfl
theorem tw_cd_J1_charAt_3b067 : Cond.code yJ1_charAt_3b067 cJ1_charAt_3b067 2 (Option.some Jvm.ClassFile.FieldType.char) ∈ TT := tm (tb_2 (List.mem_of_getElem? (i := 49) rfl)) rfl
theorem tw_ml_RJ1_9 : Cond.methodLink RJ1 9 yJ0_checkIndex_df160 ∈ TT := tm (tb_2 (List.mem_of_getElem? (i := 50) rfl)) rfl
theorem tw_st_J0_checkIndex_df160 : Cond.static yJ0_checkIndex_df160 ∈ TT := tm (tb_2 (List.mem_of_getElem? (i := 51) rfl)) rfl
theorem tw_cd_J0_checkIndex_df160 : Cond.code yJ0_checkIndex_df160 cJ0_checkIndex_df160 2 none ∈ TT := tm (tb_2 (List.mem_of_getElem? (i := 52) rfl)) rfl
theorem tw_fl_RJ0_1053 : Cond.fieldLink RJ0 1053 "jdk/internal/util/Preconditions" "SIOOBE_FORMATTER" "Ljava/util/function/BiFunction;" ∈ TT := tm (tb_2 (List.mem_of_getElem? (i := 53) rfl)) rfl
theorem tw_ml_RJ0_1059 : Cond.methodLink RJ0 1059 yJ3_checkIndex_8e157 ∈ TT := tm (tb_2 (List.mem_of_getElem? (i := 55) rfl)) rfl
theorem tw_st_J3_checkIndex_8e157 : Cond.static yJ3_checkIndex_8e157 ∈ TT := tm (tb_2 (List.mem_of_getElem? (i := 56) rfl)) rfl
theorem tw_cd_J3_checkIndex_8e157 : Cond.code yJ3_checkIndex_8e157 cJ3_checkIndex_8e157 3 (Option.some Jvm.ClassFile.FieldType.int) ∈ TT := tm (tb_2 (List.mem_of_getElem? (i := 57) rfl)) rfl
theorem tw_ml_RJ0_498 : Cond.methodLink RJ0 498 yJ2_charAt_3b067 ∈ TT := tm (tb_2 (List.mem_of_getElem? (i := 58) rfl)) rfl
theorem tw_st_J2_charAt_3b067 : Cond.static yJ2_charAt_3b067 ∈ TT := tm (tb_2 (List.mem_of_getElem? (i := 59) rfl)) rfl
theorem tw_cd_J2_charAt_3b067 : Cond.code yJ2_charAt_3b067 cJ2_charAt_3b067 2 (Option.some Jvm.ClassFile.FieldType.char) ∈ TT := tm (tb_2 (List.mem_of_getElem? (i := 60) rfl)) rfl
theorem tw_ml_RJ2_67 : Cond.methodLink RJ2 67 yJ2_checkIndex_2214a ∈ TT := tm (tb_2 (List.mem_of_getElem? (i := 61) rfl)) rfl
theorem tw_st_J2_checkIndex_2214a : Cond.static yJ2_checkIndex_2214a ∈ TT := tm (tb_2 (List.mem_of_getElem? (i := 62) rfl)) rfl
theorem tw_cd_J2_checkIndex_2214a : Cond.code yJ2_checkIndex_2214a cJ2_checkIndex_2214a 2 none ∈ TT := tm (tb_2 (List.mem_of_getElem? (i := 63) rfl)) rfl
theorem tw_ml_RJ2_48 : Cond.methodLink RJ2 48 yJ2_length_9d52b ∈ TT := tm (tb_2 (List.mem_of_getElem? (i := 64) rfl)) rfl
theorem tw_st_J2_length_9d52b : Cond.static yJ2_length_9d52b ∈ TT := tm (tb_2 (List.mem_of_getElem? (i := 65) rfl)) rfl
theorem tw_cd_J2_length_9d52b : Cond.code yJ2_length_9d52b cJ2_length_9d52b 1 (Option.some Jvm.ClassFile.FieldType.int) ∈ TT := tm (tb_2 (List.mem_of_getElem? (i := 66) rfl)) rfl
theorem tw_ml_RJ2_414 : Cond.methodLink RJ2 414 yJ0_checkIndex_df160 ∈ TT := tm (tb_2 (List.mem_of_getElem? (i := 67) rfl)) rfl
theorem tw_ml_RJ2_71 : Cond.methodLink RJ2 71 yJ2_getChar_3b067 ∈ TT := tm (tb_2 (List.mem_of_getElem? (i := 68) rfl)) rfl
theorem tw_st_J2_getChar_3b067 : Cond.static yJ2_getChar_3b067 ∈ TT := tm (tb_2 (List.mem_of_getElem? (i := 69) rfl)) rfl
theorem tw_cd_J2_getChar_3b067 : Cond.code yJ2_getChar_3b067 cJ2_getChar_3b067 2 (Option.some Jvm.ClassFile.FieldType.char) ∈ TT := tm (tb_2 (List.mem_of_getElem? (i := 70) rfl)) rfl
theorem tw_fl_RJ2_44 : Cond.fieldLink RJ2 44 "java/lang/StringUTF16" "$assertionsDisabled" "Z" ∈ TT := tm (tb_2 (List.mem_of_getElem? (i := 71) rfl)) rfl
theorem tw_fl_RJ2_59 : Cond.fieldLink RJ2 59 "java/lang/StringUTF16" "HI_BYTE_SHIFT" "I" ∈ TT := tm (tb_2 (List.mem_of_getElem? (i := 73) rfl)) rfl
theorem tw_fl_RJ2_63 : Cond.fieldLink RJ2 63 "java/lang/StringUTF16" "LO_BYTE_SHIFT" "I" ∈ TT := tm (tb_2 (List.mem_of_getElem? (i := 75) rfl)) rfl
theorem tw_ml_RX2_88 : Cond.methodLink RX2 88 yX2_isDigit ∈ TT := tm (tb_2 (List.mem_of_getElem? (i := 77) rfl)) rfl
theorem tw_st_X2_isDigit : Cond.static yX2_isDigit ∈ TT := tm (tb_2 (List.mem_of_getElem? (i := 78) rfl)) rfl
theorem tw_cd_X2_isDigit : Cond.code yX2_isDigit cX2_isDigit 1 (Option.some Jvm.ClassFile.FieldType.boolean) ∈ TT := tm (tb_2 (List.mem_of_getElem? (i := 79) rfl)) rfl
theorem tw_ml_RX2_91 : Cond.methodLink RX2 91 yX2_takeNumber ∈ TT := tm (tb_2 (List.mem_of_getElem? (i := 80) rfl)) rfl
theorem tw_im_X2_takeNumber : Cond.instanceMethod yX2_takeNumber ∈ TT := tm (tb_2 (List.mem_of_getElem? (i := 82) rfl)) rfl
theorem tw_cd_X2_takeNumber : Cond.code yX2_takeNumber cX2_takeNumber 1 none ∈ TT := tm (tb_2 (List.mem_of_getElem? (i := 83) rfl)) rfl
theorem tw_ml_RX2_94 : Cond.methodLink RX2 94 yX2_isSign ∈ TT := tm (tb_2 (List.mem_of_getElem? (i := 84) rfl)) rfl
theorem tw_st_X2_isSign : Cond.static yX2_isSign ∈ TT := tm (tb_2 (List.mem_of_getElem? (i := 85) rfl)) rfl
theorem tw_cd_X2_isSign : Cond.code yX2_isSign cX2_isSign 1 (Option.some Jvm.ClassFile.FieldType.boolean) ∈ TT := tm (tb_2 (List.mem_of_getElem? (i := 86) rfl)) rfl
theorem tw_ml_RX2_33 : Cond.methodLink RX2 33 yX2_expect ∈ TT := tm (tb_2 (List.mem_of_getElem? (i := 87) rfl)) rfl
theorem tw_im_X2_expect : Cond.instanceMethod yX2_expect ∈ TT := tm (tb_2 (List.mem_of_getElem? (i := 89) rfl)) rfl
theorem tw_cd_X2_expect : Cond.code yX2_expect cX2_expect 2 none ∈ TT := tm (tb_2 (List.mem_of_getElem? (i := 90) rfl)) rfl
theorem tw_ml_RX2_47 : Cond.methodLink RX2 47 yX2_fail ∈ TT := tm (tb_2 (List.mem_of_getElem? (i := 91) rfl)) rfl
theorem tw_im_X2_fail : Cond.instanceMethod yX2_fail ∈ TT := tm (tb_2 (List.mem_of_getElem? (i := 93) rfl)) rfl
theorem tw_cd_X2_fail : Cond.code yX2_fail cX2_fail 1 none ∈ TT := tm (tb_2 (List.mem_of_getElem? (i := 94) rfl)) rfl
theorem tw_ml_RX2_37 : Cond.methodLink RX2 37 yX2_readEither ∈ TT := tm (tb_2 (List.mem_of_getElem? (i := 95) rfl)) rfl
theorem tw_im_X2_readEither : Cond.instanceMethod yX2_readEither ∈ TT := tm (tb_2 (List.mem_of_getElem? (i := 97) rfl)) rfl
theorem tw_cd_X2_readEither : Cond.code yX2_readEither cX2_readEither 4 none ∈ TT := tm (tb_2 (List.mem_of_getElem? (i := 98) rfl)) rfl
theorem tw_ml_RX2_53 : Cond.methodLink RX2 53 yX2_readBoth ∈ TT := tm (tb_2 (List.mem_of_getElem? (i := 99) rfl)) rfl
theorem tw_im_X2_readBoth : Cond.instanceMethod yX2_readBoth ∈ TT := tm (tb_2 (List.mem_of_getElem? (i := 101) rfl)) rfl
theorem tw_cd_X2_readBoth : Cond.code yX2_readBoth cX2_readBoth 4 none ∈ TT := tm (tb_2 (List.mem_of_getElem? (i := 102) rfl)) rfl
theorem tw_ml_RX2_59 : Cond.methodLink RX2 59 yX2_readNot ∈ TT := tm (tb_2 (List.mem_of_getElem? (i := 103) rfl)) rfl
theorem tw_im_X2_readNot : Cond.instanceMethod yX2_readNot ∈ TT := tm (tb_2 (List.mem_of_getElem? (i := 105) rfl)) rfl
theorem tw_cd_X2_readNot : Cond.code yX2_readNot cX2_readNot 4 none ∈ TT := tm (tb_2 (List.mem_of_getElem? (i := 106) rfl)) rfl
theorem tw_ml_RX2_62 : Cond.methodLink RX2 62 yX2_mayOpen ∈ TT := tm (tb_2 (List.mem_of_getElem? (i := 107) rfl)) rfl
theorem tw_im_X2_mayOpen : Cond.instanceMethod yX2_mayOpen ∈ TT := tm (tb_2 (List.mem_of_getElem? (i := 109) rfl)) rfl
theorem tw_cd_X2_mayOpen : Cond.code yX2_mayOpen cX2_mayOpen 2 (Option.some Jvm.ClassFile.FieldType.boolean) ∈ TT := tm (tb_2 (List.mem_of_getElem? (i := 110) rfl)) rfl
theorem tw_ml_RX2_56 : Cond.methodLink RX2 56 yX3_add ∈ TT := tm (tb_2 (List.mem_of_getElem? (i := 111) rfl)) rfl
theorem tw_ml_RX2_66 : Cond.methodLink RX2 66 yX2_readSum ∈ TT := tm (tb_2 (List.mem_of_getElem? (i := 112) rfl)) rfl
theorem tw_im_X2_readSum : Cond.instanceMethod yX2_readSum ∈ TT := tm (tb_2 (List.mem_of_getElem? (i := 114) rfl)) rfl
theorem tw_cd_X2_readSum : Cond.code yX2_readSum cX2_readSum 5 none ∈ TT := tm (tb_2 (List.mem_of_getElem? (i := 115) rfl)) rfl
theorem tw_ml_RX2_69 : Cond.methodLink RX2 69 yX2_readTerm ∈ TT := tm (tb_2 (List.mem_of_getElem? (i := 116) rfl)) rfl
theorem tw_im_X2_readTerm : Cond.instanceMethod yX2_readTerm ∈ TT := tm (tb_2 (List.mem_of_getElem? (i := 118) rfl)) rfl
theorem tw_cd_X2_readTerm : Cond.code yX2_readTerm cX2_readTerm 4 none ∈ TT := tm (tb_2 (List.mem_of_getElem? (i := 119) rfl)) rfl
theorem tw_ml_RX2_72 : Cond.methodLink RX2 72 yX2_readOne ∈ TT := tm (tb_2 (List.mem_of_getElem? (i := 120) rfl)) rfl
theorem tw_im_X2_readOne : Cond.instanceMethod yX2_readOne ∈ TT := tm (tb_2 (List.mem_of_getElem? (i := 122) rfl)) rfl
theorem tw_cd_X2_readOne : Cond.code yX2_readOne cX2_readOne 3 none ∈ TT := tm (tb_2 (List.mem_of_getElem? (i := 123) rfl)) rfl
theorem tw_ml_RX2_41 : Cond.methodLink RX2 41 yX3_endPart ∈ TT := tm (tb_2 (List.mem_of_getElem? (i := 124) rfl)) rfl
theorem tw_ac_2_125 : ((Jvm.Cond.arrayClass Jvm.ClassFile.FieldType.byte)) ∈ TT := tm (tb_2 (List.mem_of_getElem? (i := 125) rfl)) rfl
theorem tw_ml_RL_32 : Cond.methodLink RL 32 yX5_force ∈ TT := tm (tb_2 (List.mem_of_getElem? (i := 126) rfl)) rfl
theorem tw_im_X5_force : Cond.instanceMethod yX5_force ∈ TT := tm (tb_2 (List.mem_of_getElem? (i := 127) rfl)) rfl
theorem tw_se_X5_force : Cond.selects RX5 yX5_force yX5_force ∈ TT := tm (tb_2 (List.mem_of_getElem? (i := 128) rfl)) rfl
theorem tw_cd_X5_force : Cond.code yX5_force cX5_force 3 (Option.some Jvm.ClassFile.FieldType.int) ∈ TT := tm (tb_2 (List.mem_of_getElem? (i := 129) rfl)) rfl
theorem tw_ml_RX5_97 : Cond.methodLink RX5 97 yX4_obey ∈ TT := tm (tb_2 (List.mem_of_getElem? (i := 130) rfl)) rfl
theorem tw_im_X4_obey : Cond.instanceMethod yX4_obey ∈ TT := tm (tb_2 (List.mem_of_getElem? (i := 131) rfl)) rfl
theorem tw_se_X4_obey : Cond.selects RX4 yX4_obey yX4_obey ∈ TT := tm (tb_2 (List.mem_of_getElem? (i := 132) rfl)) rfl
theorem tw_cd_X4_obey : Cond.code yX4_obey cX4_obey 3 none ∈ TT := tm (tb_2 (List.mem_of_getElem? (i := 133) rfl)) rfl
theorem tw_ml_RL_36 : Cond.methodLink RL 36 yX5_asks ∈ TT := tm (tb_2 (List.mem_of_getElem? (i := 134) rfl)) rfl
theorem tw_im_X5_asks : Cond.instanceMethod yX5_asks ∈ TT := tm (tb_2 (List.mem_of_getElem? (i := 135) rfl)) rfl
theorem tw_se_X5_asks : Cond.selects RX5 yX5_asks yX5_asks ∈ TT := tm (tb_2 (List.mem_of_getElem? (i := 136) rfl)) rfl
theorem tw_cd_X5_asks : Cond.code yX5_asks cX5_asks 3 (Option.some Jvm.ClassFile.FieldType.int) ∈ TT := tm (tb_2 (List.mem_of_getElem? (i := 137) rfl)) rfl
theorem tw_ml_RX5_101 : Cond.methodLink RX5 101 yX4_has ∈ TT := tm (tb_2 (List.mem_of_getElem? (i := 138) rfl)) rfl
theorem tw_im_X4_has : Cond.instanceMethod yX4_has ∈ TT := tm (tb_2 (List.mem_of_getElem? (i := 139) rfl)) rfl
theorem tw_se_X4_has : Cond.selects RX4 yX4_has yX4_has ∈ TT := tm (tb_2 (List.mem_of_getElem? (i := 140) rfl)) rfl
theorem tw_cd_X4_has : Cond.code yX4_has cX4_has 2 (Option.some Jvm.ClassFile.FieldType.boolean) ∈ TT := tm (tb_2 (List.mem_of_getElem? (i := 141) rfl)) rfl
theorem tw_ml_RX5_108 : Cond.methodLink RX5 108 yX3_says ∈ TT := tm (tb_2 (List.mem_of_getElem? (i := 142) rfl)) rfl
theorem tw_im_X3_says : Cond.instanceMethod yX3_says ∈ TT := tm (tb_2 (List.mem_of_getElem? (i := 143) rfl)) rfl
theorem tw_se_X3_says : Cond.selects RX3 yX3_says yX3_says ∈ TT := tm (tb_2 (List.mem_of_getElem? (i := 144) rfl)) rfl
theorem tw_cd_X3_says : Cond.code yX3_says cX3_says 8 (Option.some Jvm.ClassFile.FieldType.int) ∈ TT := tm (tb_2 (List.mem_of_getElem? (i := 145) rfl)) rfl
theorem tw_ml_RX3_35 : Cond.methodLink RX3 35 yX4_has ∈ TT := tm (tb_2 (List.mem_of_getElem? (i := 146) rfl)) rfl
theorem tw_ml_RX3_41 : Cond.methodLink RX3 41 yX4_named ∈ TT := tm (tb_2 (List.mem_of_getElem? (i := 147) rfl)) rfl
theorem tw_im_X4_named : Cond.instanceMethod yX4_named ∈ TT := tm (tb_2 (List.mem_of_getElem? (i := 148) rfl)) rfl
theorem tw_se_X4_named : Cond.selects RX4 yX4_named yX4_named ∈ TT := tm (tb_2 (List.mem_of_getElem? (i := 149) rfl)) rfl
theorem tw_cd_X4_named : Cond.code yX4_named cX4_named 3 (Option.some Jvm.ClassFile.FieldType.int) ∈ TT := tm (tb_2 (List.mem_of_getElem? (i := 150) rfl)) rfl
theorem tw_ml_RX4_59 : Cond.methodLink RX4 59 yX4_has ∈ TT := tm (tb_2 (List.mem_of_getElem? (i := 151) rfl)) rfl
theorem tw_ml_RX4_70 : Cond.methodLink RX4 70 Lib.Math.min.name ∈ TT := tm (tb_2 (List.mem_of_getElem? (i := 152) rfl)) rfl
theorem tw_st_Mmin : Cond.static Lib.Math.min.name ∈ TT := tm (tb_2 (List.mem_of_getElem? (i := 153) rfl)) rfl
theorem tw_cd_Mmin : Cond.code Lib.Math.min.name Lib.Math.min.code 2 (some .int) ∈ TT := tm (tb_2 (List.mem_of_getElem? (i := 154) rfl)) rfl
theorem tw_ml_RX3_45 : Cond.methodLink RX3 45 yX3_joined ∈ TT := tm (tb_2 (List.mem_of_getElem? (i := 155) rfl)) rfl
theorem tw_st_X3_joined : Cond.static yX3_joined ∈ TT := tm (tb_2 (List.mem_of_getElem? (i := 156) rfl)) rfl
theorem tw_cd_X3_joined : Cond.code yX3_joined cX3_joined 3 (Option.some Jvm.ClassFile.FieldType.int) ∈ TT := tm (tb_2 (List.mem_of_getElem? (i := 157) rfl)) rfl
theorem tw_ml_RX3_49 : Cond.methodLink RX3 49 Lib.Math.min.name ∈ TT := tm (tb_2 (List.mem_of_getElem? (i := 158) rfl)) rfl
theorem tw_ml_RX3_54 : Cond.methodLink RX3 54 Lib.Math.max.name ∈ TT := tm (tb_2 (List.mem_of_getElem? (i := 159) rfl)) rfl
theorem tw_st_Mmax : Cond.static Lib.Math.max.name ∈ TT := tm (tb_2 (List.mem_of_getElem? (i := 160) rfl)) rfl
theorem tw_cd_Mmax : Cond.code Lib.Math.max.name Lib.Math.max.code 2 (some .int) ∈ TT := tm (tb_2 (List.mem_of_getElem? (i := 161) rfl)) rfl
theorem tw_ml_RL_41 : Cond.methodLink RL 41 yX5_person ∈ TT := tm (tb_2 (List.mem_of_getElem? (i := 162) rfl)) rfl
theorem tw_im_X5_person : Cond.instanceMethod yX5_person ∈ TT := tm (tb_2 (List.mem_of_getElem? (i := 163) rfl)) rfl
theorem tw_se_X5_person : Cond.selects RX5 yX5_person yX5_person ∈ TT := tm (tb_2 (List.mem_of_getElem? (i := 164) rfl)) rfl
theorem tw_cd_X5_person : Cond.code yX5_person cX5_person 4 (Option.some Jvm.ClassFile.FieldType.int) ∈ TT := tm (tb_2 (List.mem_of_getElem? (i := 165) rfl)) rfl
theorem tw_ml_RX5_112 : Cond.methodLink RX5 112 yX4_join ∈ TT := tm (tb_2 (List.mem_of_getElem? (i := 166) rfl)) rfl
theorem tw_im_X4_join : Cond.instanceMethod yX4_join ∈ TT := tm (tb_2 (List.mem_of_getElem? (i := 167) rfl)) rfl
theorem tw_se_X4_join : Cond.selects RX4 yX4_join yX4_join ∈ TT := tm (tb_2 (List.mem_of_getElem? (i := 168) rfl)) rfl
theorem tw_cd_X4_join : Cond.code yX4_join cX4_join 5 (Option.some Jvm.ClassFile.FieldType.int) ∈ TT := tm (tb_2 (List.mem_of_getElem? (i := 169) rfl)) rfl
theorem tw_co_RX4_58 : Cond.constant RX4 58 (16777215) ∈ TT := tm (tb_2 (List.mem_of_getElem? (i := 171) rfl)) rfl
theorem tw_ml_RL_46 : Cond.methodLink RL 46 yX5_put ∈ TT := tm (tb_2 (List.mem_of_getElem? (i := 172) rfl)) rfl
theorem tw_im_X5_put : Cond.instanceMethod yX5_put ∈ TT := tm (tb_2 (List.mem_of_getElem? (i := 173) rfl)) rfl
theorem tw_se_X5_put : Cond.selects RX5 yX5_put yX5_put ∈ TT := tm (tb_2 (List.mem_of_getElem? (i := 174) rfl)) rfl
theorem tw_cd_X5_put : Cond.code yX5_put cX5_put 6 (Option.some Jvm.ClassFile.FieldType.int) ∈ TT := tm (tb_2 (List.mem_of_getElem? (i := 175) rfl)) rfl
theorem tw_ml_RX5_116 : Cond.methodLink RX5 116 yX5_mostOf ∈ TT := tm (tb_2 (List.mem_of_getElem? (i := 176) rfl)) rfl
theorem tw_st_X5_mostOf : Cond.static yX5_mostOf ∈ TT := tm (tb_2 (List.mem_of_getElem? (i := 177) rfl)) rfl
theorem tw_cd_X5_mostOf : Cond.code yX5_mostOf cX5_mostOf 1 (Option.some Jvm.ClassFile.FieldType.int) ∈ TT := tm (tb_2 (List.mem_of_getElem? (i := 178) rfl)) rfl
theorem tw_co_RX5_257 : Cond.constant RX5 257 (16777215) ∈ TT := tm (tb_2 (List.mem_of_getElem? (i := 179) rfl)) rfl
theorem tw_ml_RX5_120 : Cond.methodLink RX5 120 yX4_known ∈ TT := tm (tb_2 (List.mem_of_getElem? (i := 180) rfl)) rfl
theorem tw_im_X4_known : Cond.instanceMethod yX4_known ∈ TT := tm (tb_2 (List.mem_of_getElem? (i := 181) rfl)) rfl
theorem tw_se_X4_known : Cond.selects RX4 yX4_known yX4_known ∈ TT := tm (tb_2 (List.mem_of_getElem? (i := 182) rfl)) rfl
theorem tw_cd_X4_known : Cond.code yX4_known cX4_known 3 (Option.some Jvm.ClassFile.FieldType.int) ∈ TT := tm (tb_2 (List.mem_of_getElem? (i := 183) rfl)) rfl
theorem tw_ml_RX4_63 : Cond.methodLink RX4 63 yX4_isVowed ∈ TT := tm (tb_2 (List.mem_of_getElem? (i := 184) rfl)) rfl
theorem tw_im_X4_isVowed : Cond.instanceMethod yX4_isVowed ∈ TT := tm (tb_2 (List.mem_of_getElem? (i := 185) rfl)) rfl
theorem tw_se_X4_isVowed : Cond.selects RX4 yX4_isVowed yX4_isVowed ∈ TT := tm (tb_2 (List.mem_of_getElem? (i := 186) rfl)) rfl
theorem tw_cd_X4_isVowed : Cond.code yX4_isVowed cX4_isVowed 2 (Option.some Jvm.ClassFile.FieldType.boolean) ∈ TT := tm (tb_2 (List.mem_of_getElem? (i := 187) rfl)) rfl
theorem tw_ml_RX5_124 : Cond.methodLink RX5 124 yX4_change ∈ TT := tm (tb_2 (List.mem_of_getElem? (i := 188) rfl)) rfl
theorem tw_im_X4_change : Cond.instanceMethod yX4_change ∈ TT := tm (tb_2 (List.mem_of_getElem? (i := 189) rfl)) rfl
theorem tw_se_X4_change : Cond.selects RX4 yX4_change yX4_change ∈ TT := tm (tb_2 (List.mem_of_getElem? (i := 190) rfl)) rfl
theorem tw_cd_X4_change : Cond.code yX4_change cX4_change 4 none ∈ TT := tm (tb_2 (List.mem_of_getElem? (i := 191) rfl)) rfl
theorem tw_ml_RX4_66 : Cond.methodLink RX4 66 yX4_turnVow ∈ TT := tm (tb_2 (List.mem_of_getElem? (i := 192) rfl)) rfl
theorem tw_im_X4_turnVow : Cond.instanceMethod yX4_turnVow ∈ TT := tm (tb_2 (List.mem_of_getElem? (i := 193) rfl)) rfl
theorem tw_se_X4_turnVow : Cond.selects RX4 yX4_turnVow yX4_turnVow ∈ TT := tm (tb_2 (List.mem_of_getElem? (i := 194) rfl)) rfl
theorem tw_cd_X4_turnVow : Cond.code yX4_turnVow cX4_turnVow 2 none ∈ TT := tm (tb_2 (List.mem_of_getElem? (i := 195) rfl)) rfl
theorem tw_ml_RL_50 : Cond.methodLink RL 50 yX5_tells ∈ TT := tm (tb_2 (List.mem_of_getElem? (i := 196) rfl)) rfl
theorem tw_im_X5_tells : Cond.instanceMethod yX5_tells ∈ TT := tm (tb_2 (List.mem_of_getElem? (i := 197) rfl)) rfl
theorem tw_se_X5_tells : Cond.selects RX5 yX5_tells yX5_tells ∈ TT := tm (tb_2 (List.mem_of_getElem? (i := 198) rfl)) rfl
theorem tw_cd_X5_tells : Cond.code yX5_tells cX5_tells 3 (Option.some Jvm.ClassFile.FieldType.int) ∈ TT := tm (tb_2 (List.mem_of_getElem? (i := 199) rfl)) rfl
theorem tw_ml_RX5_135 : Cond.methodLink RX5 135 yX4_isLying ∈ TT := tm (tb_2 (List.mem_of_getElem? (i := 200) rfl)) rfl
theorem tw_im_X4_isLying : Cond.instanceMethod yX4_isLying ∈ TT := tm (tb_2 (List.mem_of_getElem? (i := 201) rfl)) rfl
theorem tw_se_X4_isLying : Cond.selects RX4 yX4_isLying yX4_isLying ∈ TT := tm (tb_2 (List.mem_of_getElem? (i := 202) rfl)) rfl
theorem tw_cd_X4_isLying : Cond.code yX4_isLying cX4_isLying 2 (Option.some Jvm.ClassFile.FieldType.boolean) ∈ TT := tm (tb_2 (List.mem_of_getElem? (i := 203) rfl)) rfl
theorem tw_ml_RX4_79 : Cond.methodLink RX4 79 yX4_isLoversHour ∈ TT := tm (tb_2 (List.mem_of_getElem? (i := 204) rfl)) rfl
theorem tw_im_X4_isLoversHour : Cond.instanceMethod yX4_isLoversHour ∈ TT := tm (tb_2 (List.mem_of_getElem? (i := 205) rfl)) rfl
theorem tw_se_X4_isLoversHour : Cond.selects RX4 yX4_isLoversHour yX4_isLoversHour ∈ TT := tm (tb_2 (List.mem_of_getElem? (i := 206) rfl)) rfl
theorem tw_cd_X4_isLoversHour : Cond.code yX4_isLoversHour cX4_isLoversHour 2 (Option.some Jvm.ClassFile.FieldType.boolean) ∈ TT := tm (tb_2 (List.mem_of_getElem? (i := 207) rfl)) rfl
theorem tw_ml_RX4_76 : Cond.methodLink RX4 76 yX4_isOwnHour ∈ TT := tm (tb_2 (List.mem_of_getElem? (i := 208) rfl)) rfl
theorem tw_im_X4_isOwnHour : Cond.instanceMethod yX4_isOwnHour ∈ TT := tm (tb_2 (List.mem_of_getElem? (i := 209) rfl)) rfl
theorem tw_se_X4_isOwnHour : Cond.selects RX4 yX4_isOwnHour yX4_isOwnHour ∈ TT := tm (tb_2 (List.mem_of_getElem? (i := 210) rfl)) rfl
theorem tw_cd_X4_isOwnHour : Cond.code yX4_isOwnHour cX4_isOwnHour 2 (Option.some Jvm.ClassFile.FieldType.boolean) ∈ TT := tm (tb_2 (List.mem_of_getElem? (i := 211) rfl)) rfl
theorem tw_ml_RX4_82 : Cond.methodLink RX4 82 yX3_says ∈ TT := tm (tb_2 (List.mem_of_getElem? (i := 212) rfl)) rfl
theorem tw_ml_RX5_138 : Cond.methodLink RX5 138 yX4_costOf ∈ TT := tm (tb_2 (List.mem_of_getElem? (i := 213) rfl)) rfl
theorem tw_im_X4_costOf : Cond.instanceMethod yX4_costOf ∈ TT := tm (tb_2 (List.mem_of_getElem? (i := 214) rfl)) rfl
theorem tw_se_X4_costOf : Cond.selects RX4 yX4_costOf yX4_costOf ∈ TT := tm (tb_2 (List.mem_of_getElem? (i := 215) rfl)) rfl
theorem tw_cd_X4_costOf : Cond.code yX4_costOf cX4_costOf 2 (Option.some Jvm.ClassFile.FieldType.int) ∈ TT := tm (tb_2 (List.mem_of_getElem? (i := 216) rfl)) rfl
theorem tw_ml_RX5_141 : Cond.methodLink RX5 141 yX4_strokesOf ∈ TT := tm (tb_2 (List.mem_of_getElem? (i := 217) rfl)) rfl
theorem tw_im_X4_strokesOf : Cond.instanceMethod yX4_strokesOf ∈ TT := tm (tb_2 (List.mem_of_getElem? (i := 218) rfl)) rfl
theorem tw_se_X4_strokesOf : Cond.selects RX4 yX4_strokesOf yX4_strokesOf ∈ TT := tm (tb_2 (List.mem_of_getElem? (i := 219) rfl)) rfl
theorem tw_cd_X4_strokesOf : Cond.code yX4_strokesOf cX4_strokesOf 2 (Option.some Jvm.ClassFile.FieldType.int) ∈ TT := tm (tb_2 (List.mem_of_getElem? (i := 220) rfl)) rfl
theorem tw_ml_RL_54 : Cond.methodLink RL 54 yX5_bell ∈ TT := tm (tb_2 (List.mem_of_getElem? (i := 221) rfl)) rfl
theorem tw_im_X5_bell : Cond.instanceMethod yX5_bell ∈ TT := tm (tb_2 (List.mem_of_getElem? (i := 222) rfl)) rfl
theorem tw_se_X5_bell : Cond.selects RX5 yX5_bell yX5_bell ∈ TT := tm (tb_2 (List.mem_of_getElem? (i := 223) rfl)) rfl
theorem tw_cd_X5_bell : Cond.code yX5_bell cX5_bell 2 (Option.some Jvm.ClassFile.FieldType.int) ∈ TT := tm (tb_2 (List.mem_of_getElem? (i := 224) rfl)) rfl
theorem tw_ml_RX5_144 : Cond.methodLink RX5 144 yX4_liars ∈ TT := tm (tb_2 (List.mem_of_getElem? (i := 225) rfl)) rfl
theorem tw_im_X4_liars : Cond.instanceMethod yX4_liars ∈ TT := tm (tb_2 (List.mem_of_getElem? (i := 226) rfl)) rfl
theorem tw_se_X4_liars : Cond.selects RX4 yX4_liars yX4_liars ∈ TT := tm (tb_2 (List.mem_of_getElem? (i := 227) rfl)) rfl
theorem tw_cd_X4_liars : Cond.code yX4_liars cX4_liars 3 (Option.some Jvm.ClassFile.FieldType.int) ∈ TT := tm (tb_2 (List.mem_of_getElem? (i := 228) rfl)) rfl
theorem tw_ml_RX4_88 : Cond.methodLink RX4 88 yX4_isLying ∈ TT := tm (tb_2 (List.mem_of_getElem? (i := 229) rfl)) rfl
theorem tw_ml_RX5_148 : Cond.methodLink RX5 148 yX4_strikesOf ∈ TT := tm (tb_2 (List.mem_of_getElem? (i := 230) rfl)) rfl
theorem tw_im_X4_strikesOf : Cond.instanceMethod yX4_strikesOf ∈ TT := tm (tb_2 (List.mem_of_getElem? (i := 231) rfl)) rfl
theorem tw_se_X4_strikesOf : Cond.selects RX4 yX4_strikesOf yX4_strikesOf ∈ TT := tm (tb_2 (List.mem_of_getElem? (i := 232) rfl)) rfl
theorem tw_cd_X4_strikesOf : Cond.code yX4_strikesOf cX4_strikesOf 4 (Option.some Jvm.ClassFile.FieldType.int) ∈ TT := tm (tb_2 (List.mem_of_getElem? (i := 233) rfl)) rfl
theorem tw_ml_RX4_91 : Cond.methodLink RX4 91 yX4_strokesOf ∈ TT := tm (tb_2 (List.mem_of_getElem? (i := 234) rfl)) rfl
theorem tw_ml_RL_58 : Cond.methodLink RL 58 yX5_strike ∈ TT := tm (tb_2 (List.mem_of_getElem? (i := 235) rfl)) rfl
theorem tw_im_X5_strike : Cond.instanceMethod yX5_strike ∈ TT := tm (tb_2 (List.mem_of_getElem? (i := 236) rfl)) rfl
theorem tw_se_X5_strike : Cond.selects RX5 yX5_strike yX5_strike ∈ TT := tm (tb_2 (List.mem_of_getElem? (i := 237) rfl)) rfl
theorem tw_cd_X5_strike : Cond.code yX5_strike cX5_strike 1 (Option.some Jvm.ClassFile.FieldType.int) ∈ TT := tm (tb_2 (List.mem_of_getElem? (i := 238) rfl)) rfl
theorem tw_ml_RX5_154 : Cond.methodLink RX5 154 yX4_passHour ∈ TT := tm (tb_2 (List.mem_of_getElem? (i := 239) rfl)) rfl
theorem tw_im_X4_passHour : Cond.instanceMethod yX4_passHour ∈ TT := tm (tb_3 (List.mem_of_getElem? (i := 0) rfl)) rfl
theorem tw_se_X4_passHour : Cond.selects RX4 yX4_passHour yX4_passHour ∈ TT := tm (tb_3 (List.mem_of_getElem? (i := 1) rfl)) rfl
theorem tw_cd_X4_passHour : Cond.code yX4_passHour cX4_passHour 4 (Option.some Jvm.ClassFile.FieldType.int) ∈ TT := tm (tb_3 (List.mem_of_getElem? (i := 2) rfl)) rfl
theorem tw_ml_RX4_95 : Cond.methodLink RX4 95 yX4_strikesOf ∈ TT := tm (tb_3 (List.mem_of_getElem? (i := 3) rfl)) rfl
theorem tw_ml_RX4_98 : Cond.methodLink RX4 98 yX4_costOf ∈ TT := tm (tb_3 (List.mem_of_getElem? (i := 4) rfl)) rfl
theorem tw_ml_RX4_101 : Cond.methodLink RX4 101 Lib.Math.max.name ∈ TT := tm (tb_3 (List.mem_of_getElem? (i := 5) rfl)) rfl
theorem tw_co_RX4_104 : Cond.constant RX4 104 (999999) ∈ TT := tm (tb_3 (List.mem_of_getElem? (i := 6) rfl)) rfl
theorem tw_ml_RL_62 : Cond.methodLink RL 62 yX5_run ∈ TT := tm (tb_3 (List.mem_of_getElem? (i := 7) rfl)) rfl
theorem tw_im_X5_run : Cond.instanceMethod yX5_run ∈ TT := tm (tb_3 (List.mem_of_getElem? (i := 8) rfl)) rfl
theorem tw_se_X5_run : Cond.selects RX5 yX5_run yX5_run ∈ TT := tm (tb_3 (List.mem_of_getElem? (i := 9) rfl)) rfl
theorem tw_cd_X5_run : Cond.code yX5_run cX5_run 7 (Option.some Jvm.ClassFile.FieldType.int) ∈ TT := tm (tb_3 (List.mem_of_getElem? (i := 10) rfl)) rfl
theorem tw_ml_RX5_157 : Cond.methodLink RX5 157 yX5_startThought ∈ TT := tm (tb_3 (List.mem_of_getElem? (i := 11) rfl)) rfl
theorem tw_im_X5_startThought : Cond.instanceMethod yX5_startThought ∈ TT := tm (tb_3 (List.mem_of_getElem? (i := 13) rfl)) rfl
theorem tw_cd_X5_startThought : Cond.code yX5_startThought cX5_startThought 1 (Option.some (Jvm.ClassFile.FieldType.object "BellOfLies$Town")) ∈ TT := tm (tb_3 (List.mem_of_getElem? (i := 14) rfl)) rfl
theorem tw_ml_RX5_230 : Cond.methodLink RX5 230 yX4_become ∈ TT := tm (tb_3 (List.mem_of_getElem? (i := 15) rfl)) rfl
theorem tw_im_X4_become : Cond.instanceMethod yX4_become ∈ TT := tm (tb_3 (List.mem_of_getElem? (i := 16) rfl)) rfl
theorem tw_se_X4_become : Cond.selects RX4 yX4_become yX4_become ∈ TT := tm (tb_3 (List.mem_of_getElem? (i := 17) rfl)) rfl
theorem tw_cd_X4_become : Cond.code yX4_become cX4_become 3 none ∈ TT := tm (tb_3 (List.mem_of_getElem? (i := 18) rfl)) rfl
theorem tw_ml_RX4_50 : Cond.methodLink RX4 50 yX4_obey ∈ TT := tm (tb_3 (List.mem_of_getElem? (i := 19) rfl)) rfl
theorem tw_ml_RX5_161 : Cond.methodLink RX5 161 yX4_passHours ∈ TT := tm (tb_3 (List.mem_of_getElem? (i := 20) rfl)) rfl
theorem tw_im_X4_passHours : Cond.instanceMethod yX4_passHours ∈ TT := tm (tb_3 (List.mem_of_getElem? (i := 21) rfl)) rfl
theorem tw_se_X4_passHours : Cond.selects RX4 yX4_passHours yX4_passHours ∈ TT := tm (tb_3 (List.mem_of_getElem? (i := 22) rfl)) rfl
theorem tw_cd_X4_passHours : Cond.code yX4_passHours cX4_passHours 4 (Option.some Jvm.ClassFile.FieldType.int) ∈ TT := tm (tb_3 (List.mem_of_getElem? (i := 23) rfl)) rfl
theorem tw_ml_RX4_105 : Cond.methodLink RX4 105 yX4_liars ∈ TT := tm (tb_3 (List.mem_of_getElem? (i := 24) rfl)) rfl
theorem tw_ml_RX4_109 : Cond.methodLink RX4 109 yX4_passHour ∈ TT := tm (tb_3 (List.mem_of_getElem? (i := 25) rfl)) rfl
theorem tw_ml_RL_66 : Cond.methodLink RL 66 yX5_when ∈ TT := tm (tb_3 (List.mem_of_getElem? (i := 26) rfl)) rfl
theorem tw_im_X5_when : Cond.instanceMethod yX5_when ∈ TT := tm (tb_3 (List.mem_of_getElem? (i := 27) rfl)) rfl
theorem tw_se_X5_when : Cond.selects RX5 yX5_when yX5_when ∈ TT := tm (tb_3 (List.mem_of_getElem? (i := 28) rfl)) rfl
theorem tw_cd_X5_when : Cond.code yX5_when cX5_when 4 (Option.some Jvm.ClassFile.FieldType.int) ∈ TT := tm (tb_3 (List.mem_of_getElem? (i := 29) rfl)) rfl
theorem tw_ml_RL_70 : Cond.methodLink RL 70 yX5_dial ∈ TT := tm (tb_3 (List.mem_of_getElem? (i := 30) rfl)) rfl
theorem tw_im_X5_dial : Cond.instanceMethod yX5_dial ∈ TT := tm (tb_3 (List.mem_of_getElem? (i := 31) rfl)) rfl
theorem tw_se_X5_dial : Cond.selects RX5 yX5_dial yX5_dial ∈ TT := tm (tb_3 (List.mem_of_getElem? (i := 32) rfl)) rfl
theorem tw_cd_X5_dial : Cond.code yX5_dial cX5_dial 2 (Option.some Jvm.ClassFile.FieldType.int) ∈ TT := tm (tb_3 (List.mem_of_getElem? (i := 33) rfl)) rfl
theorem tw_ml_RX5_164 : Cond.methodLink RX5 164 yX0_live ∈ TT := tm (tb_3 (List.mem_of_getElem? (i := 34) rfl)) rfl
theorem tw_im_X0_live : Cond.instanceMethod yX0_live ∈ TT := tm (tb_3 (List.mem_of_getElem? (i := 35) rfl)) rfl
theorem tw_se_X0_live : Cond.selects RX0 yX0_live yX0_live ∈ TT := tm (tb_3 (List.mem_of_getElem? (i := 36) rfl)) rfl
theorem tw_cd_X0_live : Cond.code yX0_live cX0_live 3 none ∈ TT := tm (tb_3 (List.mem_of_getElem? (i := 37) rfl)) rfl
theorem tw_ml_RX0_18 : Cond.methodLink RX0 18 yX4_liars ∈ TT := tm (tb_3 (List.mem_of_getElem? (i := 38) rfl)) rfl
theorem tw_ml_RX0_23 : Cond.methodLink RX0 23 yX4_passHour ∈ TT := tm (tb_3 (List.mem_of_getElem? (i := 39) rfl)) rfl
theorem tw_ml_RX5_168 : Cond.methodLink RX5 168 yX0_hoursAlone ∈ TT := tm (tb_3 (List.mem_of_getElem? (i := 40) rfl)) rfl
theorem tw_im_X0_hoursAlone : Cond.instanceMethod yX0_hoursAlone ∈ TT := tm (tb_3 (List.mem_of_getElem? (i := 41) rfl)) rfl
theorem tw_se_X0_hoursAlone : Cond.selects RX0 yX0_hoursAlone yX0_hoursAlone ∈ TT := tm (tb_3 (List.mem_of_getElem? (i := 42) rfl)) rfl
theorem tw_cd_X0_hoursAlone : Cond.code yX0_hoursAlone cX0_hoursAlone 3 (Option.some Jvm.ClassFile.FieldType.int) ∈ TT := tm (tb_3 (List.mem_of_getElem? (i := 43) rfl)) rfl
theorem tw_ml_RX0_27 : Cond.methodLink RX0 27 yX0_hoursOf ∈ TT := tm (tb_3 (List.mem_of_getElem? (i := 44) rfl)) rfl
theorem tw_im_X0_hoursOf : Cond.instanceMethod yX0_hoursOf ∈ TT := tm (tb_3 (List.mem_of_getElem? (i := 45) rfl)) rfl
theorem tw_se_X0_hoursOf : Cond.selects RX0 yX0_hoursOf yX0_hoursOf ∈ TT := tm (tb_3 (List.mem_of_getElem? (i := 46) rfl)) rfl
theorem tw_cd_X0_hoursOf : Cond.code yX0_hoursOf cX0_hoursOf 4 (Option.some Jvm.ClassFile.FieldType.int) ∈ TT := tm (tb_3 (List.mem_of_getElem? (i := 47) rfl)) rfl
theorem tw_ml_RX5_171 : Cond.methodLink RX5 171 yX0_longestRow ∈ TT := tm (tb_3 (List.mem_of_getElem? (i := 48) rfl)) rfl
theorem tw_im_X0_longestRow : Cond.instanceMethod yX0_longestRow ∈ TT := tm (tb_3 (List.mem_of_getElem? (i := 49) rfl)) rfl
theorem tw_se_X0_longestRow : Cond.selects RX0 yX0_longestRow yX0_longestRow ∈ TT := tm (tb_3 (List.mem_of_getElem? (i := 50) rfl)) rfl
theorem tw_cd_X0_longestRow : Cond.code yX0_longestRow cX0_longestRow 4 (Option.some Jvm.ClassFile.FieldType.int) ∈ TT := tm (tb_3 (List.mem_of_getElem? (i := 51) rfl)) rfl
theorem tw_ml_RX0_30 : Cond.methodLink RX0 30 Lib.Math.max.name ∈ TT := tm (tb_3 (List.mem_of_getElem? (i := 52) rfl)) rfl
theorem tw_ml_RX5_174 : Cond.methodLink RX5 174 yX0_hoursOf ∈ TT := tm (tb_3 (List.mem_of_getElem? (i := 53) rfl)) rfl
theorem tw_ml_RX5_177 : Cond.methodLink RX5 177 yX0_mostStrikes ∈ TT := tm (tb_3 (List.mem_of_getElem? (i := 54) rfl)) rfl
theorem tw_im_X0_mostStrikes : Cond.instanceMethod yX0_mostStrikes ∈ TT := tm (tb_3 (List.mem_of_getElem? (i := 55) rfl)) rfl
theorem tw_se_X0_mostStrikes : Cond.selects RX0 yX0_mostStrikes yX0_mostStrikes ∈ TT := tm (tb_3 (List.mem_of_getElem? (i := 56) rfl)) rfl
theorem tw_cd_X0_mostStrikes : Cond.code yX0_mostStrikes cX0_mostStrikes 3 (Option.some Jvm.ClassFile.FieldType.int) ∈ TT := tm (tb_3 (List.mem_of_getElem? (i := 57) rfl)) rfl
theorem tw_ml_RX5_180 : Cond.methodLink RX5 180 yX0_firstOf ∈ TT := tm (tb_3 (List.mem_of_getElem? (i := 58) rfl)) rfl
theorem tw_im_X0_firstOf : Cond.instanceMethod yX0_firstOf ∈ TT := tm (tb_3 (List.mem_of_getElem? (i := 59) rfl)) rfl
theorem tw_se_X0_firstOf : Cond.selects RX0 yX0_firstOf yX0_firstOf ∈ TT := tm (tb_3 (List.mem_of_getElem? (i := 60) rfl)) rfl
theorem tw_cd_X0_firstOf : Cond.code yX0_firstOf cX0_firstOf 3 (Option.some Jvm.ClassFile.FieldType.int) ∈ TT := tm (tb_3 (List.mem_of_getElem? (i := 61) rfl)) rfl
theorem tw_ml_RL_74 : Cond.methodLink RL 74 yX5_hush ∈ TT := tm (tb_3 (List.mem_of_getElem? (i := 62) rfl)) rfl
theorem tw_im_X5_hush : Cond.instanceMethod yX5_hush ∈ TT := tm (tb_3 (List.mem_of_getElem? (i := 63) rfl)) rfl
theorem tw_se_X5_hush : Cond.selects RX5 yX5_hush yX5_hush ∈ TT := tm (tb_3 (List.mem_of_getElem? (i := 64) rfl)) rfl
theorem tw_cd_X5_hush : Cond.code yX5_hush cX5_hush 7 (Option.some Jvm.ClassFile.FieldType.int) ∈ TT := tm (tb_3 (List.mem_of_getElem? (i := 65) rfl)) rfl
theorem tw_ml_RX5_183 : Cond.methodLink RX5 183 yX4_turnVow ∈ TT := tm (tb_3 (List.mem_of_getElem? (i := 66) rfl)) rfl
theorem tw_ml_RL_78 : Cond.methodLink RL 78 yX5_council ∈ TT := tm (tb_3 (List.mem_of_getElem? (i := 67) rfl)) rfl
theorem tw_im_X5_council : Cond.instanceMethod yX5_council ∈ TT := tm (tb_3 (List.mem_of_getElem? (i := 68) rfl)) rfl
theorem tw_se_X5_council : Cond.selects RX5 yX5_council yX5_council ∈ TT := tm (tb_3 (List.mem_of_getElem? (i := 69) rfl)) rfl
theorem tw_cd_X5_council : Cond.code yX5_council cX5_council 9 (Option.some Jvm.ClassFile.FieldType.int) ∈ TT := tm (tb_3 (List.mem_of_getElem? (i := 70) rfl)) rfl
theorem tw_ml_RX5_186 : Cond.methodLink RX5 186 yJ6_bitCount_0f7a4 ∈ TT := tm (tb_3 (List.mem_of_getElem? (i := 71) rfl)) rfl
theorem tw_st_J6_bitCount_0f7a4 : Cond.static yJ6_bitCount_0f7a4 ∈ TT := tm (tb_3 (List.mem_of_getElem? (i := 72) rfl)) rfl
theorem tw_cd_J6_bitCount_0f7a4 : Cond.code yJ6_bitCount_0f7a4 cJ6_bitCount_0f7a4 1 (Option.some Jvm.ClassFile.FieldType.int) ∈ TT := tm (tb_3 (List.mem_of_getElem? (i := 73) rfl)) rfl
theorem tw_co_RJ6_265 : Cond.constant RJ6 265 (1431655765) ∈ TT := tm (tb_3 (List.mem_of_getElem? (i := 74) rfl)) rfl
theorem tw_co_RJ6_266 : Cond.constant RJ6 266 (858993459) ∈ TT := tm (tb_3 (List.mem_of_getElem? (i := 75) rfl)) rfl
theorem tw_co_RJ6_267 : Cond.constant RJ6 267 (252645135) ∈ TT := tm (tb_3 (List.mem_of_getElem? (i := 76) rfl)) rfl
theorem tw_ml_RL_82 : Cond.methodLink RL 82 yX5_lesson ∈ TT := tm (tb_3 (List.mem_of_getElem? (i := 77) rfl)) rfl
theorem tw_im_X5_lesson : Cond.instanceMethod yX5_lesson ∈ TT := tm (tb_3 (List.mem_of_getElem? (i := 78) rfl)) rfl
theorem tw_se_X5_lesson : Cond.selects RX5 yX5_lesson yX5_lesson ∈ TT := tm (tb_3 (List.mem_of_getElem? (i := 79) rfl)) rfl
theorem tw_cd_X5_lesson : Cond.code yX5_lesson cX5_lesson 8 (Option.some Jvm.ClassFile.FieldType.int) ∈ TT := tm (tb_3 (List.mem_of_getElem? (i := 80) rfl)) rfl
theorem tw_ml_RX5_191 : Cond.methodLink RX5 191 yX4_turnHour ∈ TT := tm (tb_3 (List.mem_of_getElem? (i := 81) rfl)) rfl
theorem tw_im_X4_turnHour : Cond.instanceMethod yX4_turnHour ∈ TT := tm (tb_3 (List.mem_of_getElem? (i := 82) rfl)) rfl
theorem tw_se_X4_turnHour : Cond.selects RX4 yX4_turnHour yX4_turnHour ∈ TT := tm (tb_3 (List.mem_of_getElem? (i := 83) rfl)) rfl
theorem tw_cd_X4_turnHour : Cond.code yX4_turnHour cX4_turnHour 3 none ∈ TT := tm (tb_3 (List.mem_of_getElem? (i := 84) rfl)) rfl
theorem tw_ml_RL_86 : Cond.methodLink RL 86 yX5_pair ∈ TT := tm (tb_3 (List.mem_of_getElem? (i := 85) rfl)) rfl
theorem tw_im_X5_pair : Cond.instanceMethod yX5_pair ∈ TT := tm (tb_3 (List.mem_of_getElem? (i := 86) rfl)) rfl
theorem tw_se_X5_pair : Cond.selects RX5 yX5_pair yX5_pair ∈ TT := tm (tb_3 (List.mem_of_getElem? (i := 87) rfl)) rfl
theorem tw_cd_X5_pair : Cond.code yX5_pair cX5_pair 7 (Option.some Jvm.ClassFile.FieldType.int) ∈ TT := tm (tb_3 (List.mem_of_getElem? (i := 88) rfl)) rfl
theorem tw_ml_RX5_195 : Cond.methodLink RX5 195 yX0_hoursOfBoth ∈ TT := tm (tb_3 (List.mem_of_getElem? (i := 89) rfl)) rfl
theorem tw_im_X0_hoursOfBoth : Cond.instanceMethod yX0_hoursOfBoth ∈ TT := tm (tb_3 (List.mem_of_getElem? (i := 90) rfl)) rfl
theorem tw_se_X0_hoursOfBoth : Cond.selects RX0 yX0_hoursOfBoth yX0_hoursOfBoth ∈ TT := tm (tb_3 (List.mem_of_getElem? (i := 91) rfl)) rfl
theorem tw_cd_X0_hoursOfBoth : Cond.code yX0_hoursOfBoth cX0_hoursOfBoth 5 (Option.some Jvm.ClassFile.FieldType.int) ∈ TT := tm (tb_3 (List.mem_of_getElem? (i := 92) rfl)) rfl
theorem tw_ml_RL_90 : Cond.methodLink RL 90 yX5_mean ∈ TT := tm (tb_3 (List.mem_of_getElem? (i := 93) rfl)) rfl
theorem tw_im_X5_mean : Cond.instanceMethod yX5_mean ∈ TT := tm (tb_3 (List.mem_of_getElem? (i := 94) rfl)) rfl
theorem tw_se_X5_mean : Cond.selects RX5 yX5_mean yX5_mean ∈ TT := tm (tb_3 (List.mem_of_getElem? (i := 95) rfl)) rfl
theorem tw_cd_X5_mean : Cond.code yX5_mean cX5_mean 3 (Option.some Jvm.ClassFile.FieldType.long) ∈ TT := tm (tb_3 (List.mem_of_getElem? (i := 96) rfl)) rfl
theorem tw_cg_RX5_198 : Cond.constantLong RX5 198 (-4611686018427387904) ∈ TT := tm (tb_3 (List.mem_of_getElem? (i := 97) rfl)) rfl
theorem tw_ml_RX5_200 : Cond.methodLink RX5 200 yX5_lowestTerms ∈ TT := tm (tb_3 (List.mem_of_getElem? (i := 98) rfl)) rfl
theorem tw_st_X5_lowestTerms : Cond.static yX5_lowestTerms ∈ TT := tm (tb_3 (List.mem_of_getElem? (i := 99) rfl)) rfl
theorem tw_cd_X5_lowestTerms : Cond.code yX5_lowestTerms cX5_lowestTerms 12 (Option.some Jvm.ClassFile.FieldType.long) ∈ TT := tm (tb_3 (List.mem_of_getElem? (i := 100) rfl)) rfl
theorem tw_ml_RL_95 : Cond.methodLink RL 95 yX5_share ∈ TT := tm (tb_3 (List.mem_of_getElem? (i := 101) rfl)) rfl
theorem tw_im_X5_share : Cond.instanceMethod yX5_share ∈ TT := tm (tb_3 (List.mem_of_getElem? (i := 102) rfl)) rfl
theorem tw_se_X5_share : Cond.selects RX5 yX5_share yX5_share ∈ TT := tm (tb_3 (List.mem_of_getElem? (i := 103) rfl)) rfl
theorem tw_cd_X5_share : Cond.code yX5_share cX5_share 5 (Option.some Jvm.ClassFile.FieldType.long) ∈ TT := tm (tb_3 (List.mem_of_getElem? (i := 104) rfl)) rfl
theorem tw_ml_RL_99 : Cond.methodLink RL 99 yX5_judge ∈ TT := tm (tb_3 (List.mem_of_getElem? (i := 105) rfl)) rfl
theorem tw_im_X5_judge : Cond.instanceMethod yX5_judge ∈ TT := tm (tb_3 (List.mem_of_getElem? (i := 106) rfl)) rfl
theorem tw_se_X5_judge : Cond.selects RX5 yX5_judge yX5_judge ∈ TT := tm (tb_3 (List.mem_of_getElem? (i := 107) rfl)) rfl
theorem tw_cd_X5_judge : Cond.code yX5_judge cX5_judge 3 (Option.some Jvm.ClassFile.FieldType.int) ∈ TT := tm (tb_3 (List.mem_of_getElem? (i := 108) rfl)) rfl
theorem tw_ml_RX5_204 : Cond.methodLink RX5 204 yX5_refusalOfTold ∈ TT := tm (tb_3 (List.mem_of_getElem? (i := 109) rfl)) rfl
theorem tw_im_X5_refusalOfTold : Cond.instanceMethod yX5_refusalOfTold ∈ TT := tm (tb_3 (List.mem_of_getElem? (i := 111) rfl)) rfl
theorem tw_cd_X5_refusalOfTold : Cond.code yX5_refusalOfTold cX5_refusalOfTold 2 (Option.some Jvm.ClassFile.FieldType.int) ∈ TT := tm (tb_3 (List.mem_of_getElem? (i := 112) rfl)) rfl
theorem tw_ml_RX5_217 : Cond.methodLink RX5 217 yX5_isSheet ∈ TT := tm (tb_3 (List.mem_of_getElem? (i := 113) rfl)) rfl
theorem tw_st_X5_isSheet : Cond.static yX5_isSheet ∈ TT := tm (tb_3 (List.mem_of_getElem? (i := 114) rfl)) rfl
theorem tw_cd_X5_isSheet : Cond.code yX5_isSheet cX5_isSheet 1 (Option.some Jvm.ClassFile.FieldType.boolean) ∈ TT := tm (tb_3 (List.mem_of_getElem? (i := 115) rfl)) rfl
theorem tw_ml_RX5_232 : Cond.methodLink RX5 232 yX1_isMissing ∈ TT := tm (tb_3 (List.mem_of_getElem? (i := 116) rfl)) rfl
theorem tw_im_X1_isMissing : Cond.instanceMethod yX1_isMissing ∈ TT := tm (tb_3 (List.mem_of_getElem? (i := 117) rfl)) rfl
theorem tw_se_X1_isMissing : Cond.selects RX1 yX1_isMissing yX1_isMissing ∈ TT := tm (tb_3 (List.mem_of_getElem? (i := 118) rfl)) rfl
theorem tw_cd_X1_isMissing : Cond.code yX1_isMissing cX1_isMissing 1 (Option.some Jvm.ClassFile.FieldType.boolean) ∈ TT := tm (tb_3 (List.mem_of_getElem? (i := 119) rfl)) rfl
theorem tw_ml_RX5_207 : Cond.methodLink RX5 207 yX5_firstOtherwise ∈ TT := tm (tb_3 (List.mem_of_getElem? (i := 120) rfl)) rfl
theorem tw_im_X5_firstOtherwise : Cond.instanceMethod yX5_firstOtherwise ∈ TT := tm (tb_3 (List.mem_of_getElem? (i := 122) rfl)) rfl
theorem tw_cd_X5_firstOtherwise : Cond.code yX5_firstOtherwise cX5_firstOtherwise 5 (Option.some Jvm.ClassFile.FieldType.int) ∈ TT := tm (tb_3 (List.mem_of_getElem? (i := 123) rfl)) rfl
theorem tw_ml_RL_103 : Cond.methodLink RL 103 yX5_kinds ∈ TT := tm (tb_3 (List.mem_of_getElem? (i := 124) rfl)) rfl
theorem tw_im_X5_kinds : Cond.instanceMethod yX5_kinds ∈ TT := tm (tb_3 (List.mem_of_getElem? (i := 125) rfl)) rfl
theorem tw_se_X5_kinds : Cond.selects RX5 yX5_kinds yX5_kinds ∈ TT := tm (tb_3 (List.mem_of_getElem? (i := 126) rfl)) rfl
theorem tw_cd_X5_kinds : Cond.code yX5_kinds cX5_kinds 9 (Option.some Jvm.ClassFile.FieldType.int) ∈ TT := tm (tb_3 (List.mem_of_getElem? (i := 127) rfl)) rfl
theorem tw_ml_RX5_211 : Cond.methodLink RX5 211 yX5_refusalOfToldAbout ∈ TT := tm (tb_3 (List.mem_of_getElem? (i := 128) rfl)) rfl
theorem tw_im_X5_refusalOfToldAbout : Cond.instanceMethod yX5_refusalOfToldAbout ∈ TT := tm (tb_3 (List.mem_of_getElem? (i := 130) rfl)) rfl
theorem tw_cd_X5_refusalOfToldAbout : Cond.code yX5_refusalOfToldAbout cX5_refusalOfToldAbout 5 (Option.some Jvm.ClassFile.FieldType.int) ∈ TT := tm (tb_3 (List.mem_of_getElem? (i := 131) rfl)) rfl
theorem tw_ml_RL_107 : Cond.methodLink RL 107 yX5_nerves ∈ TT := tm (tb_3 (List.mem_of_getElem? (i := 132) rfl)) rfl
theorem tw_im_X5_nerves : Cond.instanceMethod yX5_nerves ∈ TT := tm (tb_3 (List.mem_of_getElem? (i := 133) rfl)) rfl
theorem tw_se_X5_nerves : Cond.selects RX5 yX5_nerves yX5_nerves ∈ TT := tm (tb_3 (List.mem_of_getElem? (i := 134) rfl)) rfl
theorem tw_cd_X5_nerves : Cond.code yX5_nerves cX5_nerves 9 (Option.some Jvm.ClassFile.FieldType.int) ∈ TT := tm (tb_3 (List.mem_of_getElem? (i := 135) rfl)) rfl
theorem tw_ml_RL_111 : Cond.methodLink RL 111 yX5_turned ∈ TT := tm (tb_3 (List.mem_of_getElem? (i := 136) rfl)) rfl
theorem tw_im_X5_turned : Cond.instanceMethod yX5_turned ∈ TT := tm (tb_3 (List.mem_of_getElem? (i := 137) rfl)) rfl
theorem tw_se_X5_turned : Cond.selects RX5 yX5_turned yX5_turned ∈ TT := tm (tb_3 (List.mem_of_getElem? (i := 138) rfl)) rfl
theorem tw_cd_X5_turned : Cond.code yX5_turned cX5_turned 6 (Option.some Jvm.ClassFile.FieldType.int) ∈ TT := tm (tb_3 (List.mem_of_getElem? (i := 139) rfl)) rfl
theorem tw_ml_RL_115 : Cond.methodLink RL 115 yX5_hours ∈ TT := tm (tb_3 (List.mem_of_getElem? (i := 140) rfl)) rfl
theorem tw_im_X5_hours : Cond.instanceMethod yX5_hours ∈ TT := tm (tb_3 (List.mem_of_getElem? (i := 141) rfl)) rfl
theorem tw_se_X5_hours : Cond.selects RX5 yX5_hours yX5_hours ∈ TT := tm (tb_3 (List.mem_of_getElem? (i := 142) rfl)) rfl
theorem tw_cd_X5_hours : Cond.code yX5_hours cX5_hours 6 (Option.some Jvm.ClassFile.FieldType.int) ∈ TT := tm (tb_3 (List.mem_of_getElem? (i := 143) rfl)) rfl
theorem tw_ml_RL_119 : Cond.methodLink RL 119 yX5_laws ∈ TT := tm (tb_3 (List.mem_of_getElem? (i := 144) rfl)) rfl
theorem tw_im_X5_laws : Cond.instanceMethod yX5_laws ∈ TT := tm (tb_3 (List.mem_of_getElem? (i := 145) rfl)) rfl
theorem tw_se_X5_laws : Cond.selects RX5 yX5_laws yX5_laws ∈ TT := tm (tb_3 (List.mem_of_getElem? (i := 146) rfl)) rfl
theorem tw_cd_X5_laws : Cond.code yX5_laws cX5_laws 6 (Option.some Jvm.ClassFile.FieldType.int) ∈ TT := tm (tb_3 (List.mem_of_getElem? (i := 147) rfl)) rfl
theorem tw_ml_RL_123 : Cond.methodLink RL 123 yX5_film ∈ TT := tm (tb_3 (List.mem_of_getElem? (i := 148) rfl)) rfl
theorem tw_im_X5_film : Cond.instanceMethod yX5_film ∈ TT := tm (tb_3 (List.mem_of_getElem? (i := 149) rfl)) rfl
theorem tw_se_X5_film : Cond.selects RX5 yX5_film yX5_film ∈ TT := tm (tb_3 (List.mem_of_getElem? (i := 150) rfl)) rfl
theorem tw_cd_X5_film : Cond.code yX5_film cX5_film 6 (Option.some Jvm.ClassFile.FieldType.int) ∈ TT := tm (tb_3 (List.mem_of_getElem? (i := 151) rfl)) rfl
theorem tw_ml_RX5_220 : Cond.methodLink RX5 220 yX1_become ∈ TT := tm (tb_3 (List.mem_of_getElem? (i := 152) rfl)) rfl
theorem tw_im_X1_become : Cond.instanceMethod yX1_become ∈ TT := tm (tb_3 (List.mem_of_getElem? (i := 153) rfl)) rfl
theorem tw_se_X1_become : Cond.selects RX1 yX1_become yX1_become ∈ TT := tm (tb_3 (List.mem_of_getElem? (i := 154) rfl)) rfl
theorem tw_cd_X1_become : Cond.code yX1_become cX1_become 4 none ∈ TT := tm (tb_3 (List.mem_of_getElem? (i := 155) rfl)) rfl
theorem tw_ml_RX5_223 : Cond.methodLink RX5 223 yX1_write ∈ TT := tm (tb_3 (List.mem_of_getElem? (i := 156) rfl)) rfl
theorem tw_im_X1_write : Cond.instanceMethod yX1_write ∈ TT := tm (tb_3 (List.mem_of_getElem? (i := 157) rfl)) rfl
theorem tw_se_X1_write : Cond.selects RX1 yX1_write yX1_write ∈ TT := tm (tb_3 (List.mem_of_getElem? (i := 158) rfl)) rfl
theorem tw_cd_X1_write : Cond.code yX1_write cX1_write 3 none ∈ TT := tm (tb_3 (List.mem_of_getElem? (i := 159) rfl)) rfl
theorem tw_ml_RL_127 : Cond.methodLink RL 127 yX5_drawn ∈ TT := tm (tb_3 (List.mem_of_getElem? (i := 160) rfl)) rfl
theorem tw_im_X5_drawn : Cond.instanceMethod yX5_drawn ∈ TT := tm (tb_3 (List.mem_of_getElem? (i := 161) rfl)) rfl
theorem tw_se_X5_drawn : Cond.selects RX5 yX5_drawn yX5_drawn ∈ TT := tm (tb_3 (List.mem_of_getElem? (i := 162) rfl)) rfl
theorem tw_cd_X5_drawn : Cond.code yX5_drawn cX5_drawn 4 (Option.some Jvm.ClassFile.FieldType.int) ∈ TT := tm (tb_3 (List.mem_of_getElem? (i := 163) rfl)) rfl
theorem tw_co_RX5_226 : Cond.constant RX5 226 (99999) ∈ TT := tm (tb_3 (List.mem_of_getElem? (i := 164) rfl)) rfl
theorem tw_ml_RX5_227 : Cond.methodLink RX5 227 yX5_inCrowd ∈ TT := tm (tb_3 (List.mem_of_getElem? (i := 165) rfl)) rfl
theorem tw_im_X5_inCrowd : Cond.instanceMethod yX5_inCrowd ∈ TT := tm (tb_3 (List.mem_of_getElem? (i := 167) rfl)) rfl
theorem tw_cd_X5_inCrowd : Cond.code yX5_inCrowd cX5_inCrowd 11 (Option.some Jvm.ClassFile.FieldType.int) ∈ TT := tm (tb_3 (List.mem_of_getElem? (i := 168) rfl)) rfl
theorem tw_cg_RX5_259 : Cond.constantLong RX5 259 (48271) ∈ TT := tm (tb_3 (List.mem_of_getElem? (i := 169) rfl)) rfl
theorem tw_cg_RX5_261 : Cond.constantLong RX5 261 (2147483647) ∈ TT := tm (tb_3 (List.mem_of_getElem? (i := 170) rfl)) rfl
theorem tw_cg_RX5_263 : Cond.constantLong RX5 263 (8) ∈ TT := tm (tb_3 (List.mem_of_getElem? (i := 171) rfl)) rfl
theorem tw_ml_RL_131 : Cond.methodLink RL 131 yX5_odds ∈ TT := tm (tb_3 (List.mem_of_getElem? (i := 172) rfl)) rfl
theorem tw_im_X5_odds : Cond.instanceMethod yX5_odds ∈ TT := tm (tb_3 (List.mem_of_getElem? (i := 173) rfl)) rfl
theorem tw_se_X5_odds : Cond.selects RX5 yX5_odds yX5_odds ∈ TT := tm (tb_3 (List.mem_of_getElem? (i := 174) rfl)) rfl
theorem tw_cd_X5_odds : Cond.code yX5_odds cX5_odds 7 (Option.some Jvm.ClassFile.FieldType.long) ∈ TT := tm (tb_3 (List.mem_of_getElem? (i := 175) rfl)) rfl
theorem tw_ml_RL_136 : Cond.methodLink RL 136 yX5_image ∈ TT := tm (tb_3 (List.mem_of_getElem? (i := 176) rfl)) rfl
theorem tw_im_X5_image : Cond.instanceMethod yX5_image ∈ TT := tm (tb_3 (List.mem_of_getElem? (i := 177) rfl)) rfl
theorem tw_se_X5_image : Cond.selects RX5 yX5_image yX5_image ∈ TT := tm (tb_3 (List.mem_of_getElem? (i := 178) rfl)) rfl
theorem tw_cd_X5_image : Cond.code yX5_image cX5_image 1 (Option.some Jvm.ClassFile.FieldType.int) ∈ TT := tm (tb_3 (List.mem_of_getElem? (i := 179) rfl)) rfl
theorem tw_ml_RL_140 : Cond.methodLink RL 140 yX5_back ∈ TT := tm (tb_3 (List.mem_of_getElem? (i := 180) rfl)) rfl
theorem tw_im_X5_back : Cond.instanceMethod yX5_back ∈ TT := tm (tb_3 (List.mem_of_getElem? (i := 181) rfl)) rfl
theorem tw_se_X5_back : Cond.selects RX5 yX5_back yX5_back ∈ TT := tm (tb_3 (List.mem_of_getElem? (i := 182) rfl)) rfl
theorem tw_cd_X5_back : Cond.code yX5_back cX5_back 1 (Option.some Jvm.ClassFile.FieldType.int) ∈ TT := tm (tb_3 (List.mem_of_getElem? (i := 183) rfl)) rfl
theorem tw_ml_RL_144 : Cond.methodLink RL 144 yX5_sheet ∈ TT := tm (tb_3 (List.mem_of_getElem? (i := 184) rfl)) rfl
theorem tw_im_X5_sheet : Cond.instanceMethod yX5_sheet ∈ TT := tm (tb_3 (List.mem_of_getElem? (i := 185) rfl)) rfl
theorem tw_se_X5_sheet : Cond.selects RX5 yX5_sheet yX5_sheet ∈ TT := tm (tb_3 (List.mem_of_getElem? (i := 186) rfl)) rfl
theorem tw_cd_X5_sheet : Cond.code yX5_sheet cX5_sheet 4 (Option.some Jvm.ClassFile.FieldType.int) ∈ TT := tm (tb_3 (List.mem_of_getElem? (i := 187) rfl)) rfl
theorem tw_ml_RL_148 : Cond.methodLink RL 148 yX5_cell ∈ TT := tm (tb_3 (List.mem_of_getElem? (i := 188) rfl)) rfl
theorem tw_im_X5_cell : Cond.instanceMethod yX5_cell ∈ TT := tm (tb_3 (List.mem_of_getElem? (i := 189) rfl)) rfl
theorem tw_se_X5_cell : Cond.selects RX5 yX5_cell yX5_cell ∈ TT := tm (tb_3 (List.mem_of_getElem? (i := 190) rfl)) rfl
theorem tw_cd_X5_cell : Cond.code yX5_cell cX5_cell 5 (Option.some Jvm.ClassFile.FieldType.int) ∈ TT := tm (tb_3 (List.mem_of_getElem? (i := 191) rfl)) rfl
theorem tw_ml_RX5_236 : Cond.methodLink RX5 236 yX1_has ∈ TT := tm (tb_3 (List.mem_of_getElem? (i := 192) rfl)) rfl
theorem tw_im_X1_has : Cond.instanceMethod yX1_has ∈ TT := tm (tb_3 (List.mem_of_getElem? (i := 193) rfl)) rfl
theorem tw_se_X1_has : Cond.selects RX1 yX1_has yX1_has ∈ TT := tm (tb_3 (List.mem_of_getElem? (i := 194) rfl)) rfl
theorem tw_cd_X1_has : Cond.code yX1_has cX1_has 3 (Option.some Jvm.ClassFile.FieldType.boolean) ∈ TT := tm (tb_3 (List.mem_of_getElem? (i := 195) rfl)) rfl
theorem tw_ml_RL_152 : Cond.methodLink RL 152 yX5_copy ∈ TT := tm (tb_3 (List.mem_of_getElem? (i := 196) rfl)) rfl
theorem tw_im_X5_copy : Cond.instanceMethod yX5_copy ∈ TT := tm (tb_3 (List.mem_of_getElem? (i := 197) rfl)) rfl
theorem tw_se_X5_copy : Cond.selects RX5 yX5_copy yX5_copy ∈ TT := tm (tb_3 (List.mem_of_getElem? (i := 198) rfl)) rfl
theorem tw_cd_X5_copy : Cond.code yX5_copy cX5_copy 8 (Option.some Jvm.ClassFile.FieldType.int) ∈ TT := tm (tb_3 (List.mem_of_getElem? (i := 199) rfl)) rfl
theorem tw_ml_RL_157 : Cond.methodLink RL 157 yX5_townBy ∈ TT := tm (tb_3 (List.mem_of_getElem? (i := 203) rfl)) rfl
theorem tw_im_X5_townBy : Cond.instanceMethod yX5_townBy ∈ TT := tm (tb_3 (List.mem_of_getElem? (i := 204) rfl)) rfl
theorem tw_se_X5_townBy : Cond.selects RX5 yX5_townBy yX5_townBy ∈ TT := tm (tb_3 (List.mem_of_getElem? (i := 205) rfl)) rfl
theorem tw_cd_X5_townBy : Cond.code yX5_townBy cX5_townBy 9 (Option.some Jvm.ClassFile.FieldType.int) ∈ TT := tm (tb_3 (List.mem_of_getElem? (i := 206) rfl)) rfl
theorem tw_ml_RL_162 : Cond.methodLink RL 162 yX5_taken ∈ TT := tm (tb_3 (List.mem_of_getElem? (i := 207) rfl)) rfl
theorem tw_im_X5_taken : Cond.instanceMethod yX5_taken ∈ TT := tm (tb_3 (List.mem_of_getElem? (i := 208) rfl)) rfl
theorem tw_se_X5_taken : Cond.selects RX5 yX5_taken yX5_taken ∈ TT := tm (tb_3 (List.mem_of_getElem? (i := 209) rfl)) rfl
theorem tw_cd_X5_taken : Cond.code yX5_taken cX5_taken 5 (Option.some Jvm.ClassFile.FieldType.int) ∈ TT := tm (tb_3 (List.mem_of_getElem? (i := 210) rfl)) rfl
theorem tw_ml_RX5_254 : Cond.methodLink RX5 254 yX5_isKindOf ∈ TT := tm (tb_3 (List.mem_of_getElem? (i := 211) rfl)) rfl
theorem tw_st_X5_isKindOf : Cond.static yX5_isKindOf ∈ TT := tm (tb_3 (List.mem_of_getElem? (i := 212) rfl)) rfl
theorem tw_cd_X5_isKindOf : Cond.code yX5_isKindOf cX5_isKindOf 2 (Option.some Jvm.ClassFile.FieldType.boolean) ∈ TT := tm (tb_3 (List.mem_of_getElem? (i := 213) rfl)) rfl
theorem tw_cl_RL_10 : Cond.classLink RL 10 RX6 ∈ TT := tm (tb_3 (List.mem_of_getElem? (i := 214) rfl)) rfl
theorem tw_ia_RX6 : Cond.instantiable RX6 34 ∈ TT := tm (tb_3 (List.mem_of_getElem? (i := 215) rfl)) rfl
theorem tw_ml_RL_12 : Cond.methodLink RL 12 yX6_init ∈ TT := tm (tb_3 (List.mem_of_getElem? (i := 216) rfl)) rfl
theorem tw_im_X6_init : Cond.instanceMethod yX6_init ∈ TT := tm (tb_3 (List.mem_of_getElem? (i := 217) rfl)) rfl
theorem tw_cd_X6_init : Cond.code yX6_init cX6_init 2 none ∈ TT := tm (tb_3 (List.mem_of_getElem? (i := 218) rfl)) rfl
theorem tw_ml_RX6_1 : Cond.methodLink RX6 1 objectInit ∈ TT := tm (tb_3 (List.mem_of_getElem? (i := 219) rfl)) rfl
theorem tw_ml_RX6_74 : Cond.methodLink RX6 74 yX6_text ∈ TT := tm (tb_3 (List.mem_of_getElem? (i := 220) rfl)) rfl
theorem tw_im_X6_text : Cond.instanceMethod yX6_text ∈ TT := tm (tb_3 (List.mem_of_getElem? (i := 221) rfl)) rfl
theorem tw_se_X6_text : Cond.selects RX6 yX6_text yX6_text ∈ TT := tm (tb_3 (List.mem_of_getElem? (i := 222) rfl)) rfl
theorem tw_cd_X6_text : Cond.code yX6_text cX6_text 3 (Option.some Jvm.ClassFile.FieldType.int) ∈ TT := tm (tb_3 (List.mem_of_getElem? (i := 223) rfl)) rfl
theorem tw_ml_RX6_134 : Cond.methodLink RX6 134 yX6_next ∈ TT := tm (tb_3 (List.mem_of_getElem? (i := 224) rfl)) rfl
theorem tw_im_X6_next : Cond.instanceMethod yX6_next ∈ TT := tm (tb_3 (List.mem_of_getElem? (i := 226) rfl)) rfl
theorem tw_cd_X6_next : Cond.code yX6_next cX6_next 3 none ∈ TT := tm (tb_3 (List.mem_of_getElem? (i := 227) rfl)) rfl
theorem tw_ml_RX6_81 : Cond.methodLink RX6 81 yX6_in ∈ TT := tm (tb_3 (List.mem_of_getElem? (i := 228) rfl)) rfl
theorem tw_st_X6_in : Cond.static yX6_in ∈ TT := tm (tb_3 (List.mem_of_getElem? (i := 229) rfl)) rfl
theorem tw_cd_X6_in : Cond.code yX6_in cX6_in 3 (Option.some Jvm.ClassFile.FieldType.boolean) ∈ TT := tm (tb_3 (List.mem_of_getElem? (i := 230) rfl)) rfl
theorem tw_ml_RX6_107 : Cond.methodLink RX6 107 yX6_wordFrom ∈ TT := tm (tb_3 (List.mem_of_getElem? (i := 231) rfl)) rfl
theorem tw_im_X6_wordFrom : Cond.instanceMethod yX6_wordFrom ∈ TT := tm (tb_3 (List.mem_of_getElem? (i := 233) rfl)) rfl
theorem tw_cd_X6_wordFrom : Cond.code yX6_wordFrom cX6_wordFrom 6 (Option.some Jvm.ClassFile.FieldType.int) ∈ TT := tm (tb_3 (List.mem_of_getElem? (i := 234) rfl)) rfl
theorem tw_ml_RX6_147 : Cond.methodLink RX6 147 yX6_eRead ∈ TT := tm (tb_3 (List.mem_of_getElem? (i := 235) rfl)) rfl
theorem tw_im_X6_eRead : Cond.instanceMethod yX6_eRead ∈ TT := tm (tb_3 (List.mem_of_getElem? (i := 237) rfl)) rfl
theorem tw_cd_X6_eRead : Cond.code yX6_eRead cX6_eRead 4 (Option.some Jvm.ClassFile.FieldType.boolean) ∈ TT := tm (tb_3 (List.mem_of_getElem? (i := 238) rfl)) rfl
theorem tw_co_RX6_137 : Cond.constant RX6 137 (100000) ∈ TT := tm (tb_3 (List.mem_of_getElem? (i := 239) rfl)) rfl
theorem tw_ml_RX6_124 : Cond.methodLink RX6 124 yX6_puts ∈ TT := tm (tb_4 (List.mem_of_getElem? (i := 0) rfl)) rfl
theorem tw_im_X6_puts : Cond.instanceMethod yX6_puts ∈ TT := tm (tb_4 (List.mem_of_getElem? (i := 2) rfl)) rfl
theorem tw_cd_X6_puts : Cond.code yX6_puts cX6_puts 2 none ∈ TT := tm (tb_4 (List.mem_of_getElem? (i := 3) rfl)) rfl
theorem tw_ml_RX6_131 : Cond.methodLink RX6 131 yX6_unwinds ∈ TT := tm (tb_4 (List.mem_of_getElem? (i := 4) rfl)) rfl
theorem tw_im_X6_unwinds : Cond.instanceMethod yX6_unwinds ∈ TT := tm (tb_4 (List.mem_of_getElem? (i := 6) rfl)) rfl
theorem tw_cd_X6_unwinds : Cond.code yX6_unwinds cX6_unwinds 3 none ∈ TT := tm (tb_4 (List.mem_of_getElem? (i := 7) rfl)) rfl
theorem tw_ml_RX6_117 : Cond.methodLink RX6 117 yX6_rank ∈ TT := tm (tb_4 (List.mem_of_getElem? (i := 8) rfl)) rfl
theorem tw_st_X6_rank : Cond.static yX6_rank ∈ TT := tm (tb_4 (List.mem_of_getElem? (i := 9) rfl)) rfl
theorem tw_cd_X6_rank : Cond.code yX6_rank cX6_rank 1 (Option.some Jvm.ClassFile.FieldType.int) ∈ TT := tm (tb_4 (List.mem_of_getElem? (i := 10) rfl)) rfl
theorem tw_ml_RX6_138 : Cond.methodLink RX6 138 yX6_opensOne ∈ TT := tm (tb_4 (List.mem_of_getElem? (i := 11) rfl)) rfl
theorem tw_im_X6_opensOne : Cond.instanceMethod yX6_opensOne ∈ TT := tm (tb_4 (List.mem_of_getElem? (i := 13) rfl)) rfl
theorem tw_cd_X6_opensOne : Cond.code yX6_opensOne cX6_opensOne 2 (Option.some Jvm.ClassFile.FieldType.boolean) ∈ TT := tm (tb_4 (List.mem_of_getElem? (i := 14) rfl)) rfl
theorem tw_ml_RX6_128 : Cond.methodLink RX6 128 yX6_holds ∈ TT := tm (tb_4 (List.mem_of_getElem? (i := 15) rfl)) rfl
theorem tw_im_X6_holds : Cond.instanceMethod yX6_holds ∈ TT := tm (tb_4 (List.mem_of_getElem? (i := 17) rfl)) rfl
theorem tw_cd_X6_holds : Cond.code yX6_holds cX6_holds 2 none ∈ TT := tm (tb_4 (List.mem_of_getElem? (i := 18) rfl)) rfl
theorem tw_ml_RX6_141 : Cond.methodLink RX6 141 yX6_signOf ∈ TT := tm (tb_4 (List.mem_of_getElem? (i := 19) rfl)) rfl
theorem tw_im_X6_signOf : Cond.instanceMethod yX6_signOf ∈ TT := tm (tb_4 (List.mem_of_getElem? (i := 21) rfl)) rfl
theorem tw_cd_X6_signOf : Cond.code yX6_signOf cX6_signOf 1 (Option.some Jvm.ClassFile.FieldType.int) ∈ TT := tm (tb_4 (List.mem_of_getElem? (i := 22) rfl)) rfl
theorem tw_ml_RX6_144 : Cond.methodLink RX6 144 yX6_between ∈ TT := tm (tb_4 (List.mem_of_getElem? (i := 23) rfl)) rfl
theorem tw_im_X6_between : Cond.instanceMethod yX6_between ∈ TT := tm (tb_4 (List.mem_of_getElem? (i := 25) rfl)) rfl
theorem tw_cd_X6_between : Cond.code yX6_between cX6_between 2 (Option.some Jvm.ClassFile.FieldType.boolean) ∈ TT := tm (tb_4 (List.mem_of_getElem? (i := 26) rfl)) rfl
theorem tw_fl_RX6_78 : Cond.fieldLink RX6 78 "BellOfLiesModel" "people" "I" ∈ TT := tm (tb_4 (List.mem_of_getElem? (i := 27) rfl)) rfl
theorem tw_fl_RX6_7 : Cond.fieldLink RX6 7 "BellOfLiesModel" "kind" "[I" ∈ TT := tm (tb_4 (List.mem_of_getElem? (i := 28) rfl)) rfl
theorem tw_fl_RX6_13 : Cond.fieldLink RX6 13 "BellOfLiesModel" "moreOf" "[I" ∈ TT := tm (tb_4 (List.mem_of_getElem? (i := 29) rfl)) rfl
theorem tw_fl_RX6_16 : Cond.fieldLink RX6 16 "BellOfLiesModel" "rows" "[I" ∈ TT := tm (tb_4 (List.mem_of_getElem? (i := 30) rfl)) rfl
theorem tw_fl_RX6_19 : Cond.fieldLink RX6 19 "BellOfLiesModel" "bells" "[I" ∈ TT := tm (tb_4 (List.mem_of_getElem? (i := 31) rfl)) rfl
theorem tw_fl_RX6_22 : Cond.fieldLink RX6 22 "BellOfLiesModel" "tape" "[I" ∈ TT := tm (tb_4 (List.mem_of_getElem? (i := 32) rfl)) rfl
theorem tw_fl_RX6_70 : Cond.fieldLink RX6 70 "BellOfLiesModel" "taped" "I" ∈ TT := tm (tb_4 (List.mem_of_getElem? (i := 33) rfl)) rfl
theorem tw_fl_RX6_25 : Cond.fieldLink RX6 25 "BellOfLiesModel" "codes" "[I" ∈ TT := tm (tb_4 (List.mem_of_getElem? (i := 34) rfl)) rfl
theorem tw_fl_RX6_28 : Cond.fieldLink RX6 28 "BellOfLiesModel" "starts" "[I" ∈ TT := tm (tb_4 (List.mem_of_getElem? (i := 35) rfl)) rfl
theorem tw_fl_RX6_85 : Cond.fieldLink RX6 85 "BellOfLiesModel" "texts" "I" ∈ TT := tm (tb_4 (List.mem_of_getElem? (i := 36) rfl)) rfl
theorem tw_fl_RX6_88 : Cond.fieldLink RX6 88 "BellOfLiesModel" "rule" "I" ∈ TT := tm (tb_4 (List.mem_of_getElem? (i := 37) rfl)) rfl
theorem tw_fl_RX6_254 : Cond.fieldLink RX6 254 "BellOfLiesModel" "hasImage" "Z" ∈ TT := tm (tb_4 (List.mem_of_getElem? (i := 38) rfl)) rfl
theorem tw_fl_RX6_31 : Cond.fieldLink RX6 31 "BellOfLiesModel" "imageRows" "[I" ∈ TT := tm (tb_4 (List.mem_of_getElem? (i := 39) rfl)) rfl
theorem tw_fl_RX6_34 : Cond.fieldLink RX6 34 "BellOfLiesModel" "imageHeld" "[I" ∈ TT := tm (tb_4 (List.mem_of_getElem? (i := 40) rfl)) rfl
theorem tw_fl_RX6_37 : Cond.fieldLink RX6 37 "BellOfLiesModel" "sheetSort" "[I" ∈ TT := tm (tb_4 (List.mem_of_getElem? (i := 41) rfl)) rfl
theorem tw_fl_RX6_40 : Cond.fieldLink RX6 40 "BellOfLiesModel" "sheetSize" "[I" ∈ TT := tm (tb_4 (List.mem_of_getElem? (i := 42) rfl)) rfl
theorem tw_fl_RX6_43 : Cond.fieldLink RX6 43 "BellOfLiesModel" "cells" "[I" ∈ TT := tm (tb_4 (List.mem_of_getElem? (i := 43) rfl)) rfl
theorem tw_fl_RX6_46 : Cond.fieldLink RX6 46 "BellOfLiesModel" "law" "[I" ∈ TT := tm (tb_4 (List.mem_of_getElem? (i := 44) rfl)) rfl
theorem tw_fl_RX6_95 : Cond.fieldLink RX6 95 "BellOfLiesModel" "at" "I" ∈ TT := tm (tb_4 (List.mem_of_getElem? (i := 45) rfl)) rfl
theorem tw_fl_RX6_98 : Cond.fieldLink RX6 98 "BellOfLiesModel" "begun" "I" ∈ TT := tm (tb_4 (List.mem_of_getElem? (i := 46) rfl)) rfl
theorem tw_fl_RX6_101 : Cond.fieldLink RX6 101 "BellOfLiesModel" "token" "I" ∈ TT := tm (tb_4 (List.mem_of_getElem? (i := 47) rfl)) rfl
theorem tw_fl_RX6_104 : Cond.fieldLink RX6 104 "BellOfLiesModel" "value" "I" ∈ TT := tm (tb_4 (List.mem_of_getElem? (i := 48) rfl)) rfl
theorem tw_fl_RX6_49 : Cond.fieldLink RX6 49 "BellOfLiesModel" "words" "[I" ∈ TT := tm (tb_4 (List.mem_of_getElem? (i := 49) rfl)) rfl
theorem tw_fl_RX6_52 : Cond.fieldLink RX6 52 "BellOfLiesModel" "held" "[I" ∈ TT := tm (tb_4 (List.mem_of_getElem? (i := 50) rfl)) rfl
theorem tw_fl_RX6_114 : Cond.fieldLink RX6 114 "BellOfLiesModel" "heldMany" "I" ∈ TT := tm (tb_4 (List.mem_of_getElem? (i := 51) rfl)) rfl
theorem tw_fl_RX6_121 : Cond.fieldLink RX6 121 "BellOfLiesModel" "opens" "I" ∈ TT := tm (tb_4 (List.mem_of_getElem? (i := 52) rfl)) rfl
theorem tw_fl_RX6_111 : Cond.fieldLink RX6 111 "BellOfLiesModel" "out" "I" ∈ TT := tm (tb_4 (List.mem_of_getElem? (i := 53) rfl)) rfl
theorem tw_fl_RX6_55 : Cond.fieldLink RX6 55 "BellOfLiesModel" "stack" "[I" ∈ TT := tm (tb_4 (List.mem_of_getElem? (i := 54) rfl)) rfl
theorem tw_fl_RX6_58 : Cond.fieldLink RX6 58 "BellOfLiesModel" "named" "[I" ∈ TT := tm (tb_4 (List.mem_of_getElem? (i := 55) rfl)) rfl
theorem tw_fl_RX6_193 : Cond.fieldLink RX6 193 "BellOfLiesModel" "liarsThen" "I" ∈ TT := tm (tb_4 (List.mem_of_getElem? (i := 56) rfl)) rfl
theorem tw_fl_RX6_61 : Cond.fieldLink RX6 61 "BellOfLiesModel" "kept" "[I" ∈ TT := tm (tb_4 (List.mem_of_getElem? (i := 57) rfl)) rfl
theorem tw_fl_RX6_64 : Cond.fieldLink RX6 64 "BellOfLiesModel" "dayStrikes" "[I" ∈ TT := tm (tb_4 (List.mem_of_getElem? (i := 58) rfl)) rfl
theorem tw_fl_RX6_67 : Cond.fieldLink RX6 67 "BellOfLiesModel" "dayLiars" "[I" ∈ TT := tm (tb_4 (List.mem_of_getElem? (i := 59) rfl)) rfl
theorem tw_fl_RX6_241 : Cond.fieldLink RX6 241 "BellOfLiesModel" "toldThen" "I" ∈ TT := tm (tb_4 (List.mem_of_getElem? (i := 60) rfl)) rfl
theorem tw_ml_RL_17 : Cond.methodLink RL 17 yX6_count ∈ TT := tm (tb_4 (List.mem_of_getElem? (i := 130) rfl)) rfl
theorem tw_im_X6_count : Cond.instanceMethod yX6_count ∈ TT := tm (tb_4 (List.mem_of_getElem? (i := 131) rfl)) rfl
theorem tw_se_X6_count : Cond.selects RX6 yX6_count yX6_count ∈ TT := tm (tb_4 (List.mem_of_getElem? (i := 132) rfl)) rfl
theorem tw_cd_X6_count : Cond.code yX6_count cX6_count 2 (Option.some Jvm.ClassFile.FieldType.int) ∈ TT := tm (tb_4 (List.mem_of_getElem? (i := 133) rfl)) rfl
theorem tw_ml_RL_21 : Cond.methodLink RL 21 yX6_clock ∈ TT := tm (tb_4 (List.mem_of_getElem? (i := 134) rfl)) rfl
theorem tw_im_X6_clock : Cond.instanceMethod yX6_clock ∈ TT := tm (tb_4 (List.mem_of_getElem? (i := 135) rfl)) rfl
theorem tw_se_X6_clock : Cond.selects RX6 yX6_clock yX6_clock ∈ TT := tm (tb_4 (List.mem_of_getElem? (i := 136) rfl)) rfl
theorem tw_cd_X6_clock : Cond.code yX6_clock cX6_clock 3 (Option.some Jvm.ClassFile.FieldType.int) ∈ TT := tm (tb_4 (List.mem_of_getElem? (i := 137) rfl)) rfl
theorem tw_ml_RL_26 : Cond.methodLink RL 26 yX6_feed ∈ TT := tm (tb_4 (List.mem_of_getElem? (i := 138) rfl)) rfl
theorem tw_im_X6_feed : Cond.instanceMethod yX6_feed ∈ TT := tm (tb_4 (List.mem_of_getElem? (i := 139) rfl)) rfl
theorem tw_se_X6_feed : Cond.selects RX6 yX6_feed yX6_feed ∈ TT := tm (tb_4 (List.mem_of_getElem? (i := 140) rfl)) rfl
theorem tw_cd_X6_feed : Cond.code yX6_feed cX6_feed 8 (Option.some Jvm.ClassFile.FieldType.int) ∈ TT := tm (tb_4 (List.mem_of_getElem? (i := 141) rfl)) rfl
theorem tw_ml_RX6_91 : Cond.methodLink RX6 91 yX6_isByte ∈ TT := tm (tb_4 (List.mem_of_getElem? (i := 142) rfl)) rfl
theorem tw_st_X6_isByte : Cond.static yX6_isByte ∈ TT := tm (tb_4 (List.mem_of_getElem? (i := 143) rfl)) rfl
theorem tw_cd_X6_isByte : Cond.code yX6_isByte cX6_isByte 1 (Option.some Jvm.ClassFile.FieldType.boolean) ∈ TT := tm (tb_4 (List.mem_of_getElem? (i := 144) rfl)) rfl
theorem tw_ml_RL_31 : Cond.methodLink RL 31 yX6_text ∈ TT := tm (tb_4 (List.mem_of_getElem? (i := 145) rfl)) rfl
theorem tw_ml_RL_35 : Cond.methodLink RL 35 yX6_force ∈ TT := tm (tb_4 (List.mem_of_getElem? (i := 146) rfl)) rfl
theorem tw_im_X6_force : Cond.instanceMethod yX6_force ∈ TT := tm (tb_4 (List.mem_of_getElem? (i := 147) rfl)) rfl
theorem tw_se_X6_force : Cond.selects RX6 yX6_force yX6_force ∈ TT := tm (tb_4 (List.mem_of_getElem? (i := 148) rfl)) rfl
theorem tw_cd_X6_force : Cond.code yX6_force cX6_force 3 (Option.some Jvm.ClassFile.FieldType.int) ∈ TT := tm (tb_4 (List.mem_of_getElem? (i := 149) rfl)) rfl
theorem tw_ml_RL_40 : Cond.methodLink RL 40 yX6_asks ∈ TT := tm (tb_4 (List.mem_of_getElem? (i := 150) rfl)) rfl
theorem tw_im_X6_asks : Cond.instanceMethod yX6_asks ∈ TT := tm (tb_4 (List.mem_of_getElem? (i := 151) rfl)) rfl
theorem tw_se_X6_asks : Cond.selects RX6 yX6_asks yX6_asks ∈ TT := tm (tb_4 (List.mem_of_getElem? (i := 152) rfl)) rfl
theorem tw_cd_X6_asks : Cond.code yX6_asks cX6_asks 3 (Option.some Jvm.ClassFile.FieldType.int) ∈ TT := tm (tb_4 (List.mem_of_getElem? (i := 153) rfl)) rfl
theorem tw_ml_RX6_164 : Cond.methodLink RX6 164 yX6_isOne ∈ TT := tm (tb_4 (List.mem_of_getElem? (i := 154) rfl)) rfl
theorem tw_im_X6_isOne : Cond.instanceMethod yX6_isOne ∈ TT := tm (tb_4 (List.mem_of_getElem? (i := 156) rfl)) rfl
theorem tw_cd_X6_isOne : Cond.code yX6_isOne cX6_isOne 2 (Option.some Jvm.ClassFile.FieldType.boolean) ∈ TT := tm (tb_4 (List.mem_of_getElem? (i := 157) rfl)) rfl
theorem tw_ml_RX6_167 : Cond.methodLink RX6 167 yX6_asksOf ∈ TT := tm (tb_4 (List.mem_of_getElem? (i := 158) rfl)) rfl
theorem tw_im_X6_asksOf : Cond.instanceMethod yX6_asksOf ∈ TT := tm (tb_4 (List.mem_of_getElem? (i := 160) rfl)) rfl
theorem tw_cd_X6_asksOf : Cond.code yX6_asksOf cX6_asksOf 3 (Option.some Jvm.ClassFile.FieldType.int) ∈ TT := tm (tb_4 (List.mem_of_getElem? (i := 161) rfl)) rfl
theorem tw_ml_RX6_155 : Cond.methodLink RX6 155 yX6_within ∈ TT := tm (tb_4 (List.mem_of_getElem? (i := 162) rfl)) rfl
theorem tw_st_X6_within : Cond.static yX6_within ∈ TT := tm (tb_4 (List.mem_of_getElem? (i := 163) rfl)) rfl
theorem tw_cd_X6_within : Cond.code yX6_within cX6_within 3 (Option.some Jvm.ClassFile.FieldType.int) ∈ TT := tm (tb_4 (List.mem_of_getElem? (i := 164) rfl)) rfl
theorem tw_ml_RX6_158 : Cond.methodLink RX6 158 yX6_ofDay ∈ TT := tm (tb_4 (List.mem_of_getElem? (i := 165) rfl)) rfl
theorem tw_im_X6_ofDay : Cond.instanceMethod yX6_ofDay ∈ TT := tm (tb_4 (List.mem_of_getElem? (i := 167) rfl)) rfl
theorem tw_cd_X6_ofDay : Cond.code yX6_ofDay cX6_ofDay 1 (Option.some Jvm.ClassFile.FieldType.int) ∈ TT := tm (tb_4 (List.mem_of_getElem? (i := 168) rfl)) rfl
theorem tw_ml_RX6_161 : Cond.methodLink RX6 161 yX6_says ∈ TT := tm (tb_4 (List.mem_of_getElem? (i := 169) rfl)) rfl
theorem tw_im_X6_says : Cond.instanceMethod yX6_says ∈ TT := tm (tb_4 (List.mem_of_getElem? (i := 171) rfl)) rfl
theorem tw_cd_X6_says : Cond.code yX6_says cX6_says 5 (Option.some Jvm.ClassFile.FieldType.int) ∈ TT := tm (tb_4 (List.mem_of_getElem? (i := 172) rfl)) rfl
theorem tw_ml_RX6_151 : Cond.methodLink RX6 151 yX6_two ∈ TT := tm (tb_4 (List.mem_of_getElem? (i := 173) rfl)) rfl
theorem tw_st_X6_two : Cond.static yX6_two ∈ TT := tm (tb_4 (List.mem_of_getElem? (i := 174) rfl)) rfl
theorem tw_cd_X6_two : Cond.code yX6_two cX6_two 3 (Option.some Jvm.ClassFile.FieldType.int) ∈ TT := tm (tb_4 (List.mem_of_getElem? (i := 175) rfl)) rfl
theorem tw_ml_RL_45 : Cond.methodLink RL 45 yX6_person ∈ TT := tm (tb_4 (List.mem_of_getElem? (i := 176) rfl)) rfl
theorem tw_im_X6_person : Cond.instanceMethod yX6_person ∈ TT := tm (tb_4 (List.mem_of_getElem? (i := 177) rfl)) rfl
theorem tw_se_X6_person : Cond.selects RX6 yX6_person yX6_person ∈ TT := tm (tb_4 (List.mem_of_getElem? (i := 178) rfl)) rfl
theorem tw_cd_X6_person : Cond.code yX6_person cX6_person 4 (Option.some Jvm.ClassFile.FieldType.int) ∈ TT := tm (tb_4 (List.mem_of_getElem? (i := 179) rfl)) rfl
theorem tw_co_RX6_170 : Cond.constant RX6 170 (16777215) ∈ TT := tm (tb_4 (List.mem_of_getElem? (i := 180) rfl)) rfl
theorem tw_ml_RL_49 : Cond.methodLink RL 49 yX6_put ∈ TT := tm (tb_4 (List.mem_of_getElem? (i := 181) rfl)) rfl
theorem tw_im_X6_put : Cond.instanceMethod yX6_put ∈ TT := tm (tb_4 (List.mem_of_getElem? (i := 182) rfl)) rfl
theorem tw_se_X6_put : Cond.selects RX6 yX6_put yX6_put ∈ TT := tm (tb_4 (List.mem_of_getElem? (i := 183) rfl)) rfl
theorem tw_cd_X6_put : Cond.code yX6_put cX6_put 5 (Option.some Jvm.ClassFile.FieldType.int) ∈ TT := tm (tb_4 (List.mem_of_getElem? (i := 184) rfl)) rfl
theorem tw_ml_RX6_171 : Cond.methodLink RX6 171 yX6_mostOf ∈ TT := tm (tb_4 (List.mem_of_getElem? (i := 185) rfl)) rfl
theorem tw_st_X6_mostOf : Cond.static yX6_mostOf ∈ TT := tm (tb_4 (List.mem_of_getElem? (i := 186) rfl)) rfl
theorem tw_cd_X6_mostOf : Cond.code yX6_mostOf cX6_mostOf 1 (Option.some Jvm.ClassFile.FieldType.int) ∈ TT := tm (tb_4 (List.mem_of_getElem? (i := 187) rfl)) rfl
theorem tw_ml_RL_53 : Cond.methodLink RL 53 yX6_tells ∈ TT := tm (tb_4 (List.mem_of_getElem? (i := 188) rfl)) rfl
theorem tw_im_X6_tells : Cond.instanceMethod yX6_tells ∈ TT := tm (tb_4 (List.mem_of_getElem? (i := 189) rfl)) rfl
theorem tw_se_X6_tells : Cond.selects RX6 yX6_tells yX6_tells ∈ TT := tm (tb_4 (List.mem_of_getElem? (i := 190) rfl)) rfl
theorem tw_cd_X6_tells : Cond.code yX6_tells cX6_tells 3 (Option.some Jvm.ClassFile.FieldType.int) ∈ TT := tm (tb_4 (List.mem_of_getElem? (i := 191) rfl)) rfl
theorem tw_ml_RX6_174 : Cond.methodLink RX6 174 yX6_lies ∈ TT := tm (tb_4 (List.mem_of_getElem? (i := 192) rfl)) rfl
theorem tw_im_X6_lies : Cond.instanceMethod yX6_lies ∈ TT := tm (tb_4 (List.mem_of_getElem? (i := 194) rfl)) rfl
theorem tw_cd_X6_lies : Cond.code yX6_lies cX6_lies 5 (Option.some Jvm.ClassFile.FieldType.boolean) ∈ TT := tm (tb_4 (List.mem_of_getElem? (i := 195) rfl)) rfl
theorem tw_ml_RX6_180 : Cond.methodLink RX6 180 yX6_costsOf ∈ TT := tm (tb_4 (List.mem_of_getElem? (i := 196) rfl)) rfl
theorem tw_im_X6_costsOf : Cond.instanceMethod yX6_costsOf ∈ TT := tm (tb_4 (List.mem_of_getElem? (i := 198) rfl)) rfl
theorem tw_cd_X6_costsOf : Cond.code yX6_costsOf cX6_costsOf 3 (Option.some Jvm.ClassFile.FieldType.int) ∈ TT := tm (tb_4 (List.mem_of_getElem? (i := 199) rfl)) rfl
theorem tw_ml_RX6_177 : Cond.methodLink RX6 177 yX6_strokesOf ∈ TT := tm (tb_4 (List.mem_of_getElem? (i := 200) rfl)) rfl
theorem tw_im_X6_strokesOf : Cond.instanceMethod yX6_strokesOf ∈ TT := tm (tb_4 (List.mem_of_getElem? (i := 202) rfl)) rfl
theorem tw_cd_X6_strokesOf : Cond.code yX6_strokesOf cX6_strokesOf 3 (Option.some Jvm.ClassFile.FieldType.int) ∈ TT := tm (tb_4 (List.mem_of_getElem? (i := 203) rfl)) rfl
theorem tw_ml_RL_57 : Cond.methodLink RL 57 yX6_bell ∈ TT := tm (tb_4 (List.mem_of_getElem? (i := 204) rfl)) rfl
theorem tw_im_X6_bell : Cond.instanceMethod yX6_bell ∈ TT := tm (tb_4 (List.mem_of_getElem? (i := 205) rfl)) rfl
theorem tw_se_X6_bell : Cond.selects RX6 yX6_bell yX6_bell ∈ TT := tm (tb_4 (List.mem_of_getElem? (i := 206) rfl)) rfl
theorem tw_cd_X6_bell : Cond.code yX6_bell cX6_bell 2 (Option.some Jvm.ClassFile.FieldType.int) ∈ TT := tm (tb_4 (List.mem_of_getElem? (i := 207) rfl)) rfl
theorem tw_ml_RX6_183 : Cond.methodLink RX6 183 yX6_liars ∈ TT := tm (tb_4 (List.mem_of_getElem? (i := 208) rfl)) rfl
theorem tw_im_X6_liars : Cond.instanceMethod yX6_liars ∈ TT := tm (tb_4 (List.mem_of_getElem? (i := 210) rfl)) rfl
theorem tw_cd_X6_liars : Cond.code yX6_liars cX6_liars 3 (Option.some Jvm.ClassFile.FieldType.int) ∈ TT := tm (tb_4 (List.mem_of_getElem? (i := 211) rfl)) rfl
theorem tw_ml_RX6_186 : Cond.methodLink RX6 186 yX6_strikesBy ∈ TT := tm (tb_4 (List.mem_of_getElem? (i := 212) rfl)) rfl
theorem tw_im_X6_strikesBy : Cond.instanceMethod yX6_strikesBy ∈ TT := tm (tb_4 (List.mem_of_getElem? (i := 214) rfl)) rfl
theorem tw_cd_X6_strikesBy : Cond.code yX6_strikesBy cX6_strikesBy 4 (Option.some Jvm.ClassFile.FieldType.int) ∈ TT := tm (tb_4 (List.mem_of_getElem? (i := 215) rfl)) rfl
theorem tw_ml_RX6_189 : Cond.methodLink RX6 189 yX6_vows ∈ TT := tm (tb_4 (List.mem_of_getElem? (i := 216) rfl)) rfl
theorem tw_im_X6_vows : Cond.instanceMethod yX6_vows ∈ TT := tm (tb_4 (List.mem_of_getElem? (i := 218) rfl)) rfl
theorem tw_cd_X6_vows : Cond.code yX6_vows cX6_vows 3 (Option.some Jvm.ClassFile.FieldType.int) ∈ TT := tm (tb_4 (List.mem_of_getElem? (i := 219) rfl)) rfl
theorem tw_ml_RL_61 : Cond.methodLink RL 61 yX6_strike ∈ TT := tm (tb_4 (List.mem_of_getElem? (i := 220) rfl)) rfl
theorem tw_im_X6_strike : Cond.instanceMethod yX6_strike ∈ TT := tm (tb_4 (List.mem_of_getElem? (i := 221) rfl)) rfl
theorem tw_se_X6_strike : Cond.selects RX6 yX6_strike yX6_strike ∈ TT := tm (tb_4 (List.mem_of_getElem? (i := 222) rfl)) rfl
theorem tw_cd_X6_strike : Cond.code yX6_strike cX6_strike 1 (Option.some Jvm.ClassFile.FieldType.int) ∈ TT := tm (tb_4 (List.mem_of_getElem? (i := 223) rfl)) rfl
theorem tw_ml_RX6_196 : Cond.methodLink RX6 196 yX6_hourOf ∈ TT := tm (tb_4 (List.mem_of_getElem? (i := 224) rfl)) rfl
theorem tw_im_X6_hourOf : Cond.instanceMethod yX6_hourOf ∈ TT := tm (tb_4 (List.mem_of_getElem? (i := 226) rfl)) rfl
theorem tw_cd_X6_hourOf : Cond.code yX6_hourOf cX6_hourOf 4 (Option.some Jvm.ClassFile.FieldType.int) ∈ TT := tm (tb_4 (List.mem_of_getElem? (i := 227) rfl)) rfl
theorem tw_co_RX6_192 : Cond.constant RX6 192 (999999) ∈ TT := tm (tb_4 (List.mem_of_getElem? (i := 228) rfl)) rfl
theorem tw_ml_RL_65 : Cond.methodLink RL 65 yX6_run ∈ TT := tm (tb_4 (List.mem_of_getElem? (i := 229) rfl)) rfl
theorem tw_im_X6_run : Cond.instanceMethod yX6_run ∈ TT := tm (tb_4 (List.mem_of_getElem? (i := 230) rfl)) rfl
theorem tw_se_X6_run : Cond.selects RX6 yX6_run yX6_run ∈ TT := tm (tb_4 (List.mem_of_getElem? (i := 231) rfl)) rfl
theorem tw_cd_X6_run : Cond.code yX6_run cX6_run 5 (Option.some Jvm.ClassFile.FieldType.int) ∈ TT := tm (tb_4 (List.mem_of_getElem? (i := 232) rfl)) rfl
theorem tw_ml_RX6_199 : Cond.methodLink RX6 199 yX6_keeps ∈ TT := tm (tb_4 (List.mem_of_getElem? (i := 233) rfl)) rfl
theorem tw_im_X6_keeps : Cond.instanceMethod yX6_keeps ∈ TT := tm (tb_4 (List.mem_of_getElem? (i := 235) rfl)) rfl
theorem tw_cd_X6_keeps : Cond.code yX6_keeps cX6_keeps 2 none ∈ TT := tm (tb_4 (List.mem_of_getElem? (i := 236) rfl)) rfl
theorem tw_ml_RX6_202 : Cond.methodLink RX6 202 yX6_goes ∈ TT := tm (tb_4 (List.mem_of_getElem? (i := 237) rfl)) rfl
theorem tw_im_X6_goes : Cond.instanceMethod yX6_goes ∈ TT := tm (tb_4 (List.mem_of_getElem? (i := 239) rfl)) rfl
theorem tw_cd_X6_goes : Cond.code yX6_goes cX6_goes 4 (Option.some Jvm.ClassFile.FieldType.int) ∈ TT := tm (tb_5 (List.mem_of_getElem? (i := 0) rfl)) rfl
theorem tw_ml_RX6_205 : Cond.methodLink RX6 205 yX6_lays ∈ TT := tm (tb_5 (List.mem_of_getElem? (i := 1) rfl)) rfl
theorem tw_im_X6_lays : Cond.instanceMethod yX6_lays ∈ TT := tm (tb_5 (List.mem_of_getElem? (i := 3) rfl)) rfl
theorem tw_cd_X6_lays : Cond.code yX6_lays cX6_lays 2 none ∈ TT := tm (tb_5 (List.mem_of_getElem? (i := 4) rfl)) rfl
theorem tw_ml_RL_69 : Cond.methodLink RL 69 yX6_when ∈ TT := tm (tb_5 (List.mem_of_getElem? (i := 5) rfl)) rfl
theorem tw_im_X6_when : Cond.instanceMethod yX6_when ∈ TT := tm (tb_5 (List.mem_of_getElem? (i := 6) rfl)) rfl
theorem tw_se_X6_when : Cond.selects RX6 yX6_when yX6_when ∈ TT := tm (tb_5 (List.mem_of_getElem? (i := 7) rfl)) rfl
theorem tw_cd_X6_when : Cond.code yX6_when cX6_when 4 (Option.some Jvm.ClassFile.FieldType.int) ∈ TT := tm (tb_5 (List.mem_of_getElem? (i := 8) rfl)) rfl
theorem tw_ml_RL_73 : Cond.methodLink RL 73 yX6_dial ∈ TT := tm (tb_5 (List.mem_of_getElem? (i := 9) rfl)) rfl
theorem tw_im_X6_dial : Cond.instanceMethod yX6_dial ∈ TT := tm (tb_5 (List.mem_of_getElem? (i := 10) rfl)) rfl
theorem tw_se_X6_dial : Cond.selects RX6 yX6_dial yX6_dial ∈ TT := tm (tb_5 (List.mem_of_getElem? (i := 11) rfl)) rfl
theorem tw_cd_X6_dial : Cond.code yX6_dial cX6_dial 2 (Option.some Jvm.ClassFile.FieldType.int) ∈ TT := tm (tb_5 (List.mem_of_getElem? (i := 12) rfl)) rfl
theorem tw_ml_RX6_211 : Cond.methodLink RX6 211 yX6_tellsDay ∈ TT := tm (tb_5 (List.mem_of_getElem? (i := 13) rfl)) rfl
theorem tw_im_X6_tellsDay : Cond.instanceMethod yX6_tellsDay ∈ TT := tm (tb_5 (List.mem_of_getElem? (i := 15) rfl)) rfl
theorem tw_cd_X6_tellsDay : Cond.code yX6_tellsDay cX6_tellsDay 2 none ∈ TT := tm (tb_5 (List.mem_of_getElem? (i := 16) rfl)) rfl
theorem tw_ml_RX6_214 : Cond.methodLink RX6 214 yX6_alone ∈ TT := tm (tb_5 (List.mem_of_getElem? (i := 17) rfl)) rfl
theorem tw_im_X6_alone : Cond.instanceMethod yX6_alone ∈ TT := tm (tb_5 (List.mem_of_getElem? (i := 19) rfl)) rfl
theorem tw_cd_X6_alone : Cond.code yX6_alone cX6_alone 3 (Option.some Jvm.ClassFile.FieldType.int) ∈ TT := tm (tb_5 (List.mem_of_getElem? (i := 20) rfl)) rfl
theorem tw_ml_RX6_208 : Cond.methodLink RX6 208 yX6_alikeWith ∈ TT := tm (tb_5 (List.mem_of_getElem? (i := 21) rfl)) rfl
theorem tw_im_X6_alikeWith : Cond.instanceMethod yX6_alikeWith ∈ TT := tm (tb_5 (List.mem_of_getElem? (i := 23) rfl)) rfl
theorem tw_cd_X6_alikeWith : Cond.code yX6_alikeWith cX6_alikeWith 4 (Option.some Jvm.ClassFile.FieldType.int) ∈ TT := tm (tb_5 (List.mem_of_getElem? (i := 24) rfl)) rfl
theorem tw_ml_RX6_217 : Cond.methodLink RX6 217 yX6_longestRow ∈ TT := tm (tb_5 (List.mem_of_getElem? (i := 25) rfl)) rfl
theorem tw_im_X6_longestRow : Cond.instanceMethod yX6_longestRow ∈ TT := tm (tb_5 (List.mem_of_getElem? (i := 27) rfl)) rfl
theorem tw_cd_X6_longestRow : Cond.code yX6_longestRow cX6_longestRow 5 (Option.some Jvm.ClassFile.FieldType.int) ∈ TT := tm (tb_5 (List.mem_of_getElem? (i := 28) rfl)) rfl
theorem tw_ml_RX6_220 : Cond.methodLink RX6 220 yX6_silent ∈ TT := tm (tb_5 (List.mem_of_getElem? (i := 29) rfl)) rfl
theorem tw_im_X6_silent : Cond.instanceMethod yX6_silent ∈ TT := tm (tb_5 (List.mem_of_getElem? (i := 31) rfl)) rfl
theorem tw_cd_X6_silent : Cond.code yX6_silent cX6_silent 3 (Option.some Jvm.ClassFile.FieldType.int) ∈ TT := tm (tb_5 (List.mem_of_getElem? (i := 32) rfl)) rfl
theorem tw_ml_RX6_223 : Cond.methodLink RX6 223 yX6_mostHour ∈ TT := tm (tb_5 (List.mem_of_getElem? (i := 33) rfl)) rfl
theorem tw_im_X6_mostHour : Cond.instanceMethod yX6_mostHour ∈ TT := tm (tb_5 (List.mem_of_getElem? (i := 35) rfl)) rfl
theorem tw_cd_X6_mostHour : Cond.code yX6_mostHour cX6_mostHour 3 (Option.some Jvm.ClassFile.FieldType.int) ∈ TT := tm (tb_5 (List.mem_of_getElem? (i := 36) rfl)) rfl
theorem tw_ml_RL_77 : Cond.methodLink RL 77 yX6_hush ∈ TT := tm (tb_5 (List.mem_of_getElem? (i := 37) rfl)) rfl
theorem tw_im_X6_hush : Cond.instanceMethod yX6_hush ∈ TT := tm (tb_5 (List.mem_of_getElem? (i := 38) rfl)) rfl
theorem tw_se_X6_hush : Cond.selects RX6 yX6_hush yX6_hush ∈ TT := tm (tb_5 (List.mem_of_getElem? (i := 39) rfl)) rfl
theorem tw_cd_X6_hush : Cond.code yX6_hush cX6_hush 6 (Option.some Jvm.ClassFile.FieldType.int) ∈ TT := tm (tb_5 (List.mem_of_getElem? (i := 40) rfl)) rfl
theorem tw_ml_RL_81 : Cond.methodLink RL 81 yX6_council ∈ TT := tm (tb_5 (List.mem_of_getElem? (i := 41) rfl)) rfl
theorem tw_im_X6_council : Cond.instanceMethod yX6_council ∈ TT := tm (tb_5 (List.mem_of_getElem? (i := 42) rfl)) rfl
theorem tw_se_X6_council : Cond.selects RX6 yX6_council yX6_council ∈ TT := tm (tb_5 (List.mem_of_getElem? (i := 43) rfl)) rfl
theorem tw_cd_X6_council : Cond.code yX6_council cX6_council 10 (Option.some Jvm.ClassFile.FieldType.int) ∈ TT := tm (tb_5 (List.mem_of_getElem? (i := 44) rfl)) rfl
theorem tw_ml_RX6_226 : Cond.methodLink RX6 226 yX6_onesOf ∈ TT := tm (tb_5 (List.mem_of_getElem? (i := 45) rfl)) rfl
theorem tw_st_X6_onesOf : Cond.static yX6_onesOf ∈ TT := tm (tb_5 (List.mem_of_getElem? (i := 46) rfl)) rfl
theorem tw_cd_X6_onesOf : Cond.code yX6_onesOf cX6_onesOf 3 (Option.some Jvm.ClassFile.FieldType.int) ∈ TT := tm (tb_5 (List.mem_of_getElem? (i := 47) rfl)) rfl
theorem tw_ml_RL_85 : Cond.methodLink RL 85 yX6_lesson ∈ TT := tm (tb_5 (List.mem_of_getElem? (i := 48) rfl)) rfl
theorem tw_im_X6_lesson : Cond.instanceMethod yX6_lesson ∈ TT := tm (tb_5 (List.mem_of_getElem? (i := 49) rfl)) rfl
theorem tw_se_X6_lesson : Cond.selects RX6 yX6_lesson yX6_lesson ∈ TT := tm (tb_5 (List.mem_of_getElem? (i := 50) rfl)) rfl
theorem tw_cd_X6_lesson : Cond.code yX6_lesson cX6_lesson 7 (Option.some Jvm.ClassFile.FieldType.int) ∈ TT := tm (tb_5 (List.mem_of_getElem? (i := 51) rfl)) rfl
theorem tw_ml_RL_89 : Cond.methodLink RL 89 yX6_pair ∈ TT := tm (tb_5 (List.mem_of_getElem? (i := 52) rfl)) rfl
theorem tw_im_X6_pair : Cond.instanceMethod yX6_pair ∈ TT := tm (tb_5 (List.mem_of_getElem? (i := 53) rfl)) rfl
theorem tw_se_X6_pair : Cond.selects RX6 yX6_pair yX6_pair ∈ TT := tm (tb_5 (List.mem_of_getElem? (i := 54) rfl)) rfl
theorem tw_cd_X6_pair : Cond.code yX6_pair cX6_pair 8 (Option.some Jvm.ClassFile.FieldType.int) ∈ TT := tm (tb_5 (List.mem_of_getElem? (i := 55) rfl)) rfl
theorem tw_ml_RL_94 : Cond.methodLink RL 94 yX6_mean ∈ TT := tm (tb_5 (List.mem_of_getElem? (i := 56) rfl)) rfl
theorem tw_im_X6_mean : Cond.instanceMethod yX6_mean ∈ TT := tm (tb_5 (List.mem_of_getElem? (i := 57) rfl)) rfl
theorem tw_se_X6_mean : Cond.selects RX6 yX6_mean yX6_mean ∈ TT := tm (tb_5 (List.mem_of_getElem? (i := 58) rfl)) rfl
theorem tw_cd_X6_mean : Cond.code yX6_mean cX6_mean 4 (Option.some Jvm.ClassFile.FieldType.long) ∈ TT := tm (tb_5 (List.mem_of_getElem? (i := 59) rfl)) rfl
theorem tw_cg_RX6_229 : Cond.constantLong RX6 229 (-4611686018427387904) ∈ TT := tm (tb_5 (List.mem_of_getElem? (i := 60) rfl)) rfl
theorem tw_ml_RX6_231 : Cond.methodLink RX6 231 yX6_lowest ∈ TT := tm (tb_5 (List.mem_of_getElem? (i := 61) rfl)) rfl
theorem tw_st_X6_lowest : Cond.static yX6_lowest ∈ TT := tm (tb_5 (List.mem_of_getElem? (i := 62) rfl)) rfl
theorem tw_cd_X6_lowest : Cond.code yX6_lowest cX6_lowest 11 (Option.some Jvm.ClassFile.FieldType.long) ∈ TT := tm (tb_5 (List.mem_of_getElem? (i := 63) rfl)) rfl
theorem tw_ml_RL_98 : Cond.methodLink RL 98 yX6_share ∈ TT := tm (tb_5 (List.mem_of_getElem? (i := 64) rfl)) rfl
theorem tw_im_X6_share : Cond.instanceMethod yX6_share ∈ TT := tm (tb_5 (List.mem_of_getElem? (i := 65) rfl)) rfl
theorem tw_se_X6_share : Cond.selects RX6 yX6_share yX6_share ∈ TT := tm (tb_5 (List.mem_of_getElem? (i := 66) rfl)) rfl
theorem tw_cd_X6_share : Cond.code yX6_share cX6_share 5 (Option.some Jvm.ClassFile.FieldType.long) ∈ TT := tm (tb_5 (List.mem_of_getElem? (i := 67) rfl)) rfl
theorem tw_ml_RL_102 : Cond.methodLink RL 102 yX6_judge ∈ TT := tm (tb_5 (List.mem_of_getElem? (i := 68) rfl)) rfl
theorem tw_im_X6_judge : Cond.instanceMethod yX6_judge ∈ TT := tm (tb_5 (List.mem_of_getElem? (i := 69) rfl)) rfl
theorem tw_se_X6_judge : Cond.selects RX6 yX6_judge yX6_judge ∈ TT := tm (tb_5 (List.mem_of_getElem? (i := 70) rfl)) rfl
theorem tw_cd_X6_judge : Cond.code yX6_judge cX6_judge 3 (Option.some Jvm.ClassFile.FieldType.int) ∈ TT := tm (tb_5 (List.mem_of_getElem? (i := 71) rfl)) rfl
theorem tw_ml_RX6_235 : Cond.methodLink RX6 235 yX6_sheetWrong ∈ TT := tm (tb_5 (List.mem_of_getElem? (i := 72) rfl)) rfl
theorem tw_im_X6_sheetWrong : Cond.instanceMethod yX6_sheetWrong ∈ TT := tm (tb_5 (List.mem_of_getElem? (i := 74) rfl)) rfl
theorem tw_cd_X6_sheetWrong : Cond.code yX6_sheetWrong cX6_sheetWrong 2 (Option.some Jvm.ClassFile.FieldType.int) ∈ TT := tm (tb_5 (List.mem_of_getElem? (i := 75) rfl)) rfl
theorem tw_ml_RX6_238 : Cond.methodLink RX6 238 yX6_unlike ∈ TT := tm (tb_5 (List.mem_of_getElem? (i := 76) rfl)) rfl
theorem tw_im_X6_unlike : Cond.instanceMethod yX6_unlike ∈ TT := tm (tb_5 (List.mem_of_getElem? (i := 78) rfl)) rfl
theorem tw_cd_X6_unlike : Cond.code yX6_unlike cX6_unlike 4 (Option.some Jvm.ClassFile.FieldType.int) ∈ TT := tm (tb_5 (List.mem_of_getElem? (i := 79) rfl)) rfl
theorem tw_ml_RL_106 : Cond.methodLink RL 106 yX6_kinds ∈ TT := tm (tb_5 (List.mem_of_getElem? (i := 80) rfl)) rfl
theorem tw_im_X6_kinds : Cond.instanceMethod yX6_kinds ∈ TT := tm (tb_5 (List.mem_of_getElem? (i := 81) rfl)) rfl
theorem tw_se_X6_kinds : Cond.selects RX6 yX6_kinds yX6_kinds ∈ TT := tm (tb_5 (List.mem_of_getElem? (i := 82) rfl)) rfl
theorem tw_cd_X6_kinds : Cond.code yX6_kinds cX6_kinds 9 (Option.some Jvm.ClassFile.FieldType.int) ∈ TT := tm (tb_5 (List.mem_of_getElem? (i := 83) rfl)) rfl
theorem tw_ml_RL_110 : Cond.methodLink RL 110 yX6_nerves ∈ TT := tm (tb_5 (List.mem_of_getElem? (i := 84) rfl)) rfl
theorem tw_im_X6_nerves : Cond.instanceMethod yX6_nerves ∈ TT := tm (tb_5 (List.mem_of_getElem? (i := 85) rfl)) rfl
theorem tw_se_X6_nerves : Cond.selects RX6 yX6_nerves yX6_nerves ∈ TT := tm (tb_5 (List.mem_of_getElem? (i := 86) rfl)) rfl
theorem tw_cd_X6_nerves : Cond.code yX6_nerves cX6_nerves 10 (Option.some Jvm.ClassFile.FieldType.int) ∈ TT := tm (tb_5 (List.mem_of_getElem? (i := 87) rfl)) rfl
theorem tw_ml_RL_114 : Cond.methodLink RL 114 yX6_turned ∈ TT := tm (tb_5 (List.mem_of_getElem? (i := 88) rfl)) rfl
theorem tw_im_X6_turned : Cond.instanceMethod yX6_turned ∈ TT := tm (tb_5 (List.mem_of_getElem? (i := 89) rfl)) rfl
theorem tw_se_X6_turned : Cond.selects RX6 yX6_turned yX6_turned ∈ TT := tm (tb_5 (List.mem_of_getElem? (i := 90) rfl)) rfl
theorem tw_cd_X6_turned : Cond.code yX6_turned cX6_turned 5 (Option.some Jvm.ClassFile.FieldType.int) ∈ TT := tm (tb_5 (List.mem_of_getElem? (i := 91) rfl)) rfl
theorem tw_ml_RL_118 : Cond.methodLink RL 118 yX6_hours ∈ TT := tm (tb_5 (List.mem_of_getElem? (i := 92) rfl)) rfl
theorem tw_im_X6_hours : Cond.instanceMethod yX6_hours ∈ TT := tm (tb_5 (List.mem_of_getElem? (i := 93) rfl)) rfl
theorem tw_se_X6_hours : Cond.selects RX6 yX6_hours yX6_hours ∈ TT := tm (tb_5 (List.mem_of_getElem? (i := 94) rfl)) rfl
theorem tw_cd_X6_hours : Cond.code yX6_hours cX6_hours 6 (Option.some Jvm.ClassFile.FieldType.int) ∈ TT := tm (tb_5 (List.mem_of_getElem? (i := 95) rfl)) rfl
theorem tw_ml_RL_122 : Cond.methodLink RL 122 yX6_laws ∈ TT := tm (tb_5 (List.mem_of_getElem? (i := 96) rfl)) rfl
theorem tw_im_X6_laws : Cond.instanceMethod yX6_laws ∈ TT := tm (tb_5 (List.mem_of_getElem? (i := 97) rfl)) rfl
theorem tw_se_X6_laws : Cond.selects RX6 yX6_laws yX6_laws ∈ TT := tm (tb_5 (List.mem_of_getElem? (i := 98) rfl)) rfl
theorem tw_cd_X6_laws : Cond.code yX6_laws cX6_laws 6 (Option.some Jvm.ClassFile.FieldType.int) ∈ TT := tm (tb_5 (List.mem_of_getElem? (i := 99) rfl)) rfl
theorem tw_ml_RL_126 : Cond.methodLink RL 126 yX6_film ∈ TT := tm (tb_5 (List.mem_of_getElem? (i := 100) rfl)) rfl
theorem tw_im_X6_film : Cond.instanceMethod yX6_film ∈ TT := tm (tb_5 (List.mem_of_getElem? (i := 101) rfl)) rfl
theorem tw_se_X6_film : Cond.selects RX6 yX6_film yX6_film ∈ TT := tm (tb_5 (List.mem_of_getElem? (i := 102) rfl)) rfl
theorem tw_cd_X6_film : Cond.code yX6_film cX6_film 4 (Option.some Jvm.ClassFile.FieldType.int) ∈ TT := tm (tb_5 (List.mem_of_getElem? (i := 103) rfl)) rfl
theorem tw_ml_RL_130 : Cond.methodLink RL 130 yX6_drawn ∈ TT := tm (tb_5 (List.mem_of_getElem? (i := 104) rfl)) rfl
theorem tw_im_X6_drawn : Cond.instanceMethod yX6_drawn ∈ TT := tm (tb_5 (List.mem_of_getElem? (i := 105) rfl)) rfl
theorem tw_se_X6_drawn : Cond.selects RX6 yX6_drawn yX6_drawn ∈ TT := tm (tb_5 (List.mem_of_getElem? (i := 106) rfl)) rfl
theorem tw_cd_X6_drawn : Cond.code yX6_drawn cX6_drawn 5 (Option.some Jvm.ClassFile.FieldType.int) ∈ TT := tm (tb_5 (List.mem_of_getElem? (i := 107) rfl)) rfl
theorem tw_co_RX6_250 : Cond.constant RX6 250 (99999) ∈ TT := tm (tb_5 (List.mem_of_getElem? (i := 108) rfl)) rfl
theorem tw_ml_RX6_251 : Cond.methodLink RX6 251 yX6_crowds ∈ TT := tm (tb_5 (List.mem_of_getElem? (i := 109) rfl)) rfl
theorem tw_im_X6_crowds : Cond.instanceMethod yX6_crowds ∈ TT := tm (tb_5 (List.mem_of_getElem? (i := 111) rfl)) rfl
theorem tw_cd_X6_crowds : Cond.code yX6_crowds cX6_crowds 8 (Option.some Jvm.ClassFile.FieldType.int) ∈ TT := tm (tb_5 (List.mem_of_getElem? (i := 112) rfl)) rfl
theorem tw_cg_RX6_244 : Cond.constantLong RX6 244 (48271) ∈ TT := tm (tb_5 (List.mem_of_getElem? (i := 113) rfl)) rfl
theorem tw_cg_RX6_246 : Cond.constantLong RX6 246 (2147483647) ∈ TT := tm (tb_5 (List.mem_of_getElem? (i := 114) rfl)) rfl
theorem tw_cg_RX6_248 : Cond.constantLong RX6 248 (8) ∈ TT := tm (tb_5 (List.mem_of_getElem? (i := 115) rfl)) rfl
theorem tw_ml_RL_135 : Cond.methodLink RL 135 yX6_odds ∈ TT := tm (tb_5 (List.mem_of_getElem? (i := 116) rfl)) rfl
theorem tw_im_X6_odds : Cond.instanceMethod yX6_odds ∈ TT := tm (tb_5 (List.mem_of_getElem? (i := 117) rfl)) rfl
theorem tw_se_X6_odds : Cond.selects RX6 yX6_odds yX6_odds ∈ TT := tm (tb_5 (List.mem_of_getElem? (i := 118) rfl)) rfl
theorem tw_cd_X6_odds : Cond.code yX6_odds cX6_odds 8 (Option.some Jvm.ClassFile.FieldType.long) ∈ TT := tm (tb_5 (List.mem_of_getElem? (i := 119) rfl)) rfl
theorem tw_ml_RL_139 : Cond.methodLink RL 139 yX6_image ∈ TT := tm (tb_5 (List.mem_of_getElem? (i := 120) rfl)) rfl
theorem tw_im_X6_image : Cond.instanceMethod yX6_image ∈ TT := tm (tb_5 (List.mem_of_getElem? (i := 121) rfl)) rfl
theorem tw_se_X6_image : Cond.selects RX6 yX6_image yX6_image ∈ TT := tm (tb_5 (List.mem_of_getElem? (i := 122) rfl)) rfl
theorem tw_cd_X6_image : Cond.code yX6_image cX6_image 2 (Option.some Jvm.ClassFile.FieldType.int) ∈ TT := tm (tb_5 (List.mem_of_getElem? (i := 123) rfl)) rfl
theorem tw_ml_RL_143 : Cond.methodLink RL 143 yX6_back ∈ TT := tm (tb_5 (List.mem_of_getElem? (i := 124) rfl)) rfl
theorem tw_im_X6_back : Cond.instanceMethod yX6_back ∈ TT := tm (tb_5 (List.mem_of_getElem? (i := 125) rfl)) rfl
theorem tw_se_X6_back : Cond.selects RX6 yX6_back yX6_back ∈ TT := tm (tb_5 (List.mem_of_getElem? (i := 126) rfl)) rfl
theorem tw_cd_X6_back : Cond.code yX6_back cX6_back 2 (Option.some Jvm.ClassFile.FieldType.int) ∈ TT := tm (tb_5 (List.mem_of_getElem? (i := 127) rfl)) rfl
theorem tw_ml_RL_147 : Cond.methodLink RL 147 yX6_sheet ∈ TT := tm (tb_5 (List.mem_of_getElem? (i := 128) rfl)) rfl
theorem tw_im_X6_sheet : Cond.instanceMethod yX6_sheet ∈ TT := tm (tb_5 (List.mem_of_getElem? (i := 129) rfl)) rfl
theorem tw_se_X6_sheet : Cond.selects RX6 yX6_sheet yX6_sheet ∈ TT := tm (tb_5 (List.mem_of_getElem? (i := 130) rfl)) rfl
theorem tw_cd_X6_sheet : Cond.code yX6_sheet cX6_sheet 5 (Option.some Jvm.ClassFile.FieldType.int) ∈ TT := tm (tb_5 (List.mem_of_getElem? (i := 131) rfl)) rfl
theorem tw_ml_RL_151 : Cond.methodLink RL 151 yX6_cell ∈ TT := tm (tb_5 (List.mem_of_getElem? (i := 132) rfl)) rfl
theorem tw_im_X6_cell : Cond.instanceMethod yX6_cell ∈ TT := tm (tb_5 (List.mem_of_getElem? (i := 133) rfl)) rfl
theorem tw_se_X6_cell : Cond.selects RX6 yX6_cell yX6_cell ∈ TT := tm (tb_5 (List.mem_of_getElem? (i := 134) rfl)) rfl
theorem tw_cd_X6_cell : Cond.code yX6_cell cX6_cell 4 (Option.some Jvm.ClassFile.FieldType.int) ∈ TT := tm (tb_5 (List.mem_of_getElem? (i := 135) rfl)) rfl
theorem tw_ml_RL_156 : Cond.methodLink RL 156 yX6_copy ∈ TT := tm (tb_5 (List.mem_of_getElem? (i := 136) rfl)) rfl
theorem tw_im_X6_copy : Cond.instanceMethod yX6_copy ∈ TT := tm (tb_5 (List.mem_of_getElem? (i := 137) rfl)) rfl
theorem tw_se_X6_copy : Cond.selects RX6 yX6_copy yX6_copy ∈ TT := tm (tb_5 (List.mem_of_getElem? (i := 138) rfl)) rfl
theorem tw_cd_X6_copy : Cond.code yX6_copy cX6_copy 10 (Option.some Jvm.ClassFile.FieldType.int) ∈ TT := tm (tb_5 (List.mem_of_getElem? (i := 139) rfl)) rfl
theorem tw_ml_RL_161 : Cond.methodLink RL 161 yX6_townBy ∈ TT := tm (tb_5 (List.mem_of_getElem? (i := 140) rfl)) rfl
theorem tw_im_X6_townBy : Cond.instanceMethod yX6_townBy ∈ TT := tm (tb_5 (List.mem_of_getElem? (i := 141) rfl)) rfl
theorem tw_se_X6_townBy : Cond.selects RX6 yX6_townBy yX6_townBy ∈ TT := tm (tb_5 (List.mem_of_getElem? (i := 142) rfl)) rfl
theorem tw_cd_X6_townBy : Cond.code yX6_townBy cX6_townBy 9 (Option.some Jvm.ClassFile.FieldType.int) ∈ TT := tm (tb_5 (List.mem_of_getElem? (i := 143) rfl)) rfl
theorem tw_ml_RX6_258 : Cond.methodLink RX6 258 yX6_person ∈ TT := tm (tb_5 (List.mem_of_getElem? (i := 144) rfl)) rfl
theorem tw_ml_RL_165 : Cond.methodLink RL 165 yX6_taken ∈ TT := tm (tb_5 (List.mem_of_getElem? (i := 145) rfl)) rfl
theorem tw_im_X6_taken : Cond.instanceMethod yX6_taken ∈ TT := tm (tb_5 (List.mem_of_getElem? (i := 146) rfl)) rfl
theorem tw_se_X6_taken : Cond.selects RX6 yX6_taken yX6_taken ∈ TT := tm (tb_5 (List.mem_of_getElem? (i := 147) rfl)) rfl
theorem tw_cd_X6_taken : Cond.code yX6_taken cX6_taken 3 (Option.some Jvm.ClassFile.FieldType.int) ∈ TT := tm (tb_5 (List.mem_of_getElem? (i := 148) rfl)) rfl
theorem tw_ml_RX6_261 : Cond.methodLink RX6 261 yX6_isUnder ∈ TT := tm (tb_5 (List.mem_of_getElem? (i := 149) rfl)) rfl
theorem tw_st_X6_isUnder : Cond.static yX6_isUnder ∈ TT := tm (tb_5 (List.mem_of_getElem? (i := 150) rfl)) rfl
theorem tw_cd_X6_isUnder : Cond.code yX6_isUnder cX6_isUnder 2 (Option.some Jvm.ClassFile.FieldType.boolean) ∈ TT := tm (tb_5 (List.mem_of_getElem? (i := 151) rfl)) rfl
theorem tw_fl_RJ0_9 : Cond.fieldLink RJ0 9 "java/lang/String" "value" "[B" ∈ TT := tm (tb_5 (List.mem_of_getElem? (i := 152) rfl)) rfl
theorem tw_fl_RJ0_15 : Cond.fieldLink RJ0 15 "java/lang/String" "coder" "B" ∈ TT := tm (tb_5 (List.mem_of_getElem? (i := 153) rfl)) rfl
theorem tw_se_X2_step : Cond.selects RX2 yX2_step yX2_step ∈ TT := tm (tb_0 (List.mem_of_getElem? (i := 0) rfl)) rfl
theorem tw_se_X2_byteAt : Cond.selects RX2 yX2_byteAt yX2_byteAt ∈ TT := tm (tb_0 (List.mem_of_getElem? (i := 1) rfl)) rfl
theorem tw_se_X2_takeWord : Cond.selects RX2 yX2_takeWord yX2_takeWord ∈ TT := tm (tb_0 (List.mem_of_getElem? (i := 2) rfl)) rfl
theorem tw_se_X2_isWord : Cond.selects RX2 yX2_isWord yX2_isWord ∈ TT := tm (tb_0 (List.mem_of_getElem? (i := 3) rfl)) rfl
theorem tw_se_X2_takeNumber : Cond.selects RX2 yX2_takeNumber yX2_takeNumber ∈ TT := tm (tb_0 (List.mem_of_getElem? (i := 4) rfl)) rfl
theorem tw_se_X2_expect : Cond.selects RX2 yX2_expect yX2_expect ∈ TT := tm (tb_0 (List.mem_of_getElem? (i := 5) rfl)) rfl
theorem tw_se_X2_fail : Cond.selects RX2 yX2_fail yX2_fail ∈ TT := tm (tb_0 (List.mem_of_getElem? (i := 6) rfl)) rfl
theorem tw_se_X2_readEither : Cond.selects RX2 yX2_readEither yX2_readEither ∈ TT := tm (tb_0 (List.mem_of_getElem? (i := 7) rfl)) rfl
theorem tw_se_X2_readBoth : Cond.selects RX2 yX2_readBoth yX2_readBoth ∈ TT := tm (tb_0 (List.mem_of_getElem? (i := 8) rfl)) rfl
theorem tw_se_X2_readNot : Cond.selects RX2 yX2_readNot yX2_readNot ∈ TT := tm (tb_0 (List.mem_of_getElem? (i := 9) rfl)) rfl
theorem tw_se_X2_mayOpen : Cond.selects RX2 yX2_mayOpen yX2_mayOpen ∈ TT := tm (tb_0 (List.mem_of_getElem? (i := 10) rfl)) rfl
theorem tw_se_X2_readSum : Cond.selects RX2 yX2_readSum yX2_readSum ∈ TT := tm (tb_0 (List.mem_of_getElem? (i := 11) rfl)) rfl
theorem tw_se_X2_readTerm : Cond.selects RX2 yX2_readTerm yX2_readTerm ∈ TT := tm (tb_0 (List.mem_of_getElem? (i := 12) rfl)) rfl
theorem tw_se_X2_readOne : Cond.selects RX2 yX2_readOne yX2_readOne ∈ TT := tm (tb_0 (List.mem_of_getElem? (i := 13) rfl)) rfl
theorem tw_se_X5_startThought : Cond.selects RX5 yX5_startThought yX5_startThought ∈ TT := tm (tb_0 (List.mem_of_getElem? (i := 14) rfl)) rfl
theorem tw_se_X5_refusalOfTold : Cond.selects RX5 yX5_refusalOfTold yX5_refusalOfTold ∈ TT := tm (tb_0 (List.mem_of_getElem? (i := 15) rfl)) rfl
theorem tw_se_X5_firstOtherwise : Cond.selects RX5 yX5_firstOtherwise yX5_firstOtherwise ∈ TT := tm (tb_0 (List.mem_of_getElem? (i := 16) rfl)) rfl
theorem tw_se_X5_refusalOfToldAbout : Cond.selects RX5 yX5_refusalOfToldAbout yX5_refusalOfToldAbout ∈ TT := tm (tb_0 (List.mem_of_getElem? (i := 17) rfl)) rfl
theorem tw_se_X5_inCrowd : Cond.selects RX5 yX5_inCrowd yX5_inCrowd ∈ TT := tm (tb_0 (List.mem_of_getElem? (i := 18) rfl)) rfl
theorem tw_se_X6_next : Cond.selects RX6 yX6_next yX6_next ∈ TT := tm (tb_0 (List.mem_of_getElem? (i := 19) rfl)) rfl
theorem tw_se_X6_wordFrom : Cond.selects RX6 yX6_wordFrom yX6_wordFrom ∈ TT := tm (tb_0 (List.mem_of_getElem? (i := 20) rfl)) rfl
theorem tw_se_X6_eRead : Cond.selects RX6 yX6_eRead yX6_eRead ∈ TT := tm (tb_0 (List.mem_of_getElem? (i := 21) rfl)) rfl
theorem tw_se_X6_puts : Cond.selects RX6 yX6_puts yX6_puts ∈ TT := tm (tb_0 (List.mem_of_getElem? (i := 22) rfl)) rfl
theorem tw_se_X6_unwinds : Cond.selects RX6 yX6_unwinds yX6_unwinds ∈ TT := tm (tb_0 (List.mem_of_getElem? (i := 23) rfl)) rfl
theorem tw_se_X6_opensOne : Cond.selects RX6 yX6_opensOne yX6_opensOne ∈ TT := tm (tb_0 (List.mem_of_getElem? (i := 24) rfl)) rfl
theorem tw_se_X6_holds : Cond.selects RX6 yX6_holds yX6_holds ∈ TT := tm (tb_0 (List.mem_of_getElem? (i := 25) rfl)) rfl
theorem tw_se_X6_signOf : Cond.selects RX6 yX6_signOf yX6_signOf ∈ TT := tm (tb_0 (List.mem_of_getElem? (i := 26) rfl)) rfl
theorem tw_se_X6_between : Cond.selects RX6 yX6_between yX6_between ∈ TT := tm (tb_0 (List.mem_of_getElem? (i := 27) rfl)) rfl
theorem tw_se_X6_isOne : Cond.selects RX6 yX6_isOne yX6_isOne ∈ TT := tm (tb_0 (List.mem_of_getElem? (i := 28) rfl)) rfl
theorem tw_se_X6_asksOf : Cond.selects RX6 yX6_asksOf yX6_asksOf ∈ TT := tm (tb_0 (List.mem_of_getElem? (i := 29) rfl)) rfl
theorem tw_se_X6_ofDay : Cond.selects RX6 yX6_ofDay yX6_ofDay ∈ TT := tm (tb_0 (List.mem_of_getElem? (i := 30) rfl)) rfl
theorem tw_se_X6_says : Cond.selects RX6 yX6_says yX6_says ∈ TT := tm (tb_0 (List.mem_of_getElem? (i := 31) rfl)) rfl
theorem tw_se_X6_lies : Cond.selects RX6 yX6_lies yX6_lies ∈ TT := tm (tb_0 (List.mem_of_getElem? (i := 32) rfl)) rfl
theorem tw_se_X6_costsOf : Cond.selects RX6 yX6_costsOf yX6_costsOf ∈ TT := tm (tb_0 (List.mem_of_getElem? (i := 33) rfl)) rfl
theorem tw_se_X6_strokesOf : Cond.selects RX6 yX6_strokesOf yX6_strokesOf ∈ TT := tm (tb_0 (List.mem_of_getElem? (i := 34) rfl)) rfl
theorem tw_se_X6_liars : Cond.selects RX6 yX6_liars yX6_liars ∈ TT := tm (tb_0 (List.mem_of_getElem? (i := 35) rfl)) rfl
theorem tw_se_X6_strikesBy : Cond.selects RX6 yX6_strikesBy yX6_strikesBy ∈ TT := tm (tb_0 (List.mem_of_getElem? (i := 36) rfl)) rfl
theorem tw_se_X6_vows : Cond.selects RX6 yX6_vows yX6_vows ∈ TT := tm (tb_0 (List.mem_of_getElem? (i := 37) rfl)) rfl
theorem tw_se_X6_hourOf : Cond.selects RX6 yX6_hourOf yX6_hourOf ∈ TT := tm (tb_0 (List.mem_of_getElem? (i := 38) rfl)) rfl
theorem tw_se_X6_keeps : Cond.selects RX6 yX6_keeps yX6_keeps ∈ TT := tm (tb_0 (List.mem_of_getElem? (i := 39) rfl)) rfl
theorem tw_se_X6_goes : Cond.selects RX6 yX6_goes yX6_goes ∈ TT := tm (tb_0 (List.mem_of_getElem? (i := 40) rfl)) rfl
theorem tw_se_X6_lays : Cond.selects RX6 yX6_lays yX6_lays ∈ TT := tm (tb_0 (List.mem_of_getElem? (i := 41) rfl)) rfl
theorem tw_se_X6_tellsDay : Cond.selects RX6 yX6_tellsDay yX6_tellsDay ∈ TT := tm (tb_0 (List.mem_of_getElem? (i := 42) rfl)) rfl
theorem tw_se_X6_alone : Cond.selects RX6 yX6_alone yX6_alone ∈ TT := tm (tb_0 (List.mem_of_getElem? (i := 43) rfl)) rfl
theorem tw_se_X6_alikeWith : Cond.selects RX6 yX6_alikeWith yX6_alikeWith ∈ TT := tm (tb_0 (List.mem_of_getElem? (i := 44) rfl)) rfl
theorem tw_se_X6_longestRow : Cond.selects RX6 yX6_longestRow yX6_longestRow ∈ TT := tm (tb_0 (List.mem_of_getElem? (i := 45) rfl)) rfl
theorem tw_se_X6_silent : Cond.selects RX6 yX6_silent yX6_silent ∈ TT := tm (tb_0 (List.mem_of_getElem? (i := 46) rfl)) rfl
theorem tw_se_X6_mostHour : Cond.selects RX6 yX6_mostHour yX6_mostHour ∈ TT := tm (tb_0 (List.mem_of_getElem? (i := 47) rfl)) rfl
theorem tw_se_X6_sheetWrong : Cond.selects RX6 yX6_sheetWrong yX6_sheetWrong ∈ TT := tm (tb_0 (List.mem_of_getElem? (i := 48) rfl)) rfl
theorem tw_se_X6_unlike : Cond.selects RX6 yX6_unlike yX6_unlike ∈ TT := tm (tb_0 (List.mem_of_getElem? (i := 49) rfl)) rfl
theorem tw_se_X6_crowds : Cond.selects RX6 yX6_crowds yX6_crowds ∈ TT := tm (tb_0 (List.mem_of_getElem? (i := 50) rfl)) rfl
set_option maxRecDepth 20000 in
theorem hiX0 : ∀ w ∈ wsX00, w ∈ TT := by
  have h : ∀ w ∈ wsX00, w ∈ lw_tbl ∧ goodWord w = true := by decide +kernel
  exact fun w hw => tm (h w hw).1 (h w hw).2
set_option maxRecDepth 20000 in
theorem hiX1 : ∀ w ∈ wsX10, w ∈ TT := by
  have h : ∀ w ∈ wsX10, w ∈ lw_tbl ∧ goodWord w = true := by decide +kernel
  exact fun w hw => tm (h w hw).1 (h w hw).2
set_option maxRecDepth 20000 in
theorem hiX2 : ∀ w ∈ wsX20, w ∈ TT := by
  have h : ∀ w ∈ wsX20, w ∈ lw_tbl ∧ goodWord w = true := by decide +kernel
  exact fun w hw => tm (h w hw).1 (h w hw).2
set_option maxRecDepth 20000 in
theorem hiX3 : ∀ w ∈ wsX30, w ∈ TT := by
  have h : ∀ w ∈ wsX30, w ∈ lw_tbl ∧ goodWord w = true := by decide +kernel
  exact fun w hw => tm (h w hw).1 (h w hw).2
set_option maxRecDepth 20000 in
theorem hiX4 : ∀ w ∈ wsX40, w ∈ TT := by
  have h : ∀ w ∈ wsX40, w ∈ lw_tbl ∧ goodWord w = true := by decide +kernel
  exact fun w hw => tm (h w hw).1 (h w hw).2
set_option maxRecDepth 20000 in
theorem hiX5 : ∀ w ∈ wsX50, w ∈ TT := by
  have h : ∀ w ∈ wsX50, w ∈ lw_tbl ∧ goodWord w = true := by decide +kernel
  exact fun w hw => tm (h w hw).1 (h w hw).2
set_option maxRecDepth 20000 in
theorem hiX6 : ∀ w ∈ wsX60, w ∈ TT := by
  have h : ∀ w ∈ wsX60, w ∈ lw_tbl ∧ goodWord w = true := by decide +kernel
  exact fun w hw => tm (h w hw).1 (h w hw).2
