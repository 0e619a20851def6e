/-! every word of the tables that any state keeps: one list for all methods (lw_all); its words by name -/
def lw_all : List Cond := lw_tbl.filter goodWord
theorem lw_all_tbl : ∀ w ∈ lw_all, w ∈ lw_tbl := fun _ h => (List.mem_filter.mp h).1
theorem lw_good : ∀ w ∈ lw_all, goodWord w = true := fun _ h => (List.mem_filter.mp h).2
theorem lw_mem {w : Cond} (h : w ∈ lw_tbl) (g : goodWord w = true) : w ∈ lw_all := List.mem_filter.mpr ⟨h, g⟩
theorem mt_0 : ∀ w ∈ k2_sels lw_privs, w ∈ lw_tbl := fun _ h => List.mem_append_left _ h
theorem mt_1 : ∀ w ∈ tables_1_1, w ∈ lw_tbl := fun _ h => List.mem_append_right _ (List.mem_append_left _ h)
theorem mt_2 : ∀ w ∈ tables_1_2, w ∈ lw_tbl := fun _ h => List.mem_append_right _ (List.mem_append_right _ (List.mem_append_left _ h))
theorem mt_3 : ∀ w ∈ tables_1_3, w ∈ lw_tbl := fun _ h => List.mem_append_right _ (List.mem_append_right _ (List.mem_append_right _ (List.mem_append_left _ h)))
theorem mt_4 : ∀ w ∈ tables_1_4, w ∈ lw_tbl := fun _ h => List.mem_append_right _ (List.mem_append_right _ (List.mem_append_right _ (List.mem_append_right _ (List.mem_append_left _ h))))
theorem mt_5 : ∀ w ∈ tables_1_5, w ∈ lw_tbl := fun _ h => List.mem_append_right _ (List.mem_append_right _ (List.mem_append_right _ (List.mem_append_right _ (List.mem_append_right _ (List.mem_append_left _ h)))))
theorem mt_6 : ∀ w ∈ tables_1_6, w ∈ lw_tbl := fun _ h => List.mem_append_right _ (List.mem_append_right _ (List.mem_append_right _ (List.mem_append_right _ (List.mem_append_right _ (List.mem_append_right _ (h))))))
theorem qk_L_8 : Cond.classLink RL 8 RX4 ∈ lw_all := lw_mem (mt_1 _ (List.mem_of_getElem? (i := 15) rfl)) rfl
theorem qa_X4 : Cond.instantiable RX4 5 ∈ lw_all := lw_mem (mt_1 _ (List.mem_of_getElem? (i := 16) rfl)) rfl
theorem qn_X4 : Cond.initialized RX4 ∈ lw_all := lw_mem (mt_1 _ (List.mem_of_getElem? (i := 1) rfl)) rfl
theorem qk_L_113 : Cond.classLink RL 113 RX5 ∈ lw_all := lw_mem (mt_4 _ (List.mem_of_getElem? (i := 131) rfl)) rfl
theorem qa_X5 : Cond.instantiable RX5 18 ∈ lw_all := lw_mem (mt_4 _ (List.mem_of_getElem? (i := 132) rfl)) rfl
theorem qn_X5 : Cond.initialized RX5 ∈ lw_all := lw_mem (mt_1 _ (List.mem_of_getElem? (i := 6) rfl)) rfl
theorem qy_long : Cond.arrayClass .long ∈ lw_all := lw_mem (mt_6 _ (List.mem_of_getElem? (i := 91) rfl)) rfl
theorem qm_L_112 : Cond.methodLink RL 112 yX4_init ∈ lw_all := lw_mem (mt_1 _ (List.mem_of_getElem? (i := 17) rfl)) rfl
theorem qi_X4_init : Cond.instanceMethod yX4_init ∈ lw_all := lw_mem (mt_1 _ (List.mem_of_getElem? (i := 18) rfl)) rfl
theorem qc_X4_init : Cond.code yX4_init cX4_init 1 none ∈ lw_all := lw_mem (mt_1 _ (List.mem_of_getElem? (i := 19) rfl)) rfl
theorem qm_X4_3 : Cond.methodLink RX4 3 objectInit ∈ lw_all := lw_mem (mt_1 _ (List.mem_of_getElem? (i := 20) rfl)) rfl
theorem qi_objectInit : Cond.instanceMethod objectInit ∈ lw_all := lw_mem (mt_1 _ (List.mem_of_getElem? (i := 21) rfl)) rfl
theorem qc_objectInit : Cond.code objectInit ⟨#[0xb1]⟩ 1 none ∈ lw_all := lw_mem (mt_1 _ (List.mem_of_getElem? (i := 22) rfl)) rfl
theorem qk_X4_9 : Cond.classLink RX4 9 RX1 ∈ lw_all := lw_mem (mt_1 _ (List.mem_of_getElem? (i := 23) rfl)) rfl
theorem qa_X1 : Cond.instantiable RX1 7 ∈ lw_all := lw_mem (mt_1 _ (List.mem_of_getElem? (i := 24) rfl)) rfl
theorem qn_X1 : Cond.initialized RX1 ∈ lw_all := lw_mem (mt_1 _ (List.mem_of_getElem? (i := 2) rfl)) rfl
theorem qf_X4_12 : Cond.fieldLink RX4 12 "LiftNovel" "house" "LLiftNovel$House;" ∈ lw_all := lw_mem (mt_1 _ (List.mem_of_getElem? (i := 168) rfl)) rfl
theorem qk_X4_16 : Cond.classLink RX4 16 RX0 ∈ lw_all := lw_mem (mt_1 _ (List.mem_of_getElem? (i := 62) rfl)) rfl
theorem qa_X0 : Cond.instantiable RX0 14 ∈ lw_all := lw_mem (mt_1 _ (List.mem_of_getElem? (i := 63) rfl)) rfl
theorem qn_X0 : Cond.initialized RX0 ∈ lw_all := lw_mem (mt_1 _ (List.mem_of_getElem? (i := 3) rfl)) rfl
theorem qf_X4_21 : Cond.fieldLink RX4 21 "LiftNovel" "now" "LLiftNovel$Course;" ∈ lw_all := lw_mem (mt_1 _ (List.mem_of_getElem? (i := 169) rfl)) rfl
theorem qf_X4_25 : Cond.fieldLink RX4 25 "LiftNovel" "trial" "LLiftNovel$Course;" ∈ lw_all := lw_mem (mt_1 _ (List.mem_of_getElem? (i := 170) rfl)) rfl
theorem qk_X4_28 : Cond.classLink RX4 28 RX2 ∈ lw_all := lw_mem (mt_1 _ (List.mem_of_getElem? (i := 124) rfl)) rfl
theorem qa_X2 : Cond.instantiable RX2 5 ∈ lw_all := lw_mem (mt_1 _ (List.mem_of_getElem? (i := 125) rfl)) rfl
theorem qn_X2 : Cond.initialized RX2 ∈ lw_all := lw_mem (mt_1 _ (List.mem_of_getElem? (i := 4) rfl)) rfl
theorem qf_X4_31 : Cond.fieldLink RX4 31 "LiftNovel" "told" "LLiftNovel$Instalments;" ∈ lw_all := lw_mem (mt_1 _ (List.mem_of_getElem? (i := 171) rfl)) rfl
theorem qk_X4_35 : Cond.classLink RX4 35 RX3 ∈ lw_all := lw_mem (mt_1 _ (List.mem_of_getElem? (i := 151) rfl)) rfl
theorem qa_X3 : Cond.instantiable RX3 3 ∈ lw_all := lw_mem (mt_1 _ (List.mem_of_getElem? (i := 152) rfl)) rfl
theorem qn_X3 : Cond.initialized RX3 ∈ lw_all := lw_mem (mt_1 _ (List.mem_of_getElem? (i := 5) rfl)) rfl
theorem qf_X4_38 : Cond.fieldLink RX4 38 "LiftNovel" "mirrored" "LLiftNovel$Mirrors;" ∈ lw_all := lw_mem (mt_1 _ (List.mem_of_getElem? (i := 172) rfl)) rfl
theorem qi_X1_init : Cond.instanceMethod yX1_init ∈ lw_all := lw_mem (mt_1 _ (List.mem_of_getElem? (i := 26) rfl)) rfl
theorem qc_X1_init : Cond.code yX1_init cX1_init 1 none ∈ lw_all := lw_mem (mt_1 _ (List.mem_of_getElem? (i := 27) rfl)) rfl
theorem qm_X1_3 : Cond.methodLink RX1 3 objectInit ∈ lw_all := lw_mem (mt_1 _ (List.mem_of_getElem? (i := 28) rfl)) rfl
theorem qf_X1_9 : Cond.fieldLink RX1 9 "LiftNovel$House" "floors" "I" ∈ lw_all := lw_mem (mt_1 _ (List.mem_of_getElem? (i := 29) rfl)) rfl
theorem qf_X1_15 : Cond.fieldLink RX1 15 "LiftNovel$House" "limit" "I" ∈ lw_all := lw_mem (mt_1 _ (List.mem_of_getElem? (i := 32) rfl)) rfl
theorem qf_X1_18 : Cond.fieldLink RX1 18 "LiftNovel$House" "readers" "I" ∈ lw_all := lw_mem (mt_1 _ (List.mem_of_getElem? (i := 35) rfl)) rfl
theorem qy_int : Cond.arrayClass .int ∈ lw_all := lw_mem (mt_1 _ (List.mem_of_getElem? (i := 61) rfl)) rfl
theorem qf_X1_21 : Cond.fieldLink RX1 21 "LiftNovel$House" "lengths" "[I" ∈ lw_all := lw_mem (mt_1 _ (List.mem_of_getElem? (i := 38) rfl)) rfl
theorem qf_X1_25 : Cond.fieldLink RX1 25 "LiftNovel$House" "topics" "[I" ∈ lw_all := lw_mem (mt_1 _ (List.mem_of_getElem? (i := 41) rfl)) rfl
theorem qf_X1_28 : Cond.fieldLink RX1 28 "LiftNovel$House" "thrills" "[I" ∈ lw_all := lw_mem (mt_1 _ (List.mem_of_getElem? (i := 42) rfl)) rfl
theorem qf_X1_31 : Cond.fieldLink RX1 31 "LiftNovel$House" "tastes" "[I" ∈ lw_all := lw_mem (mt_1 _ (List.mem_of_getElem? (i := 43) rfl)) rfl
theorem qm_X4_18 : Cond.methodLink RX4 18 yX0_init ∈ lw_all := lw_mem (mt_1 _ (List.mem_of_getElem? (i := 64) rfl)) rfl
theorem qi_X0_init : Cond.instanceMethod yX0_init ∈ lw_all := lw_mem (mt_1 _ (List.mem_of_getElem? (i := 65) rfl)) rfl
theorem qc_X0_init : Cond.code yX0_init cX0_init 2 none ∈ lw_all := lw_mem (mt_1 _ (List.mem_of_getElem? (i := 66) rfl)) rfl
theorem qm_X0_3 : Cond.methodLink RX0 3 objectInit ∈ lw_all := lw_mem (mt_1 _ (List.mem_of_getElem? (i := 67) rfl)) rfl
theorem qf_X0_9 : Cond.fieldLink RX0 9 "LiftNovel$Course" "hour" "I" ∈ lw_all := lw_mem (mt_1 _ (List.mem_of_getElem? (i := 69) rfl)) rfl
theorem qf_X0_15 : Cond.fieldLink RX0 15 "LiftNovel$Course" "at" "I" ∈ lw_all := lw_mem (mt_1 _ (List.mem_of_getElem? (i := 71) rfl)) rfl
theorem qf_X0_18 : Cond.fieldLink RX0 18 "LiftNovel$Course" "way" "I" ∈ lw_all := lw_mem (mt_1 _ (List.mem_of_getElem? (i := 73) rfl)) rfl
theorem qf_X0_21 : Cond.fieldLink RX0 21 "LiftNovel$Course" "stuck" "I" ∈ lw_all := lw_mem (mt_1 _ (List.mem_of_getElem? (i := 75) rfl)) rfl
theorem qf_X0_24 : Cond.fieldLink RX0 24 "LiftNovel$Course" "wear" "I" ∈ lw_all := lw_mem (mt_1 _ (List.mem_of_getElem? (i := 77) rfl)) rfl
theorem qf_X0_27 : Cond.fieldLink RX0 27 "LiftNovel$Course" "suspense" "I" ∈ lw_all := lw_mem (mt_1 _ (List.mem_of_getElem? (i := 79) rfl)) rfl
theorem qf_X0_30 : Cond.fieldLink RX0 30 "LiftNovel$Course" "lastThrill" "I" ∈ lw_all := lw_mem (mt_1 _ (List.mem_of_getElem? (i := 81) rfl)) rfl
theorem qy_boolean : Cond.arrayClass .boolean ∈ lw_all := lw_mem (mt_1 _ (List.mem_of_getElem? (i := 123) rfl)) rfl
theorem qf_X0_33 : Cond.fieldLink RX0 33 "LiftNovel$Course" "called" "[Z" ∈ lw_all := lw_mem (mt_1 _ (List.mem_of_getElem? (i := 82) rfl)) rfl
theorem qf_X0_37 : Cond.fieldLink RX0 37 "LiftNovel$Course" "next" "[I" ∈ lw_all := lw_mem (mt_1 _ (List.mem_of_getElem? (i := 84) rfl)) rfl
theorem qf_X0_41 : Cond.fieldLink RX0 41 "LiftNovel$Course" "cut" "[I" ∈ lw_all := lw_mem (mt_1 _ (List.mem_of_getElem? (i := 86) rfl)) rfl
theorem qf_X0_44 : Cond.fieldLink RX0 44 "LiftNovel$Course" "forbidden" "[Z" ∈ lw_all := lw_mem (mt_1 _ (List.mem_of_getElem? (i := 88) rfl)) rfl
theorem qf_X0_47 : Cond.fieldLink RX0 47 "LiftNovel$Course" "warmths" "[I" ∈ lw_all := lw_mem (mt_1 _ (List.mem_of_getElem? (i := 90) rfl)) rfl
theorem qf_X0_50 : Cond.fieldLink RX0 50 "LiftNovel$Course" "subscribed" "[Z" ∈ lw_all := lw_mem (mt_1 _ (List.mem_of_getElem? (i := 92) rfl)) rfl
theorem qf_X0_53 : Cond.fieldLink RX0 53 "LiftNovel$Course" "house" "LLiftNovel$House;" ∈ lw_all := lw_mem (mt_1 _ (List.mem_of_getElem? (i := 68) rfl)) rfl
theorem qi_X2_init : Cond.instanceMethod yX2_init ∈ lw_all := lw_mem (mt_1 _ (List.mem_of_getElem? (i := 127) rfl)) rfl
theorem qc_X2_init : Cond.code yX2_init cX2_init 1 none ∈ lw_all := lw_mem (mt_1 _ (List.mem_of_getElem? (i := 128) rfl)) rfl
theorem qm_X2_3 : Cond.methodLink RX2 3 objectInit ∈ lw_all := lw_mem (mt_1 _ (List.mem_of_getElem? (i := 129) rfl)) rfl
theorem qf_X2_9 : Cond.fieldLink RX2 9 "LiftNovel$Instalments" "count" "I" ∈ lw_all := lw_mem (mt_1 _ (List.mem_of_getElem? (i := 130) rfl)) rfl
theorem qf_X2_15 : Cond.fieldLink RX2 15 "LiftNovel$Instalments" "floors" "[I" ∈ lw_all := lw_mem (mt_1 _ (List.mem_of_getElem? (i := 132) rfl)) rfl
theorem qf_X2_19 : Cond.fieldLink RX2 19 "LiftNovel$Instalments" "paragraphs" "[I" ∈ lw_all := lw_mem (mt_1 _ (List.mem_of_getElem? (i := 134) rfl)) rfl
theorem qf_X2_22 : Cond.fieldLink RX2 22 "LiftNovel$Instalments" "thrills" "[I" ∈ lw_all := lw_mem (mt_1 _ (List.mem_of_getElem? (i := 136) rfl)) rfl
theorem qf_X2_25 : Cond.fieldLink RX2 25 "LiftNovel$Instalments" "hours" "[I" ∈ lw_all := lw_mem (mt_1 _ (List.mem_of_getElem? (i := 138) rfl)) rfl
theorem qi_X3_init : Cond.instanceMethod yX3_init ∈ lw_all := lw_mem (mt_1 _ (List.mem_of_getElem? (i := 154) rfl)) rfl
theorem qc_X3_init : Cond.code yX3_init cX3_init 1 none ∈ lw_all := lw_mem (mt_1 _ (List.mem_of_getElem? (i := 155) rfl)) rfl
theorem qm_X3_3 : Cond.methodLink RX3 3 objectInit ∈ lw_all := lw_mem (mt_1 _ (List.mem_of_getElem? (i := 156) rfl)) rfl
theorem qf_X3_9 : Cond.fieldLink RX3 9 "LiftNovel$Mirrors" "count" "I" ∈ lw_all := lw_mem (mt_1 _ (List.mem_of_getElem? (i := 157) rfl)) rfl
theorem qf_X3_15 : Cond.fieldLink RX3 15 "LiftNovel$Mirrors" "likes" "[I" ∈ lw_all := lw_mem (mt_1 _ (List.mem_of_getElem? (i := 159) rfl)) rfl
theorem qf_X3_19 : Cond.fieldLink RX3 19 "LiftNovel$Mirrors" "dislikes" "[I" ∈ lw_all := lw_mem (mt_1 _ (List.mem_of_getElem? (i := 160) rfl)) rfl
theorem qm_L_115 : Cond.methodLink RL 115 yX5_init ∈ lw_all := lw_mem (mt_4 _ (List.mem_of_getElem? (i := 133) rfl)) rfl
theorem qi_X5_init : Cond.instanceMethod yX5_init ∈ lw_all := lw_mem (mt_4 _ (List.mem_of_getElem? (i := 134) rfl)) rfl
theorem qc_X5_init : Cond.code yX5_init cX5_init 1 none ∈ lw_all := lw_mem (mt_4 _ (List.mem_of_getElem? (i := 135) rfl)) rfl
theorem qm_X5_1 : Cond.methodLink RX5 1 objectInit ∈ lw_all := lw_mem (mt_4 _ (List.mem_of_getElem? (i := 136) rfl)) rfl
theorem qf_X5_7 : Cond.fieldLink RX5 7 "LiftNovelModel" "floors" "I" ∈ lw_all := lw_mem (mt_4 _ (List.mem_of_getElem? (i := 138) rfl)) rfl
theorem qf_X5_13 : Cond.fieldLink RX5 13 "LiftNovelModel" "limit" "I" ∈ lw_all := lw_mem (mt_4 _ (List.mem_of_getElem? (i := 139) rfl)) rfl
theorem qf_X5_16 : Cond.fieldLink RX5 16 "LiftNovelModel" "paragraphs" "[I" ∈ lw_all := lw_mem (mt_4 _ (List.mem_of_getElem? (i := 141) rfl)) rfl
theorem qf_X5_20 : Cond.fieldLink RX5 20 "LiftNovelModel" "topic" "[I" ∈ lw_all := lw_mem (mt_4 _ (List.mem_of_getElem? (i := 142) rfl)) rfl
theorem qf_X5_23 : Cond.fieldLink RX5 23 "LiftNovelModel" "thrill" "[I" ∈ lw_all := lw_mem (mt_4 _ (List.mem_of_getElem? (i := 143) rfl)) rfl
theorem qf_X5_26 : Cond.fieldLink RX5 26 "LiftNovelModel" "taste" "[I" ∈ lw_all := lw_mem (mt_4 _ (List.mem_of_getElem? (i := 145) rfl)) rfl
theorem qf_X5_29 : Cond.fieldLink RX5 29 "LiftNovelModel" "likes" "[I" ∈ lw_all := lw_mem (mt_4 _ (List.mem_of_getElem? (i := 147) rfl)) rfl
theorem qf_X5_32 : Cond.fieldLink RX5 32 "LiftNovelModel" "dislikes" "[I" ∈ lw_all := lw_mem (mt_4 _ (List.mem_of_getElem? (i := 148) rfl)) rfl
theorem qf_X5_35 : Cond.fieldLink RX5 35 "LiftNovelModel" "told" "[I" ∈ lw_all := lw_mem (mt_4 _ (List.mem_of_getElem? (i := 149) rfl)) rfl
theorem qf_X5_38 : Cond.fieldLink RX5 38 "LiftNovelModel" "thrills" "[I" ∈ lw_all := lw_mem (mt_4 _ (List.mem_of_getElem? (i := 150) rfl)) rfl
theorem qf_X5_41 : Cond.fieldLink RX5 41 "LiftNovelModel" "hours" "[I" ∈ lw_all := lw_mem (mt_4 _ (List.mem_of_getElem? (i := 151) rfl)) rfl
theorem qf_X5_44 : Cond.fieldLink RX5 44 "LiftNovelModel" "now" "[I" ∈ lw_all := lw_mem (mt_4 _ (List.mem_of_getElem? (i := 152) rfl)) rfl
theorem qf_X5_47 : Cond.fieldLink RX5 47 "LiftNovelModel" "kept" "[I" ∈ lw_all := lw_mem (mt_4 _ (List.mem_of_getElem? (i := 153) rfl)) rfl
theorem qm_L_116 : Cond.methodLink RL 116 yL_begin ∈ lw_all := lw_mem (mt_3 _ (List.mem_of_getElem? (i := 158) rfl)) rfl
theorem qt_L_begin : Cond.static yL_begin ∈ lw_all := lw_mem (mt_3 _ (List.mem_of_getElem? (i := 159) rfl)) rfl
theorem qn_L : Cond.initialized RL ∈ lw_all := lw_mem (mt_1 _ (List.mem_of_getElem? (i := 0) rfl)) rfl
theorem qc_L_begin : Cond.codeWith yL_begin cL_begin 4 (some .int) [(0, 9, 12, 13)] ∈ lw_all := lw_mem (mt_3 _ (List.mem_of_getElem? (i := 160) rfl)) rfl
theorem qk_L_13 : Cond.classLink RL 13 "java/lang/IllegalArgumentException" ∈ lw_all := lw_mem (mt_3 _ (List.mem_of_getElem? (i := 161) rfl)) rfl
theorem qm_L_7 : Cond.methodLink RL 7 yX4_begin ∈ lw_all := lw_mem (mt_3 _ (List.mem_of_getElem? (i := 162) rfl)) rfl
theorem qi_X4_begin : Cond.instanceMethod yX4_begin ∈ lw_all := lw_mem (mt_3 _ (List.mem_of_getElem? (i := 163) rfl)) rfl
theorem qs_X4_begin : Cond.selects RX4 yX4_begin yX4_begin ∈ lw_all := lw_mem (mt_3 _ (List.mem_of_getElem? (i := 164) rfl)) rfl
theorem qc_X4_begin : Cond.code yX4_begin cX4_begin 2 (some .int) ∈ lw_all := lw_mem (mt_3 _ (List.mem_of_getElem? (i := 165) rfl)) rfl
theorem qk_X4_42 : Cond.classLink RX4 42 "java/lang/IllegalArgumentException" ∈ lw_all := lw_mem (mt_2 _ (List.mem_of_getElem? (i := 184) rfl)) rfl
theorem qn_IAE : Cond.initialized "java/lang/IllegalArgumentException" ∈ lw_all := lw_mem (mt_1 _ (List.mem_of_getElem? (i := 10) rfl)) rfl
theorem qf_X4_56 : Cond.fieldLink RX4 56 "LiftNovel$Instalments" "count" "I" ∈ lw_all := lw_mem (mt_1 _ (List.mem_of_getElem? (i := 131) rfl)) rfl
theorem qm_X4_49 : Cond.methodLink RX4 49 yX1_clear ∈ lw_all := lw_mem (mt_3 _ (List.mem_of_getElem? (i := 167) rfl)) rfl
theorem qi_X1_clear : Cond.instanceMethod yX1_clear ∈ lw_all := lw_mem (mt_3 _ (List.mem_of_getElem? (i := 168) rfl)) rfl
theorem qs_X1_clear : Cond.selects RX1 yX1_clear yX1_clear ∈ lw_all := lw_mem (mt_3 _ (List.mem_of_getElem? (i := 169) rfl)) rfl
theorem qc_X1_clear : Cond.code yX1_clear cX1_clear 3 none ∈ lw_all := lw_mem (mt_3 _ (List.mem_of_getElem? (i := 170) rfl)) rfl
theorem qm_X4_53 : Cond.methodLink RX4 53 yX0_startOver ∈ lw_all := lw_mem (mt_3 _ (List.mem_of_getElem? (i := 171) rfl)) rfl
theorem qi_X0_startOver : Cond.instanceMethod yX0_startOver ∈ lw_all := lw_mem (mt_3 _ (List.mem_of_getElem? (i := 172) rfl)) rfl
theorem qs_X0_startOver : Cond.selects RX0 yX0_startOver yX0_startOver ∈ lw_all := lw_mem (mt_3 _ (List.mem_of_getElem? (i := 173) rfl)) rfl
theorem qc_X0_startOver : Cond.code yX0_startOver cX0_startOver 2 none ∈ lw_all := lw_mem (mt_3 _ (List.mem_of_getElem? (i := 174) rfl)) rfl
theorem qm_X4_60 : Cond.methodLink RX4 60 yX0_countSubscribers ∈ lw_all := lw_mem (mt_2 _ (List.mem_of_getElem? (i := 35) rfl)) rfl
theorem qi_X0_countSubscribers : Cond.instanceMethod yX0_countSubscribers ∈ lw_all := lw_mem (mt_2 _ (List.mem_of_getElem? (i := 36) rfl)) rfl
theorem qs_X0_countSubscribers : Cond.selects RX0 yX0_countSubscribers yX0_countSubscribers ∈ lw_all := lw_mem (mt_2 _ (List.mem_of_getElem? (i := 37) rfl)) rfl
theorem qc_X0_countSubscribers : Cond.code yX0_countSubscribers cX0_countSubscribers 3 (some .int) ∈ lw_all := lw_mem (mt_2 _ (List.mem_of_getElem? (i := 38) rfl)) rfl
theorem qf_X0_108 : Cond.fieldLink RX0 108 "LiftNovel$House" "readers" "I" ∈ lw_all := lw_mem (mt_1 _ (List.mem_of_getElem? (i := 37) rfl)) rfl
theorem qm_L_121 : Cond.methodLink RL 121 yX5_begin ∈ lw_all := lw_mem (mt_4 _ (List.mem_of_getElem? (i := 196) rfl)) rfl
theorem qi_X5_begin : Cond.instanceMethod yX5_begin ∈ lw_all := lw_mem (mt_4 _ (List.mem_of_getElem? (i := 197) rfl)) rfl
theorem qs_X5_begin : Cond.selects RX5 yX5_begin yX5_begin ∈ lw_all := lw_mem (mt_4 _ (List.mem_of_getElem? (i := 198) rfl)) rfl
theorem qc_X5_begin : Cond.code yX5_begin cX5_begin 3 (some .int) ∈ lw_all := lw_mem (mt_4 _ (List.mem_of_getElem? (i := 199) rfl)) rfl
theorem qf_X5_50 : Cond.fieldLink RX5 50 "LiftNovelModel" "thrown" "I" ∈ lw_all := lw_mem (mt_4 _ (List.mem_of_getElem? (i := 137) rfl)) rfl
theorem qm_X5_53 : Cond.methodLink RX5 53 yX5_isIn ∈ lw_all := lw_mem (mt_4 _ (List.mem_of_getElem? (i := 200) rfl)) rfl
theorem qt_X5_isIn : Cond.static yX5_isIn ∈ lw_all := lw_mem (mt_4 _ (List.mem_of_getElem? (i := 201) rfl)) rfl
theorem qc_X5_isIn : Cond.code yX5_isIn cX5_isIn 3 (some .boolean) ∈ lw_all := lw_mem (mt_4 _ (List.mem_of_getElem? (i := 202) rfl)) rfl
theorem qm_X5_112 : Cond.methodLink RX5 112 yX5_fail ∈ lw_all := lw_mem (mt_4 _ (List.mem_of_getElem? (i := 203) rfl)) rfl
theorem qi_X5_fail : Cond.instanceMethod yX5_fail ∈ lw_all := lw_mem (mt_4 _ (List.mem_of_getElem? (i := 205) rfl)) rfl
theorem qs_X5_fail : Cond.selects RX5 yX5_fail yX5_fail ∈ lw_all := lw_mem (mt_0 _ (List.mem_of_getElem? (i := 15) rfl)) rfl
theorem qc_X5_fail : Cond.code yX5_fail cX5_fail 2 (some .int) ∈ lw_all := lw_mem (mt_4 _ (List.mem_of_getElem? (i := 206) rfl)) rfl
theorem qm_X5_116 : Cond.methodLink RX5 116 yX5_ones ∈ lw_all := lw_mem (mt_4 _ (List.mem_of_getElem? (i := 207) rfl)) rfl
theorem qt_X5_ones : Cond.static yX5_ones ∈ lw_all := lw_mem (mt_4 _ (List.mem_of_getElem? (i := 208) rfl)) rfl
theorem qc_X5_ones : Cond.code yX5_ones cX5_ones 3 (some .int) ∈ lw_all := lw_mem (mt_4 _ (List.mem_of_getElem? (i := 209) rfl)) rfl
theorem qm_L_122 : Cond.methodLink RL 122 yX5_thrown ∈ lw_all := lw_mem (mt_4 _ (List.mem_of_getElem? (i := 192) rfl)) rfl
theorem qi_X5_thrown : Cond.instanceMethod yX5_thrown ∈ lw_all := lw_mem (mt_4 _ (List.mem_of_getElem? (i := 193) rfl)) rfl
theorem qs_X5_thrown : Cond.selects RX5 yX5_thrown yX5_thrown ∈ lw_all := lw_mem (mt_4 _ (List.mem_of_getElem? (i := 194) rfl)) rfl
theorem qc_X5_thrown : Cond.code yX5_thrown cX5_thrown 1 (some .int) ∈ lw_all := lw_mem (mt_4 _ (List.mem_of_getElem? (i := 195) rfl)) rfl
theorem qm_L_126 : Cond.methodLink RL 126 yL_addParagraph ∈ lw_all := lw_mem (mt_3 _ (List.mem_of_getElem? (i := 175) rfl)) rfl
theorem qt_L_addParagraph : Cond.static yL_addParagraph ∈ lw_all := lw_mem (mt_3 _ (List.mem_of_getElem? (i := 176) rfl)) rfl
theorem qc_L_addParagraph : Cond.codeWith yL_addParagraph cL_addParagraph 6 (some .int) [(0, 12, 15, 19), (0, 12, 19, 13), (0, 12, 23, 21)] ∈ lw_all := lw_mem (mt_3 _ (List.mem_of_getElem? (i := 177) rfl)) rfl
theorem qk_L_19 : Cond.classLink RL 19 "java/lang/IndexOutOfBoundsException" ∈ lw_all := lw_mem (mt_3 _ (List.mem_of_getElem? (i := 178) rfl)) rfl
theorem qk_L_21 : Cond.classLink RL 21 "java/lang/IllegalStateException" ∈ lw_all := lw_mem (mt_3 _ (List.mem_of_getElem? (i := 179) rfl)) rfl
theorem qm_L_15 : Cond.methodLink RL 15 yX4_addParagraph ∈ lw_all := lw_mem (mt_3 _ (List.mem_of_getElem? (i := 180) rfl)) rfl
theorem qi_X4_addParagraph : Cond.instanceMethod yX4_addParagraph ∈ lw_all := lw_mem (mt_3 _ (List.mem_of_getElem? (i := 181) rfl)) rfl
theorem qs_X4_addParagraph : Cond.selects RX4 yX4_addParagraph yX4_addParagraph ∈ lw_all := lw_mem (mt_3 _ (List.mem_of_getElem? (i := 182) rfl)) rfl
theorem qc_X4_addParagraph : Cond.code yX4_addParagraph cX4_addParagraph 4 (some .int) ∈ lw_all := lw_mem (mt_3 _ (List.mem_of_getElem? (i := 183) rfl)) rfl
theorem qk_X4_77 : Cond.classLink RX4 77 "java/lang/IllegalStateException" ∈ lw_all := lw_mem (mt_3 _ (List.mem_of_getElem? (i := 185) rfl)) rfl
theorem qn_ISE : Cond.initialized "java/lang/IllegalStateException" ∈ lw_all := lw_mem (mt_1 _ (List.mem_of_getElem? (i := 12) rfl)) rfl
theorem qf_X4_73 : Cond.fieldLink RX4 73 "LiftNovel$House" "lengths" "[I" ∈ lw_all := lw_mem (mt_1 _ (List.mem_of_getElem? (i := 39) rfl)) rfl
theorem qm_X4_64 : Cond.methodLink RX4 64 yX4_needFloor ∈ lw_all := lw_mem (mt_3 _ (List.mem_of_getElem? (i := 37) rfl)) rfl
theorem qi_X4_needFloor : Cond.instanceMethod yX4_needFloor ∈ lw_all := lw_mem (mt_3 _ (List.mem_of_getElem? (i := 39) rfl)) rfl
theorem qs_X4_needFloor : Cond.selects RX4 yX4_needFloor yX4_needFloor ∈ lw_all := lw_mem (mt_0 _ (List.mem_of_getElem? (i := 6) rfl)) rfl
theorem qc_X4_needFloor : Cond.code yX4_needFloor cX4_needFloor 2 none ∈ lw_all := lw_mem (mt_3 _ (List.mem_of_getElem? (i := 40) rfl)) rfl
theorem qk_X4_372 : Cond.classLink RX4 372 "java/lang/IndexOutOfBoundsException" ∈ lw_all := lw_mem (mt_3 _ (List.mem_of_getElem? (i := 41) rfl)) rfl
theorem qn_IOB : Cond.initialized "java/lang/IndexOutOfBoundsException" ∈ lw_all := lw_mem (mt_1 _ (List.mem_of_getElem? (i := 11) rfl)) rfl
theorem qf_X4_148 : Cond.fieldLink RX4 148 "LiftNovel$House" "floors" "I" ∈ lw_all := lw_mem (mt_1 _ (List.mem_of_getElem? (i := 30) rfl)) rfl
theorem qm_X4_67 : Cond.methodLink RX4 67 yX4_isTopic ∈ lw_all := lw_mem (mt_3 _ (List.mem_of_getElem? (i := 87) rfl)) rfl
theorem qt_X4_isTopic : Cond.static yX4_isTopic ∈ lw_all := lw_mem (mt_3 _ (List.mem_of_getElem? (i := 88) rfl)) rfl
theorem qc_X4_isTopic : Cond.code yX4_isTopic cX4_isTopic 1 (some .boolean) ∈ lw_all := lw_mem (mt_3 _ (List.mem_of_getElem? (i := 89) rfl)) rfl
theorem qm_X4_82 : Cond.methodLink RX4 82 yX1_append ∈ lw_all := lw_mem (mt_3 _ (List.mem_of_getElem? (i := 201) rfl)) rfl
theorem qi_X1_append : Cond.instanceMethod yX1_append ∈ lw_all := lw_mem (mt_3 _ (List.mem_of_getElem? (i := 202) rfl)) rfl
theorem qs_X1_append : Cond.selects RX1 yX1_append yX1_append ∈ lw_all := lw_mem (mt_3 _ (List.mem_of_getElem? (i := 203) rfl)) rfl
theorem qc_X1_append : Cond.code yX1_append cX1_append 5 (some .int) ∈ lw_all := lw_mem (mt_3 _ (List.mem_of_getElem? (i := 204) rfl)) rfl
theorem qm_L_129 : Cond.methodLink RL 129 yX5_addParagraph ∈ lw_all := lw_mem (mt_4 _ (List.mem_of_getElem? (i := 210) rfl)) rfl
theorem qi_X5_addParagraph : Cond.instanceMethod yX5_addParagraph ∈ lw_all := lw_mem (mt_4 _ (List.mem_of_getElem? (i := 211) rfl)) rfl
theorem qs_X5_addParagraph : Cond.selects RX5 yX5_addParagraph yX5_addParagraph ∈ lw_all := lw_mem (mt_4 _ (List.mem_of_getElem? (i := 212) rfl)) rfl
theorem qc_X5_addParagraph : Cond.code yX5_addParagraph cX5_addParagraph 5 (some .int) ∈ lw_all := lw_mem (mt_4 _ (List.mem_of_getElem? (i := 213) rfl)) rfl
theorem qm_X5_93 : Cond.methodLink RX5 93 yX5_isFloor ∈ lw_all := lw_mem (mt_4 _ (List.mem_of_getElem? (i := 214) rfl)) rfl
theorem qi_X5_isFloor : Cond.instanceMethod yX5_isFloor ∈ lw_all := lw_mem (mt_4 _ (List.mem_of_getElem? (i := 216) rfl)) rfl
theorem qs_X5_isFloor : Cond.selects RX5 yX5_isFloor yX5_isFloor ∈ lw_all := lw_mem (mt_0 _ (List.mem_of_getElem? (i := 16) rfl)) rfl
theorem qc_X5_isFloor : Cond.code yX5_isFloor cX5_isFloor 2 (some .boolean) ∈ lw_all := lw_mem (mt_4 _ (List.mem_of_getElem? (i := 217) rfl)) rfl
theorem qm_X5_119 : Cond.methodLink RX5 119 yX5_isTopic ∈ lw_all := lw_mem (mt_4 _ (List.mem_of_getElem? (i := 218) rfl)) rfl
theorem qt_X5_isTopic : Cond.static yX5_isTopic ∈ lw_all := lw_mem (mt_4 _ (List.mem_of_getElem? (i := 219) rfl)) rfl
theorem qc_X5_isTopic : Cond.code yX5_isTopic cX5_isTopic 1 (some .boolean) ∈ lw_all := lw_mem (mt_4 _ (List.mem_of_getElem? (i := 220) rfl)) rfl
theorem qm_L_130 : Cond.methodLink RL 130 yL_turnTopic ∈ lw_all := lw_mem (mt_3 _ (List.mem_of_getElem? (i := 205) rfl)) rfl
theorem qt_L_turnTopic : Cond.static yL_turnTopic ∈ lw_all := lw_mem (mt_3 _ (List.mem_of_getElem? (i := 206) rfl)) rfl
theorem qc_L_turnTopic : Cond.codeWith yL_turnTopic cL_turnTopic 4 (some .int) [(0, 16, 19, 19)] ∈ lw_all := lw_mem (mt_3 _ (List.mem_of_getElem? (i := 207) rfl)) rfl
theorem qm_L_23 : Cond.methodLink RL 23 yX4_turnTopic ∈ lw_all := lw_mem (mt_3 _ (List.mem_of_getElem? (i := 208) rfl)) rfl
theorem qi_X4_turnTopic : Cond.instanceMethod yX4_turnTopic ∈ lw_all := lw_mem (mt_3 _ (List.mem_of_getElem? (i := 209) rfl)) rfl
theorem qs_X4_turnTopic : Cond.selects RX4 yX4_turnTopic yX4_turnTopic ∈ lw_all := lw_mem (mt_3 _ (List.mem_of_getElem? (i := 210) rfl)) rfl
theorem qc_X4_turnTopic : Cond.code yX4_turnTopic cX4_turnTopic 2 (some .boolean) ∈ lw_all := lw_mem (mt_3 _ (List.mem_of_getElem? (i := 211) rfl)) rfl
theorem qf_X4_89 : Cond.fieldLink RX4 89 "LiftNovel$Course" "forbidden" "[Z" ∈ lw_all := lw_mem (mt_1 _ (List.mem_of_getElem? (i := 89) rfl)) rfl
theorem qm_X4_86 : Cond.methodLink RX4 86 yX4_needTopic ∈ lw_all := lw_mem (mt_3 _ (List.mem_of_getElem? (i := 84) rfl)) rfl
theorem qt_X4_needTopic : Cond.static yX4_needTopic ∈ lw_all := lw_mem (mt_3 _ (List.mem_of_getElem? (i := 85) rfl)) rfl
theorem qc_X4_needTopic : Cond.code yX4_needTopic cX4_needTopic 1 none ∈ lw_all := lw_mem (mt_3 _ (List.mem_of_getElem? (i := 86) rfl)) rfl
theorem qm_L_132 : Cond.methodLink RL 132 yX5_turnTopic ∈ lw_all := lw_mem (mt_4 _ (List.mem_of_getElem? (i := 221) rfl)) rfl
theorem qi_X5_turnTopic : Cond.instanceMethod yX5_turnTopic ∈ lw_all := lw_mem (mt_4 _ (List.mem_of_getElem? (i := 222) rfl)) rfl
theorem qs_X5_turnTopic : Cond.selects RX5 yX5_turnTopic yX5_turnTopic ∈ lw_all := lw_mem (mt_4 _ (List.mem_of_getElem? (i := 223) rfl)) rfl
theorem qc_X5_turnTopic : Cond.code yX5_turnTopic cX5_turnTopic 2 (some .boolean) ∈ lw_all := lw_mem (mt_4 _ (List.mem_of_getElem? (i := 224) rfl)) rfl
theorem qf_X5_86 : Cond.fieldLink RX5 86 "LiftNovelModel" "forbidden" "I" ∈ lw_all := lw_mem (mt_4 _ (List.mem_of_getElem? (i := 140) rfl)) rfl
theorem qm_X5_69 : Cond.methodLink RX5 69 yX5_has ∈ lw_all := lw_mem (mt_4 _ (List.mem_of_getElem? (i := 225) rfl)) rfl
theorem qt_X5_has : Cond.static yX5_has ∈ lw_all := lw_mem (mt_4 _ (List.mem_of_getElem? (i := 226) rfl)) rfl
theorem qc_X5_has : Cond.code yX5_has cX5_has 2 (some .boolean) ∈ lw_all := lw_mem (mt_4 _ (List.mem_of_getElem? (i := 227) rfl)) rfl
theorem qm_L_133 : Cond.methodLink RL 133 yL_setLimit ∈ lw_all := lw_mem (mt_3 _ (List.mem_of_getElem? (i := 212) rfl)) rfl
theorem qt_L_setLimit : Cond.static yL_setLimit ∈ lw_all := lw_mem (mt_3 _ (List.mem_of_getElem? (i := 213) rfl)) rfl
theorem qc_L_setLimit : Cond.codeWith yL_setLimit cL_setLimit 4 (some .int) [(0, 9, 12, 13)] ∈ lw_all := lw_mem (mt_3 _ (List.mem_of_getElem? (i := 214) rfl)) rfl
theorem qm_L_27 : Cond.methodLink RL 27 yX4_setLimit ∈ lw_all := lw_mem (mt_3 _ (List.mem_of_getElem? (i := 215) rfl)) rfl
theorem qi_X4_setLimit : Cond.instanceMethod yX4_setLimit ∈ lw_all := lw_mem (mt_3 _ (List.mem_of_getElem? (i := 216) rfl)) rfl
theorem qs_X4_setLimit : Cond.selects RX4 yX4_setLimit yX4_setLimit ∈ lw_all := lw_mem (mt_3 _ (List.mem_of_getElem? (i := 217) rfl)) rfl
theorem qc_X4_setLimit : Cond.code yX4_setLimit cX4_setLimit 3 (some .int) ∈ lw_all := lw_mem (mt_3 _ (List.mem_of_getElem? (i := 218) rfl)) rfl
theorem qf_X4_95 : Cond.fieldLink RX4 95 "LiftNovel$House" "limit" "I" ∈ lw_all := lw_mem (mt_1 _ (List.mem_of_getElem? (i := 33) rfl)) rfl
theorem qm_L_135 : Cond.methodLink RL 135 yX5_setLimit ∈ lw_all := lw_mem (mt_4 _ (List.mem_of_getElem? (i := 228) rfl)) rfl
theorem qi_X5_setLimit : Cond.instanceMethod yX5_setLimit ∈ lw_all := lw_mem (mt_4 _ (List.mem_of_getElem? (i := 229) rfl)) rfl
theorem qs_X5_setLimit : Cond.selects RX5 yX5_setLimit yX5_setLimit ∈ lw_all := lw_mem (mt_4 _ (List.mem_of_getElem? (i := 230) rfl)) rfl
theorem qc_X5_setLimit : Cond.code yX5_setLimit cX5_setLimit 3 (some .int) ∈ lw_all := lw_mem (mt_4 _ (List.mem_of_getElem? (i := 231) rfl)) rfl
theorem qm_L_136 : Cond.methodLink RL 136 yL_addReader ∈ lw_all := lw_mem (mt_3 _ (List.mem_of_getElem? (i := 220) rfl)) rfl
theorem qt_L_addReader : Cond.static yL_addReader ∈ lw_all := lw_mem (mt_3 _ (List.mem_of_getElem? (i := 221) rfl)) rfl
theorem qc_L_addReader : Cond.codeWith yL_addReader cL_addReader 5 (some .int) [(0, 10, 13, 13), (0, 10, 17, 21)] ∈ lw_all := lw_mem (mt_3 _ (List.mem_of_getElem? (i := 222) rfl)) rfl
theorem qm_L_30 : Cond.methodLink RL 30 yX4_addReader ∈ lw_all := lw_mem (mt_3 _ (List.mem_of_getElem? (i := 223) rfl)) rfl
theorem qi_X4_addReader : Cond.instanceMethod yX4_addReader ∈ lw_all := lw_mem (mt_3 _ (List.mem_of_getElem? (i := 224) rfl)) rfl
theorem qs_X4_addReader : Cond.selects RX4 yX4_addReader yX4_addReader ∈ lw_all := lw_mem (mt_3 _ (List.mem_of_getElem? (i := 225) rfl)) rfl
theorem qc_X4_addReader : Cond.code yX4_addReader cX4_addReader 4 (some .int) ∈ lw_all := lw_mem (mt_3 _ (List.mem_of_getElem? (i := 226) rfl)) rfl
theorem qf_X4_100 : Cond.fieldLink RX4 100 "LiftNovel$House" "readers" "I" ∈ lw_all := lw_mem (mt_1 _ (List.mem_of_getElem? (i := 36) rfl)) rfl
theorem qf_X4_105 : Cond.fieldLink RX4 105 "LiftNovel$House" "tastes" "[I" ∈ lw_all := lw_mem (mt_1 _ (List.mem_of_getElem? (i := 44) rfl)) rfl
theorem qf_X4_108 : Cond.fieldLink RX4 108 "LiftNovel$Course" "warmths" "[I" ∈ lw_all := lw_mem (mt_1 _ (List.mem_of_getElem? (i := 91) rfl)) rfl
theorem qf_X4_111 : Cond.fieldLink RX4 111 "LiftNovel$Course" "subscribed" "[Z" ∈ lw_all := lw_mem (mt_1 _ (List.mem_of_getElem? (i := 93) rfl)) rfl
theorem qm_L_139 : Cond.methodLink RL 139 yX5_addReader ∈ lw_all := lw_mem (mt_4 _ (List.mem_of_getElem? (i := 232) rfl)) rfl
theorem qi_X5_addReader : Cond.instanceMethod yX5_addReader ∈ lw_all := lw_mem (mt_4 _ (List.mem_of_getElem? (i := 233) rfl)) rfl
theorem qs_X5_addReader : Cond.selects RX5 yX5_addReader yX5_addReader ∈ lw_all := lw_mem (mt_4 _ (List.mem_of_getElem? (i := 234) rfl)) rfl
theorem qc_X5_addReader : Cond.code yX5_addReader cX5_addReader 3 (some .int) ∈ lw_all := lw_mem (mt_4 _ (List.mem_of_getElem? (i := 235) rfl)) rfl
theorem qf_X5_57 : Cond.fieldLink RX5 57 "LiftNovelModel" "readers" "I" ∈ lw_all := lw_mem (mt_4 _ (List.mem_of_getElem? (i := 144) rfl)) rfl
theorem qm_L_140 : Cond.methodLink RL 140 yL_addMirror ∈ lw_all := lw_mem (mt_3 _ (List.mem_of_getElem? (i := 229) rfl)) rfl
theorem qt_L_addMirror : Cond.static yL_addMirror ∈ lw_all := lw_mem (mt_3 _ (List.mem_of_getElem? (i := 230) rfl)) rfl
theorem qc_L_addMirror : Cond.codeWith yL_addMirror cL_addMirror 5 (some .int) [(0, 10, 13, 13), (0, 10, 17, 21)] ∈ lw_all := lw_mem (mt_3 _ (List.mem_of_getElem? (i := 231) rfl)) rfl
theorem qm_L_34 : Cond.methodLink RL 34 yX4_addMirror ∈ lw_all := lw_mem (mt_3 _ (List.mem_of_getElem? (i := 232) rfl)) rfl
theorem qi_X4_addMirror : Cond.instanceMethod yX4_addMirror ∈ lw_all := lw_mem (mt_3 _ (List.mem_of_getElem? (i := 233) rfl)) rfl
theorem qs_X4_addMirror : Cond.selects RX4 yX4_addMirror yX4_addMirror ∈ lw_all := lw_mem (mt_3 _ (List.mem_of_getElem? (i := 234) rfl)) rfl
theorem qc_X4_addMirror : Cond.code yX4_addMirror cX4_addMirror 3 (some .int) ∈ lw_all := lw_mem (mt_3 _ (List.mem_of_getElem? (i := 235) rfl)) rfl
theorem qf_X4_116 : Cond.fieldLink RX4 116 "LiftNovel$Mirrors" "count" "I" ∈ lw_all := lw_mem (mt_1 _ (List.mem_of_getElem? (i := 158) rfl)) rfl
theorem qm_X4_119 : Cond.methodLink RX4 119 yX3_append ∈ lw_all := lw_mem (mt_3 _ (List.mem_of_getElem? (i := 238) rfl)) rfl
theorem qi_X3_append : Cond.instanceMethod yX3_append ∈ lw_all := lw_mem (mt_3 _ (List.mem_of_getElem? (i := 239) rfl)) rfl
theorem qs_X3_append : Cond.selects RX3 yX3_append yX3_append ∈ lw_all := lw_mem (mt_4 _ (List.mem_of_getElem? (i := 0) rfl)) rfl
theorem qc_X3_append : Cond.code yX3_append cX3_append 4 (some .int) ∈ lw_all := lw_mem (mt_4 _ (List.mem_of_getElem? (i := 1) rfl)) rfl
theorem qm_L_142 : Cond.methodLink RL 142 yX5_addMirror ∈ lw_all := lw_mem (mt_4 _ (List.mem_of_getElem? (i := 236) rfl)) rfl
theorem qi_X5_addMirror : Cond.instanceMethod yX5_addMirror ∈ lw_all := lw_mem (mt_4 _ (List.mem_of_getElem? (i := 237) rfl)) rfl
theorem qs_X5_addMirror : Cond.selects RX5 yX5_addMirror yX5_addMirror ∈ lw_all := lw_mem (mt_4 _ (List.mem_of_getElem? (i := 238) rfl)) rfl
theorem qc_X5_addMirror : Cond.code yX5_addMirror cX5_addMirror 3 (some .int) ∈ lw_all := lw_mem (mt_4 _ (List.mem_of_getElem? (i := 239) rfl)) rfl
theorem qf_X5_60 : Cond.fieldLink RX5 60 "LiftNovelModel" "mirrors" "I" ∈ lw_all := lw_mem (mt_4 _ (List.mem_of_getElem? (i := 146) rfl)) rfl
theorem qm_L_143 : Cond.methodLink RL 143 yL_call ∈ lw_all := lw_mem (mt_4 _ (List.mem_of_getElem? (i := 2) rfl)) rfl
theorem qt_L_call : Cond.static yL_call ∈ lw_all := lw_mem (mt_4 _ (List.mem_of_getElem? (i := 3) rfl)) rfl
theorem qc_L_call : Cond.codeWith yL_call cL_call 4 (some .int) [(0, 16, 19, 19)] ∈ lw_all := lw_mem (mt_4 _ (List.mem_of_getElem? (i := 4) rfl)) rfl
theorem qm_L_37 : Cond.methodLink RL 37 yX4_call ∈ lw_all := lw_mem (mt_4 _ (List.mem_of_getElem? (i := 5) rfl)) rfl
theorem qi_X4_call : Cond.instanceMethod yX4_call ∈ lw_all := lw_mem (mt_4 _ (List.mem_of_getElem? (i := 6) rfl)) rfl
theorem qs_X4_call : Cond.selects RX4 yX4_call yX4_call ∈ lw_all := lw_mem (mt_4 _ (List.mem_of_getElem? (i := 7) rfl)) rfl
theorem qc_X4_call : Cond.code yX4_call cX4_call 3 (some .boolean) ∈ lw_all := lw_mem (mt_4 _ (List.mem_of_getElem? (i := 8) rfl)) rfl
theorem qf_X4_122 : Cond.fieldLink RX4 122 "LiftNovel$Course" "called" "[Z" ∈ lw_all := lw_mem (mt_1 _ (List.mem_of_getElem? (i := 83) rfl)) rfl
theorem qm_L_145 : Cond.methodLink RL 145 yX5_call ∈ lw_all := lw_mem (mt_5 _ (List.mem_of_getElem? (i := 0) rfl)) rfl
theorem qi_X5_call : Cond.instanceMethod yX5_call ∈ lw_all := lw_mem (mt_5 _ (List.mem_of_getElem? (i := 1) rfl)) rfl
theorem qs_X5_call : Cond.selects RX5 yX5_call yX5_call ∈ lw_all := lw_mem (mt_5 _ (List.mem_of_getElem? (i := 2) rfl)) rfl
theorem qc_X5_call : Cond.code yX5_call cX5_call 3 (some .boolean) ∈ lw_all := lw_mem (mt_5 _ (List.mem_of_getElem? (i := 3) rfl)) rfl
theorem qm_L_146 : Cond.methodLink RL 146 yX4_repair ∈ lw_all := lw_mem (mt_1 _ (List.mem_of_getElem? (i := 184) rfl)) rfl
theorem qi_X4_repair : Cond.instanceMethod yX4_repair ∈ lw_all := lw_mem (mt_1 _ (List.mem_of_getElem? (i := 185) rfl)) rfl
theorem qs_X4_repair : Cond.selects RX4 yX4_repair yX4_repair ∈ lw_all := lw_mem (mt_1 _ (List.mem_of_getElem? (i := 186) rfl)) rfl
theorem qc_X4_repair : Cond.code yX4_repair cX4_repair 2 (some .int) ∈ lw_all := lw_mem (mt_1 _ (List.mem_of_getElem? (i := 187) rfl)) rfl
theorem qf_X4_125 : Cond.fieldLink RX4 125 "LiftNovel$Course" "stuck" "I" ∈ lw_all := lw_mem (mt_1 _ (List.mem_of_getElem? (i := 76) rfl)) rfl
theorem qf_X4_128 : Cond.fieldLink RX4 128 "LiftNovel$Course" "wear" "I" ∈ lw_all := lw_mem (mt_1 _ (List.mem_of_getElem? (i := 78) rfl)) rfl
theorem qm_L_149 : Cond.methodLink RL 149 yX5_repair ∈ lw_all := lw_mem (mt_5 _ (List.mem_of_getElem? (i := 4) rfl)) rfl
theorem qi_X5_repair : Cond.instanceMethod yX5_repair ∈ lw_all := lw_mem (mt_5 _ (List.mem_of_getElem? (i := 5) rfl)) rfl
theorem qs_X5_repair : Cond.selects RX5 yX5_repair yX5_repair ∈ lw_all := lw_mem (mt_5 _ (List.mem_of_getElem? (i := 6) rfl)) rfl
theorem qc_X5_repair : Cond.code yX5_repair cX5_repair 2 (some .int) ∈ lw_all := lw_mem (mt_5 _ (List.mem_of_getElem? (i := 7) rfl)) rfl
theorem qm_L_150 : Cond.methodLink RL 150 yL_passHours ∈ lw_all := lw_mem (mt_4 _ (List.mem_of_getElem? (i := 9) rfl)) rfl
theorem qt_L_passHours : Cond.static yL_passHours ∈ lw_all := lw_mem (mt_4 _ (List.mem_of_getElem? (i := 10) rfl)) rfl
theorem qc_L_passHours : Cond.codeWith yL_passHours cL_passHours 4 (some .int) [(0, 9, 12, 13)] ∈ lw_all := lw_mem (mt_4 _ (List.mem_of_getElem? (i := 11) rfl)) rfl
theorem qm_L_40 : Cond.methodLink RL 40 yX4_passHours ∈ lw_all := lw_mem (mt_4 _ (List.mem_of_getElem? (i := 12) rfl)) rfl
theorem qi_X4_passHours : Cond.instanceMethod yX4_passHours ∈ lw_all := lw_mem (mt_4 _ (List.mem_of_getElem? (i := 13) rfl)) rfl
theorem qs_X4_passHours : Cond.selects RX4 yX4_passHours yX4_passHours ∈ lw_all := lw_mem (mt_4 _ (List.mem_of_getElem? (i := 14) rfl)) rfl
theorem qc_X4_passHours : Cond.code yX4_passHours cX4_passHours 6 (some .int) ∈ lw_all := lw_mem (mt_4 _ (List.mem_of_getElem? (i := 15) rfl)) rfl
theorem qf_X4_133 : Cond.fieldLink RX4 133 "LiftNovel$Course" "hour" "I" ∈ lw_all := lw_mem (mt_1 _ (List.mem_of_getElem? (i := 70) rfl)) rfl
theorem qf_X4_139 : Cond.fieldLink RX4 139 "LiftNovel$Course" "at" "I" ∈ lw_all := lw_mem (mt_1 _ (List.mem_of_getElem? (i := 72) rfl)) rfl
theorem qf_X4_142 : Cond.fieldLink RX4 142 "LiftNovel$Course" "next" "[I" ∈ lw_all := lw_mem (mt_1 _ (List.mem_of_getElem? (i := 85) rfl)) rfl
theorem qm_X4_136 : Cond.methodLink RX4 136 yX0_passHour ∈ lw_all := lw_mem (mt_2 _ (List.mem_of_getElem? (i := 83) rfl)) rfl
theorem qi_X0_passHour : Cond.instanceMethod yX0_passHour ∈ lw_all := lw_mem (mt_2 _ (List.mem_of_getElem? (i := 84) rfl)) rfl
theorem qs_X0_passHour : Cond.selects RX0 yX0_passHour yX0_passHour ∈ lw_all := lw_mem (mt_2 _ (List.mem_of_getElem? (i := 85) rfl)) rfl
theorem qc_X0_passHour : Cond.code yX0_passHour cX0_passHour 2 (some .int) ∈ lw_all := lw_mem (mt_2 _ (List.mem_of_getElem? (i := 86) rfl)) rfl
theorem qm_X0_57 : Cond.methodLink RX0 57 yX0_waitStuck ∈ lw_all := lw_mem (mt_2 _ (List.mem_of_getElem? (i := 87) rfl)) rfl
theorem qi_X0_waitStuck : Cond.instanceMethod yX0_waitStuck ∈ lw_all := lw_mem (mt_2 _ (List.mem_of_getElem? (i := 88) rfl)) rfl
theorem qs_X0_waitStuck : Cond.selects RX0 yX0_waitStuck yX0_waitStuck ∈ lw_all := lw_mem (mt_2 _ (List.mem_of_getElem? (i := 89) rfl)) rfl
theorem qc_X0_waitStuck : Cond.code yX0_waitStuck cX0_waitStuck 1 none ∈ lw_all := lw_mem (mt_2 _ (List.mem_of_getElem? (i := 90) rfl)) rfl
theorem qm_X0_60 : Cond.methodLink RX0 60 yX0_countCalled ∈ lw_all := lw_mem (mt_2 _ (List.mem_of_getElem? (i := 91) rfl)) rfl
theorem qi_X0_countCalled : Cond.instanceMethod yX0_countCalled ∈ lw_all := lw_mem (mt_1 _ (List.mem_of_getElem? (i := 209) rfl)) rfl
theorem qs_X0_countCalled : Cond.selects RX0 yX0_countCalled yX0_countCalled ∈ lw_all := lw_mem (mt_1 _ (List.mem_of_getElem? (i := 210) rfl)) rfl
theorem qc_X0_countCalled : Cond.code yX0_countCalled cX0_countCalled 3 (some .int) ∈ lw_all := lw_mem (mt_1 _ (List.mem_of_getElem? (i := 211) rfl)) rfl
theorem qm_X0_64 : Cond.methodLink RX0 64 yX0_ride ∈ lw_all := lw_mem (mt_2 _ (List.mem_of_getElem? (i := 92) rfl)) rfl
theorem qi_X0_ride : Cond.instanceMethod yX0_ride ∈ lw_all := lw_mem (mt_2 _ (List.mem_of_getElem? (i := 93) rfl)) rfl
theorem qs_X0_ride : Cond.selects RX0 yX0_ride yX0_ride ∈ lw_all := lw_mem (mt_2 _ (List.mem_of_getElem? (i := 94) rfl)) rfl
theorem qc_X0_ride : Cond.code yX0_ride cX0_ride 2 none ∈ lw_all := lw_mem (mt_2 _ (List.mem_of_getElem? (i := 95) rfl)) rfl
theorem qm_X0_79 : Cond.methodLink RX0 79 yX0_hasCall ∈ lw_all := lw_mem (mt_2 _ (List.mem_of_getElem? (i := 96) rfl)) rfl
theorem qi_X0_hasCall : Cond.instanceMethod yX0_hasCall ∈ lw_all := lw_mem (mt_2 _ (List.mem_of_getElem? (i := 97) rfl)) rfl
theorem qs_X0_hasCall : Cond.selects RX0 yX0_hasCall yX0_hasCall ∈ lw_all := lw_mem (mt_2 _ (List.mem_of_getElem? (i := 98) rfl)) rfl
theorem qc_X0_hasCall : Cond.code yX0_hasCall cX0_hasCall 2 (some .boolean) ∈ lw_all := lw_mem (mt_2 _ (List.mem_of_getElem? (i := 99) rfl)) rfl
theorem qm_X0_83 : Cond.methodLink RX0 83 yX0_hasCallAbove ∈ lw_all := lw_mem (mt_2 _ (List.mem_of_getElem? (i := 100) rfl)) rfl
theorem qi_X0_hasCallAbove : Cond.instanceMethod yX0_hasCallAbove ∈ lw_all := lw_mem (mt_2 _ (List.mem_of_getElem? (i := 101) rfl)) rfl
theorem qs_X0_hasCallAbove : Cond.selects RX0 yX0_hasCallAbove yX0_hasCallAbove ∈ lw_all := lw_mem (mt_2 _ (List.mem_of_getElem? (i := 102) rfl)) rfl
theorem qc_X0_hasCallAbove : Cond.code yX0_hasCallAbove cX0_hasCallAbove 2 (some .boolean) ∈ lw_all := lw_mem (mt_2 _ (List.mem_of_getElem? (i := 103) rfl)) rfl
theorem qm_X0_87 : Cond.methodLink RX0 87 yX0_hasCallBelow ∈ lw_all := lw_mem (mt_2 _ (List.mem_of_getElem? (i := 104) rfl)) rfl
theorem qi_X0_hasCallBelow : Cond.instanceMethod yX0_hasCallBelow ∈ lw_all := lw_mem (mt_2 _ (List.mem_of_getElem? (i := 105) rfl)) rfl
theorem qs_X0_hasCallBelow : Cond.selects RX0 yX0_hasCallBelow yX0_hasCallBelow ∈ lw_all := lw_mem (mt_2 _ (List.mem_of_getElem? (i := 106) rfl)) rfl
theorem qc_X0_hasCallBelow : Cond.code yX0_hasCallBelow cX0_hasCallBelow 2 (some .boolean) ∈ lw_all := lw_mem (mt_2 _ (List.mem_of_getElem? (i := 107) rfl)) rfl
theorem qm_X0_90 : Cond.methodLink RX0 90 yX0_wayToNearestCall ∈ lw_all := lw_mem (mt_2 _ (List.mem_of_getElem? (i := 108) rfl)) rfl
theorem qi_X0_wayToNearestCall : Cond.instanceMethod yX0_wayToNearestCall ∈ lw_all := lw_mem (mt_2 _ (List.mem_of_getElem? (i := 109) rfl)) rfl
theorem qs_X0_wayToNearestCall : Cond.selects RX0 yX0_wayToNearestCall yX0_wayToNearestCall ∈ lw_all := lw_mem (mt_2 _ (List.mem_of_getElem? (i := 110) rfl)) rfl
theorem qc_X0_wayToNearestCall : Cond.code yX0_wayToNearestCall cX0_wayToNearestCall 2 (some .int) ∈ lw_all := lw_mem (mt_2 _ (List.mem_of_getElem? (i := 111) rfl)) rfl
theorem qm_X0_67 : Cond.methodLink RX0 67 yX0_stopIfCalled ∈ lw_all := lw_mem (mt_2 _ (List.mem_of_getElem? (i := 112) rfl)) rfl
theorem qi_X0_stopIfCalled : Cond.instanceMethod yX0_stopIfCalled ∈ lw_all := lw_mem (mt_2 _ (List.mem_of_getElem? (i := 113) rfl)) rfl
theorem qs_X0_stopIfCalled : Cond.selects RX0 yX0_stopIfCalled yX0_stopIfCalled ∈ lw_all := lw_mem (mt_2 _ (List.mem_of_getElem? (i := 114) rfl)) rfl
theorem qc_X0_stopIfCalled : Cond.code yX0_stopIfCalled cX0_stopIfCalled 3 (some .int) ∈ lw_all := lw_mem (mt_2 _ (List.mem_of_getElem? (i := 115) rfl)) rfl
theorem qf_X0_93 : Cond.fieldLink RX0 93 "LiftNovel$House" "lengths" "[I" ∈ lw_all := lw_mem (mt_1 _ (List.mem_of_getElem? (i := 40) rfl)) rfl
theorem qm_X0_98 : Cond.methodLink RX0 98 yX1_topicAt ∈ lw_all := lw_mem (mt_2 _ (List.mem_of_getElem? (i := 116) rfl)) rfl
theorem qi_X1_topicAt : Cond.instanceMethod yX1_topicAt ∈ lw_all := lw_mem (mt_2 _ (List.mem_of_getElem? (i := 64) rfl)) rfl
theorem qs_X1_topicAt : Cond.selects RX1 yX1_topicAt yX1_topicAt ∈ lw_all := lw_mem (mt_2 _ (List.mem_of_getElem? (i := 65) rfl)) rfl
theorem qc_X1_topicAt : Cond.code yX1_topicAt cX1_topicAt 3 (some .int) ∈ lw_all := lw_mem (mt_2 _ (List.mem_of_getElem? (i := 66) rfl)) rfl
theorem qm_X0_102 : Cond.methodLink RX0 102 yX1_thrillAt ∈ lw_all := lw_mem (mt_2 _ (List.mem_of_getElem? (i := 117) rfl)) rfl
theorem qi_X1_thrillAt : Cond.instanceMethod yX1_thrillAt ∈ lw_all := lw_mem (mt_2 _ (List.mem_of_getElem? (i := 118) rfl)) rfl
theorem qs_X1_thrillAt : Cond.selects RX1 yX1_thrillAt yX1_thrillAt ∈ lw_all := lw_mem (mt_2 _ (List.mem_of_getElem? (i := 119) rfl)) rfl
theorem qc_X1_thrillAt : Cond.code yX1_thrillAt cX1_thrillAt 3 (some .int) ∈ lw_all := lw_mem (mt_2 _ (List.mem_of_getElem? (i := 120) rfl)) rfl
theorem qm_X0_105 : Cond.methodLink RX0 105 yX0_print ∈ lw_all := lw_mem (mt_2 _ (List.mem_of_getElem? (i := 121) rfl)) rfl
theorem qi_X0_print : Cond.instanceMethod yX0_print ∈ lw_all := lw_mem (mt_2 _ (List.mem_of_getElem? (i := 122) rfl)) rfl
theorem qs_X0_print : Cond.selects RX0 yX0_print yX0_print ∈ lw_all := lw_mem (mt_2 _ (List.mem_of_getElem? (i := 123) rfl)) rfl
theorem qc_X0_print : Cond.code yX0_print cX0_print 6 (some .int) ∈ lw_all := lw_mem (mt_2 _ (List.mem_of_getElem? (i := 124) rfl)) rfl
theorem qf_X0_111 : Cond.fieldLink RX0 111 "LiftNovel$House" "tastes" "[I" ∈ lw_all := lw_mem (mt_1 _ (List.mem_of_getElem? (i := 45) rfl)) rfl
theorem qm_X0_114 : Cond.methodLink RX0 114 Lib.Math.min.name ∈ lw_all := lw_mem (mt_2 _ (List.mem_of_getElem? (i := 125) rfl)) rfl
theorem qt_Math_min : Cond.static Lib.Math.min.name ∈ lw_all := lw_mem (mt_2 _ (List.mem_of_getElem? (i := 72) rfl)) rfl
theorem qn_Math : Cond.initialized "java/lang/Math" ∈ lw_all := lw_mem (mt_1 _ (List.mem_of_getElem? (i := 13) rfl)) rfl
theorem qc_Math_min : Cond.code Lib.Math.min.name Lib.Math.min.code 2 (some .int) ∈ lw_all := lw_mem (mt_2 _ (List.mem_of_getElem? (i := 73) rfl)) rfl
theorem qm_X0_70 : Cond.methodLink RX0 70 yX0_coolReaders ∈ lw_all := lw_mem (mt_2 _ (List.mem_of_getElem? (i := 126) rfl)) rfl
theorem qi_X0_coolReaders : Cond.instanceMethod yX0_coolReaders ∈ lw_all := lw_mem (mt_2 _ (List.mem_of_getElem? (i := 127) rfl)) rfl
theorem qs_X0_coolReaders : Cond.selects RX0 yX0_coolReaders yX0_coolReaders ∈ lw_all := lw_mem (mt_2 _ (List.mem_of_getElem? (i := 128) rfl)) rfl
theorem qc_X0_coolReaders : Cond.code yX0_coolReaders cX0_coolReaders 2 none ∈ lw_all := lw_mem (mt_2 _ (List.mem_of_getElem? (i := 129) rfl)) rfl
theorem qm_X0_73 : Cond.methodLink RX0 73 yX0_getStuckIfWorn ∈ lw_all := lw_mem (mt_2 _ (List.mem_of_getElem? (i := 130) rfl)) rfl
theorem qi_X0_getStuckIfWorn : Cond.instanceMethod yX0_getStuckIfWorn ∈ lw_all := lw_mem (mt_2 _ (List.mem_of_getElem? (i := 131) rfl)) rfl
theorem qs_X0_getStuckIfWorn : Cond.selects RX0 yX0_getStuckIfWorn yX0_getStuckIfWorn ∈ lw_all := lw_mem (mt_2 _ (List.mem_of_getElem? (i := 132) rfl)) rfl
theorem qc_X0_getStuckIfWorn : Cond.code yX0_getStuckIfWorn cX0_getStuckIfWorn 1 none ∈ lw_all := lw_mem (mt_2 _ (List.mem_of_getElem? (i := 133) rfl)) rfl
theorem qf_X0_119 : Cond.fieldLink RX0 119 "LiftNovel$House" "limit" "I" ∈ lw_all := lw_mem (mt_1 _ (List.mem_of_getElem? (i := 34) rfl)) rfl
theorem qm_X4_145 : Cond.methodLink RX4 145 yX2_append ∈ lw_all := lw_mem (mt_4 _ (List.mem_of_getElem? (i := 17) rfl)) rfl
theorem qi_X2_append : Cond.instanceMethod yX2_append ∈ lw_all := lw_mem (mt_4 _ (List.mem_of_getElem? (i := 18) rfl)) rfl
theorem qs_X2_append : Cond.selects RX2 yX2_append yX2_append ∈ lw_all := lw_mem (mt_4 _ (List.mem_of_getElem? (i := 19) rfl)) rfl
theorem qc_X2_append : Cond.code yX2_append cX2_append 5 none ∈ lw_all := lw_mem (mt_4 _ (List.mem_of_getElem? (i := 20) rfl)) rfl
theorem qm_L_152 : Cond.methodLink RL 152 yX5_passHours ∈ lw_all := lw_mem (mt_5 _ (List.mem_of_getElem? (i := 8) rfl)) rfl
theorem qi_X5_passHours : Cond.instanceMethod yX5_passHours ∈ lw_all := lw_mem (mt_5 _ (List.mem_of_getElem? (i := 9) rfl)) rfl
theorem qs_X5_passHours : Cond.selects RX5 yX5_passHours yX5_passHours ∈ lw_all := lw_mem (mt_5 _ (List.mem_of_getElem? (i := 10) rfl)) rfl
theorem qc_X5_passHours : Cond.code yX5_passHours cX5_passHours 3 (some .int) ∈ lw_all := lw_mem (mt_5 _ (List.mem_of_getElem? (i := 11) rfl)) rfl
theorem qm_X5_122 : Cond.methodLink RX5 122 yX5_hoursOn ∈ lw_all := lw_mem (mt_5 _ (List.mem_of_getElem? (i := 12) rfl)) rfl
theorem qi_X5_hoursOn : Cond.instanceMethod yX5_hoursOn ∈ lw_all := lw_mem (mt_5 _ (List.mem_of_getElem? (i := 14) rfl)) rfl
theorem qs_X5_hoursOn : Cond.selects RX5 yX5_hoursOn yX5_hoursOn ∈ lw_all := lw_mem (mt_0 _ (List.mem_of_getElem? (i := 17) rfl)) rfl
theorem qc_X5_hoursOn : Cond.code yX5_hoursOn cX5_hoursOn 3 none ∈ lw_all := lw_mem (mt_5 _ (List.mem_of_getElem? (i := 15) rfl)) rfl
theorem qm_X5_109 : Cond.methodLink RX5 109 yX5_hourOn ∈ lw_all := lw_mem (mt_5 _ (List.mem_of_getElem? (i := 16) rfl)) rfl
theorem qi_X5_hourOn : Cond.instanceMethod yX5_hourOn ∈ lw_all := lw_mem (mt_5 _ (List.mem_of_getElem? (i := 18) rfl)) rfl
theorem qs_X5_hourOn : Cond.selects RX5 yX5_hourOn yX5_hourOn ∈ lw_all := lw_mem (mt_0 _ (List.mem_of_getElem? (i := 18) rfl)) rfl
theorem qc_X5_hourOn : Cond.code yX5_hourOn cX5_hourOn 3 none ∈ lw_all := lw_mem (mt_5 _ (List.mem_of_getElem? (i := 19) rfl)) rfl
theorem qf_X5_83 : Cond.fieldLink RX5 83 "LiftNovelModel" "stopped" "I" ∈ lw_all := lw_mem (mt_4 _ (List.mem_of_getElem? (i := 154) rfl)) rfl
theorem qm_X5_106 : Cond.methodLink RX5 106 yX5_ride ∈ lw_all := lw_mem (mt_5 _ (List.mem_of_getElem? (i := 20) rfl)) rfl
theorem qi_X5_ride : Cond.instanceMethod yX5_ride ∈ lw_all := lw_mem (mt_5 _ (List.mem_of_getElem? (i := 22) rfl)) rfl
theorem qs_X5_ride : Cond.selects RX5 yX5_ride yX5_ride ∈ lw_all := lw_mem (mt_0 _ (List.mem_of_getElem? (i := 19) rfl)) rfl
theorem qc_X5_ride : Cond.code yX5_ride cX5_ride 1 none ∈ lw_all := lw_mem (mt_5 _ (List.mem_of_getElem? (i := 23) rfl)) rfl
theorem qm_X5_96 : Cond.methodLink RX5 96 yX5_isWay ∈ lw_all := lw_mem (mt_5 _ (List.mem_of_getElem? (i := 24) rfl)) rfl
theorem qi_X5_isWay : Cond.instanceMethod yX5_isWay ∈ lw_all := lw_mem (mt_5 _ (List.mem_of_getElem? (i := 26) rfl)) rfl
theorem qs_X5_isWay : Cond.selects RX5 yX5_isWay yX5_isWay ∈ lw_all := lw_mem (mt_0 _ (List.mem_of_getElem? (i := 20) rfl)) rfl
theorem qc_X5_isWay : Cond.code yX5_isWay cX5_isWay 3 (some .boolean) ∈ lw_all := lw_mem (mt_5 _ (List.mem_of_getElem? (i := 27) rfl)) rfl
theorem qm_X5_99 : Cond.methodLink RX5 99 yX5_wayToNearest ∈ lw_all := lw_mem (mt_5 _ (List.mem_of_getElem? (i := 28) rfl)) rfl
theorem qi_X5_wayToNearest : Cond.instanceMethod yX5_wayToNearest ∈ lw_all := lw_mem (mt_5 _ (List.mem_of_getElem? (i := 30) rfl)) rfl
theorem qs_X5_wayToNearest : Cond.selects RX5 yX5_wayToNearest yX5_wayToNearest ∈ lw_all := lw_mem (mt_0 _ (List.mem_of_getElem? (i := 21) rfl)) rfl
theorem qc_X5_wayToNearest : Cond.code yX5_wayToNearest cX5_wayToNearest 2 (some .int) ∈ lw_all := lw_mem (mt_5 _ (List.mem_of_getElem? (i := 31) rfl)) rfl
theorem qm_X5_103 : Cond.methodLink RX5 103 yX5_stop ∈ lw_all := lw_mem (mt_5 _ (List.mem_of_getElem? (i := 32) rfl)) rfl
theorem qi_X5_stop : Cond.instanceMethod yX5_stop ∈ lw_all := lw_mem (mt_5 _ (List.mem_of_getElem? (i := 34) rfl)) rfl
theorem qs_X5_stop : Cond.selects RX5 yX5_stop yX5_stop ∈ lw_all := lw_mem (mt_0 _ (List.mem_of_getElem? (i := 22) rfl)) rfl
theorem qc_X5_stop : Cond.code yX5_stop cX5_stop 3 none ∈ lw_all := lw_mem (mt_5 _ (List.mem_of_getElem? (i := 35) rfl)) rfl
theorem qm_X5_89 : Cond.methodLink RX5 89 yX5_print ∈ lw_all := lw_mem (mt_5 _ (List.mem_of_getElem? (i := 36) rfl)) rfl
theorem qi_X5_print : Cond.instanceMethod yX5_print ∈ lw_all := lw_mem (mt_5 _ (List.mem_of_getElem? (i := 38) rfl)) rfl
theorem qs_X5_print : Cond.selects RX5 yX5_print yX5_print ∈ lw_all := lw_mem (mt_0 _ (List.mem_of_getElem? (i := 23) rfl)) rfl
theorem qc_X5_print : Cond.code yX5_print cX5_print 4 none ∈ lw_all := lw_mem (mt_5 _ (List.mem_of_getElem? (i := 39) rfl)) rfl
theorem qm_X5_77 : Cond.methodLink RX5 77 Lib.Math.min.name ∈ lw_all := lw_mem (mt_5 _ (List.mem_of_getElem? (i := 44) rfl)) rfl
theorem qm_X5_73 : Cond.methodLink RX5 73 yX5_reads ∈ lw_all := lw_mem (mt_5 _ (List.mem_of_getElem? (i := 40) rfl)) rfl
theorem qi_X5_reads : Cond.instanceMethod yX5_reads ∈ lw_all := lw_mem (mt_5 _ (List.mem_of_getElem? (i := 42) rfl)) rfl
theorem qs_X5_reads : Cond.selects RX5 yX5_reads yX5_reads ∈ lw_all := lw_mem (mt_0 _ (List.mem_of_getElem? (i := 24) rfl)) rfl
theorem qc_X5_reads : Cond.code yX5_reads cX5_reads 2 (some .boolean) ∈ lw_all := lw_mem (mt_5 _ (List.mem_of_getElem? (i := 43) rfl)) rfl
theorem qm_L_153 : Cond.methodLink RL 153 yX4_floors ∈ lw_all := lw_mem (mt_1 _ (List.mem_of_getElem? (i := 188) rfl)) rfl
theorem qi_X4_floors : Cond.instanceMethod yX4_floors ∈ lw_all := lw_mem (mt_1 _ (List.mem_of_getElem? (i := 189) rfl)) rfl
theorem qs_X4_floors : Cond.selects RX4 yX4_floors yX4_floors ∈ lw_all := lw_mem (mt_1 _ (List.mem_of_getElem? (i := 190) rfl)) rfl
theorem qc_X4_floors : Cond.code yX4_floors cX4_floors 1 (some .int) ∈ lw_all := lw_mem (mt_1 _ (List.mem_of_getElem? (i := 191) rfl)) rfl
theorem qm_L_156 : Cond.methodLink RL 156 yX5_floors ∈ lw_all := lw_mem (mt_5 _ (List.mem_of_getElem? (i := 45) rfl)) rfl
theorem qi_X5_floors : Cond.instanceMethod yX5_floors ∈ lw_all := lw_mem (mt_5 _ (List.mem_of_getElem? (i := 46) rfl)) rfl
theorem qs_X5_floors : Cond.selects RX5 yX5_floors yX5_floors ∈ lw_all := lw_mem (mt_5 _ (List.mem_of_getElem? (i := 47) rfl)) rfl
theorem qc_X5_floors : Cond.code yX5_floors cX5_floors 1 (some .int) ∈ lw_all := lw_mem (mt_5 _ (List.mem_of_getElem? (i := 48) rfl)) rfl
theorem qm_X5_125 : Cond.methodLink RX5 125 yX5_told ∈ lw_all := lw_mem (mt_5 _ (List.mem_of_getElem? (i := 49) rfl)) rfl
theorem qi_X5_told : Cond.instanceMethod yX5_told ∈ lw_all := lw_mem (mt_5 _ (List.mem_of_getElem? (i := 51) rfl)) rfl
theorem qs_X5_told : Cond.selects RX5 yX5_told yX5_told ∈ lw_all := lw_mem (mt_0 _ (List.mem_of_getElem? (i := 25) rfl)) rfl
theorem qc_X5_told : Cond.code yX5_told cX5_told 2 (some .int) ∈ lw_all := lw_mem (mt_5 _ (List.mem_of_getElem? (i := 52) rfl)) rfl
theorem qm_L_157 : Cond.methodLink RL 157 yX4_hours ∈ lw_all := lw_mem (mt_1 _ (List.mem_of_getElem? (i := 192) rfl)) rfl
theorem qi_X4_hours : Cond.instanceMethod yX4_hours ∈ lw_all := lw_mem (mt_1 _ (List.mem_of_getElem? (i := 193) rfl)) rfl
theorem qs_X4_hours : Cond.selects RX4 yX4_hours yX4_hours ∈ lw_all := lw_mem (mt_1 _ (List.mem_of_getElem? (i := 194) rfl)) rfl
theorem qc_X4_hours : Cond.code yX4_hours cX4_hours 1 (some .int) ∈ lw_all := lw_mem (mt_1 _ (List.mem_of_getElem? (i := 195) rfl)) rfl
theorem qm_L_160 : Cond.methodLink RL 160 yX5_hours ∈ lw_all := lw_mem (mt_5 _ (List.mem_of_getElem? (i := 53) rfl)) rfl
theorem qi_X5_hours : Cond.instanceMethod yX5_hours ∈ lw_all := lw_mem (mt_5 _ (List.mem_of_getElem? (i := 54) rfl)) rfl
theorem qs_X5_hours : Cond.selects RX5 yX5_hours yX5_hours ∈ lw_all := lw_mem (mt_5 _ (List.mem_of_getElem? (i := 55) rfl)) rfl
theorem qc_X5_hours : Cond.code yX5_hours cX5_hours 1 (some .int) ∈ lw_all := lw_mem (mt_5 _ (List.mem_of_getElem? (i := 56) rfl)) rfl
theorem qm_L_161 : Cond.methodLink RL 161 yX4_liftAt ∈ lw_all := lw_mem (mt_1 _ (List.mem_of_getElem? (i := 196) rfl)) rfl
theorem qi_X4_liftAt : Cond.instanceMethod yX4_liftAt ∈ lw_all := lw_mem (mt_1 _ (List.mem_of_getElem? (i := 197) rfl)) rfl
theorem qs_X4_liftAt : Cond.selects RX4 yX4_liftAt yX4_liftAt ∈ lw_all := lw_mem (mt_1 _ (List.mem_of_getElem? (i := 198) rfl)) rfl
theorem qc_X4_liftAt : Cond.code yX4_liftAt cX4_liftAt 1 (some .int) ∈ lw_all := lw_mem (mt_1 _ (List.mem_of_getElem? (i := 199) rfl)) rfl
theorem qm_L_164 : Cond.methodLink RL 164 yX5_liftAt ∈ lw_all := lw_mem (mt_5 _ (List.mem_of_getElem? (i := 57) rfl)) rfl
theorem qi_X5_liftAt : Cond.instanceMethod yX5_liftAt ∈ lw_all := lw_mem (mt_5 _ (List.mem_of_getElem? (i := 58) rfl)) rfl
theorem qs_X5_liftAt : Cond.selects RX5 yX5_liftAt yX5_liftAt ∈ lw_all := lw_mem (mt_5 _ (List.mem_of_getElem? (i := 59) rfl)) rfl
theorem qc_X5_liftAt : Cond.code yX5_liftAt cX5_liftAt 1 (some .int) ∈ lw_all := lw_mem (mt_5 _ (List.mem_of_getElem? (i := 60) rfl)) rfl
theorem qm_L_165 : Cond.methodLink RL 165 yX4_goes ∈ lw_all := lw_mem (mt_1 _ (List.mem_of_getElem? (i := 200) rfl)) rfl
theorem qi_X4_goes : Cond.instanceMethod yX4_goes ∈ lw_all := lw_mem (mt_1 _ (List.mem_of_getElem? (i := 201) rfl)) rfl
theorem qs_X4_goes : Cond.selects RX4 yX4_goes yX4_goes ∈ lw_all := lw_mem (mt_1 _ (List.mem_of_getElem? (i := 202) rfl)) rfl
theorem qc_X4_goes : Cond.code yX4_goes cX4_goes 1 (some .int) ∈ lw_all := lw_mem (mt_1 _ (List.mem_of_getElem? (i := 203) rfl)) rfl
theorem qf_X4_151 : Cond.fieldLink RX4 151 "LiftNovel$Course" "way" "I" ∈ lw_all := lw_mem (mt_1 _ (List.mem_of_getElem? (i := 74) rfl)) rfl
theorem qm_L_168 : Cond.methodLink RL 168 yX5_goes ∈ lw_all := lw_mem (mt_5 _ (List.mem_of_getElem? (i := 61) rfl)) rfl
theorem qi_X5_goes : Cond.instanceMethod yX5_goes ∈ lw_all := lw_mem (mt_5 _ (List.mem_of_getElem? (i := 62) rfl)) rfl
theorem qs_X5_goes : Cond.selects RX5 yX5_goes yX5_goes ∈ lw_all := lw_mem (mt_5 _ (List.mem_of_getElem? (i := 63) rfl)) rfl
theorem qc_X5_goes : Cond.code yX5_goes cX5_goes 1 (some .int) ∈ lw_all := lw_mem (mt_5 _ (List.mem_of_getElem? (i := 64) rfl)) rfl
theorem qm_L_169 : Cond.methodLink RL 169 yL_isCalled ∈ lw_all := lw_mem (mt_4 _ (List.mem_of_getElem? (i := 21) rfl)) rfl
theorem qt_L_isCalled : Cond.static yL_isCalled ∈ lw_all := lw_mem (mt_4 _ (List.mem_of_getElem? (i := 22) rfl)) rfl
theorem qc_L_isCalled : Cond.codeWith yL_isCalled cL_isCalled 4 (some .int) [(0, 16, 19, 19)] ∈ lw_all := lw_mem (mt_4 _ (List.mem_of_getElem? (i := 23) rfl)) rfl
theorem qm_L_43 : Cond.methodLink RL 43 yX4_isCalled ∈ lw_all := lw_mem (mt_4 _ (List.mem_of_getElem? (i := 24) rfl)) rfl
theorem qi_X4_isCalled : Cond.instanceMethod yX4_isCalled ∈ lw_all := lw_mem (mt_3 _ (List.mem_of_getElem? (i := 34) rfl)) rfl
theorem qs_X4_isCalled : Cond.selects RX4 yX4_isCalled yX4_isCalled ∈ lw_all := lw_mem (mt_3 _ (List.mem_of_getElem? (i := 35) rfl)) rfl
theorem qc_X4_isCalled : Cond.code yX4_isCalled cX4_isCalled 2 (some .boolean) ∈ lw_all := lw_mem (mt_3 _ (List.mem_of_getElem? (i := 36) rfl)) rfl
theorem qm_L_171 : Cond.methodLink RL 171 yX5_isCalled ∈ lw_all := lw_mem (mt_5 _ (List.mem_of_getElem? (i := 65) rfl)) rfl
theorem qi_X5_isCalled : Cond.instanceMethod yX5_isCalled ∈ lw_all := lw_mem (mt_5 _ (List.mem_of_getElem? (i := 66) rfl)) rfl
theorem qs_X5_isCalled : Cond.selects RX5 yX5_isCalled yX5_isCalled ∈ lw_all := lw_mem (mt_5 _ (List.mem_of_getElem? (i := 67) rfl)) rfl
theorem qc_X5_isCalled : Cond.code yX5_isCalled cX5_isCalled 2 (some .boolean) ∈ lw_all := lw_mem (mt_5 _ (List.mem_of_getElem? (i := 68) rfl)) rfl
theorem qm_L_172 : Cond.methodLink RL 172 yX4_calls ∈ lw_all := lw_mem (mt_1 _ (List.mem_of_getElem? (i := 204) rfl)) rfl
theorem qi_X4_calls : Cond.instanceMethod yX4_calls ∈ lw_all := lw_mem (mt_1 _ (List.mem_of_getElem? (i := 205) rfl)) rfl
theorem qs_X4_calls : Cond.selects RX4 yX4_calls yX4_calls ∈ lw_all := lw_mem (mt_1 _ (List.mem_of_getElem? (i := 206) rfl)) rfl
theorem qc_X4_calls : Cond.code yX4_calls cX4_calls 1 (some .int) ∈ lw_all := lw_mem (mt_1 _ (List.mem_of_getElem? (i := 207) rfl)) rfl
theorem qm_X4_154 : Cond.methodLink RX4 154 yX0_countCalled ∈ lw_all := lw_mem (mt_1 _ (List.mem_of_getElem? (i := 208) rfl)) rfl
theorem qm_L_175 : Cond.methodLink RL 175 yX5_calls ∈ lw_all := lw_mem (mt_5 _ (List.mem_of_getElem? (i := 69) rfl)) rfl
theorem qi_X5_calls : Cond.instanceMethod yX5_calls ∈ lw_all := lw_mem (mt_5 _ (List.mem_of_getElem? (i := 70) rfl)) rfl
theorem qs_X5_calls : Cond.selects RX5 yX5_calls yX5_calls ∈ lw_all := lw_mem (mt_5 _ (List.mem_of_getElem? (i := 71) rfl)) rfl
theorem qc_X5_calls : Cond.code yX5_calls cX5_calls 1 (some .int) ∈ lw_all := lw_mem (mt_5 _ (List.mem_of_getElem? (i := 72) rfl)) rfl
theorem qm_L_176 : Cond.methodLink RL 176 yX4_stuckFor ∈ lw_all := lw_mem (mt_1 _ (List.mem_of_getElem? (i := 212) rfl)) rfl
theorem qi_X4_stuckFor : Cond.instanceMethod yX4_stuckFor ∈ lw_all := lw_mem (mt_1 _ (List.mem_of_getElem? (i := 213) rfl)) rfl
theorem qs_X4_stuckFor : Cond.selects RX4 yX4_stuckFor yX4_stuckFor ∈ lw_all := lw_mem (mt_1 _ (List.mem_of_getElem? (i := 214) rfl)) rfl
theorem qc_X4_stuckFor : Cond.code yX4_stuckFor cX4_stuckFor 1 (some .int) ∈ lw_all := lw_mem (mt_1 _ (List.mem_of_getElem? (i := 215) rfl)) rfl
theorem qm_L_179 : Cond.methodLink RL 179 yX5_stuckFor ∈ lw_all := lw_mem (mt_5 _ (List.mem_of_getElem? (i := 73) rfl)) rfl
theorem qi_X5_stuckFor : Cond.instanceMethod yX5_stuckFor ∈ lw_all := lw_mem (mt_5 _ (List.mem_of_getElem? (i := 74) rfl)) rfl
theorem qs_X5_stuckFor : Cond.selects RX5 yX5_stuckFor yX5_stuckFor ∈ lw_all := lw_mem (mt_5 _ (List.mem_of_getElem? (i := 75) rfl)) rfl
theorem qc_X5_stuckFor : Cond.code yX5_stuckFor cX5_stuckFor 1 (some .int) ∈ lw_all := lw_mem (mt_5 _ (List.mem_of_getElem? (i := 76) rfl)) rfl
theorem qm_L_180 : Cond.methodLink RL 180 yX4_wear ∈ lw_all := lw_mem (mt_1 _ (List.mem_of_getElem? (i := 216) rfl)) rfl
theorem qi_X4_wear : Cond.instanceMethod yX4_wear ∈ lw_all := lw_mem (mt_1 _ (List.mem_of_getElem? (i := 217) rfl)) rfl
theorem qs_X4_wear : Cond.selects RX4 yX4_wear yX4_wear ∈ lw_all := lw_mem (mt_1 _ (List.mem_of_getElem? (i := 218) rfl)) rfl
theorem qc_X4_wear : Cond.code yX4_wear cX4_wear 1 (some .int) ∈ lw_all := lw_mem (mt_1 _ (List.mem_of_getElem? (i := 219) rfl)) rfl
theorem qm_L_183 : Cond.methodLink RL 183 yX5_wear ∈ lw_all := lw_mem (mt_5 _ (List.mem_of_getElem? (i := 77) rfl)) rfl
theorem qi_X5_wear : Cond.instanceMethod yX5_wear ∈ lw_all := lw_mem (mt_5 _ (List.mem_of_getElem? (i := 78) rfl)) rfl
theorem qs_X5_wear : Cond.selects RX5 yX5_wear yX5_wear ∈ lw_all := lw_mem (mt_5 _ (List.mem_of_getElem? (i := 79) rfl)) rfl
theorem qc_X5_wear : Cond.code yX5_wear cX5_wear 1 (some .int) ∈ lw_all := lw_mem (mt_5 _ (List.mem_of_getElem? (i := 80) rfl)) rfl
theorem qm_L_184 : Cond.methodLink RL 184 yX4_limit ∈ lw_all := lw_mem (mt_1 _ (List.mem_of_getElem? (i := 220) rfl)) rfl
theorem qi_X4_limit : Cond.instanceMethod yX4_limit ∈ lw_all := lw_mem (mt_1 _ (List.mem_of_getElem? (i := 221) rfl)) rfl
theorem qs_X4_limit : Cond.selects RX4 yX4_limit yX4_limit ∈ lw_all := lw_mem (mt_1 _ (List.mem_of_getElem? (i := 222) rfl)) rfl
theorem qc_X4_limit : Cond.code yX4_limit cX4_limit 1 (some .int) ∈ lw_all := lw_mem (mt_1 _ (List.mem_of_getElem? (i := 223) rfl)) rfl
theorem qm_L_187 : Cond.methodLink RL 187 yX5_limit ∈ lw_all := lw_mem (mt_5 _ (List.mem_of_getElem? (i := 81) rfl)) rfl
theorem qi_X5_limit : Cond.instanceMethod yX5_limit ∈ lw_all := lw_mem (mt_5 _ (List.mem_of_getElem? (i := 82) rfl)) rfl
theorem qs_X5_limit : Cond.selects RX5 yX5_limit yX5_limit ∈ lw_all := lw_mem (mt_5 _ (List.mem_of_getElem? (i := 83) rfl)) rfl
theorem qc_X5_limit : Cond.code yX5_limit cX5_limit 1 (some .int) ∈ lw_all := lw_mem (mt_5 _ (List.mem_of_getElem? (i := 84) rfl)) rfl
theorem qm_L_188 : Cond.methodLink RL 188 yX4_suspense ∈ lw_all := lw_mem (mt_1 _ (List.mem_of_getElem? (i := 224) rfl)) rfl
theorem qi_X4_suspense : Cond.instanceMethod yX4_suspense ∈ lw_all := lw_mem (mt_1 _ (List.mem_of_getElem? (i := 225) rfl)) rfl
theorem qs_X4_suspense : Cond.selects RX4 yX4_suspense yX4_suspense ∈ lw_all := lw_mem (mt_1 _ (List.mem_of_getElem? (i := 226) rfl)) rfl
theorem qc_X4_suspense : Cond.code yX4_suspense cX4_suspense 1 (some .int) ∈ lw_all := lw_mem (mt_1 _ (List.mem_of_getElem? (i := 227) rfl)) rfl
theorem qf_X4_157 : Cond.fieldLink RX4 157 "LiftNovel$Course" "suspense" "I" ∈ lw_all := lw_mem (mt_1 _ (List.mem_of_getElem? (i := 80) rfl)) rfl
theorem qm_L_191 : Cond.methodLink RL 191 yX5_suspense ∈ lw_all := lw_mem (mt_5 _ (List.mem_of_getElem? (i := 85) rfl)) rfl
theorem qi_X5_suspense : Cond.instanceMethod yX5_suspense ∈ lw_all := lw_mem (mt_5 _ (List.mem_of_getElem? (i := 86) rfl)) rfl
theorem qs_X5_suspense : Cond.selects RX5 yX5_suspense yX5_suspense ∈ lw_all := lw_mem (mt_5 _ (List.mem_of_getElem? (i := 87) rfl)) rfl
theorem qc_X5_suspense : Cond.code yX5_suspense cX5_suspense 1 (some .int) ∈ lw_all := lw_mem (mt_5 _ (List.mem_of_getElem? (i := 88) rfl)) rfl
theorem qm_L_192 : Cond.methodLink RL 192 yL_paragraphs ∈ lw_all := lw_mem (mt_4 _ (List.mem_of_getElem? (i := 25) rfl)) rfl
theorem qt_L_paragraphs : Cond.static yL_paragraphs ∈ lw_all := lw_mem (mt_4 _ (List.mem_of_getElem? (i := 26) rfl)) rfl
theorem qc_L_paragraphs : Cond.codeWith yL_paragraphs cL_paragraphs 4 (some .int) [(0, 9, 12, 19)] ∈ lw_all := lw_mem (mt_4 _ (List.mem_of_getElem? (i := 27) rfl)) rfl
theorem qm_L_46 : Cond.methodLink RL 46 yX4_paragraphs ∈ lw_all := lw_mem (mt_4 _ (List.mem_of_getElem? (i := 28) rfl)) rfl
theorem qi_X4_paragraphs : Cond.instanceMethod yX4_paragraphs ∈ lw_all := lw_mem (mt_3 _ (List.mem_of_getElem? (i := 61) rfl)) rfl
theorem qs_X4_paragraphs : Cond.selects RX4 yX4_paragraphs yX4_paragraphs ∈ lw_all := lw_mem (mt_3 _ (List.mem_of_getElem? (i := 62) rfl)) rfl
theorem qc_X4_paragraphs : Cond.code yX4_paragraphs cX4_paragraphs 2 (some .int) ∈ lw_all := lw_mem (mt_3 _ (List.mem_of_getElem? (i := 63) rfl)) rfl
theorem qm_L_194 : Cond.methodLink RL 194 yX5_paragraphs ∈ lw_all := lw_mem (mt_5 _ (List.mem_of_getElem? (i := 89) rfl)) rfl
theorem qi_X5_paragraphs : Cond.instanceMethod yX5_paragraphs ∈ lw_all := lw_mem (mt_5 _ (List.mem_of_getElem? (i := 90) rfl)) rfl
theorem qs_X5_paragraphs : Cond.selects RX5 yX5_paragraphs yX5_paragraphs ∈ lw_all := lw_mem (mt_5 _ (List.mem_of_getElem? (i := 91) rfl)) rfl
theorem qc_X5_paragraphs : Cond.code yX5_paragraphs cX5_paragraphs 2 (some .int) ∈ lw_all := lw_mem (mt_5 _ (List.mem_of_getElem? (i := 92) rfl)) rfl
theorem qm_L_195 : Cond.methodLink RL 195 yL_nextParagraph ∈ lw_all := lw_mem (mt_4 _ (List.mem_of_getElem? (i := 29) rfl)) rfl
theorem qt_L_nextParagraph : Cond.static yL_nextParagraph ∈ lw_all := lw_mem (mt_4 _ (List.mem_of_getElem? (i := 30) rfl)) rfl
theorem qc_L_nextParagraph : Cond.codeWith yL_nextParagraph cL_nextParagraph 4 (some .int) [(0, 9, 12, 19)] ∈ lw_all := lw_mem (mt_4 _ (List.mem_of_getElem? (i := 31) rfl)) rfl
theorem qm_L_49 : Cond.methodLink RL 49 yX4_nextParagraph ∈ lw_all := lw_mem (mt_4 _ (List.mem_of_getElem? (i := 32) rfl)) rfl
theorem qi_X4_nextParagraph : Cond.instanceMethod yX4_nextParagraph ∈ lw_all := lw_mem (mt_3 _ (List.mem_of_getElem? (i := 65) rfl)) rfl
theorem qs_X4_nextParagraph : Cond.selects RX4 yX4_nextParagraph yX4_nextParagraph ∈ lw_all := lw_mem (mt_3 _ (List.mem_of_getElem? (i := 66) rfl)) rfl
theorem qc_X4_nextParagraph : Cond.code yX4_nextParagraph cX4_nextParagraph 2 (some .int) ∈ lw_all := lw_mem (mt_3 _ (List.mem_of_getElem? (i := 67) rfl)) rfl
theorem qm_L_197 : Cond.methodLink RL 197 yX5_nextParagraph ∈ lw_all := lw_mem (mt_5 _ (List.mem_of_getElem? (i := 93) rfl)) rfl
theorem qi_X5_nextParagraph : Cond.instanceMethod yX5_nextParagraph ∈ lw_all := lw_mem (mt_5 _ (List.mem_of_getElem? (i := 94) rfl)) rfl
theorem qs_X5_nextParagraph : Cond.selects RX5 yX5_nextParagraph yX5_nextParagraph ∈ lw_all := lw_mem (mt_5 _ (List.mem_of_getElem? (i := 95) rfl)) rfl
theorem qc_X5_nextParagraph : Cond.code yX5_nextParagraph cX5_nextParagraph 2 (some .int) ∈ lw_all := lw_mem (mt_5 _ (List.mem_of_getElem? (i := 96) rfl)) rfl
theorem qm_X5_127 : Cond.methodLink RX5 127 yX5_next ∈ lw_all := lw_mem (mt_5 _ (List.mem_of_getElem? (i := 97) rfl)) rfl
theorem qi_X5_next : Cond.instanceMethod yX5_next ∈ lw_all := lw_mem (mt_5 _ (List.mem_of_getElem? (i := 99) rfl)) rfl
theorem qs_X5_next : Cond.selects RX5 yX5_next yX5_next ∈ lw_all := lw_mem (mt_0 _ (List.mem_of_getElem? (i := 26) rfl)) rfl
theorem qc_X5_next : Cond.code yX5_next cX5_next 2 (some .int) ∈ lw_all := lw_mem (mt_5 _ (List.mem_of_getElem? (i := 100) rfl)) rfl
theorem qm_L_198 : Cond.methodLink RL 198 yL_topicOf ∈ lw_all := lw_mem (mt_4 _ (List.mem_of_getElem? (i := 33) rfl)) rfl
theorem qt_L_topicOf : Cond.static yL_topicOf ∈ lw_all := lw_mem (mt_4 _ (List.mem_of_getElem? (i := 34) rfl)) rfl
theorem qc_L_topicOf : Cond.codeWith yL_topicOf cL_topicOf 5 (some .int) [(0, 10, 13, 19)] ∈ lw_all := lw_mem (mt_4 _ (List.mem_of_getElem? (i := 35) rfl)) rfl
theorem qm_L_52 : Cond.methodLink RL 52 yX4_topicOf ∈ lw_all := lw_mem (mt_4 _ (List.mem_of_getElem? (i := 36) rfl)) rfl
theorem qi_X4_topicOf : Cond.instanceMethod yX4_topicOf ∈ lw_all := lw_mem (mt_4 _ (List.mem_of_getElem? (i := 37) rfl)) rfl
theorem qs_X4_topicOf : Cond.selects RX4 yX4_topicOf yX4_topicOf ∈ lw_all := lw_mem (mt_4 _ (List.mem_of_getElem? (i := 38) rfl)) rfl
theorem qc_X4_topicOf : Cond.code yX4_topicOf cX4_topicOf 3 (some .int) ∈ lw_all := lw_mem (mt_4 _ (List.mem_of_getElem? (i := 39) rfl)) rfl
theorem qm_X4_160 : Cond.methodLink RX4 160 yX4_needParagraph ∈ lw_all := lw_mem (mt_4 _ (List.mem_of_getElem? (i := 40) rfl)) rfl
theorem qi_X4_needParagraph : Cond.instanceMethod yX4_needParagraph ∈ lw_all := lw_mem (mt_4 _ (List.mem_of_getElem? (i := 42) rfl)) rfl
theorem qs_X4_needParagraph : Cond.selects RX4 yX4_needParagraph yX4_needParagraph ∈ lw_all := lw_mem (mt_0 _ (List.mem_of_getElem? (i := 14) rfl)) rfl
theorem qc_X4_needParagraph : Cond.code yX4_needParagraph cX4_needParagraph 3 none ∈ lw_all := lw_mem (mt_4 _ (List.mem_of_getElem? (i := 43) rfl)) rfl
theorem qm_X4_164 : Cond.methodLink RX4 164 yX1_topicAt ∈ lw_all := lw_mem (mt_2 _ (List.mem_of_getElem? (i := 63) rfl)) rfl
theorem qm_L_200 : Cond.methodLink RL 200 yX5_topicOf ∈ lw_all := lw_mem (mt_5 _ (List.mem_of_getElem? (i := 101) rfl)) rfl
theorem qi_X5_topicOf : Cond.instanceMethod yX5_topicOf ∈ lw_all := lw_mem (mt_5 _ (List.mem_of_getElem? (i := 102) rfl)) rfl
theorem qs_X5_topicOf : Cond.selects RX5 yX5_topicOf yX5_topicOf ∈ lw_all := lw_mem (mt_5 _ (List.mem_of_getElem? (i := 103) rfl)) rfl
theorem qc_X5_topicOf : Cond.code yX5_topicOf cX5_topicOf 3 (some .int) ∈ lw_all := lw_mem (mt_5 _ (List.mem_of_getElem? (i := 104) rfl)) rfl
theorem qm_X5_130 : Cond.methodLink RX5 130 yX5_of ∈ lw_all := lw_mem (mt_5 _ (List.mem_of_getElem? (i := 105) rfl)) rfl
theorem qi_X5_of : Cond.instanceMethod yX5_of ∈ lw_all := lw_mem (mt_5 _ (List.mem_of_getElem? (i := 107) rfl)) rfl
theorem qs_X5_of : Cond.selects RX5 yX5_of yX5_of ∈ lw_all := lw_mem (mt_0 _ (List.mem_of_getElem? (i := 27) rfl)) rfl
theorem qc_X5_of : Cond.code yX5_of cX5_of 4 (some .int) ∈ lw_all := lw_mem (mt_5 _ (List.mem_of_getElem? (i := 108) rfl)) rfl
theorem qm_L_201 : Cond.methodLink RL 201 yL_thrillOf ∈ lw_all := lw_mem (mt_4 _ (List.mem_of_getElem? (i := 45) rfl)) rfl
theorem qt_L_thrillOf : Cond.static yL_thrillOf ∈ lw_all := lw_mem (mt_4 _ (List.mem_of_getElem? (i := 46) rfl)) rfl
theorem qc_L_thrillOf : Cond.codeWith yL_thrillOf cL_thrillOf 5 (some .int) [(0, 10, 13, 19)] ∈ lw_all := lw_mem (mt_4 _ (List.mem_of_getElem? (i := 47) rfl)) rfl
theorem qm_L_55 : Cond.methodLink RL 55 yX4_thrillOf ∈ lw_all := lw_mem (mt_4 _ (List.mem_of_getElem? (i := 48) rfl)) rfl
theorem qi_X4_thrillOf : Cond.instanceMethod yX4_thrillOf ∈ lw_all := lw_mem (mt_4 _ (List.mem_of_getElem? (i := 49) rfl)) rfl
theorem qs_X4_thrillOf : Cond.selects RX4 yX4_thrillOf yX4_thrillOf ∈ lw_all := lw_mem (mt_4 _ (List.mem_of_getElem? (i := 50) rfl)) rfl
theorem qc_X4_thrillOf : Cond.code yX4_thrillOf cX4_thrillOf 3 (some .int) ∈ lw_all := lw_mem (mt_4 _ (List.mem_of_getElem? (i := 51) rfl)) rfl
theorem qm_X4_167 : Cond.methodLink RX4 167 yX1_thrillAt ∈ lw_all := lw_mem (mt_4 _ (List.mem_of_getElem? (i := 52) rfl)) rfl
theorem qm_L_203 : Cond.methodLink RL 203 yX5_thrillOf ∈ lw_all := lw_mem (mt_5 _ (List.mem_of_getElem? (i := 109) rfl)) rfl
theorem qi_X5_thrillOf : Cond.instanceMethod yX5_thrillOf ∈ lw_all := lw_mem (mt_5 _ (List.mem_of_getElem? (i := 110) rfl)) rfl
theorem qs_X5_thrillOf : Cond.selects RX5 yX5_thrillOf yX5_thrillOf ∈ lw_all := lw_mem (mt_5 _ (List.mem_of_getElem? (i := 111) rfl)) rfl
theorem qc_X5_thrillOf : Cond.code yX5_thrillOf cX5_thrillOf 3 (some .int) ∈ lw_all := lw_mem (mt_5 _ (List.mem_of_getElem? (i := 112) rfl)) rfl
theorem qm_L_204 : Cond.methodLink RL 204 yL_cutOn ∈ lw_all := lw_mem (mt_4 _ (List.mem_of_getElem? (i := 53) rfl)) rfl
theorem qt_L_cutOn : Cond.static yL_cutOn ∈ lw_all := lw_mem (mt_4 _ (List.mem_of_getElem? (i := 54) rfl)) rfl
theorem qc_L_cutOn : Cond.codeWith yL_cutOn cL_cutOn 4 (some .int) [(0, 9, 12, 19)] ∈ lw_all := lw_mem (mt_4 _ (List.mem_of_getElem? (i := 55) rfl)) rfl
theorem qm_L_58 : Cond.methodLink RL 58 yX4_cutOn ∈ lw_all := lw_mem (mt_4 _ (List.mem_of_getElem? (i := 56) rfl)) rfl
theorem qi_X4_cutOn : Cond.instanceMethod yX4_cutOn ∈ lw_all := lw_mem (mt_3 _ (List.mem_of_getElem? (i := 69) rfl)) rfl
theorem qs_X4_cutOn : Cond.selects RX4 yX4_cutOn yX4_cutOn ∈ lw_all := lw_mem (mt_3 _ (List.mem_of_getElem? (i := 70) rfl)) rfl
theorem qc_X4_cutOn : Cond.code yX4_cutOn cX4_cutOn 2 (some .int) ∈ lw_all := lw_mem (mt_3 _ (List.mem_of_getElem? (i := 71) rfl)) rfl
theorem qf_X4_170 : Cond.fieldLink RX4 170 "LiftNovel$Course" "cut" "[I" ∈ lw_all := lw_mem (mt_1 _ (List.mem_of_getElem? (i := 87) rfl)) rfl
theorem qm_L_206 : Cond.methodLink RL 206 yX5_cutOn ∈ lw_all := lw_mem (mt_5 _ (List.mem_of_getElem? (i := 113) rfl)) rfl
theorem qi_X5_cutOn : Cond.instanceMethod yX5_cutOn ∈ lw_all := lw_mem (mt_5 _ (List.mem_of_getElem? (i := 114) rfl)) rfl
theorem qs_X5_cutOn : Cond.selects RX5 yX5_cutOn yX5_cutOn ∈ lw_all := lw_mem (mt_5 _ (List.mem_of_getElem? (i := 115) rfl)) rfl
theorem qc_X5_cutOn : Cond.code yX5_cutOn cX5_cutOn 2 (some .int) ∈ lw_all := lw_mem (mt_5 _ (List.mem_of_getElem? (i := 116) rfl)) rfl
theorem qm_L_207 : Cond.methodLink RL 207 yL_isForbidden ∈ lw_all := lw_mem (mt_4 _ (List.mem_of_getElem? (i := 57) rfl)) rfl
theorem qt_L_isForbidden : Cond.static yL_isForbidden ∈ lw_all := lw_mem (mt_4 _ (List.mem_of_getElem? (i := 58) rfl)) rfl
theorem qc_L_isForbidden : Cond.codeWith yL_isForbidden cL_isForbidden 4 (some .int) [(0, 16, 19, 19)] ∈ lw_all := lw_mem (mt_4 _ (List.mem_of_getElem? (i := 59) rfl)) rfl
theorem qm_L_61 : Cond.methodLink RL 61 yX4_isForbidden ∈ lw_all := lw_mem (mt_4 _ (List.mem_of_getElem? (i := 60) rfl)) rfl
theorem qi_X4_isForbidden : Cond.instanceMethod yX4_isForbidden ∈ lw_all := lw_mem (mt_3 _ (List.mem_of_getElem? (i := 81) rfl)) rfl
theorem qs_X4_isForbidden : Cond.selects RX4 yX4_isForbidden yX4_isForbidden ∈ lw_all := lw_mem (mt_3 _ (List.mem_of_getElem? (i := 82) rfl)) rfl
theorem qc_X4_isForbidden : Cond.code yX4_isForbidden cX4_isForbidden 2 (some .boolean) ∈ lw_all := lw_mem (mt_3 _ (List.mem_of_getElem? (i := 83) rfl)) rfl
theorem qm_L_209 : Cond.methodLink RL 209 yX5_isForbidden ∈ lw_all := lw_mem (mt_5 _ (List.mem_of_getElem? (i := 117) rfl)) rfl
theorem qi_X5_isForbidden : Cond.instanceMethod yX5_isForbidden ∈ lw_all := lw_mem (mt_5 _ (List.mem_of_getElem? (i := 118) rfl)) rfl
theorem qs_X5_isForbidden : Cond.selects RX5 yX5_isForbidden yX5_isForbidden ∈ lw_all := lw_mem (mt_5 _ (List.mem_of_getElem? (i := 119) rfl)) rfl
theorem qc_X5_isForbidden : Cond.code yX5_isForbidden cX5_isForbidden 2 (some .boolean) ∈ lw_all := lw_mem (mt_5 _ (List.mem_of_getElem? (i := 120) rfl)) rfl
theorem qm_L_210 : Cond.methodLink RL 210 yX4_cuts ∈ lw_all := lw_mem (mt_1 _ (List.mem_of_getElem? (i := 228) rfl)) rfl
theorem qi_X4_cuts : Cond.instanceMethod yX4_cuts ∈ lw_all := lw_mem (mt_1 _ (List.mem_of_getElem? (i := 229) rfl)) rfl
theorem qs_X4_cuts : Cond.selects RX4 yX4_cuts yX4_cuts ∈ lw_all := lw_mem (mt_1 _ (List.mem_of_getElem? (i := 230) rfl)) rfl
theorem qc_X4_cuts : Cond.code yX4_cuts cX4_cuts 1 (some .int) ∈ lw_all := lw_mem (mt_1 _ (List.mem_of_getElem? (i := 231) rfl)) rfl
theorem qm_X4_173 : Cond.methodLink RX4 173 yX0_countCut ∈ lw_all := lw_mem (mt_1 _ (List.mem_of_getElem? (i := 232) rfl)) rfl
theorem qi_X0_countCut : Cond.instanceMethod yX0_countCut ∈ lw_all := lw_mem (mt_1 _ (List.mem_of_getElem? (i := 233) rfl)) rfl
theorem qs_X0_countCut : Cond.selects RX0 yX0_countCut yX0_countCut ∈ lw_all := lw_mem (mt_1 _ (List.mem_of_getElem? (i := 234) rfl)) rfl
theorem qc_X0_countCut : Cond.code yX0_countCut cX0_countCut 3 (some .int) ∈ lw_all := lw_mem (mt_1 _ (List.mem_of_getElem? (i := 235) rfl)) rfl
theorem qm_L_213 : Cond.methodLink RL 213 yX5_cuts ∈ lw_all := lw_mem (mt_5 _ (List.mem_of_getElem? (i := 121) rfl)) rfl
theorem qi_X5_cuts : Cond.instanceMethod yX5_cuts ∈ lw_all := lw_mem (mt_5 _ (List.mem_of_getElem? (i := 122) rfl)) rfl
theorem qs_X5_cuts : Cond.selects RX5 yX5_cuts yX5_cuts ∈ lw_all := lw_mem (mt_5 _ (List.mem_of_getElem? (i := 123) rfl)) rfl
theorem qc_X5_cuts : Cond.code yX5_cuts cX5_cuts 1 (some .int) ∈ lw_all := lw_mem (mt_5 _ (List.mem_of_getElem? (i := 124) rfl)) rfl
theorem qm_X5_134 : Cond.methodLink RX5 134 yX5_cut ∈ lw_all := lw_mem (mt_5 _ (List.mem_of_getElem? (i := 125) rfl)) rfl
theorem qi_X5_cut : Cond.instanceMethod yX5_cut ∈ lw_all := lw_mem (mt_5 _ (List.mem_of_getElem? (i := 127) rfl)) rfl
theorem qs_X5_cut : Cond.selects RX5 yX5_cut yX5_cut ∈ lw_all := lw_mem (mt_0 _ (List.mem_of_getElem? (i := 28) rfl)) rfl
theorem qc_X5_cut : Cond.code yX5_cut cX5_cut 3 (some .int) ∈ lw_all := lw_mem (mt_5 _ (List.mem_of_getElem? (i := 128) rfl)) rfl
theorem qm_L_214 : Cond.methodLink RL 214 yL_toCome ∈ lw_all := lw_mem (mt_4 _ (List.mem_of_getElem? (i := 61) rfl)) rfl
theorem qt_L_toCome : Cond.static yL_toCome ∈ lw_all := lw_mem (mt_4 _ (List.mem_of_getElem? (i := 62) rfl)) rfl
theorem qc_L_toCome : Cond.codeWith yL_toCome cL_toCome 4 (some .int) [(0, 9, 12, 19)] ∈ lw_all := lw_mem (mt_4 _ (List.mem_of_getElem? (i := 63) rfl)) rfl
theorem qm_L_64 : Cond.methodLink RL 64 yX4_toCome ∈ lw_all := lw_mem (mt_4 _ (List.mem_of_getElem? (i := 64) rfl)) rfl
theorem qi_X4_toCome : Cond.instanceMethod yX4_toCome ∈ lw_all := lw_mem (mt_3 _ (List.mem_of_getElem? (i := 92) rfl)) rfl
theorem qs_X4_toCome : Cond.selects RX4 yX4_toCome yX4_toCome ∈ lw_all := lw_mem (mt_3 _ (List.mem_of_getElem? (i := 93) rfl)) rfl
theorem qc_X4_toCome : Cond.code yX4_toCome cX4_toCome 2 (some .int) ∈ lw_all := lw_mem (mt_3 _ (List.mem_of_getElem? (i := 94) rfl)) rfl
theorem qm_X4_176 : Cond.methodLink RX4 176 yX0_countToCome ∈ lw_all := lw_mem (mt_3 _ (List.mem_of_getElem? (i := 95) rfl)) rfl
theorem qi_X0_countToCome : Cond.instanceMethod yX0_countToCome ∈ lw_all := lw_mem (mt_3 _ (List.mem_of_getElem? (i := 96) rfl)) rfl
theorem qs_X0_countToCome : Cond.selects RX0 yX0_countToCome yX0_countToCome ∈ lw_all := lw_mem (mt_3 _ (List.mem_of_getElem? (i := 97) rfl)) rfl
theorem qc_X0_countToCome : Cond.code yX0_countToCome cX0_countToCome 5 (some .int) ∈ lw_all := lw_mem (mt_3 _ (List.mem_of_getElem? (i := 98) rfl)) rfl
theorem qf_X0_122 : Cond.fieldLink RX0 122 "LiftNovel$House" "floors" "I" ∈ lw_all := lw_mem (mt_1 _ (List.mem_of_getElem? (i := 31) rfl)) rfl
theorem qm_L_216 : Cond.methodLink RL 216 yX5_toCome ∈ lw_all := lw_mem (mt_5 _ (List.mem_of_getElem? (i := 129) rfl)) rfl
theorem qi_X5_toCome : Cond.instanceMethod yX5_toCome ∈ lw_all := lw_mem (mt_5 _ (List.mem_of_getElem? (i := 130) rfl)) rfl
theorem qs_X5_toCome : Cond.selects RX5 yX5_toCome yX5_toCome ∈ lw_all := lw_mem (mt_5 _ (List.mem_of_getElem? (i := 131) rfl)) rfl
theorem qc_X5_toCome : Cond.code yX5_toCome cX5_toCome 2 (some .int) ∈ lw_all := lw_mem (mt_5 _ (List.mem_of_getElem? (i := 132) rfl)) rfl
theorem qm_X5_137 : Cond.methodLink RX5 137 yX5_comes ∈ lw_all := lw_mem (mt_5 _ (List.mem_of_getElem? (i := 133) rfl)) rfl
theorem qi_X5_comes : Cond.instanceMethod yX5_comes ∈ lw_all := lw_mem (mt_5 _ (List.mem_of_getElem? (i := 135) rfl)) rfl
theorem qs_X5_comes : Cond.selects RX5 yX5_comes yX5_comes ∈ lw_all := lw_mem (mt_0 _ (List.mem_of_getElem? (i := 29) rfl)) rfl
theorem qc_X5_comes : Cond.code yX5_comes cX5_comes 5 (some .int) ∈ lw_all := lw_mem (mt_5 _ (List.mem_of_getElem? (i := 136) rfl)) rfl
theorem qm_L_217 : Cond.methodLink RL 217 yX4_instalments ∈ lw_all := lw_mem (mt_1 _ (List.mem_of_getElem? (i := 236) rfl)) rfl
theorem qi_X4_instalments : Cond.instanceMethod yX4_instalments ∈ lw_all := lw_mem (mt_1 _ (List.mem_of_getElem? (i := 237) rfl)) rfl
theorem qs_X4_instalments : Cond.selects RX4 yX4_instalments yX4_instalments ∈ lw_all := lw_mem (mt_1 _ (List.mem_of_getElem? (i := 238) rfl)) rfl
theorem qc_X4_instalments : Cond.code yX4_instalments cX4_instalments 1 (some .int) ∈ lw_all := lw_mem (mt_1 _ (List.mem_of_getElem? (i := 239) rfl)) rfl
theorem qm_L_220 : Cond.methodLink RL 220 yX5_instalments ∈ lw_all := lw_mem (mt_5 _ (List.mem_of_getElem? (i := 137) rfl)) rfl
theorem qi_X5_instalments : Cond.instanceMethod yX5_instalments ∈ lw_all := lw_mem (mt_5 _ (List.mem_of_getElem? (i := 138) rfl)) rfl
theorem qs_X5_instalments : Cond.selects RX5 yX5_instalments yX5_instalments ∈ lw_all := lw_mem (mt_5 _ (List.mem_of_getElem? (i := 139) rfl)) rfl
theorem qc_X5_instalments : Cond.code yX5_instalments cX5_instalments 1 (some .int) ∈ lw_all := lw_mem (mt_5 _ (List.mem_of_getElem? (i := 140) rfl)) rfl
theorem qm_L_221 : Cond.methodLink RL 221 yL_floorIn ∈ lw_all := lw_mem (mt_4 _ (List.mem_of_getElem? (i := 65) rfl)) rfl
theorem qt_L_floorIn : Cond.static yL_floorIn ∈ lw_all := lw_mem (mt_4 _ (List.mem_of_getElem? (i := 66) rfl)) rfl
theorem qc_L_floorIn : Cond.codeWith yL_floorIn cL_floorIn 4 (some .int) [(0, 9, 12, 19)] ∈ lw_all := lw_mem (mt_4 _ (List.mem_of_getElem? (i := 67) rfl)) rfl
theorem qm_L_67 : Cond.methodLink RL 67 yX4_floorIn ∈ lw_all := lw_mem (mt_4 _ (List.mem_of_getElem? (i := 68) rfl)) rfl
theorem qi_X4_floorIn : Cond.instanceMethod yX4_floorIn ∈ lw_all := lw_mem (mt_3 _ (List.mem_of_getElem? (i := 104) rfl)) rfl
theorem qs_X4_floorIn : Cond.selects RX4 yX4_floorIn yX4_floorIn ∈ lw_all := lw_mem (mt_3 _ (List.mem_of_getElem? (i := 105) rfl)) rfl
theorem qc_X4_floorIn : Cond.code yX4_floorIn cX4_floorIn 2 (some .int) ∈ lw_all := lw_mem (mt_3 _ (List.mem_of_getElem? (i := 106) rfl)) rfl
theorem qf_X4_183 : Cond.fieldLink RX4 183 "LiftNovel$Instalments" "floors" "[I" ∈ lw_all := lw_mem (mt_1 _ (List.mem_of_getElem? (i := 133) rfl)) rfl
theorem qm_X4_180 : Cond.methodLink RX4 180 yX4_needInstalment ∈ lw_all := lw_mem (mt_3 _ (List.mem_of_getElem? (i := 107) rfl)) rfl
theorem qi_X4_needInstalment : Cond.instanceMethod yX4_needInstalment ∈ lw_all := lw_mem (mt_3 _ (List.mem_of_getElem? (i := 109) rfl)) rfl
theorem qs_X4_needInstalment : Cond.selects RX4 yX4_needInstalment yX4_needInstalment ∈ lw_all := lw_mem (mt_0 _ (List.mem_of_getElem? (i := 9) rfl)) rfl
theorem qc_X4_needInstalment : Cond.code yX4_needInstalment cX4_needInstalment 2 none ∈ lw_all := lw_mem (mt_3 _ (List.mem_of_getElem? (i := 110) rfl)) rfl
theorem qm_L_223 : Cond.methodLink RL 223 yX5_floorIn ∈ lw_all := lw_mem (mt_5 _ (List.mem_of_getElem? (i := 141) rfl)) rfl
theorem qi_X5_floorIn : Cond.instanceMethod yX5_floorIn ∈ lw_all := lw_mem (mt_5 _ (List.mem_of_getElem? (i := 142) rfl)) rfl
theorem qs_X5_floorIn : Cond.selects RX5 yX5_floorIn yX5_floorIn ∈ lw_all := lw_mem (mt_5 _ (List.mem_of_getElem? (i := 143) rfl)) rfl
theorem qc_X5_floorIn : Cond.code yX5_floorIn cX5_floorIn 2 (some .int) ∈ lw_all := lw_mem (mt_5 _ (List.mem_of_getElem? (i := 144) rfl)) rfl
theorem qm_X5_140 : Cond.methodLink RX5 140 yX5_isInstalment ∈ lw_all := lw_mem (mt_5 _ (List.mem_of_getElem? (i := 145) rfl)) rfl
theorem qi_X5_isInstalment : Cond.instanceMethod yX5_isInstalment ∈ lw_all := lw_mem (mt_5 _ (List.mem_of_getElem? (i := 147) rfl)) rfl
theorem qs_X5_isInstalment : Cond.selects RX5 yX5_isInstalment yX5_isInstalment ∈ lw_all := lw_mem (mt_0 _ (List.mem_of_getElem? (i := 30) rfl)) rfl
theorem qc_X5_isInstalment : Cond.code yX5_isInstalment cX5_isInstalment 2 (some .boolean) ∈ lw_all := lw_mem (mt_5 _ (List.mem_of_getElem? (i := 148) rfl)) rfl
theorem qm_L_224 : Cond.methodLink RL 224 yL_paragraphIn ∈ lw_all := lw_mem (mt_4 _ (List.mem_of_getElem? (i := 69) rfl)) rfl
theorem qt_L_paragraphIn : Cond.static yL_paragraphIn ∈ lw_all := lw_mem (mt_4 _ (List.mem_of_getElem? (i := 70) rfl)) rfl
theorem qc_L_paragraphIn : Cond.codeWith yL_paragraphIn cL_paragraphIn 4 (some .int) [(0, 9, 12, 19)] ∈ lw_all := lw_mem (mt_4 _ (List.mem_of_getElem? (i := 71) rfl)) rfl
theorem qm_L_70 : Cond.methodLink RL 70 yX4_paragraphIn ∈ lw_all := lw_mem (mt_4 _ (List.mem_of_getElem? (i := 72) rfl)) rfl
theorem qi_X4_paragraphIn : Cond.instanceMethod yX4_paragraphIn ∈ lw_all := lw_mem (mt_3 _ (List.mem_of_getElem? (i := 113) rfl)) rfl
theorem qs_X4_paragraphIn : Cond.selects RX4 yX4_paragraphIn yX4_paragraphIn ∈ lw_all := lw_mem (mt_3 _ (List.mem_of_getElem? (i := 114) rfl)) rfl
theorem qc_X4_paragraphIn : Cond.code yX4_paragraphIn cX4_paragraphIn 2 (some .int) ∈ lw_all := lw_mem (mt_3 _ (List.mem_of_getElem? (i := 115) rfl)) rfl
theorem qf_X4_185 : Cond.fieldLink RX4 185 "LiftNovel$Instalments" "paragraphs" "[I" ∈ lw_all := lw_mem (mt_1 _ (List.mem_of_getElem? (i := 135) rfl)) rfl
theorem qm_L_226 : Cond.methodLink RL 226 yX5_paragraphIn ∈ lw_all := lw_mem (mt_5 _ (List.mem_of_getElem? (i := 149) rfl)) rfl
theorem qi_X5_paragraphIn : Cond.instanceMethod yX5_paragraphIn ∈ lw_all := lw_mem (mt_5 _ (List.mem_of_getElem? (i := 150) rfl)) rfl
theorem qs_X5_paragraphIn : Cond.selects RX5 yX5_paragraphIn yX5_paragraphIn ∈ lw_all := lw_mem (mt_5 _ (List.mem_of_getElem? (i := 151) rfl)) rfl
theorem qc_X5_paragraphIn : Cond.code yX5_paragraphIn cX5_paragraphIn 2 (some .int) ∈ lw_all := lw_mem (mt_5 _ (List.mem_of_getElem? (i := 152) rfl)) rfl
theorem qm_L_227 : Cond.methodLink RL 227 yL_thrillIn ∈ lw_all := lw_mem (mt_4 _ (List.mem_of_getElem? (i := 73) rfl)) rfl
theorem qt_L_thrillIn : Cond.static yL_thrillIn ∈ lw_all := lw_mem (mt_4 _ (List.mem_of_getElem? (i := 74) rfl)) rfl
theorem qc_L_thrillIn : Cond.codeWith yL_thrillIn cL_thrillIn 4 (some .int) [(0, 9, 12, 19)] ∈ lw_all := lw_mem (mt_4 _ (List.mem_of_getElem? (i := 75) rfl)) rfl
theorem qm_L_73 : Cond.methodLink RL 73 yX4_thrillIn ∈ lw_all := lw_mem (mt_4 _ (List.mem_of_getElem? (i := 76) rfl)) rfl
theorem qi_X4_thrillIn : Cond.instanceMethod yX4_thrillIn ∈ lw_all := lw_mem (mt_3 _ (List.mem_of_getElem? (i := 117) rfl)) rfl
theorem qs_X4_thrillIn : Cond.selects RX4 yX4_thrillIn yX4_thrillIn ∈ lw_all := lw_mem (mt_3 _ (List.mem_of_getElem? (i := 118) rfl)) rfl
theorem qc_X4_thrillIn : Cond.code yX4_thrillIn cX4_thrillIn 2 (some .int) ∈ lw_all := lw_mem (mt_3 _ (List.mem_of_getElem? (i := 119) rfl)) rfl
theorem qf_X4_188 : Cond.fieldLink RX4 188 "LiftNovel$Instalments" "thrills" "[I" ∈ lw_all := lw_mem (mt_1 _ (List.mem_of_getElem? (i := 137) rfl)) rfl
theorem qm_L_229 : Cond.methodLink RL 229 yX5_thrillIn ∈ lw_all := lw_mem (mt_5 _ (List.mem_of_getElem? (i := 153) rfl)) rfl
theorem qi_X5_thrillIn : Cond.instanceMethod yX5_thrillIn ∈ lw_all := lw_mem (mt_5 _ (List.mem_of_getElem? (i := 154) rfl)) rfl
theorem qs_X5_thrillIn : Cond.selects RX5 yX5_thrillIn yX5_thrillIn ∈ lw_all := lw_mem (mt_5 _ (List.mem_of_getElem? (i := 155) rfl)) rfl
theorem qc_X5_thrillIn : Cond.code yX5_thrillIn cX5_thrillIn 2 (some .int) ∈ lw_all := lw_mem (mt_5 _ (List.mem_of_getElem? (i := 156) rfl)) rfl
theorem qm_L_230 : Cond.methodLink RL 230 yL_hourIn ∈ lw_all := lw_mem (mt_4 _ (List.mem_of_getElem? (i := 77) rfl)) rfl
theorem qt_L_hourIn : Cond.static yL_hourIn ∈ lw_all := lw_mem (mt_4 _ (List.mem_of_getElem? (i := 78) rfl)) rfl
theorem qc_L_hourIn : Cond.codeWith yL_hourIn cL_hourIn 4 (some .int) [(0, 9, 12, 19)] ∈ lw_all := lw_mem (mt_4 _ (List.mem_of_getElem? (i := 79) rfl)) rfl
theorem qm_L_76 : Cond.methodLink RL 76 yX4_hourIn ∈ lw_all := lw_mem (mt_4 _ (List.mem_of_getElem? (i := 80) rfl)) rfl
theorem qi_X4_hourIn : Cond.instanceMethod yX4_hourIn ∈ lw_all := lw_mem (mt_3 _ (List.mem_of_getElem? (i := 121) rfl)) rfl
theorem qs_X4_hourIn : Cond.selects RX4 yX4_hourIn yX4_hourIn ∈ lw_all := lw_mem (mt_3 _ (List.mem_of_getElem? (i := 122) rfl)) rfl
theorem qc_X4_hourIn : Cond.code yX4_hourIn cX4_hourIn 2 (some .int) ∈ lw_all := lw_mem (mt_3 _ (List.mem_of_getElem? (i := 123) rfl)) rfl
theorem qf_X4_191 : Cond.fieldLink RX4 191 "LiftNovel$Instalments" "hours" "[I" ∈ lw_all := lw_mem (mt_1 _ (List.mem_of_getElem? (i := 139) rfl)) rfl
theorem qm_L_232 : Cond.methodLink RL 232 yX5_hourIn ∈ lw_all := lw_mem (mt_5 _ (List.mem_of_getElem? (i := 157) rfl)) rfl
theorem qi_X5_hourIn : Cond.instanceMethod yX5_hourIn ∈ lw_all := lw_mem (mt_5 _ (List.mem_of_getElem? (i := 158) rfl)) rfl
theorem qs_X5_hourIn : Cond.selects RX5 yX5_hourIn yX5_hourIn ∈ lw_all := lw_mem (mt_5 _ (List.mem_of_getElem? (i := 159) rfl)) rfl
theorem qc_X5_hourIn : Cond.code yX5_hourIn cX5_hourIn 2 (some .int) ∈ lw_all := lw_mem (mt_5 _ (List.mem_of_getElem? (i := 160) rfl)) rfl
theorem qm_L_233 : Cond.methodLink RL 233 yX4_mostThrilling ∈ lw_all := lw_mem (mt_2 _ (List.mem_of_getElem? (i := 0) rfl)) rfl
theorem qi_X4_mostThrilling : Cond.instanceMethod yX4_mostThrilling ∈ lw_all := lw_mem (mt_2 _ (List.mem_of_getElem? (i := 1) rfl)) rfl
theorem qs_X4_mostThrilling : Cond.selects RX4 yX4_mostThrilling yX4_mostThrilling ∈ lw_all := lw_mem (mt_2 _ (List.mem_of_getElem? (i := 2) rfl)) rfl
theorem qc_X4_mostThrilling : Cond.code yX4_mostThrilling cX4_mostThrilling 1 (some .int) ∈ lw_all := lw_mem (mt_2 _ (List.mem_of_getElem? (i := 3) rfl)) rfl
theorem qm_X4_194 : Cond.methodLink RX4 194 yX2_findMostThrilling ∈ lw_all := lw_mem (mt_2 _ (List.mem_of_getElem? (i := 4) rfl)) rfl
theorem qi_X2_findMostThrilling : Cond.instanceMethod yX2_findMostThrilling ∈ lw_all := lw_mem (mt_2 _ (List.mem_of_getElem? (i := 5) rfl)) rfl
theorem qs_X2_findMostThrilling : Cond.selects RX2 yX2_findMostThrilling yX2_findMostThrilling ∈ lw_all := lw_mem (mt_2 _ (List.mem_of_getElem? (i := 6) rfl)) rfl
theorem qc_X2_findMostThrilling : Cond.code yX2_findMostThrilling cX2_findMostThrilling 3 (some .int) ∈ lw_all := lw_mem (mt_2 _ (List.mem_of_getElem? (i := 7) rfl)) rfl
theorem qm_L_236 : Cond.methodLink RL 236 yX5_mostThrilling ∈ lw_all := lw_mem (mt_5 _ (List.mem_of_getElem? (i := 161) rfl)) rfl
theorem qi_X5_mostThrilling : Cond.instanceMethod yX5_mostThrilling ∈ lw_all := lw_mem (mt_5 _ (List.mem_of_getElem? (i := 162) rfl)) rfl
theorem qs_X5_mostThrilling : Cond.selects RX5 yX5_mostThrilling yX5_mostThrilling ∈ lw_all := lw_mem (mt_5 _ (List.mem_of_getElem? (i := 163) rfl)) rfl
theorem qc_X5_mostThrilling : Cond.code yX5_mostThrilling cX5_mostThrilling 1 (some .int) ∈ lw_all := lw_mem (mt_5 _ (List.mem_of_getElem? (i := 164) rfl)) rfl
theorem qm_X5_143 : Cond.methodLink RX5 143 yX5_thrilling ∈ lw_all := lw_mem (mt_5 _ (List.mem_of_getElem? (i := 165) rfl)) rfl
theorem qi_X5_thrilling : Cond.instanceMethod yX5_thrilling ∈ lw_all := lw_mem (mt_5 _ (List.mem_of_getElem? (i := 167) rfl)) rfl
theorem qs_X5_thrilling : Cond.selects RX5 yX5_thrilling yX5_thrilling ∈ lw_all := lw_mem (mt_0 _ (List.mem_of_getElem? (i := 31) rfl)) rfl
theorem qc_X5_thrilling : Cond.code yX5_thrilling cX5_thrilling 3 (some .int) ∈ lw_all := lw_mem (mt_5 _ (List.mem_of_getElem? (i := 168) rfl)) rfl
theorem qm_L_237 : Cond.methodLink RL 237 yX4_longestWait ∈ lw_all := lw_mem (mt_2 _ (List.mem_of_getElem? (i := 8) rfl)) rfl
theorem qi_X4_longestWait : Cond.instanceMethod yX4_longestWait ∈ lw_all := lw_mem (mt_2 _ (List.mem_of_getElem? (i := 9) rfl)) rfl
theorem qs_X4_longestWait : Cond.selects RX4 yX4_longestWait yX4_longestWait ∈ lw_all := lw_mem (mt_2 _ (List.mem_of_getElem? (i := 10) rfl)) rfl
theorem qc_X4_longestWait : Cond.code yX4_longestWait cX4_longestWait 1 (some .int) ∈ lw_all := lw_mem (mt_2 _ (List.mem_of_getElem? (i := 11) rfl)) rfl
theorem qm_X4_197 : Cond.methodLink RX4 197 yX2_findLongestWait ∈ lw_all := lw_mem (mt_2 _ (List.mem_of_getElem? (i := 12) rfl)) rfl
theorem qi_X2_findLongestWait : Cond.instanceMethod yX2_findLongestWait ∈ lw_all := lw_mem (mt_2 _ (List.mem_of_getElem? (i := 13) rfl)) rfl
theorem qs_X2_findLongestWait : Cond.selects RX2 yX2_findLongestWait yX2_findLongestWait ∈ lw_all := lw_mem (mt_2 _ (List.mem_of_getElem? (i := 14) rfl)) rfl
theorem qc_X2_findLongestWait : Cond.code yX2_findLongestWait cX2_findLongestWait 3 (some .int) ∈ lw_all := lw_mem (mt_2 _ (List.mem_of_getElem? (i := 15) rfl)) rfl
theorem qm_X2_28 : Cond.methodLink RX2 28 Lib.Math.max.name ∈ lw_all := lw_mem (mt_2 _ (List.mem_of_getElem? (i := 16) rfl)) rfl
theorem qt_Math_max : Cond.static Lib.Math.max.name ∈ lw_all := lw_mem (mt_2 _ (List.mem_of_getElem? (i := 17) rfl)) rfl
theorem qc_Math_max : Cond.code Lib.Math.max.name Lib.Math.max.code 2 (some .int) ∈ lw_all := lw_mem (mt_2 _ (List.mem_of_getElem? (i := 18) rfl)) rfl
theorem qm_L_240 : Cond.methodLink RL 240 yX5_longestWait ∈ lw_all := lw_mem (mt_5 _ (List.mem_of_getElem? (i := 169) rfl)) rfl
theorem qi_X5_longestWait : Cond.instanceMethod yX5_longestWait ∈ lw_all := lw_mem (mt_5 _ (List.mem_of_getElem? (i := 170) rfl)) rfl
theorem qs_X5_longestWait : Cond.selects RX5 yX5_longestWait yX5_longestWait ∈ lw_all := lw_mem (mt_5 _ (List.mem_of_getElem? (i := 171) rfl)) rfl
theorem qc_X5_longestWait : Cond.code yX5_longestWait cX5_longestWait 1 (some .int) ∈ lw_all := lw_mem (mt_5 _ (List.mem_of_getElem? (i := 172) rfl)) rfl
theorem qm_X5_149 : Cond.methodLink RX5 149 yX5_waits ∈ lw_all := lw_mem (mt_5 _ (List.mem_of_getElem? (i := 173) rfl)) rfl
theorem qi_X5_waits : Cond.instanceMethod yX5_waits ∈ lw_all := lw_mem (mt_5 _ (List.mem_of_getElem? (i := 175) rfl)) rfl
theorem qs_X5_waits : Cond.selects RX5 yX5_waits yX5_waits ∈ lw_all := lw_mem (mt_0 _ (List.mem_of_getElem? (i := 32) rfl)) rfl
theorem qc_X5_waits : Cond.code yX5_waits cX5_waits 3 (some .int) ∈ lw_all := lw_mem (mt_5 _ (List.mem_of_getElem? (i := 176) rfl)) rfl
theorem qm_X5_146 : Cond.methodLink RX5 146 Lib.Math.max.name ∈ lw_all := lw_mem (mt_5 _ (List.mem_of_getElem? (i := 177) rfl)) rfl
theorem qm_L_241 : Cond.methodLink RL 241 yX4_climbs ∈ lw_all := lw_mem (mt_2 _ (List.mem_of_getElem? (i := 19) rfl)) rfl
theorem qi_X4_climbs : Cond.instanceMethod yX4_climbs ∈ lw_all := lw_mem (mt_2 _ (List.mem_of_getElem? (i := 20) rfl)) rfl
theorem qs_X4_climbs : Cond.selects RX4 yX4_climbs yX4_climbs ∈ lw_all := lw_mem (mt_2 _ (List.mem_of_getElem? (i := 21) rfl)) rfl
theorem qc_X4_climbs : Cond.code yX4_climbs cX4_climbs 1 (some .int) ∈ lw_all := lw_mem (mt_2 _ (List.mem_of_getElem? (i := 22) rfl)) rfl
theorem qm_X4_200 : Cond.methodLink RX4 200 yX2_countClimbs ∈ lw_all := lw_mem (mt_2 _ (List.mem_of_getElem? (i := 23) rfl)) rfl
theorem qi_X2_countClimbs : Cond.instanceMethod yX2_countClimbs ∈ lw_all := lw_mem (mt_2 _ (List.mem_of_getElem? (i := 24) rfl)) rfl
theorem qs_X2_countClimbs : Cond.selects RX2 yX2_countClimbs yX2_countClimbs ∈ lw_all := lw_mem (mt_2 _ (List.mem_of_getElem? (i := 25) rfl)) rfl
theorem qc_X2_countClimbs : Cond.code yX2_countClimbs cX2_countClimbs 3 (some .int) ∈ lw_all := lw_mem (mt_2 _ (List.mem_of_getElem? (i := 26) rfl)) rfl
theorem qm_L_244 : Cond.methodLink RL 244 yX5_climbs ∈ lw_all := lw_mem (mt_5 _ (List.mem_of_getElem? (i := 178) rfl)) rfl
theorem qi_X5_climbs : Cond.instanceMethod yX5_climbs ∈ lw_all := lw_mem (mt_5 _ (List.mem_of_getElem? (i := 179) rfl)) rfl
theorem qs_X5_climbs : Cond.selects RX5 yX5_climbs yX5_climbs ∈ lw_all := lw_mem (mt_5 _ (List.mem_of_getElem? (i := 180) rfl)) rfl
theorem qc_X5_climbs : Cond.code yX5_climbs cX5_climbs 1 (some .int) ∈ lw_all := lw_mem (mt_5 _ (List.mem_of_getElem? (i := 181) rfl)) rfl
theorem qm_X5_152 : Cond.methodLink RX5 152 yX5_rises ∈ lw_all := lw_mem (mt_5 _ (List.mem_of_getElem? (i := 182) rfl)) rfl
theorem qi_X5_rises : Cond.instanceMethod yX5_rises ∈ lw_all := lw_mem (mt_5 _ (List.mem_of_getElem? (i := 184) rfl)) rfl
theorem qs_X5_rises : Cond.selects RX5 yX5_rises yX5_rises ∈ lw_all := lw_mem (mt_0 _ (List.mem_of_getElem? (i := 33) rfl)) rfl
theorem qc_X5_rises : Cond.code yX5_rises cX5_rises 3 (some .int) ∈ lw_all := lw_mem (mt_5 _ (List.mem_of_getElem? (i := 185) rfl)) rfl
theorem qm_L_245 : Cond.methodLink RL 245 yX4_readers ∈ lw_all := lw_mem (mt_2 _ (List.mem_of_getElem? (i := 27) rfl)) rfl
theorem qi_X4_readers : Cond.instanceMethod yX4_readers ∈ lw_all := lw_mem (mt_2 _ (List.mem_of_getElem? (i := 28) rfl)) rfl
theorem qs_X4_readers : Cond.selects RX4 yX4_readers yX4_readers ∈ lw_all := lw_mem (mt_2 _ (List.mem_of_getElem? (i := 29) rfl)) rfl
theorem qc_X4_readers : Cond.code yX4_readers cX4_readers 1 (some .int) ∈ lw_all := lw_mem (mt_2 _ (List.mem_of_getElem? (i := 30) rfl)) rfl
theorem qm_L_248 : Cond.methodLink RL 248 yX5_readers ∈ lw_all := lw_mem (mt_5 _ (List.mem_of_getElem? (i := 186) rfl)) rfl
theorem qi_X5_readers : Cond.instanceMethod yX5_readers ∈ lw_all := lw_mem (mt_5 _ (List.mem_of_getElem? (i := 187) rfl)) rfl
theorem qs_X5_readers : Cond.selects RX5 yX5_readers yX5_readers ∈ lw_all := lw_mem (mt_5 _ (List.mem_of_getElem? (i := 188) rfl)) rfl
theorem qc_X5_readers : Cond.code yX5_readers cX5_readers 1 (some .int) ∈ lw_all := lw_mem (mt_5 _ (List.mem_of_getElem? (i := 189) rfl)) rfl
theorem qm_L_249 : Cond.methodLink RL 249 yX4_subscribers ∈ lw_all := lw_mem (mt_2 _ (List.mem_of_getElem? (i := 31) rfl)) rfl
theorem qi_X4_subscribers : Cond.instanceMethod yX4_subscribers ∈ lw_all := lw_mem (mt_2 _ (List.mem_of_getElem? (i := 32) rfl)) rfl
theorem qs_X4_subscribers : Cond.selects RX4 yX4_subscribers yX4_subscribers ∈ lw_all := lw_mem (mt_2 _ (List.mem_of_getElem? (i := 33) rfl)) rfl
theorem qc_X4_subscribers : Cond.code yX4_subscribers cX4_subscribers 1 (some .int) ∈ lw_all := lw_mem (mt_2 _ (List.mem_of_getElem? (i := 34) rfl)) rfl
theorem qm_L_252 : Cond.methodLink RL 252 yX5_subscribers ∈ lw_all := lw_mem (mt_5 _ (List.mem_of_getElem? (i := 190) rfl)) rfl
theorem qi_X5_subscribers : Cond.instanceMethod yX5_subscribers ∈ lw_all := lw_mem (mt_5 _ (List.mem_of_getElem? (i := 191) rfl)) rfl
theorem qs_X5_subscribers : Cond.selects RX5 yX5_subscribers yX5_subscribers ∈ lw_all := lw_mem (mt_5 _ (List.mem_of_getElem? (i := 192) rfl)) rfl
theorem qc_X5_subscribers : Cond.code yX5_subscribers cX5_subscribers 1 (some .int) ∈ lw_all := lw_mem (mt_5 _ (List.mem_of_getElem? (i := 193) rfl)) rfl
theorem qm_L_253 : Cond.methodLink RL 253 yL_tasteOf ∈ lw_all := lw_mem (mt_4 _ (List.mem_of_getElem? (i := 81) rfl)) rfl
theorem qt_L_tasteOf : Cond.static yL_tasteOf ∈ lw_all := lw_mem (mt_4 _ (List.mem_of_getElem? (i := 82) rfl)) rfl
theorem qc_L_tasteOf : Cond.codeWith yL_tasteOf cL_tasteOf 4 (some .int) [(0, 9, 12, 19)] ∈ lw_all := lw_mem (mt_4 _ (List.mem_of_getElem? (i := 83) rfl)) rfl
theorem qm_L_79 : Cond.methodLink RL 79 yX4_tasteOf ∈ lw_all := lw_mem (mt_4 _ (List.mem_of_getElem? (i := 84) rfl)) rfl
theorem qi_X4_tasteOf : Cond.instanceMethod yX4_tasteOf ∈ lw_all := lw_mem (mt_4 _ (List.mem_of_getElem? (i := 85) rfl)) rfl
theorem qs_X4_tasteOf : Cond.selects RX4 yX4_tasteOf yX4_tasteOf ∈ lw_all := lw_mem (mt_4 _ (List.mem_of_getElem? (i := 86) rfl)) rfl
theorem qc_X4_tasteOf : Cond.code yX4_tasteOf cX4_tasteOf 2 (some .int) ∈ lw_all := lw_mem (mt_4 _ (List.mem_of_getElem? (i := 87) rfl)) rfl
theorem qm_X4_203 : Cond.methodLink RX4 203 yX4_needReader ∈ lw_all := lw_mem (mt_3 _ (List.mem_of_getElem? (i := 132) rfl)) rfl
theorem qi_X4_needReader : Cond.instanceMethod yX4_needReader ∈ lw_all := lw_mem (mt_3 _ (List.mem_of_getElem? (i := 134) rfl)) rfl
theorem qs_X4_needReader : Cond.selects RX4 yX4_needReader yX4_needReader ∈ lw_all := lw_mem (mt_0 _ (List.mem_of_getElem? (i := 11) rfl)) rfl
theorem qc_X4_needReader : Cond.code yX4_needReader cX4_needReader 2 none ∈ lw_all := lw_mem (mt_3 _ (List.mem_of_getElem? (i := 135) rfl)) rfl
theorem qm_L_255 : Cond.methodLink RL 255 yX5_tasteOf ∈ lw_all := lw_mem (mt_5 _ (List.mem_of_getElem? (i := 194) rfl)) rfl
theorem qi_X5_tasteOf : Cond.instanceMethod yX5_tasteOf ∈ lw_all := lw_mem (mt_5 _ (List.mem_of_getElem? (i := 195) rfl)) rfl
theorem qs_X5_tasteOf : Cond.selects RX5 yX5_tasteOf yX5_tasteOf ∈ lw_all := lw_mem (mt_5 _ (List.mem_of_getElem? (i := 196) rfl)) rfl
theorem qc_X5_tasteOf : Cond.code yX5_tasteOf cX5_tasteOf 2 (some .int) ∈ lw_all := lw_mem (mt_5 _ (List.mem_of_getElem? (i := 197) rfl)) rfl
theorem qm_X5_155 : Cond.methodLink RX5 155 yX5_isReader ∈ lw_all := lw_mem (mt_5 _ (List.mem_of_getElem? (i := 198) rfl)) rfl
theorem qi_X5_isReader : Cond.instanceMethod yX5_isReader ∈ lw_all := lw_mem (mt_5 _ (List.mem_of_getElem? (i := 200) rfl)) rfl
theorem qs_X5_isReader : Cond.selects RX5 yX5_isReader yX5_isReader ∈ lw_all := lw_mem (mt_0 _ (List.mem_of_getElem? (i := 34) rfl)) rfl
theorem qc_X5_isReader : Cond.code yX5_isReader cX5_isReader 2 (some .boolean) ∈ lw_all := lw_mem (mt_5 _ (List.mem_of_getElem? (i := 201) rfl)) rfl
theorem qm_L_256 : Cond.methodLink RL 256 yL_warmthOf ∈ lw_all := lw_mem (mt_4 _ (List.mem_of_getElem? (i := 88) rfl)) rfl
theorem qt_L_warmthOf : Cond.static yL_warmthOf ∈ lw_all := lw_mem (mt_4 _ (List.mem_of_getElem? (i := 89) rfl)) rfl
theorem qc_L_warmthOf : Cond.codeWith yL_warmthOf cL_warmthOf 4 (some .int) [(0, 9, 12, 19)] ∈ lw_all := lw_mem (mt_4 _ (List.mem_of_getElem? (i := 90) rfl)) rfl
theorem qm_L_82 : Cond.methodLink RL 82 yX4_warmthOf ∈ lw_all := lw_mem (mt_4 _ (List.mem_of_getElem? (i := 91) rfl)) rfl
theorem qi_X4_warmthOf : Cond.instanceMethod yX4_warmthOf ∈ lw_all := lw_mem (mt_3 _ (List.mem_of_getElem? (i := 129) rfl)) rfl
theorem qs_X4_warmthOf : Cond.selects RX4 yX4_warmthOf yX4_warmthOf ∈ lw_all := lw_mem (mt_3 _ (List.mem_of_getElem? (i := 130) rfl)) rfl
theorem qc_X4_warmthOf : Cond.code yX4_warmthOf cX4_warmthOf 2 (some .int) ∈ lw_all := lw_mem (mt_3 _ (List.mem_of_getElem? (i := 131) rfl)) rfl
theorem qm_L_258 : Cond.methodLink RL 258 yX5_warmthOf ∈ lw_all := lw_mem (mt_5 _ (List.mem_of_getElem? (i := 202) rfl)) rfl
theorem qi_X5_warmthOf : Cond.instanceMethod yX5_warmthOf ∈ lw_all := lw_mem (mt_5 _ (List.mem_of_getElem? (i := 203) rfl)) rfl
theorem qs_X5_warmthOf : Cond.selects RX5 yX5_warmthOf yX5_warmthOf ∈ lw_all := lw_mem (mt_5 _ (List.mem_of_getElem? (i := 204) rfl)) rfl
theorem qc_X5_warmthOf : Cond.code yX5_warmthOf cX5_warmthOf 2 (some .int) ∈ lw_all := lw_mem (mt_5 _ (List.mem_of_getElem? (i := 205) rfl)) rfl
theorem qm_X5_158 : Cond.methodLink RX5 158 yX5_warm ∈ lw_all := lw_mem (mt_5 _ (List.mem_of_getElem? (i := 206) rfl)) rfl
theorem qi_X5_warm : Cond.instanceMethod yX5_warm ∈ lw_all := lw_mem (mt_5 _ (List.mem_of_getElem? (i := 208) rfl)) rfl
theorem qs_X5_warm : Cond.selects RX5 yX5_warm yX5_warm ∈ lw_all := lw_mem (mt_0 _ (List.mem_of_getElem? (i := 35) rfl)) rfl
theorem qc_X5_warm : Cond.code yX5_warm cX5_warm 2 (some .int) ∈ lw_all := lw_mem (mt_5 _ (List.mem_of_getElem? (i := 209) rfl)) rfl
theorem qm_L_259 : Cond.methodLink RL 259 yL_isSubscriber ∈ lw_all := lw_mem (mt_4 _ (List.mem_of_getElem? (i := 92) rfl)) rfl
theorem qt_L_isSubscriber : Cond.static yL_isSubscriber ∈ lw_all := lw_mem (mt_4 _ (List.mem_of_getElem? (i := 93) rfl)) rfl
theorem qc_L_isSubscriber : Cond.codeWith yL_isSubscriber cL_isSubscriber 4 (some .int) [(0, 16, 19, 19)] ∈ lw_all := lw_mem (mt_4 _ (List.mem_of_getElem? (i := 94) rfl)) rfl
theorem qm_L_85 : Cond.methodLink RL 85 yX4_isSubscriber ∈ lw_all := lw_mem (mt_4 _ (List.mem_of_getElem? (i := 95) rfl)) rfl
theorem qi_X4_isSubscriber : Cond.instanceMethod yX4_isSubscriber ∈ lw_all := lw_mem (mt_3 _ (List.mem_of_getElem? (i := 138) rfl)) rfl
theorem qs_X4_isSubscriber : Cond.selects RX4 yX4_isSubscriber yX4_isSubscriber ∈ lw_all := lw_mem (mt_3 _ (List.mem_of_getElem? (i := 139) rfl)) rfl
theorem qc_X4_isSubscriber : Cond.code yX4_isSubscriber cX4_isSubscriber 2 (some .boolean) ∈ lw_all := lw_mem (mt_3 _ (List.mem_of_getElem? (i := 140) rfl)) rfl
theorem qm_L_261 : Cond.methodLink RL 261 yX5_isSubscriber ∈ lw_all := lw_mem (mt_5 _ (List.mem_of_getElem? (i := 210) rfl)) rfl
theorem qi_X5_isSubscriber : Cond.instanceMethod yX5_isSubscriber ∈ lw_all := lw_mem (mt_5 _ (List.mem_of_getElem? (i := 211) rfl)) rfl
theorem qs_X5_isSubscriber : Cond.selects RX5 yX5_isSubscriber yX5_isSubscriber ∈ lw_all := lw_mem (mt_5 _ (List.mem_of_getElem? (i := 212) rfl)) rfl
theorem qc_X5_isSubscriber : Cond.code yX5_isSubscriber cX5_isSubscriber 2 (some .boolean) ∈ lw_all := lw_mem (mt_5 _ (List.mem_of_getElem? (i := 213) rfl)) rfl
theorem qm_L_262 : Cond.methodLink RL 262 yX4_warmest ∈ lw_all := lw_mem (mt_2 _ (List.mem_of_getElem? (i := 39) rfl)) rfl
theorem qi_X4_warmest : Cond.instanceMethod yX4_warmest ∈ lw_all := lw_mem (mt_2 _ (List.mem_of_getElem? (i := 40) rfl)) rfl
theorem qs_X4_warmest : Cond.selects RX4 yX4_warmest yX4_warmest ∈ lw_all := lw_mem (mt_2 _ (List.mem_of_getElem? (i := 41) rfl)) rfl
theorem qc_X4_warmest : Cond.code yX4_warmest cX4_warmest 1 (some .int) ∈ lw_all := lw_mem (mt_2 _ (List.mem_of_getElem? (i := 42) rfl)) rfl
theorem qm_X4_206 : Cond.methodLink RX4 206 yX0_findWarmest ∈ lw_all := lw_mem (mt_2 _ (List.mem_of_getElem? (i := 43) rfl)) rfl
theorem qi_X0_findWarmest : Cond.instanceMethod yX0_findWarmest ∈ lw_all := lw_mem (mt_2 _ (List.mem_of_getElem? (i := 44) rfl)) rfl
theorem qs_X0_findWarmest : Cond.selects RX0 yX0_findWarmest yX0_findWarmest ∈ lw_all := lw_mem (mt_2 _ (List.mem_of_getElem? (i := 45) rfl)) rfl
theorem qc_X0_findWarmest : Cond.code yX0_findWarmest cX0_findWarmest 3 (some .int) ∈ lw_all := lw_mem (mt_2 _ (List.mem_of_getElem? (i := 46) rfl)) rfl
theorem qm_L_265 : Cond.methodLink RL 265 yX5_warmest ∈ lw_all := lw_mem (mt_5 _ (List.mem_of_getElem? (i := 214) rfl)) rfl
theorem qi_X5_warmest : Cond.instanceMethod yX5_warmest ∈ lw_all := lw_mem (mt_5 _ (List.mem_of_getElem? (i := 215) rfl)) rfl
theorem qs_X5_warmest : Cond.selects RX5 yX5_warmest yX5_warmest ∈ lw_all := lw_mem (mt_5 _ (List.mem_of_getElem? (i := 216) rfl)) rfl
theorem qc_X5_warmest : Cond.code yX5_warmest cX5_warmest 1 (some .int) ∈ lw_all := lw_mem (mt_5 _ (List.mem_of_getElem? (i := 217) rfl)) rfl
theorem qm_X5_161 : Cond.methodLink RX5 161 yX5_hottest ∈ lw_all := lw_mem (mt_5 _ (List.mem_of_getElem? (i := 218) rfl)) rfl
theorem qi_X5_hottest : Cond.instanceMethod yX5_hottest ∈ lw_all := lw_mem (mt_5 _ (List.mem_of_getElem? (i := 220) rfl)) rfl
theorem qs_X5_hottest : Cond.selects RX5 yX5_hottest yX5_hottest ∈ lw_all := lw_mem (mt_0 _ (List.mem_of_getElem? (i := 36) rfl)) rfl
theorem qc_X5_hottest : Cond.code yX5_hottest cX5_hottest 3 (some .int) ∈ lw_all := lw_mem (mt_5 _ (List.mem_of_getElem? (i := 221) rfl)) rfl
theorem qm_L_266 : Cond.methodLink RL 266 yX4_mirrors ∈ lw_all := lw_mem (mt_2 _ (List.mem_of_getElem? (i := 47) rfl)) rfl
theorem qi_X4_mirrors : Cond.instanceMethod yX4_mirrors ∈ lw_all := lw_mem (mt_2 _ (List.mem_of_getElem? (i := 48) rfl)) rfl
theorem qs_X4_mirrors : Cond.selects RX4 yX4_mirrors yX4_mirrors ∈ lw_all := lw_mem (mt_2 _ (List.mem_of_getElem? (i := 49) rfl)) rfl
theorem qc_X4_mirrors : Cond.code yX4_mirrors cX4_mirrors 1 (some .int) ∈ lw_all := lw_mem (mt_2 _ (List.mem_of_getElem? (i := 50) rfl)) rfl
theorem qm_L_269 : Cond.methodLink RL 269 yX5_mirrors ∈ lw_all := lw_mem (mt_5 _ (List.mem_of_getElem? (i := 222) rfl)) rfl
theorem qi_X5_mirrors : Cond.instanceMethod yX5_mirrors ∈ lw_all := lw_mem (mt_5 _ (List.mem_of_getElem? (i := 223) rfl)) rfl
theorem qs_X5_mirrors : Cond.selects RX5 yX5_mirrors yX5_mirrors ∈ lw_all := lw_mem (mt_5 _ (List.mem_of_getElem? (i := 224) rfl)) rfl
theorem qc_X5_mirrors : Cond.code yX5_mirrors cX5_mirrors 1 (some .int) ∈ lw_all := lw_mem (mt_5 _ (List.mem_of_getElem? (i := 225) rfl)) rfl
theorem qm_L_270 : Cond.methodLink RL 270 yL_grade ∈ lw_all := lw_mem (mt_4 _ (List.mem_of_getElem? (i := 96) rfl)) rfl
theorem qt_L_grade : Cond.static yL_grade ∈ lw_all := lw_mem (mt_4 _ (List.mem_of_getElem? (i := 97) rfl)) rfl
theorem qc_L_grade : Cond.codeWith yL_grade cL_grade 5 (some .int) [(0, 10, 13, 19)] ∈ lw_all := lw_mem (mt_4 _ (List.mem_of_getElem? (i := 98) rfl)) rfl
theorem qm_L_88 : Cond.methodLink RL 88 yX4_grade ∈ lw_all := lw_mem (mt_4 _ (List.mem_of_getElem? (i := 99) rfl)) rfl
theorem qi_X4_grade : Cond.instanceMethod yX4_grade ∈ lw_all := lw_mem (mt_4 _ (List.mem_of_getElem? (i := 100) rfl)) rfl
theorem qs_X4_grade : Cond.selects RX4 yX4_grade yX4_grade ∈ lw_all := lw_mem (mt_4 _ (List.mem_of_getElem? (i := 101) rfl)) rfl
theorem qc_X4_grade : Cond.code yX4_grade cX4_grade 3 (some .int) ∈ lw_all := lw_mem (mt_4 _ (List.mem_of_getElem? (i := 102) rfl)) rfl
theorem qm_X4_209 : Cond.methodLink RX4 209 yX4_needMirror ∈ lw_all := lw_mem (mt_3 _ (List.mem_of_getElem? (i := 149) rfl)) rfl
theorem qi_X4_needMirror : Cond.instanceMethod yX4_needMirror ∈ lw_all := lw_mem (mt_3 _ (List.mem_of_getElem? (i := 151) rfl)) rfl
theorem qs_X4_needMirror : Cond.selects RX4 yX4_needMirror yX4_needMirror ∈ lw_all := lw_mem (mt_0 _ (List.mem_of_getElem? (i := 13) rfl)) rfl
theorem qc_X4_needMirror : Cond.code yX4_needMirror cX4_needMirror 2 none ∈ lw_all := lw_mem (mt_3 _ (List.mem_of_getElem? (i := 152) rfl)) rfl
theorem qm_X4_212 : Cond.methodLink RX4 212 yX4_judge ∈ lw_all := lw_mem (mt_2 _ (List.mem_of_getElem? (i := 59) rfl)) rfl
theorem qi_X4_judge : Cond.instanceMethod yX4_judge ∈ lw_all := lw_mem (mt_2 _ (List.mem_of_getElem? (i := 61) rfl)) rfl
theorem qs_X4_judge : Cond.selects RX4 yX4_judge yX4_judge ∈ lw_all := lw_mem (mt_0 _ (List.mem_of_getElem? (i := 1) rfl)) rfl
theorem qc_X4_judge : Cond.code yX4_judge cX4_judge 4 (some .int) ∈ lw_all := lw_mem (mt_2 _ (List.mem_of_getElem? (i := 62) rfl)) rfl
theorem qm_X4_370 : Cond.methodLink RX4 370 yX3_judge ∈ lw_all := lw_mem (mt_2 _ (List.mem_of_getElem? (i := 67) rfl)) rfl
theorem qi_X3_judge : Cond.instanceMethod yX3_judge ∈ lw_all := lw_mem (mt_2 _ (List.mem_of_getElem? (i := 68) rfl)) rfl
theorem qs_X3_judge : Cond.selects RX3 yX3_judge yX3_judge ∈ lw_all := lw_mem (mt_2 _ (List.mem_of_getElem? (i := 69) rfl)) rfl
theorem qc_X3_judge : Cond.code yX3_judge cX3_judge 5 (some .int) ∈ lw_all := lw_mem (mt_2 _ (List.mem_of_getElem? (i := 70) rfl)) rfl
theorem qm_X3_22 : Cond.methodLink RX3 22 Lib.Math.min.name ∈ lw_all := lw_mem (mt_2 _ (List.mem_of_getElem? (i := 71) rfl)) rfl
theorem qm_X3_28 : Cond.methodLink RX3 28 Lib.Math.max.name ∈ lw_all := lw_mem (mt_2 _ (List.mem_of_getElem? (i := 74) rfl)) rfl
theorem qm_L_272 : Cond.methodLink RL 272 yX5_grade ∈ lw_all := lw_mem (mt_5 _ (List.mem_of_getElem? (i := 226) rfl)) rfl
theorem qi_X5_grade : Cond.instanceMethod yX5_grade ∈ lw_all := lw_mem (mt_5 _ (List.mem_of_getElem? (i := 227) rfl)) rfl
theorem qs_X5_grade : Cond.selects RX5 yX5_grade yX5_grade ∈ lw_all := lw_mem (mt_5 _ (List.mem_of_getElem? (i := 228) rfl)) rfl
theorem qc_X5_grade : Cond.code yX5_grade cX5_grade 3 (some .int) ∈ lw_all := lw_mem (mt_5 _ (List.mem_of_getElem? (i := 229) rfl)) rfl
theorem qm_X5_164 : Cond.methodLink RX5 164 yX5_isMirror ∈ lw_all := lw_mem (mt_5 _ (List.mem_of_getElem? (i := 230) rfl)) rfl
theorem qi_X5_isMirror : Cond.instanceMethod yX5_isMirror ∈ lw_all := lw_mem (mt_5 _ (List.mem_of_getElem? (i := 232) rfl)) rfl
theorem qs_X5_isMirror : Cond.selects RX5 yX5_isMirror yX5_isMirror ∈ lw_all := lw_mem (mt_0 _ (List.mem_of_getElem? (i := 37) rfl)) rfl
theorem qc_X5_isMirror : Cond.code yX5_isMirror cX5_isMirror 2 (some .boolean) ∈ lw_all := lw_mem (mt_5 _ (List.mem_of_getElem? (i := 233) rfl)) rfl
theorem qm_X5_167 : Cond.methodLink RX5 167 yX5_graded ∈ lw_all := lw_mem (mt_5 _ (List.mem_of_getElem? (i := 234) rfl)) rfl
theorem qi_X5_graded : Cond.instanceMethod yX5_graded ∈ lw_all := lw_mem (mt_5 _ (List.mem_of_getElem? (i := 236) rfl)) rfl
theorem qs_X5_graded : Cond.selects RX5 yX5_graded yX5_graded ∈ lw_all := lw_mem (mt_0 _ (List.mem_of_getElem? (i := 38) rfl)) rfl
theorem qc_X5_graded : Cond.code yX5_graded cX5_graded 5 (some .int) ∈ lw_all := lw_mem (mt_5 _ (List.mem_of_getElem? (i := 237) rfl)) rfl
theorem qm_L_273 : Cond.methodLink RL 273 yL_gradesBy ∈ lw_all := lw_mem (mt_4 _ (List.mem_of_getElem? (i := 103) rfl)) rfl
theorem qt_L_gradesBy : Cond.static yL_gradesBy ∈ lw_all := lw_mem (mt_4 _ (List.mem_of_getElem? (i := 104) rfl)) rfl
theorem qc_L_gradesBy : Cond.codeWith yL_gradesBy cL_gradesBy 4 (some .int) [(0, 9, 12, 19)] ∈ lw_all := lw_mem (mt_4 _ (List.mem_of_getElem? (i := 105) rfl)) rfl
theorem qm_L_91 : Cond.methodLink RL 91 yX4_gradesBy ∈ lw_all := lw_mem (mt_4 _ (List.mem_of_getElem? (i := 106) rfl)) rfl
theorem qi_X4_gradesBy : Cond.instanceMethod yX4_gradesBy ∈ lw_all := lw_mem (mt_3 _ (List.mem_of_getElem? (i := 146) rfl)) rfl
theorem qs_X4_gradesBy : Cond.selects RX4 yX4_gradesBy yX4_gradesBy ∈ lw_all := lw_mem (mt_3 _ (List.mem_of_getElem? (i := 147) rfl)) rfl
theorem qc_X4_gradesBy : Cond.code yX4_gradesBy cX4_gradesBy 2 (some .int) ∈ lw_all := lw_mem (mt_3 _ (List.mem_of_getElem? (i := 148) rfl)) rfl
theorem qm_X4_215 : Cond.methodLink RX4 215 yX4_sumOfGrades ∈ lw_all := lw_mem (mt_2 _ (List.mem_of_getElem? (i := 55) rfl)) rfl
theorem qi_X4_sumOfGrades : Cond.instanceMethod yX4_sumOfGrades ∈ lw_all := lw_mem (mt_2 _ (List.mem_of_getElem? (i := 57) rfl)) rfl
theorem qs_X4_sumOfGrades : Cond.selects RX4 yX4_sumOfGrades yX4_sumOfGrades ∈ lw_all := lw_mem (mt_0 _ (List.mem_of_getElem? (i := 0) rfl)) rfl
theorem qc_X4_sumOfGrades : Cond.code yX4_sumOfGrades cX4_sumOfGrades 4 (some .int) ∈ lw_all := lw_mem (mt_2 _ (List.mem_of_getElem? (i := 58) rfl)) rfl
theorem qm_L_275 : Cond.methodLink RL 275 yX5_gradesBy ∈ lw_all := lw_mem (mt_5 _ (List.mem_of_getElem? (i := 238) rfl)) rfl
theorem qi_X5_gradesBy : Cond.instanceMethod yX5_gradesBy ∈ lw_all := lw_mem (mt_5 _ (List.mem_of_getElem? (i := 239) rfl)) rfl
theorem qs_X5_gradesBy : Cond.selects RX5 yX5_gradesBy yX5_gradesBy ∈ lw_all := lw_mem (mt_6 _ (List.mem_of_getElem? (i := 0) rfl)) rfl
theorem qc_X5_gradesBy : Cond.code yX5_gradesBy cX5_gradesBy 2 (some .int) ∈ lw_all := lw_mem (mt_6 _ (List.mem_of_getElem? (i := 1) rfl)) rfl
theorem qm_X5_170 : Cond.methodLink RX5 170 yX5_sumBy ∈ lw_all := lw_mem (mt_6 _ (List.mem_of_getElem? (i := 2) rfl)) rfl
theorem qi_X5_sumBy : Cond.instanceMethod yX5_sumBy ∈ lw_all := lw_mem (mt_6 _ (List.mem_of_getElem? (i := 4) rfl)) rfl
theorem qs_X5_sumBy : Cond.selects RX5 yX5_sumBy yX5_sumBy ∈ lw_all := lw_mem (mt_0 _ (List.mem_of_getElem? (i := 39) rfl)) rfl
theorem qc_X5_sumBy : Cond.code yX5_sumBy cX5_sumBy 4 (some .int) ∈ lw_all := lw_mem (mt_6 _ (List.mem_of_getElem? (i := 5) rfl)) rfl
theorem qm_L_276 : Cond.methodLink RL 276 yL_favouriteOf ∈ lw_all := lw_mem (mt_4 _ (List.mem_of_getElem? (i := 107) rfl)) rfl
theorem qt_L_favouriteOf : Cond.static yL_favouriteOf ∈ lw_all := lw_mem (mt_4 _ (List.mem_of_getElem? (i := 108) rfl)) rfl
theorem qc_L_favouriteOf : Cond.codeWith yL_favouriteOf cL_favouriteOf 4 (some .int) [(0, 9, 12, 19)] ∈ lw_all := lw_mem (mt_4 _ (List.mem_of_getElem? (i := 109) rfl)) rfl
theorem qm_L_94 : Cond.methodLink RL 94 yX4_favouriteOf ∈ lw_all := lw_mem (mt_4 _ (List.mem_of_getElem? (i := 110) rfl)) rfl
theorem qi_X4_favouriteOf : Cond.instanceMethod yX4_favouriteOf ∈ lw_all := lw_mem (mt_3 _ (List.mem_of_getElem? (i := 155) rfl)) rfl
theorem qs_X4_favouriteOf : Cond.selects RX4 yX4_favouriteOf yX4_favouriteOf ∈ lw_all := lw_mem (mt_3 _ (List.mem_of_getElem? (i := 156) rfl)) rfl
theorem qc_X4_favouriteOf : Cond.code yX4_favouriteOf cX4_favouriteOf 6 (some .int) ∈ lw_all := lw_mem (mt_3 _ (List.mem_of_getElem? (i := 157) rfl)) rfl
theorem qm_L_278 : Cond.methodLink RL 278 yX5_favouriteOf ∈ lw_all := lw_mem (mt_6 _ (List.mem_of_getElem? (i := 6) rfl)) rfl
theorem qi_X5_favouriteOf : Cond.instanceMethod yX5_favouriteOf ∈ lw_all := lw_mem (mt_6 _ (List.mem_of_getElem? (i := 7) rfl)) rfl
theorem qs_X5_favouriteOf : Cond.selects RX5 yX5_favouriteOf yX5_favouriteOf ∈ lw_all := lw_mem (mt_6 _ (List.mem_of_getElem? (i := 8) rfl)) rfl
theorem qc_X5_favouriteOf : Cond.code yX5_favouriteOf cX5_favouriteOf 2 (some .int) ∈ lw_all := lw_mem (mt_6 _ (List.mem_of_getElem? (i := 9) rfl)) rfl
theorem qm_X5_173 : Cond.methodLink RX5 173 yX5_liked ∈ lw_all := lw_mem (mt_6 _ (List.mem_of_getElem? (i := 10) rfl)) rfl
theorem qi_X5_liked : Cond.instanceMethod yX5_liked ∈ lw_all := lw_mem (mt_6 _ (List.mem_of_getElem? (i := 12) rfl)) rfl
theorem qs_X5_liked : Cond.selects RX5 yX5_liked yX5_liked ∈ lw_all := lw_mem (mt_0 _ (List.mem_of_getElem? (i := 40) rfl)) rfl
theorem qc_X5_liked : Cond.code yX5_liked cX5_liked 4 (some .int) ∈ lw_all := lw_mem (mt_6 _ (List.mem_of_getElem? (i := 13) rfl)) rfl
theorem qm_L_279 : Cond.methodLink RL 279 yX4_kindest ∈ lw_all := lw_mem (mt_2 _ (List.mem_of_getElem? (i := 51) rfl)) rfl
theorem qi_X4_kindest : Cond.instanceMethod yX4_kindest ∈ lw_all := lw_mem (mt_2 _ (List.mem_of_getElem? (i := 52) rfl)) rfl
theorem qs_X4_kindest : Cond.selects RX4 yX4_kindest yX4_kindest ∈ lw_all := lw_mem (mt_2 _ (List.mem_of_getElem? (i := 53) rfl)) rfl
theorem qc_X4_kindest : Cond.code yX4_kindest cX4_kindest 5 (some .int) ∈ lw_all := lw_mem (mt_2 _ (List.mem_of_getElem? (i := 54) rfl)) rfl
theorem qm_L_282 : Cond.methodLink RL 282 yX5_kindest ∈ lw_all := lw_mem (mt_6 _ (List.mem_of_getElem? (i := 14) rfl)) rfl
theorem qi_X5_kindest : Cond.instanceMethod yX5_kindest ∈ lw_all := lw_mem (mt_6 _ (List.mem_of_getElem? (i := 15) rfl)) rfl
theorem qs_X5_kindest : Cond.selects RX5 yX5_kindest yX5_kindest ∈ lw_all := lw_mem (mt_6 _ (List.mem_of_getElem? (i := 16) rfl)) rfl
theorem qc_X5_kindest : Cond.code yX5_kindest cX5_kindest 1 (some .int) ∈ lw_all := lw_mem (mt_6 _ (List.mem_of_getElem? (i := 17) rfl)) rfl
theorem qm_X5_176 : Cond.methodLink RX5 176 yX5_kind ∈ lw_all := lw_mem (mt_6 _ (List.mem_of_getElem? (i := 18) rfl)) rfl
theorem qi_X5_kind : Cond.instanceMethod yX5_kind ∈ lw_all := lw_mem (mt_6 _ (List.mem_of_getElem? (i := 20) rfl)) rfl
theorem qs_X5_kind : Cond.selects RX5 yX5_kind yX5_kind ∈ lw_all := lw_mem (mt_0 _ (List.mem_of_getElem? (i := 41) rfl)) rfl
theorem qc_X5_kind : Cond.code yX5_kind cX5_kind 3 (some .int) ∈ lw_all := lw_mem (mt_6 _ (List.mem_of_getElem? (i := 21) rfl)) rfl
theorem qm_L_283 : Cond.methodLink RL 283 yL_hoursUntilStop ∈ lw_all := lw_mem (mt_4 _ (List.mem_of_getElem? (i := 111) rfl)) rfl
theorem qt_L_hoursUntilStop : Cond.static yL_hoursUntilStop ∈ lw_all := lw_mem (mt_4 _ (List.mem_of_getElem? (i := 112) rfl)) rfl
theorem qc_L_hoursUntilStop : Cond.codeWith yL_hoursUntilStop cL_hoursUntilStop 4 (some .int) [(0, 9, 12, 19)] ∈ lw_all := lw_mem (mt_4 _ (List.mem_of_getElem? (i := 113) rfl)) rfl
theorem qm_L_97 : Cond.methodLink RL 97 yX4_hoursUntilStop ∈ lw_all := lw_mem (mt_4 _ (List.mem_of_getElem? (i := 114) rfl)) rfl
theorem qi_X4_hoursUntilStop : Cond.instanceMethod yX4_hoursUntilStop ∈ lw_all := lw_mem (mt_3 _ (List.mem_of_getElem? (i := 73) rfl)) rfl
theorem qs_X4_hoursUntilStop : Cond.selects RX4 yX4_hoursUntilStop yX4_hoursUntilStop ∈ lw_all := lw_mem (mt_3 _ (List.mem_of_getElem? (i := 74) rfl)) rfl
theorem qc_X4_hoursUntilStop : Cond.code yX4_hoursUntilStop cX4_hoursUntilStop 3 (some .int) ∈ lw_all := lw_mem (mt_3 _ (List.mem_of_getElem? (i := 75) rfl)) rfl
theorem qm_X4_218 : Cond.methodLink RX4 218 yX0_copy ∈ lw_all := lw_mem (mt_2 _ (List.mem_of_getElem? (i := 79) rfl)) rfl
theorem qi_X0_copy : Cond.instanceMethod yX0_copy ∈ lw_all := lw_mem (mt_2 _ (List.mem_of_getElem? (i := 80) rfl)) rfl
theorem qs_X0_copy : Cond.selects RX0 yX0_copy yX0_copy ∈ lw_all := lw_mem (mt_2 _ (List.mem_of_getElem? (i := 81) rfl)) rfl
theorem qc_X0_copy : Cond.code yX0_copy cX0_copy 3 none ∈ lw_all := lw_mem (mt_2 _ (List.mem_of_getElem? (i := 82) rfl)) rfl
theorem qm_L_285 : Cond.methodLink RL 285 yX5_hoursUntilStop ∈ lw_all := lw_mem (mt_6 _ (List.mem_of_getElem? (i := 22) rfl)) rfl
theorem qi_X5_hoursUntilStop : Cond.instanceMethod yX5_hoursUntilStop ∈ lw_all := lw_mem (mt_6 _ (List.mem_of_getElem? (i := 23) rfl)) rfl
theorem qs_X5_hoursUntilStop : Cond.selects RX5 yX5_hoursUntilStop yX5_hoursUntilStop ∈ lw_all := lw_mem (mt_6 _ (List.mem_of_getElem? (i := 24) rfl)) rfl
theorem qc_X5_hoursUntilStop : Cond.code yX5_hoursUntilStop cX5_hoursUntilStop 2 (some .int) ∈ lw_all := lw_mem (mt_6 _ (List.mem_of_getElem? (i := 25) rfl)) rfl
theorem qm_X5_185 : Cond.methodLink RX5 185 yX5_untilStop ∈ lw_all := lw_mem (mt_6 _ (List.mem_of_getElem? (i := 26) rfl)) rfl
theorem qi_X5_untilStop : Cond.instanceMethod yX5_untilStop ∈ lw_all := lw_mem (mt_6 _ (List.mem_of_getElem? (i := 28) rfl)) rfl
theorem qs_X5_untilStop : Cond.selects RX5 yX5_untilStop yX5_untilStop ∈ lw_all := lw_mem (mt_0 _ (List.mem_of_getElem? (i := 42) rfl)) rfl
theorem qc_X5_untilStop : Cond.code yX5_untilStop cX5_untilStop 4 (some .int) ∈ lw_all := lw_mem (mt_6 _ (List.mem_of_getElem? (i := 29) rfl)) rfl
theorem qm_X5_179 : Cond.methodLink RX5 179 yX5_keep ∈ lw_all := lw_mem (mt_6 _ (List.mem_of_getElem? (i := 30) rfl)) rfl
theorem qi_X5_keep : Cond.instanceMethod yX5_keep ∈ lw_all := lw_mem (mt_6 _ (List.mem_of_getElem? (i := 32) rfl)) rfl
theorem qs_X5_keep : Cond.selects RX5 yX5_keep yX5_keep ∈ lw_all := lw_mem (mt_0 _ (List.mem_of_getElem? (i := 43) rfl)) rfl
theorem qc_X5_keep : Cond.code yX5_keep cX5_keep 1 none ∈ lw_all := lw_mem (mt_6 _ (List.mem_of_getElem? (i := 33) rfl)) rfl
theorem qm_X5_63 : Cond.methodLink RX5 63 arraycopyName ∈ lw_all := lw_mem (mt_6 _ (List.mem_of_getElem? (i := 34) rfl)) rfl
theorem qz_Cond_native_arraycopyName : Cond.native arraycopyName ∈ lw_all := lw_mem (mt_6 _ (List.mem_of_getElem? (i := 36) rfl)) rfl
theorem qt_arraycopyName : Cond.static arraycopyName ∈ lw_all := lw_mem (mt_6 _ (List.mem_of_getElem? (i := 35) rfl)) rfl
theorem qn_System : Cond.initialized "java/lang/System" ∈ lw_all := lw_mem (mt_1 _ (List.mem_of_getElem? (i := 14) rfl)) rfl
theorem qm_X5_182 : Cond.methodLink RX5 182 yX5_bringBack ∈ lw_all := lw_mem (mt_6 _ (List.mem_of_getElem? (i := 37) rfl)) rfl
theorem qi_X5_bringBack : Cond.instanceMethod yX5_bringBack ∈ lw_all := lw_mem (mt_6 _ (List.mem_of_getElem? (i := 39) rfl)) rfl
theorem qs_X5_bringBack : Cond.selects RX5 yX5_bringBack yX5_bringBack ∈ lw_all := lw_mem (mt_0 _ (List.mem_of_getElem? (i := 44) rfl)) rfl
theorem qc_X5_bringBack : Cond.code yX5_bringBack cX5_bringBack 1 none ∈ lw_all := lw_mem (mt_6 _ (List.mem_of_getElem? (i := 40) rfl)) rfl
theorem qm_L_286 : Cond.methodLink RL 286 yX4_hoursUntilStuck ∈ lw_all := lw_mem (mt_2 _ (List.mem_of_getElem? (i := 75) rfl)) rfl
theorem qi_X4_hoursUntilStuck : Cond.instanceMethod yX4_hoursUntilStuck ∈ lw_all := lw_mem (mt_2 _ (List.mem_of_getElem? (i := 76) rfl)) rfl
theorem qs_X4_hoursUntilStuck : Cond.selects RX4 yX4_hoursUntilStuck yX4_hoursUntilStuck ∈ lw_all := lw_mem (mt_2 _ (List.mem_of_getElem? (i := 77) rfl)) rfl
theorem qc_X4_hoursUntilStuck : Cond.code yX4_hoursUntilStuck cX4_hoursUntilStuck 2 (some .int) ∈ lw_all := lw_mem (mt_2 _ (List.mem_of_getElem? (i := 78) rfl)) rfl
theorem qm_L_289 : Cond.methodLink RL 289 yX5_hoursUntilStuck ∈ lw_all := lw_mem (mt_6 _ (List.mem_of_getElem? (i := 41) rfl)) rfl
theorem qi_X5_hoursUntilStuck : Cond.instanceMethod yX5_hoursUntilStuck ∈ lw_all := lw_mem (mt_6 _ (List.mem_of_getElem? (i := 42) rfl)) rfl
theorem qs_X5_hoursUntilStuck : Cond.selects RX5 yX5_hoursUntilStuck yX5_hoursUntilStuck ∈ lw_all := lw_mem (mt_6 _ (List.mem_of_getElem? (i := 43) rfl)) rfl
theorem qc_X5_hoursUntilStuck : Cond.code yX5_hoursUntilStuck cX5_hoursUntilStuck 1 (some .int) ∈ lw_all := lw_mem (mt_6 _ (List.mem_of_getElem? (i := 44) rfl)) rfl
theorem qm_X5_188 : Cond.methodLink RX5 188 yX5_untilStuck ∈ lw_all := lw_mem (mt_6 _ (List.mem_of_getElem? (i := 45) rfl)) rfl
theorem qi_X5_untilStuck : Cond.instanceMethod yX5_untilStuck ∈ lw_all := lw_mem (mt_6 _ (List.mem_of_getElem? (i := 47) rfl)) rfl
theorem qs_X5_untilStuck : Cond.selects RX5 yX5_untilStuck yX5_untilStuck ∈ lw_all := lw_mem (mt_0 _ (List.mem_of_getElem? (i := 45) rfl)) rfl
theorem qc_X5_untilStuck : Cond.code yX5_untilStuck cX5_untilStuck 2 (some .int) ∈ lw_all := lw_mem (mt_6 _ (List.mem_of_getElem? (i := 48) rfl)) rfl
theorem qm_L_290 : Cond.methodLink RL 290 yL_printedIn ∈ lw_all := lw_mem (mt_4 _ (List.mem_of_getElem? (i := 115) rfl)) rfl
theorem qt_L_printedIn : Cond.static yL_printedIn ∈ lw_all := lw_mem (mt_4 _ (List.mem_of_getElem? (i := 116) rfl)) rfl
theorem qc_L_printedIn : Cond.codeWith yL_printedIn cL_printedIn 4 (some .int) [(0, 9, 12, 13)] ∈ lw_all := lw_mem (mt_4 _ (List.mem_of_getElem? (i := 117) rfl)) rfl
theorem qm_L_100 : Cond.methodLink RL 100 yX4_printedIn ∈ lw_all := lw_mem (mt_4 _ (List.mem_of_getElem? (i := 118) rfl)) rfl
theorem qi_X4_printedIn : Cond.instanceMethod yX4_printedIn ∈ lw_all := lw_mem (mt_2 _ (List.mem_of_getElem? (i := 178) rfl)) rfl
theorem qs_X4_printedIn : Cond.selects RX4 yX4_printedIn yX4_printedIn ∈ lw_all := lw_mem (mt_2 _ (List.mem_of_getElem? (i := 179) rfl)) rfl
theorem qc_X4_printedIn : Cond.code yX4_printedIn cX4_printedIn 2 (some .int) ∈ lw_all := lw_mem (mt_2 _ (List.mem_of_getElem? (i := 180) rfl)) rfl
theorem qm_X4_222 : Cond.methodLink RX4 222 yX4_needForeseeable ∈ lw_all := lw_mem (mt_2 _ (List.mem_of_getElem? (i := 181) rfl)) rfl
theorem qt_X4_needForeseeable : Cond.static yX4_needForeseeable ∈ lw_all := lw_mem (mt_2 _ (List.mem_of_getElem? (i := 182) rfl)) rfl
theorem qc_X4_needForeseeable : Cond.code yX4_needForeseeable cX4_needForeseeable 1 none ∈ lw_all := lw_mem (mt_2 _ (List.mem_of_getElem? (i := 183) rfl)) rfl
theorem qm_X4_225 : Cond.methodLink RX4 225 yX0_passAndCountPrinted ∈ lw_all := lw_mem (mt_3 _ (List.mem_of_getElem? (i := 12) rfl)) rfl
theorem qi_X0_passAndCountPrinted : Cond.instanceMethod yX0_passAndCountPrinted ∈ lw_all := lw_mem (mt_3 _ (List.mem_of_getElem? (i := 13) rfl)) rfl
theorem qs_X0_passAndCountPrinted : Cond.selects RX0 yX0_passAndCountPrinted yX0_passAndCountPrinted ∈ lw_all := lw_mem (mt_3 _ (List.mem_of_getElem? (i := 14) rfl)) rfl
theorem qc_X0_passAndCountPrinted : Cond.code yX0_passAndCountPrinted cX0_passAndCountPrinted 4 (some .int) ∈ lw_all := lw_mem (mt_3 _ (List.mem_of_getElem? (i := 15) rfl)) rfl
theorem qm_X0_76 : Cond.methodLink RX0 76 yX0_passHour ∈ lw_all := lw_mem (mt_3 _ (List.mem_of_getElem? (i := 16) rfl)) rfl
theorem qm_L_292 : Cond.methodLink RL 292 yX5_printedIn ∈ lw_all := lw_mem (mt_6 _ (List.mem_of_getElem? (i := 49) rfl)) rfl
theorem qi_X5_printedIn : Cond.instanceMethod yX5_printedIn ∈ lw_all := lw_mem (mt_6 _ (List.mem_of_getElem? (i := 50) rfl)) rfl
theorem qs_X5_printedIn : Cond.selects RX5 yX5_printedIn yX5_printedIn ∈ lw_all := lw_mem (mt_6 _ (List.mem_of_getElem? (i := 51) rfl)) rfl
theorem qc_X5_printedIn : Cond.code yX5_printedIn cX5_printedIn 2 (some .int) ∈ lw_all := lw_mem (mt_6 _ (List.mem_of_getElem? (i := 52) rfl)) rfl
theorem qm_X5_194 : Cond.methodLink RX5 194 yX5_then ∈ lw_all := lw_mem (mt_6 _ (List.mem_of_getElem? (i := 53) rfl)) rfl
theorem qi_X5_then : Cond.instanceMethod yX5_then ∈ lw_all := lw_mem (mt_6 _ (List.mem_of_getElem? (i := 55) rfl)) rfl
theorem qs_X5_then : Cond.selects RX5 yX5_then yX5_then ∈ lw_all := lw_mem (mt_0 _ (List.mem_of_getElem? (i := 46) rfl)) rfl
theorem qc_X5_then : Cond.code yX5_then cX5_then 4 (some .int) ∈ lw_all := lw_mem (mt_6 _ (List.mem_of_getElem? (i := 56) rfl)) rfl
theorem qm_X5_191 : Cond.methodLink RX5 191 yX5_warmth ∈ lw_all := lw_mem (mt_6 _ (List.mem_of_getElem? (i := 57) rfl)) rfl
theorem qi_X5_warmth : Cond.instanceMethod yX5_warmth ∈ lw_all := lw_mem (mt_6 _ (List.mem_of_getElem? (i := 59) rfl)) rfl
theorem qs_X5_warmth : Cond.selects RX5 yX5_warmth yX5_warmth ∈ lw_all := lw_mem (mt_0 _ (List.mem_of_getElem? (i := 47) rfl)) rfl
theorem qc_X5_warmth : Cond.code yX5_warmth cX5_warmth 3 (some .int) ∈ lw_all := lw_mem (mt_6 _ (List.mem_of_getElem? (i := 60) rfl)) rfl
theorem qm_L_293 : Cond.methodLink RL 293 yL_subscribersIn ∈ lw_all := lw_mem (mt_4 _ (List.mem_of_getElem? (i := 119) rfl)) rfl
theorem qt_L_subscribersIn : Cond.static yL_subscribersIn ∈ lw_all := lw_mem (mt_4 _ (List.mem_of_getElem? (i := 120) rfl)) rfl
theorem qc_L_subscribersIn : Cond.codeWith yL_subscribersIn cL_subscribersIn 4 (some .int) [(0, 9, 12, 13)] ∈ lw_all := lw_mem (mt_4 _ (List.mem_of_getElem? (i := 121) rfl)) rfl
theorem qm_L_103 : Cond.methodLink RL 103 yX4_subscribersIn ∈ lw_all := lw_mem (mt_4 _ (List.mem_of_getElem? (i := 122) rfl)) rfl
theorem qi_X4_subscribersIn : Cond.instanceMethod yX4_subscribersIn ∈ lw_all := lw_mem (mt_3 _ (List.mem_of_getElem? (i := 18) rfl)) rfl
theorem qs_X4_subscribersIn : Cond.selects RX4 yX4_subscribersIn yX4_subscribersIn ∈ lw_all := lw_mem (mt_3 _ (List.mem_of_getElem? (i := 19) rfl)) rfl
theorem qc_X4_subscribersIn : Cond.code yX4_subscribersIn cX4_subscribersIn 2 (some .int) ∈ lw_all := lw_mem (mt_3 _ (List.mem_of_getElem? (i := 20) rfl)) rfl
theorem qm_L_295 : Cond.methodLink RL 295 yX5_subscribersIn ∈ lw_all := lw_mem (mt_6 _ (List.mem_of_getElem? (i := 61) rfl)) rfl
theorem qi_X5_subscribersIn : Cond.instanceMethod yX5_subscribersIn ∈ lw_all := lw_mem (mt_6 _ (List.mem_of_getElem? (i := 62) rfl)) rfl
theorem qs_X5_subscribersIn : Cond.selects RX5 yX5_subscribersIn yX5_subscribersIn ∈ lw_all := lw_mem (mt_6 _ (List.mem_of_getElem? (i := 63) rfl)) rfl
theorem qc_X5_subscribersIn : Cond.code yX5_subscribersIn cX5_subscribersIn 2 (some .int) ∈ lw_all := lw_mem (mt_6 _ (List.mem_of_getElem? (i := 64) rfl)) rfl
theorem qm_L_296 : Cond.methodLink RL 296 yL_bestToCall ∈ lw_all := lw_mem (mt_4 _ (List.mem_of_getElem? (i := 123) rfl)) rfl
theorem qt_L_bestToCall : Cond.static yL_bestToCall ∈ lw_all := lw_mem (mt_4 _ (List.mem_of_getElem? (i := 124) rfl)) rfl
theorem qc_L_bestToCall : Cond.codeWith yL_bestToCall cL_bestToCall 4 (some .int) [(0, 9, 12, 13)] ∈ lw_all := lw_mem (mt_4 _ (List.mem_of_getElem? (i := 125) rfl)) rfl
theorem qm_L_106 : Cond.methodLink RL 106 yX4_bestToCall ∈ lw_all := lw_mem (mt_4 _ (List.mem_of_getElem? (i := 126) rfl)) rfl
theorem qi_X4_bestToCall : Cond.instanceMethod yX4_bestToCall ∈ lw_all := lw_mem (mt_3 _ (List.mem_of_getElem? (i := 22) rfl)) rfl
theorem qs_X4_bestToCall : Cond.selects RX4 yX4_bestToCall yX4_bestToCall ∈ lw_all := lw_mem (mt_3 _ (List.mem_of_getElem? (i := 23) rfl)) rfl
theorem qc_X4_bestToCall : Cond.code yX4_bestToCall cX4_bestToCall 6 (some .int) ∈ lw_all := lw_mem (mt_3 _ (List.mem_of_getElem? (i := 24) rfl)) rfl
theorem qm_X4_228 : Cond.methodLink RX4 228 yX0_sumOfWarmths ∈ lw_all := lw_mem (mt_2 _ (List.mem_of_getElem? (i := 138) rfl)) rfl
theorem qi_X0_sumOfWarmths : Cond.instanceMethod yX0_sumOfWarmths ∈ lw_all := lw_mem (mt_2 _ (List.mem_of_getElem? (i := 139) rfl)) rfl
theorem qs_X0_sumOfWarmths : Cond.selects RX0 yX0_sumOfWarmths yX0_sumOfWarmths ∈ lw_all := lw_mem (mt_2 _ (List.mem_of_getElem? (i := 140) rfl)) rfl
theorem qc_X0_sumOfWarmths : Cond.code yX0_sumOfWarmths cX0_sumOfWarmths 3 (some .int) ∈ lw_all := lw_mem (mt_2 _ (List.mem_of_getElem? (i := 141) rfl)) rfl
theorem qm_L_298 : Cond.methodLink RL 298 yX5_bestToCall ∈ lw_all := lw_mem (mt_6 _ (List.mem_of_getElem? (i := 65) rfl)) rfl
theorem qi_X5_bestToCall : Cond.instanceMethod yX5_bestToCall ∈ lw_all := lw_mem (mt_6 _ (List.mem_of_getElem? (i := 66) rfl)) rfl
theorem qs_X5_bestToCall : Cond.selects RX5 yX5_bestToCall yX5_bestToCall ∈ lw_all := lw_mem (mt_6 _ (List.mem_of_getElem? (i := 67) rfl)) rfl
theorem qc_X5_bestToCall : Cond.code yX5_bestToCall cX5_bestToCall 2 (some .int) ∈ lw_all := lw_mem (mt_6 _ (List.mem_of_getElem? (i := 68) rfl)) rfl
theorem qm_X5_197 : Cond.methodLink RX5 197 yX5_callBest ∈ lw_all := lw_mem (mt_6 _ (List.mem_of_getElem? (i := 69) rfl)) rfl
theorem qi_X5_callBest : Cond.instanceMethod yX5_callBest ∈ lw_all := lw_mem (mt_6 _ (List.mem_of_getElem? (i := 71) rfl)) rfl
theorem qs_X5_callBest : Cond.selects RX5 yX5_callBest yX5_callBest ∈ lw_all := lw_mem (mt_0 _ (List.mem_of_getElem? (i := 48) rfl)) rfl
theorem qc_X5_callBest : Cond.code yX5_callBest cX5_callBest 7 (some .int) ∈ lw_all := lw_mem (mt_6 _ (List.mem_of_getElem? (i := 72) rfl)) rfl
theorem qm_L_299 : Cond.methodLink RL 299 yL_bestToAllow ∈ lw_all := lw_mem (mt_4 _ (List.mem_of_getElem? (i := 127) rfl)) rfl
theorem qt_L_bestToAllow : Cond.static yL_bestToAllow ∈ lw_all := lw_mem (mt_4 _ (List.mem_of_getElem? (i := 128) rfl)) rfl
theorem qc_L_bestToAllow : Cond.codeWith yL_bestToAllow cL_bestToAllow 4 (some .int) [(0, 9, 12, 13)] ∈ lw_all := lw_mem (mt_4 _ (List.mem_of_getElem? (i := 129) rfl)) rfl
theorem qm_L_109 : Cond.methodLink RL 109 yX4_bestToAllow ∈ lw_all := lw_mem (mt_4 _ (List.mem_of_getElem? (i := 130) rfl)) rfl
theorem qi_X4_bestToAllow : Cond.instanceMethod yX4_bestToAllow ∈ lw_all := lw_mem (mt_3 _ (List.mem_of_getElem? (i := 26) rfl)) rfl
theorem qs_X4_bestToAllow : Cond.selects RX4 yX4_bestToAllow yX4_bestToAllow ∈ lw_all := lw_mem (mt_3 _ (List.mem_of_getElem? (i := 27) rfl)) rfl
theorem qc_X4_bestToAllow : Cond.code yX4_bestToAllow cX4_bestToAllow 6 (some .int) ∈ lw_all := lw_mem (mt_3 _ (List.mem_of_getElem? (i := 28) rfl)) rfl
theorem qm_L_301 : Cond.methodLink RL 301 yX5_bestToAllow ∈ lw_all := lw_mem (mt_6 _ (List.mem_of_getElem? (i := 73) rfl)) rfl
theorem qi_X5_bestToAllow : Cond.instanceMethod yX5_bestToAllow ∈ lw_all := lw_mem (mt_6 _ (List.mem_of_getElem? (i := 74) rfl)) rfl
theorem qs_X5_bestToAllow : Cond.selects RX5 yX5_bestToAllow yX5_bestToAllow ∈ lw_all := lw_mem (mt_6 _ (List.mem_of_getElem? (i := 75) rfl)) rfl
theorem qc_X5_bestToAllow : Cond.code yX5_bestToAllow cX5_bestToAllow 2 (some .int) ∈ lw_all := lw_mem (mt_6 _ (List.mem_of_getElem? (i := 76) rfl)) rfl
theorem qm_X5_200 : Cond.methodLink RX5 200 yX5_allowBest ∈ lw_all := lw_mem (mt_6 _ (List.mem_of_getElem? (i := 77) rfl)) rfl
theorem qi_X5_allowBest : Cond.instanceMethod yX5_allowBest ∈ lw_all := lw_mem (mt_6 _ (List.mem_of_getElem? (i := 79) rfl)) rfl
theorem qs_X5_allowBest : Cond.selects RX5 yX5_allowBest yX5_allowBest ∈ lw_all := lw_mem (mt_0 _ (List.mem_of_getElem? (i := 49) rfl)) rfl
theorem qc_X5_allowBest : Cond.code yX5_allowBest cX5_allowBest 7 (some .int) ∈ lw_all := lw_mem (mt_6 _ (List.mem_of_getElem? (i := 80) rfl)) rfl
theorem qm_L_302 : Cond.methodLink RL 302 yX4_meanWarmth ∈ lw_all := lw_mem (mt_2 _ (List.mem_of_getElem? (i := 134) rfl)) rfl
theorem qi_X4_meanWarmth : Cond.instanceMethod yX4_meanWarmth ∈ lw_all := lw_mem (mt_2 _ (List.mem_of_getElem? (i := 135) rfl)) rfl
theorem qs_X4_meanWarmth : Cond.selects RX4 yX4_meanWarmth yX4_meanWarmth ∈ lw_all := lw_mem (mt_2 _ (List.mem_of_getElem? (i := 136) rfl)) rfl
theorem qc_X4_meanWarmth : Cond.code yX4_meanWarmth cX4_meanWarmth 2 (some .double) ∈ lw_all := lw_mem (mt_2 _ (List.mem_of_getElem? (i := 137) rfl)) rfl
theorem qm_L_306 : Cond.methodLink RL 306 yX5_meanWarmth ∈ lw_all := lw_mem (mt_6 _ (List.mem_of_getElem? (i := 81) rfl)) rfl
theorem qi_X5_meanWarmth : Cond.instanceMethod yX5_meanWarmth ∈ lw_all := lw_mem (mt_6 _ (List.mem_of_getElem? (i := 82) rfl)) rfl
theorem qs_X5_meanWarmth : Cond.selects RX5 yX5_meanWarmth yX5_meanWarmth ∈ lw_all := lw_mem (mt_6 _ (List.mem_of_getElem? (i := 83) rfl)) rfl
theorem qc_X5_meanWarmth : Cond.code yX5_meanWarmth cX5_meanWarmth 2 (some .double) ∈ lw_all := lw_mem (mt_6 _ (List.mem_of_getElem? (i := 84) rfl)) rfl
theorem qm_L_307 : Cond.methodLink RL 307 yX4_digest ∈ lw_all := lw_mem (mt_2 _ (List.mem_of_getElem? (i := 142) rfl)) rfl
theorem qi_X4_digest : Cond.instanceMethod yX4_digest ∈ lw_all := lw_mem (mt_2 _ (List.mem_of_getElem? (i := 143) rfl)) rfl
theorem qs_X4_digest : Cond.selects RX4 yX4_digest yX4_digest ∈ lw_all := lw_mem (mt_2 _ (List.mem_of_getElem? (i := 144) rfl)) rfl
theorem qc_X4_digest : Cond.code yX4_digest cX4_digest 3 (some .long) ∈ lw_all := lw_mem (mt_2 _ (List.mem_of_getElem? (i := 145) rfl)) rfl
theorem ql_X4_231 : Cond.constantLong RX4 231 (2293) ∈ lw_all := lw_mem (mt_2 _ (List.mem_of_getElem? (i := 146) rfl)) rfl
theorem qm_X4_233 : Cond.methodLink RX4 233 yX4_foldLift ∈ lw_all := lw_mem (mt_2 _ (List.mem_of_getElem? (i := 147) rfl)) rfl
theorem qi_X4_foldLift : Cond.instanceMethod yX4_foldLift ∈ lw_all := lw_mem (mt_2 _ (List.mem_of_getElem? (i := 149) rfl)) rfl
theorem qs_X4_foldLift : Cond.selects RX4 yX4_foldLift yX4_foldLift ∈ lw_all := lw_mem (mt_0 _ (List.mem_of_getElem? (i := 2) rfl)) rfl
theorem qc_X4_foldLift : Cond.code yX4_foldLift cX4_foldLift 5 (some .long) ∈ lw_all := lw_mem (mt_2 _ (List.mem_of_getElem? (i := 150) rfl)) rfl
theorem qm_X4_255 : Cond.methodLink RX4 255 yX4_floors ∈ lw_all := lw_mem (mt_2 _ (List.mem_of_getElem? (i := 151) rfl)) rfl
theorem qm_X4_257 : Cond.methodLink RX4 257 yX4_fold ∈ lw_all := lw_mem (mt_2 _ (List.mem_of_getElem? (i := 152) rfl)) rfl
theorem qt_X4_fold : Cond.static yX4_fold ∈ lw_all := lw_mem (mt_2 _ (List.mem_of_getElem? (i := 153) rfl)) rfl
theorem qc_X4_fold : Cond.code yX4_fold cX4_fold 3 (some .long) ∈ lw_all := lw_mem (mt_2 _ (List.mem_of_getElem? (i := 154) rfl)) rfl
theorem ql_X4_368 : Cond.constantLong RX4 368 (31) ∈ lw_all := lw_mem (mt_2 _ (List.mem_of_getElem? (i := 155) rfl)) rfl
theorem qm_X4_261 : Cond.methodLink RX4 261 yX4_hours ∈ lw_all := lw_mem (mt_2 _ (List.mem_of_getElem? (i := 156) rfl)) rfl
theorem qm_X4_263 : Cond.methodLink RX4 263 yX4_liftAt ∈ lw_all := lw_mem (mt_2 _ (List.mem_of_getElem? (i := 157) rfl)) rfl
theorem qm_X4_266 : Cond.methodLink RX4 266 yX4_goes ∈ lw_all := lw_mem (mt_2 _ (List.mem_of_getElem? (i := 158) rfl)) rfl
theorem qm_X4_269 : Cond.methodLink RX4 269 yX4_calls ∈ lw_all := lw_mem (mt_2 _ (List.mem_of_getElem? (i := 159) rfl)) rfl
theorem qm_X4_272 : Cond.methodLink RX4 272 yX4_stuckFor ∈ lw_all := lw_mem (mt_2 _ (List.mem_of_getElem? (i := 160) rfl)) rfl
theorem qm_X4_275 : Cond.methodLink RX4 275 yX4_wear ∈ lw_all := lw_mem (mt_2 _ (List.mem_of_getElem? (i := 161) rfl)) rfl
theorem qm_X4_277 : Cond.methodLink RX4 277 yX4_limit ∈ lw_all := lw_mem (mt_2 _ (List.mem_of_getElem? (i := 162) rfl)) rfl
theorem qm_X4_279 : Cond.methodLink RX4 279 yX4_suspense ∈ lw_all := lw_mem (mt_2 _ (List.mem_of_getElem? (i := 163) rfl)) rfl
theorem qm_X4_281 : Cond.methodLink RX4 281 yX4_cuts ∈ lw_all := lw_mem (mt_2 _ (List.mem_of_getElem? (i := 164) rfl)) rfl
theorem qm_X4_284 : Cond.methodLink RX4 284 yX4_instalments ∈ lw_all := lw_mem (mt_2 _ (List.mem_of_getElem? (i := 165) rfl)) rfl
theorem qm_X4_287 : Cond.methodLink RX4 287 yX4_mostThrilling ∈ lw_all := lw_mem (mt_2 _ (List.mem_of_getElem? (i := 166) rfl)) rfl
theorem qm_X4_290 : Cond.methodLink RX4 290 yX4_longestWait ∈ lw_all := lw_mem (mt_2 _ (List.mem_of_getElem? (i := 167) rfl)) rfl
theorem qm_X4_293 : Cond.methodLink RX4 293 yX4_climbs ∈ lw_all := lw_mem (mt_2 _ (List.mem_of_getElem? (i := 168) rfl)) rfl
theorem qm_X4_296 : Cond.methodLink RX4 296 yX4_subscribers ∈ lw_all := lw_mem (mt_2 _ (List.mem_of_getElem? (i := 169) rfl)) rfl
theorem qm_X4_299 : Cond.methodLink RX4 299 yX4_warmest ∈ lw_all := lw_mem (mt_2 _ (List.mem_of_getElem? (i := 170) rfl)) rfl
theorem qm_X4_302 : Cond.methodLink RX4 302 yX4_kindest ∈ lw_all := lw_mem (mt_2 _ (List.mem_of_getElem? (i := 171) rfl)) rfl
theorem qm_X4_237 : Cond.methodLink RX4 237 yX4_foldForesight ∈ lw_all := lw_mem (mt_2 _ (List.mem_of_getElem? (i := 172) rfl)) rfl
theorem qi_X4_foldForesight : Cond.instanceMethod yX4_foldForesight ∈ lw_all := lw_mem (mt_2 _ (List.mem_of_getElem? (i := 174) rfl)) rfl
theorem qs_X4_foldForesight : Cond.selects RX4 yX4_foldForesight yX4_foldForesight ∈ lw_all := lw_mem (mt_0 _ (List.mem_of_getElem? (i := 3) rfl)) rfl
theorem qc_X4_foldForesight : Cond.code yX4_foldForesight cX4_foldForesight 5 (some .long) ∈ lw_all := lw_mem (mt_2 _ (List.mem_of_getElem? (i := 175) rfl)) rfl
theorem qm_X4_305 : Cond.methodLink RX4 305 yX4_hoursUntilStuck ∈ lw_all := lw_mem (mt_2 _ (List.mem_of_getElem? (i := 176) rfl)) rfl
theorem qm_X4_308 : Cond.methodLink RX4 308 yX4_printedIn ∈ lw_all := lw_mem (mt_2 _ (List.mem_of_getElem? (i := 177) rfl)) rfl
theorem qm_X4_311 : Cond.methodLink RX4 311 yX4_subscribersIn ∈ lw_all := lw_mem (mt_3 _ (List.mem_of_getElem? (i := 17) rfl)) rfl
theorem qm_X4_314 : Cond.methodLink RX4 314 yX4_bestToCall ∈ lw_all := lw_mem (mt_3 _ (List.mem_of_getElem? (i := 21) rfl)) rfl
theorem qm_X4_317 : Cond.methodLink RX4 317 yX4_bestToAllow ∈ lw_all := lw_mem (mt_3 _ (List.mem_of_getElem? (i := 25) rfl)) rfl
theorem qm_X4_240 : Cond.methodLink RX4 240 yX4_foldFloors ∈ lw_all := lw_mem (mt_3 _ (List.mem_of_getElem? (i := 29) rfl)) rfl
theorem qi_X4_foldFloors : Cond.instanceMethod yX4_foldFloors ∈ lw_all := lw_mem (mt_3 _ (List.mem_of_getElem? (i := 31) rfl)) rfl
theorem qs_X4_foldFloors : Cond.selects RX4 yX4_foldFloors yX4_foldFloors ∈ lw_all := lw_mem (mt_0 _ (List.mem_of_getElem? (i := 5) rfl)) rfl
theorem qc_X4_foldFloors : Cond.code yX4_foldFloors cX4_foldFloors 6 (some .long) ∈ lw_all := lw_mem (mt_3 _ (List.mem_of_getElem? (i := 32) rfl)) rfl
theorem qm_X4_320 : Cond.methodLink RX4 320 yX4_isCalled ∈ lw_all := lw_mem (mt_3 _ (List.mem_of_getElem? (i := 33) rfl)) rfl
theorem qm_X4_323 : Cond.methodLink RX4 323 yX4_bit ∈ lw_all := lw_mem (mt_3 _ (List.mem_of_getElem? (i := 57) rfl)) rfl
theorem qt_X4_bit : Cond.static yX4_bit ∈ lw_all := lw_mem (mt_3 _ (List.mem_of_getElem? (i := 58) rfl)) rfl
theorem qc_X4_bit : Cond.code yX4_bit cX4_bit 1 (some .int) ∈ lw_all := lw_mem (mt_3 _ (List.mem_of_getElem? (i := 59) rfl)) rfl
theorem qm_X4_327 : Cond.methodLink RX4 327 yX4_paragraphs ∈ lw_all := lw_mem (mt_3 _ (List.mem_of_getElem? (i := 60) rfl)) rfl
theorem qm_X4_329 : Cond.methodLink RX4 329 yX4_nextParagraph ∈ lw_all := lw_mem (mt_3 _ (List.mem_of_getElem? (i := 64) rfl)) rfl
theorem qm_X4_332 : Cond.methodLink RX4 332 yX4_cutOn ∈ lw_all := lw_mem (mt_3 _ (List.mem_of_getElem? (i := 68) rfl)) rfl
theorem qm_X4_335 : Cond.methodLink RX4 335 yX4_hoursUntilStop ∈ lw_all := lw_mem (mt_3 _ (List.mem_of_getElem? (i := 72) rfl)) rfl
theorem qm_X4_243 : Cond.methodLink RX4 243 yX4_foldTopics ∈ lw_all := lw_mem (mt_3 _ (List.mem_of_getElem? (i := 76) rfl)) rfl
theorem qi_X4_foldTopics : Cond.instanceMethod yX4_foldTopics ∈ lw_all := lw_mem (mt_3 _ (List.mem_of_getElem? (i := 78) rfl)) rfl
theorem qs_X4_foldTopics : Cond.selects RX4 yX4_foldTopics yX4_foldTopics ∈ lw_all := lw_mem (mt_0 _ (List.mem_of_getElem? (i := 7) rfl)) rfl
theorem qc_X4_foldTopics : Cond.code yX4_foldTopics cX4_foldTopics 6 (some .long) ∈ lw_all := lw_mem (mt_3 _ (List.mem_of_getElem? (i := 79) rfl)) rfl
theorem qm_X4_338 : Cond.methodLink RX4 338 yX4_isForbidden ∈ lw_all := lw_mem (mt_3 _ (List.mem_of_getElem? (i := 80) rfl)) rfl
theorem qm_X4_341 : Cond.methodLink RX4 341 yX4_toCome ∈ lw_all := lw_mem (mt_3 _ (List.mem_of_getElem? (i := 91) rfl)) rfl
theorem qm_X4_246 : Cond.methodLink RX4 246 yX4_foldInstalments ∈ lw_all := lw_mem (mt_3 _ (List.mem_of_getElem? (i := 99) rfl)) rfl
theorem qi_X4_foldInstalments : Cond.instanceMethod yX4_foldInstalments ∈ lw_all := lw_mem (mt_3 _ (List.mem_of_getElem? (i := 101) rfl)) rfl
theorem qs_X4_foldInstalments : Cond.selects RX4 yX4_foldInstalments yX4_foldInstalments ∈ lw_all := lw_mem (mt_0 _ (List.mem_of_getElem? (i := 8) rfl)) rfl
theorem qc_X4_foldInstalments : Cond.code yX4_foldInstalments cX4_foldInstalments 6 (some .long) ∈ lw_all := lw_mem (mt_3 _ (List.mem_of_getElem? (i := 102) rfl)) rfl
theorem qm_X4_344 : Cond.methodLink RX4 344 yX4_floorIn ∈ lw_all := lw_mem (mt_3 _ (List.mem_of_getElem? (i := 103) rfl)) rfl
theorem qm_X4_347 : Cond.methodLink RX4 347 yX4_paragraphIn ∈ lw_all := lw_mem (mt_3 _ (List.mem_of_getElem? (i := 112) rfl)) rfl
theorem qm_X4_350 : Cond.methodLink RX4 350 yX4_thrillIn ∈ lw_all := lw_mem (mt_3 _ (List.mem_of_getElem? (i := 116) rfl)) rfl
theorem qm_X4_353 : Cond.methodLink RX4 353 yX4_hourIn ∈ lw_all := lw_mem (mt_3 _ (List.mem_of_getElem? (i := 120) rfl)) rfl
theorem qm_X4_249 : Cond.methodLink RX4 249 yX4_foldReaders ∈ lw_all := lw_mem (mt_3 _ (List.mem_of_getElem? (i := 124) rfl)) rfl
theorem qi_X4_foldReaders : Cond.instanceMethod yX4_foldReaders ∈ lw_all := lw_mem (mt_3 _ (List.mem_of_getElem? (i := 126) rfl)) rfl
theorem qs_X4_foldReaders : Cond.selects RX4 yX4_foldReaders yX4_foldReaders ∈ lw_all := lw_mem (mt_0 _ (List.mem_of_getElem? (i := 10) rfl)) rfl
theorem qc_X4_foldReaders : Cond.code yX4_foldReaders cX4_foldReaders 6 (some .long) ∈ lw_all := lw_mem (mt_3 _ (List.mem_of_getElem? (i := 127) rfl)) rfl
theorem qm_X4_356 : Cond.methodLink RX4 356 yX4_warmthOf ∈ lw_all := lw_mem (mt_3 _ (List.mem_of_getElem? (i := 128) rfl)) rfl
theorem qm_X4_359 : Cond.methodLink RX4 359 yX4_isSubscriber ∈ lw_all := lw_mem (mt_3 _ (List.mem_of_getElem? (i := 137) rfl)) rfl
theorem qm_X4_252 : Cond.methodLink RX4 252 yX4_foldMirrors ∈ lw_all := lw_mem (mt_3 _ (List.mem_of_getElem? (i := 141) rfl)) rfl
theorem qi_X4_foldMirrors : Cond.instanceMethod yX4_foldMirrors ∈ lw_all := lw_mem (mt_3 _ (List.mem_of_getElem? (i := 143) rfl)) rfl
theorem qs_X4_foldMirrors : Cond.selects RX4 yX4_foldMirrors yX4_foldMirrors ∈ lw_all := lw_mem (mt_0 _ (List.mem_of_getElem? (i := 12) rfl)) rfl
theorem qc_X4_foldMirrors : Cond.code yX4_foldMirrors cX4_foldMirrors 6 (some .long) ∈ lw_all := lw_mem (mt_3 _ (List.mem_of_getElem? (i := 144) rfl)) rfl
theorem qm_X4_362 : Cond.methodLink RX4 362 yX4_gradesBy ∈ lw_all := lw_mem (mt_3 _ (List.mem_of_getElem? (i := 145) rfl)) rfl
theorem qm_X4_365 : Cond.methodLink RX4 365 yX4_favouriteOf ∈ lw_all := lw_mem (mt_3 _ (List.mem_of_getElem? (i := 154) rfl)) rfl
theorem qm_L_311 : Cond.methodLink RL 311 yX5_digest ∈ lw_all := lw_mem (mt_6 _ (List.mem_of_getElem? (i := 85) rfl)) rfl
theorem qi_X5_digest : Cond.instanceMethod yX5_digest ∈ lw_all := lw_mem (mt_6 _ (List.mem_of_getElem? (i := 86) rfl)) rfl
theorem qs_X5_digest : Cond.selects RX5 yX5_digest yX5_digest ∈ lw_all := lw_mem (mt_6 _ (List.mem_of_getElem? (i := 87) rfl)) rfl
theorem qc_X5_digest : Cond.code yX5_digest cX5_digest 10 (some .long) ∈ lw_all := lw_mem (mt_6 _ (List.mem_of_getElem? (i := 88) rfl)) rfl
theorem ql_X5_203 : Cond.constantLong RX5 203 (2293) ∈ lw_all := lw_mem (mt_6 _ (List.mem_of_getElem? (i := 89) rfl)) rfl
theorem ql_X5_205 : Cond.constantLong RX5 205 (31) ∈ lw_all := lw_mem (mt_6 _ (List.mem_of_getElem? (i := 90) rfl)) rfl
theorem qw_X0_0 : u_lay RX0 TX0 0 ∈ lw_all := lw_mem (mt_1 _ (List.mem_of_getElem? (i := 94) rfl)) rfl
theorem qw_X0_1 : u_lay RX0 TX0 1 ∈ lw_all := lw_mem (mt_1 _ (List.mem_of_getElem? (i := 96) rfl)) rfl
theorem qw_X0_2 : u_lay RX0 TX0 2 ∈ lw_all := lw_mem (mt_1 _ (List.mem_of_getElem? (i := 98) rfl)) rfl
theorem qw_X0_3 : u_lay RX0 TX0 3 ∈ lw_all := lw_mem (mt_1 _ (List.mem_of_getElem? (i := 100) rfl)) rfl
theorem qw_X0_4 : u_lay RX0 TX0 4 ∈ lw_all := lw_mem (mt_1 _ (List.mem_of_getElem? (i := 102) rfl)) rfl
theorem qw_X0_5 : u_lay RX0 TX0 5 ∈ lw_all := lw_mem (mt_1 _ (List.mem_of_getElem? (i := 104) rfl)) rfl
theorem qw_X0_6 : u_lay RX0 TX0 6 ∈ lw_all := lw_mem (mt_1 _ (List.mem_of_getElem? (i := 106) rfl)) rfl
theorem qw_X0_7 : u_lay RX0 TX0 7 ∈ lw_all := lw_mem (mt_1 _ (List.mem_of_getElem? (i := 108) rfl)) rfl
theorem qw_X0_8 : u_lay RX0 TX0 8 ∈ lw_all := lw_mem (mt_1 _ (List.mem_of_getElem? (i := 110) rfl)) rfl
theorem qw_X0_9 : u_lay RX0 TX0 9 ∈ lw_all := lw_mem (mt_1 _ (List.mem_of_getElem? (i := 112) rfl)) rfl
theorem qw_X0_10 : u_lay RX0 TX0 10 ∈ lw_all := lw_mem (mt_1 _ (List.mem_of_getElem? (i := 114) rfl)) rfl
theorem qw_X0_11 : u_lay RX0 TX0 11 ∈ lw_all := lw_mem (mt_1 _ (List.mem_of_getElem? (i := 116) rfl)) rfl
theorem qw_X0_12 : u_lay RX0 TX0 12 ∈ lw_all := lw_mem (mt_1 _ (List.mem_of_getElem? (i := 118) rfl)) rfl
theorem qw_X0_13 : u_lay RX0 TX0 13 ∈ lw_all := lw_mem (mt_1 _ (List.mem_of_getElem? (i := 120) rfl)) rfl
theorem inX0 : ∀ w ∈ wsX00, w ∈ lw_all := List.forall_mem_cons.mpr ⟨qw_X0_0, List.forall_mem_cons.mpr ⟨qw_X0_1, List.forall_mem_cons.mpr ⟨qw_X0_2, List.forall_mem_cons.mpr ⟨qw_X0_3, List.forall_mem_cons.mpr ⟨qw_X0_4, List.forall_mem_cons.mpr ⟨qw_X0_5, List.forall_mem_cons.mpr ⟨qw_X0_6, List.forall_mem_cons.mpr ⟨qw_X0_7, List.forall_mem_cons.mpr ⟨qw_X0_8, List.forall_mem_cons.mpr ⟨qw_X0_9, List.forall_mem_cons.mpr ⟨qw_X0_10, List.forall_mem_cons.mpr ⟨qw_X0_11, List.forall_mem_cons.mpr ⟨qw_X0_12, List.forall_mem_cons.mpr ⟨qw_X0_13, fun _ h => absurd h List.not_mem_nil⟩⟩⟩⟩⟩⟩⟩⟩⟩⟩⟩⟩⟩⟩
theorem qw_X1_0 : u_lay RX1 TX1 0 ∈ lw_all := lw_mem (mt_1 _ (List.mem_of_getElem? (i := 46) rfl)) rfl
theorem qw_X1_1 : u_lay RX1 TX1 1 ∈ lw_all := lw_mem (mt_1 _ (List.mem_of_getElem? (i := 48) rfl)) rfl
theorem qw_X1_2 : u_lay RX1 TX1 2 ∈ lw_all := lw_mem (mt_1 _ (List.mem_of_getElem? (i := 50) rfl)) rfl
theorem qw_X1_3 : u_lay RX1 TX1 3 ∈ lw_all := lw_mem (mt_1 _ (List.mem_of_getElem? (i := 52) rfl)) rfl
theorem qw_X1_4 : u_lay RX1 TX1 4 ∈ lw_all := lw_mem (mt_1 _ (List.mem_of_getElem? (i := 54) rfl)) rfl
theorem qw_X1_5 : u_lay RX1 TX1 5 ∈ lw_all := lw_mem (mt_1 _ (List.mem_of_getElem? (i := 56) rfl)) rfl
theorem qw_X1_6 : u_lay RX1 TX1 6 ∈ lw_all := lw_mem (mt_1 _ (List.mem_of_getElem? (i := 58) rfl)) rfl
theorem inX1 : ∀ w ∈ wsX10, w ∈ lw_all := List.forall_mem_cons.mpr ⟨qw_X1_0, List.forall_mem_cons.mpr ⟨qw_X1_1, List.forall_mem_cons.mpr ⟨qw_X1_2, List.forall_mem_cons.mpr ⟨qw_X1_3, List.forall_mem_cons.mpr ⟨qw_X1_4, List.forall_mem_cons.mpr ⟨qw_X1_5, List.forall_mem_cons.mpr ⟨qw_X1_6, fun _ h => absurd h List.not_mem_nil⟩⟩⟩⟩⟩⟩⟩
theorem qw_X2_0 : u_lay RX2 TX2 0 ∈ lw_all := lw_mem (mt_1 _ (List.mem_of_getElem? (i := 140) rfl)) rfl
theorem qw_X2_1 : u_lay RX2 TX2 1 ∈ lw_all := lw_mem (mt_1 _ (List.mem_of_getElem? (i := 142) rfl)) rfl
theorem qw_X2_2 : u_lay RX2 TX2 2 ∈ lw_all := lw_mem (mt_1 _ (List.mem_of_getElem? (i := 144) rfl)) rfl
theorem qw_X2_3 : u_lay RX2 TX2 3 ∈ lw_all := lw_mem (mt_1 _ (List.mem_of_getElem? (i := 146) rfl)) rfl
theorem qw_X2_4 : u_lay RX2 TX2 4 ∈ lw_all := lw_mem (mt_1 _ (List.mem_of_getElem? (i := 148) rfl)) rfl
theorem inX2 : ∀ w ∈ wsX20, w ∈ lw_all := List.forall_mem_cons.mpr ⟨qw_X2_0, List.forall_mem_cons.mpr ⟨qw_X2_1, List.forall_mem_cons.mpr ⟨qw_X2_2, List.forall_mem_cons.mpr ⟨qw_X2_3, List.forall_mem_cons.mpr ⟨qw_X2_4, fun _ h => absurd h List.not_mem_nil⟩⟩⟩⟩⟩
theorem qw_X3_0 : u_lay RX3 TX3 0 ∈ lw_all := lw_mem (mt_1 _ (List.mem_of_getElem? (i := 161) rfl)) rfl
theorem qw_X3_1 : u_lay RX3 TX3 1 ∈ lw_all := lw_mem (mt_1 _ (List.mem_of_getElem? (i := 163) rfl)) rfl
theorem qw_X3_2 : u_lay RX3 TX3 2 ∈ lw_all := lw_mem (mt_1 _ (List.mem_of_getElem? (i := 165) rfl)) rfl
theorem inX3 : ∀ w ∈ wsX30, w ∈ lw_all := List.forall_mem_cons.mpr ⟨qw_X3_0, List.forall_mem_cons.mpr ⟨qw_X3_1, List.forall_mem_cons.mpr ⟨qw_X3_2, fun _ h => absurd h List.not_mem_nil⟩⟩⟩
theorem qw_X4_0 : u_lay RX4 TX4 0 ∈ lw_all := lw_mem (mt_1 _ (List.mem_of_getElem? (i := 173) rfl)) rfl
theorem qw_X4_1 : u_lay RX4 TX4 1 ∈ lw_all := lw_mem (mt_1 _ (List.mem_of_getElem? (i := 175) rfl)) rfl
theorem qw_X4_2 : u_lay RX4 TX4 2 ∈ lw_all := lw_mem (mt_1 _ (List.mem_of_getElem? (i := 177) rfl)) rfl
theorem qw_X4_3 : u_lay RX4 TX4 3 ∈ lw_all := lw_mem (mt_1 _ (List.mem_of_getElem? (i := 179) rfl)) rfl
theorem qw_X4_4 : u_lay RX4 TX4 4 ∈ lw_all := lw_mem (mt_1 _ (List.mem_of_getElem? (i := 181) rfl)) rfl
theorem inX4 : ∀ w ∈ wsX40, w ∈ lw_all := List.forall_mem_cons.mpr ⟨qw_X4_0, List.forall_mem_cons.mpr ⟨qw_X4_1, List.forall_mem_cons.mpr ⟨qw_X4_2, List.forall_mem_cons.mpr ⟨qw_X4_3, List.forall_mem_cons.mpr ⟨qw_X4_4, fun _ h => absurd h List.not_mem_nil⟩⟩⟩⟩⟩
theorem qw_X5_0 : u_lay RX5 TX5 0 ∈ lw_all := lw_mem (mt_4 _ (List.mem_of_getElem? (i := 155) rfl)) rfl
theorem qw_X5_1 : u_lay RX5 TX5 1 ∈ lw_all := lw_mem (mt_4 _ (List.mem_of_getElem? (i := 157) rfl)) rfl
theorem qw_X5_2 : u_lay RX5 TX5 2 ∈ lw_all := lw_mem (mt_4 _ (List.mem_of_getElem? (i := 159) rfl)) rfl
theorem qw_X5_3 : u_lay RX5 TX5 3 ∈ lw_all := lw_mem (mt_4 _ (List.mem_of_getElem? (i := 161) rfl)) rfl
theorem qw_X5_4 : u_lay RX5 TX5 4 ∈ lw_all := lw_mem (mt_4 _ (List.mem_of_getElem? (i := 163) rfl)) rfl
theorem qw_X5_5 : u_lay RX5 TX5 5 ∈ lw_all := lw_mem (mt_4 _ (List.mem_of_getElem? (i := 165) rfl)) rfl
theorem qw_X5_6 : u_lay RX5 TX5 6 ∈ lw_all := lw_mem (mt_4 _ (List.mem_of_getElem? (i := 167) rfl)) rfl
theorem qw_X5_7 : u_lay RX5 TX5 7 ∈ lw_all := lw_mem (mt_4 _ (List.mem_of_getElem? (i := 169) rfl)) rfl
theorem qw_X5_8 : u_lay RX5 TX5 8 ∈ lw_all := lw_mem (mt_4 _ (List.mem_of_getElem? (i := 171) rfl)) rfl
theorem qw_X5_9 : u_lay RX5 TX5 9 ∈ lw_all := lw_mem (mt_4 _ (List.mem_of_getElem? (i := 173) rfl)) rfl
theorem qw_X5_10 : u_lay RX5 TX5 10 ∈ lw_all := lw_mem (mt_4 _ (List.mem_of_getElem? (i := 175) rfl)) rfl
theorem qw_X5_11 : u_lay RX5 TX5 11 ∈ lw_all := lw_mem (mt_4 _ (List.mem_of_getElem? (i := 177) rfl)) rfl
theorem qw_X5_12 : u_lay RX5 TX5 12 ∈ lw_all := lw_mem (mt_4 _ (List.mem_of_getElem? (i := 179) rfl)) rfl
theorem qw_X5_13 : u_lay RX5 TX5 13 ∈ lw_all := lw_mem (mt_4 _ (List.mem_of_getElem? (i := 181) rfl)) rfl
theorem qw_X5_14 : u_lay RX5 TX5 14 ∈ lw_all := lw_mem (mt_4 _ (List.mem_of_getElem? (i := 183) rfl)) rfl
theorem qw_X5_15 : u_lay RX5 TX5 15 ∈ lw_all := lw_mem (mt_4 _ (List.mem_of_getElem? (i := 185) rfl)) rfl
theorem qw_X5_16 : u_lay RX5 TX5 16 ∈ lw_all := lw_mem (mt_4 _ (List.mem_of_getElem? (i := 187) rfl)) rfl
theorem qw_X5_17 : u_lay RX5 TX5 17 ∈ lw_all := lw_mem (mt_4 _ (List.mem_of_getElem? (i := 189) rfl)) rfl
theorem inX5 : ∀ w ∈ wsX50, w ∈ lw_all := List.forall_mem_cons.mpr ⟨qw_X5_0, List.forall_mem_cons.mpr ⟨qw_X5_1, List.forall_mem_cons.mpr ⟨qw_X5_2, List.forall_mem_cons.mpr ⟨qw_X5_3, List.forall_mem_cons.mpr ⟨qw_X5_4, List.forall_mem_cons.mpr ⟨qw_X5_5, List.forall_mem_cons.mpr ⟨qw_X5_6, List.forall_mem_cons.mpr ⟨qw_X5_7, List.forall_mem_cons.mpr ⟨qw_X5_8, List.forall_mem_cons.mpr ⟨qw_X5_9, List.forall_mem_cons.mpr ⟨qw_X5_10, List.forall_mem_cons.mpr ⟨qw_X5_11, List.forall_mem_cons.mpr ⟨qw_X5_12, List.forall_mem_cons.mpr ⟨qw_X5_13, List.forall_mem_cons.mpr ⟨qw_X5_14, List.forall_mem_cons.mpr ⟨qw_X5_15, List.forall_mem_cons.mpr ⟨qw_X5_16, List.forall_mem_cons.mpr ⟨qw_X5_17, fun _ h => absurd h List.not_mem_nil⟩⟩⟩⟩⟩⟩⟩⟩⟩⟩⟩⟩⟩⟩⟩⟩⟩⟩
theorem lw_gc {c : Cond} (hc : c ∈ lw_all) : GoodIn lw_all (c :: lw_all) := fun w h => (List.mem_cons.mp h).elim (fun e => by rw [e]; exact ⟨hc, good_of_word (lw_good _ hc)⟩) (fun h => ⟨h, good_of_word (lw_good _ h)⟩)
theorem lw_g1 {a : Cond} {l : List Cond} (ha : a ∈ lw_all) (h : GoodIn lw_all l) : GoodIn lw_all (a :: l) := fun w hw => (List.mem_cons.mp hw).elim (fun e => by rw [e]; exact ⟨ha, good_of_word (lw_good _ ha)⟩) (fun e => h w e)
/-- a virtual call's words -/
theorem lw_V {own C : String} {idx : Nat} {y : MethodName} {c : Cond} (h1 : Cond.methodLink own idx y ∈ lw_all) (h2 : Cond.instanceMethod y ∈ lw_all) (h3 : Cond.selects C y y ∈ lw_all) (h4 : Cond.initialized C ∈ lw_all) (h5 : c ∈ lw_all) : GoodIn lw_all (wsV own idx C y (c :: lw_all)) := lw_g1 h1 (lw_g1 h2 (lw_g1 h3 (lw_g1 h4 (lw_gc h5))))
theorem lw_S {own : String} {idx : Nat} {y : MethodName} {c : Cond} (h1 : Cond.methodLink own idx y ∈ lw_all) (h2 : Cond.static y ∈ lw_all) (h4 : Cond.initialized y.cls ∈ lw_all) (h5 : c ∈ lw_all) : GoodIn lw_all (va_wsS own idx y (c :: lw_all)) := lw_g1 h1 (lw_g1 h2 (lw_g1 h4 (lw_gc h5)))
