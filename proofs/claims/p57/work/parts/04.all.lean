/-! every word of the tables that any state keeps: one list for all methods (lw_all); its words by name -/
def lw_all : List Cond := lw_tbl.filter goodWord
theorem lw_all_tbl : ∀ w ∈ lw_all, w ∈ lw_tbl := fun _ h => (List.mem_filter.mp h).1
theorem lw_good : ∀ w ∈ lw_all, goodWord w = true := fun _ h => (List.mem_filter.mp h).2
theorem lw_mem {w : Cond} (h : w ∈ lw_tbl) (g : goodWord w = true) : w ∈ lw_all := List.mem_filter.mpr ⟨h, g⟩
theorem mt_0 : ∀ w ∈ k2_sels lw_privs, w ∈ lw_tbl := fun _ h => List.mem_append_left _ h
theorem mt_1 : ∀ w ∈ tables_1_1, w ∈ lw_tbl := fun _ h => List.mem_append_right _ (List.mem_append_left _ h)
theorem mt_2 : ∀ w ∈ tables_1_2, w ∈ lw_tbl := fun _ h => List.mem_append_right _ (List.mem_append_right _ (List.mem_append_left _ h))
theorem mt_3 : ∀ w ∈ tables_1_3, w ∈ lw_tbl := fun _ h => List.mem_append_right _ (List.mem_append_right _ (List.mem_append_right _ (List.mem_append_left _ h)))
theorem mt_4 : ∀ w ∈ tables_1_4, w ∈ lw_tbl := fun _ h => List.mem_append_right _ (List.mem_append_right _ (List.mem_append_right _ (List.mem_append_right _ (h))))
theorem qk_L_26 : Cond.classLink RL 26 RX4 ∈ lw_all := lw_mem (mt_1 _ (List.mem_of_getElem? (i := 14) rfl)) rfl
theorem qa_X4 : Cond.instantiable RX4 5 ∈ lw_all := lw_mem (mt_1 _ (List.mem_of_getElem? (i := 15) rfl)) rfl
theorem qn_X4 : Cond.initialized RX4 ∈ lw_all := lw_mem (mt_1 _ (List.mem_of_getElem? (i := 1) rfl)) rfl
theorem qy_int : Cond.arrayClass .int ∈ lw_all := lw_mem (mt_1 _ (List.mem_of_getElem? (i := 60) rfl)) rfl
theorem qy_boolean : Cond.arrayClass .boolean ∈ lw_all := lw_mem (mt_1 _ (List.mem_of_getElem? (i := 122) rfl)) rfl
theorem qm_L_102 : Cond.methodLink RL 102 yX4_init ∈ lw_all := lw_mem (mt_1 _ (List.mem_of_getElem? (i := 16) rfl)) rfl
theorem qi_X4_init : Cond.instanceMethod yX4_init ∈ lw_all := lw_mem (mt_1 _ (List.mem_of_getElem? (i := 17) rfl)) rfl
theorem qc_X4_init : Cond.code yX4_init cX4_init 1 none ∈ lw_all := lw_mem (mt_1 _ (List.mem_of_getElem? (i := 18) rfl)) rfl
theorem qm_X4_3 : Cond.methodLink RX4 3 objectInit ∈ lw_all := lw_mem (mt_1 _ (List.mem_of_getElem? (i := 19) rfl)) rfl
theorem qi_objectInit : Cond.instanceMethod objectInit ∈ lw_all := lw_mem (mt_1 _ (List.mem_of_getElem? (i := 20) rfl)) rfl
theorem qc_objectInit : Cond.code objectInit ⟨#[0xb1]⟩ 1 none ∈ lw_all := lw_mem (mt_1 _ (List.mem_of_getElem? (i := 21) rfl)) rfl
theorem qk_X4_9 : Cond.classLink RX4 9 RX1 ∈ lw_all := lw_mem (mt_1 _ (List.mem_of_getElem? (i := 22) rfl)) rfl
theorem qa_X1 : Cond.instantiable RX1 7 ∈ lw_all := lw_mem (mt_1 _ (List.mem_of_getElem? (i := 23) rfl)) rfl
theorem qn_X1 : Cond.initialized RX1 ∈ lw_all := lw_mem (mt_1 _ (List.mem_of_getElem? (i := 2) rfl)) rfl
theorem qf_X4_12 : Cond.fieldLink RX4 12 "LiftNovel" "house" "LLiftNovel$House;" ∈ lw_all := lw_mem (mt_1 _ (List.mem_of_getElem? (i := 167) rfl)) rfl
theorem qk_X4_16 : Cond.classLink RX4 16 RX0 ∈ lw_all := lw_mem (mt_1 _ (List.mem_of_getElem? (i := 61) rfl)) rfl
theorem qa_X0 : Cond.instantiable RX0 14 ∈ lw_all := lw_mem (mt_1 _ (List.mem_of_getElem? (i := 62) rfl)) rfl
theorem qn_X0 : Cond.initialized RX0 ∈ lw_all := lw_mem (mt_1 _ (List.mem_of_getElem? (i := 3) rfl)) rfl
theorem qf_X4_21 : Cond.fieldLink RX4 21 "LiftNovel" "now" "LLiftNovel$Course;" ∈ lw_all := lw_mem (mt_1 _ (List.mem_of_getElem? (i := 168) rfl)) rfl
theorem qf_X4_25 : Cond.fieldLink RX4 25 "LiftNovel" "trial" "LLiftNovel$Course;" ∈ lw_all := lw_mem (mt_1 _ (List.mem_of_getElem? (i := 169) rfl)) rfl
theorem qk_X4_28 : Cond.classLink RX4 28 RX2 ∈ lw_all := lw_mem (mt_1 _ (List.mem_of_getElem? (i := 123) rfl)) rfl
theorem qa_X2 : Cond.instantiable RX2 5 ∈ lw_all := lw_mem (mt_1 _ (List.mem_of_getElem? (i := 124) rfl)) rfl
theorem qn_X2 : Cond.initialized RX2 ∈ lw_all := lw_mem (mt_1 _ (List.mem_of_getElem? (i := 4) rfl)) rfl
theorem qf_X4_31 : Cond.fieldLink RX4 31 "LiftNovel" "told" "LLiftNovel$Instalments;" ∈ lw_all := lw_mem (mt_1 _ (List.mem_of_getElem? (i := 170) rfl)) rfl
theorem qk_X4_35 : Cond.classLink RX4 35 RX3 ∈ lw_all := lw_mem (mt_1 _ (List.mem_of_getElem? (i := 150) rfl)) rfl
theorem qa_X3 : Cond.instantiable RX3 3 ∈ lw_all := lw_mem (mt_1 _ (List.mem_of_getElem? (i := 151) rfl)) rfl
theorem qn_X3 : Cond.initialized RX3 ∈ lw_all := lw_mem (mt_1 _ (List.mem_of_getElem? (i := 5) rfl)) rfl
theorem qf_X4_38 : Cond.fieldLink RX4 38 "LiftNovel" "mirrored" "LLiftNovel$Mirrors;" ∈ lw_all := lw_mem (mt_1 _ (List.mem_of_getElem? (i := 171) rfl)) rfl
theorem qi_X1_init : Cond.instanceMethod yX1_init ∈ lw_all := lw_mem (mt_1 _ (List.mem_of_getElem? (i := 25) rfl)) rfl
theorem qc_X1_init : Cond.code yX1_init cX1_init 1 none ∈ lw_all := lw_mem (mt_1 _ (List.mem_of_getElem? (i := 26) rfl)) rfl
theorem qm_X1_3 : Cond.methodLink RX1 3 objectInit ∈ lw_all := lw_mem (mt_1 _ (List.mem_of_getElem? (i := 27) rfl)) rfl
theorem qf_X1_9 : Cond.fieldLink RX1 9 "LiftNovel$House" "floors" "I" ∈ lw_all := lw_mem (mt_1 _ (List.mem_of_getElem? (i := 28) rfl)) rfl
theorem qf_X1_15 : Cond.fieldLink RX1 15 "LiftNovel$House" "limit" "I" ∈ lw_all := lw_mem (mt_1 _ (List.mem_of_getElem? (i := 31) rfl)) rfl
theorem qf_X1_18 : Cond.fieldLink RX1 18 "LiftNovel$House" "readers" "I" ∈ lw_all := lw_mem (mt_1 _ (List.mem_of_getElem? (i := 34) rfl)) rfl
theorem qf_X1_21 : Cond.fieldLink RX1 21 "LiftNovel$House" "lengths" "[I" ∈ lw_all := lw_mem (mt_1 _ (List.mem_of_getElem? (i := 37) rfl)) rfl
theorem qf_X1_25 : Cond.fieldLink RX1 25 "LiftNovel$House" "topics" "[I" ∈ lw_all := lw_mem (mt_1 _ (List.mem_of_getElem? (i := 40) rfl)) rfl
theorem qf_X1_28 : Cond.fieldLink RX1 28 "LiftNovel$House" "thrills" "[I" ∈ lw_all := lw_mem (mt_1 _ (List.mem_of_getElem? (i := 41) rfl)) rfl
theorem qf_X1_31 : Cond.fieldLink RX1 31 "LiftNovel$House" "tastes" "[I" ∈ lw_all := lw_mem (mt_1 _ (List.mem_of_getElem? (i := 42) rfl)) rfl
theorem qm_X4_18 : Cond.methodLink RX4 18 yX0_init ∈ lw_all := lw_mem (mt_1 _ (List.mem_of_getElem? (i := 63) rfl)) rfl
theorem qi_X0_init : Cond.instanceMethod yX0_init ∈ lw_all := lw_mem (mt_1 _ (List.mem_of_getElem? (i := 64) rfl)) rfl
theorem qc_X0_init : Cond.code yX0_init cX0_init 2 none ∈ lw_all := lw_mem (mt_1 _ (List.mem_of_getElem? (i := 65) rfl)) rfl
theorem qm_X0_3 : Cond.methodLink RX0 3 objectInit ∈ lw_all := lw_mem (mt_1 _ (List.mem_of_getElem? (i := 66) rfl)) rfl
theorem qf_X0_9 : Cond.fieldLink RX0 9 "LiftNovel$Course" "hour" "I" ∈ lw_all := lw_mem (mt_1 _ (List.mem_of_getElem? (i := 68) rfl)) rfl
theorem qf_X0_15 : Cond.fieldLink RX0 15 "LiftNovel$Course" "at" "I" ∈ lw_all := lw_mem (mt_1 _ (List.mem_of_getElem? (i := 70) rfl)) rfl
theorem qf_X0_18 : Cond.fieldLink RX0 18 "LiftNovel$Course" "way" "I" ∈ lw_all := lw_mem (mt_1 _ (List.mem_of_getElem? (i := 72) rfl)) rfl
theorem qf_X0_21 : Cond.fieldLink RX0 21 "LiftNovel$Course" "stuck" "I" ∈ lw_all := lw_mem (mt_1 _ (List.mem_of_getElem? (i := 74) rfl)) rfl
theorem qf_X0_24 : Cond.fieldLink RX0 24 "LiftNovel$Course" "wear" "I" ∈ lw_all := lw_mem (mt_1 _ (List.mem_of_getElem? (i := 76) rfl)) rfl
theorem qf_X0_27 : Cond.fieldLink RX0 27 "LiftNovel$Course" "suspense" "I" ∈ lw_all := lw_mem (mt_1 _ (List.mem_of_getElem? (i := 78) rfl)) rfl
theorem qf_X0_30 : Cond.fieldLink RX0 30 "LiftNovel$Course" "lastThrill" "I" ∈ lw_all := lw_mem (mt_1 _ (List.mem_of_getElem? (i := 80) rfl)) rfl
theorem qf_X0_33 : Cond.fieldLink RX0 33 "LiftNovel$Course" "called" "[Z" ∈ lw_all := lw_mem (mt_1 _ (List.mem_of_getElem? (i := 81) rfl)) rfl
theorem qf_X0_37 : Cond.fieldLink RX0 37 "LiftNovel$Course" "next" "[I" ∈ lw_all := lw_mem (mt_1 _ (List.mem_of_getElem? (i := 83) rfl)) rfl
theorem qf_X0_41 : Cond.fieldLink RX0 41 "LiftNovel$Course" "cut" "[I" ∈ lw_all := lw_mem (mt_1 _ (List.mem_of_getElem? (i := 85) rfl)) rfl
theorem qf_X0_44 : Cond.fieldLink RX0 44 "LiftNovel$Course" "forbidden" "[Z" ∈ lw_all := lw_mem (mt_1 _ (List.mem_of_getElem? (i := 87) rfl)) rfl
theorem qf_X0_47 : Cond.fieldLink RX0 47 "LiftNovel$Course" "warmths" "[I" ∈ lw_all := lw_mem (mt_1 _ (List.mem_of_getElem? (i := 89) rfl)) rfl
theorem qf_X0_50 : Cond.fieldLink RX0 50 "LiftNovel$Course" "subscribed" "[Z" ∈ lw_all := lw_mem (mt_1 _ (List.mem_of_getElem? (i := 91) rfl)) rfl
theorem qf_X0_53 : Cond.fieldLink RX0 53 "LiftNovel$Course" "house" "LLiftNovel$House;" ∈ lw_all := lw_mem (mt_1 _ (List.mem_of_getElem? (i := 67) rfl)) rfl
theorem qi_X2_init : Cond.instanceMethod yX2_init ∈ lw_all := lw_mem (mt_1 _ (List.mem_of_getElem? (i := 126) rfl)) rfl
theorem qc_X2_init : Cond.code yX2_init cX2_init 1 none ∈ lw_all := lw_mem (mt_1 _ (List.mem_of_getElem? (i := 127) rfl)) rfl
theorem qm_X2_3 : Cond.methodLink RX2 3 objectInit ∈ lw_all := lw_mem (mt_1 _ (List.mem_of_getElem? (i := 128) rfl)) rfl
theorem qf_X2_9 : Cond.fieldLink RX2 9 "LiftNovel$Instalments" "count" "I" ∈ lw_all := lw_mem (mt_1 _ (List.mem_of_getElem? (i := 129) rfl)) rfl
theorem qf_X2_15 : Cond.fieldLink RX2 15 "LiftNovel$Instalments" "floors" "[I" ∈ lw_all := lw_mem (mt_1 _ (List.mem_of_getElem? (i := 131) rfl)) rfl
theorem qf_X2_19 : Cond.fieldLink RX2 19 "LiftNovel$Instalments" "paragraphs" "[I" ∈ lw_all := lw_mem (mt_1 _ (List.mem_of_getElem? (i := 133) rfl)) rfl
theorem qf_X2_22 : Cond.fieldLink RX2 22 "LiftNovel$Instalments" "thrills" "[I" ∈ lw_all := lw_mem (mt_1 _ (List.mem_of_getElem? (i := 135) rfl)) rfl
theorem qf_X2_25 : Cond.fieldLink RX2 25 "LiftNovel$Instalments" "hours" "[I" ∈ lw_all := lw_mem (mt_1 _ (List.mem_of_getElem? (i := 137) rfl)) rfl
theorem qi_X3_init : Cond.instanceMethod yX3_init ∈ lw_all := lw_mem (mt_1 _ (List.mem_of_getElem? (i := 153) rfl)) rfl
theorem qc_X3_init : Cond.code yX3_init cX3_init 1 none ∈ lw_all := lw_mem (mt_1 _ (List.mem_of_getElem? (i := 154) rfl)) rfl
theorem qm_X3_3 : Cond.methodLink RX3 3 objectInit ∈ lw_all := lw_mem (mt_1 _ (List.mem_of_getElem? (i := 155) rfl)) rfl
theorem qf_X3_9 : Cond.fieldLink RX3 9 "LiftNovel$Mirrors" "count" "I" ∈ lw_all := lw_mem (mt_1 _ (List.mem_of_getElem? (i := 156) rfl)) rfl
theorem qf_X3_15 : Cond.fieldLink RX3 15 "LiftNovel$Mirrors" "likes" "[I" ∈ lw_all := lw_mem (mt_1 _ (List.mem_of_getElem? (i := 158) rfl)) rfl
theorem qf_X3_19 : Cond.fieldLink RX3 19 "LiftNovel$Mirrors" "dislikes" "[I" ∈ lw_all := lw_mem (mt_1 _ (List.mem_of_getElem? (i := 159) rfl)) rfl
theorem qm_L_103 : Cond.methodLink RL 103 yL_build ∈ lw_all := lw_mem (mt_4 _ (List.mem_of_getElem? (i := 19) rfl)) rfl
theorem qt_L_build : Cond.static yL_build ∈ lw_all := lw_mem (mt_4 _ (List.mem_of_getElem? (i := 20) rfl)) rfl
theorem qn_L : Cond.initialized RL ∈ lw_all := lw_mem (mt_1 _ (List.mem_of_getElem? (i := 0) rfl)) rfl
theorem qc_L_build : Cond.code yL_build cL_build 5 (some (.object "LiftNovelLaw$Sim")) ∈ lw_all := lw_mem (mt_4 _ (List.mem_of_getElem? (i := 21) rfl)) rfl
theorem qk_L_10 : Cond.classLink RL 10 RX5 ∈ lw_all := lw_mem (mt_4 _ (List.mem_of_getElem? (i := 22) rfl)) rfl
theorem qa_X5 : Cond.instantiable RX5 14 ∈ lw_all := lw_mem (mt_4 _ (List.mem_of_getElem? (i := 23) rfl)) rfl
theorem qn_X5 : Cond.initialized RX5 ∈ lw_all := lw_mem (mt_1 _ (List.mem_of_getElem? (i := 6) rfl)) rfl
theorem qi_X5_init : Cond.instanceMethod yX5_init ∈ lw_all := lw_mem (mt_4 _ (List.mem_of_getElem? (i := 25) rfl)) rfl
theorem qc_X5_init : Cond.code yX5_init cX5_init 1 none ∈ lw_all := lw_mem (mt_4 _ (List.mem_of_getElem? (i := 26) rfl)) rfl
theorem qm_X5_1 : Cond.methodLink RX5 1 objectInit ∈ lw_all := lw_mem (mt_4 _ (List.mem_of_getElem? (i := 27) rfl)) rfl
theorem qf_X5_7 : Cond.fieldLink RX5 7 "LiftNovelLaw$Sim" "limit" "I" ∈ lw_all := lw_mem (mt_4 _ (List.mem_of_getElem? (i := 35) rfl)) rfl
theorem qf_X5_13 : Cond.fieldLink RX5 13 "LiftNovelLaw$Sim" "called" "[Z" ∈ lw_all := lw_mem (mt_4 _ (List.mem_of_getElem? (i := 38) rfl)) rfl
theorem qf_X5_17 : Cond.fieldLink RX5 17 "LiftNovelLaw$Sim" "forbidden" "[Z" ∈ lw_all := lw_mem (mt_4 _ (List.mem_of_getElem? (i := 40) rfl)) rfl
theorem qk_X5_20 : Cond.classLink RX5 20 "[[I" ∈ lw_all := lw_mem (mt_3 _ (List.mem_of_getElem? (i := 176) rfl)) rfl
theorem qf_X5_22 : Cond.fieldLink RX5 22 "LiftNovelLaw$Sim" "chapters" "[[I" ∈ lw_all := lw_mem (mt_4 _ (List.mem_of_getElem? (i := 42) rfl)) rfl
theorem qk_X5_25 : Cond.classLink RX5 25 "[I" ∈ lw_all := lw_mem (mt_3 _ (List.mem_of_getElem? (i := 79) rfl)) rfl
theorem qf_X5_27 : Cond.fieldLink RX5 27 "LiftNovelLaw$Sim" "readers" "[[I" ∈ lw_all := lw_mem (mt_4 _ (List.mem_of_getElem? (i := 44) rfl)) rfl
theorem qf_X5_30 : Cond.fieldLink RX5 30 "LiftNovelLaw$Sim" "mirrors" "[[I" ∈ lw_all := lw_mem (mt_4 _ (List.mem_of_getElem? (i := 46) rfl)) rfl
theorem qf_X5_33 : Cond.fieldLink RX5 33 "LiftNovelLaw$Sim" "printed" "[[I" ∈ lw_all := lw_mem (mt_4 _ (List.mem_of_getElem? (i := 48) rfl)) rfl
theorem qm_L_94 : Cond.methodLink RL 94 yL_cell ∈ lw_all := lw_mem (mt_3 _ (List.mem_of_getElem? (i := 161) rfl)) rfl
theorem qt_L_cell : Cond.static yL_cell ∈ lw_all := lw_mem (mt_3 _ (List.mem_of_getElem? (i := 162) rfl)) rfl
theorem qc_L_cell : Cond.code yL_cell cL_cell 2 (some .int) ∈ lw_all := lw_mem (mt_3 _ (List.mem_of_getElem? (i := 163) rfl)) rfl
theorem qo_L_8 : Cond.constant RL 8 (790386105) ∈ lw_all := lw_mem (mt_3 _ (List.mem_of_getElem? (i := 164) rfl)) rfl
theorem qm_L_15 : Cond.methodLink RL 15 yL_below ∈ lw_all := lw_mem (mt_3 _ (List.mem_of_getElem? (i := 168) rfl)) rfl
theorem qt_L_below : Cond.static yL_below ∈ lw_all := lw_mem (mt_3 _ (List.mem_of_getElem? (i := 169) rfl)) rfl
theorem qc_L_below : Cond.code yL_below cL_below 2 (some .int) ∈ lw_all := lw_mem (mt_3 _ (List.mem_of_getElem? (i := 170) rfl)) rfl
theorem qo_L_7 : Cond.constant RL 7 (2147483647) ∈ lw_all := lw_mem (mt_3 _ (List.mem_of_getElem? (i := 171) rfl)) rfl
theorem qm_L_98 : Cond.methodLink RL 98 yL_act ∈ lw_all := lw_mem (mt_3 _ (List.mem_of_getElem? (i := 165) rfl)) rfl
theorem qt_L_act : Cond.static yL_act ∈ lw_all := lw_mem (mt_3 _ (List.mem_of_getElem? (i := 166) rfl)) rfl
theorem qc_L_act : Cond.code yL_act cL_act 13 (some .boolean) ∈ lw_all := lw_mem (mt_3 _ (List.mem_of_getElem? (i := 167) rfl)) rfl
theorem qf_L_9 : Cond.fieldLink RL 9 "LiftNovelLaw$Sim" "chapters" "[[I" ∈ lw_all := lw_mem (mt_4 _ (List.mem_of_getElem? (i := 43) rfl)) rfl
theorem qf_L_34 : Cond.fieldLink RL 34 "LiftNovelLaw$Sim" "forbidden" "[Z" ∈ lw_all := lw_mem (mt_4 _ (List.mem_of_getElem? (i := 41) rfl)) rfl
theorem qf_L_42 : Cond.fieldLink RL 42 "LiftNovelLaw$Sim" "limit" "I" ∈ lw_all := lw_mem (mt_4 _ (List.mem_of_getElem? (i := 36) rfl)) rfl
theorem qf_L_49 : Cond.fieldLink RL 49 "LiftNovelLaw$Sim" "readers" "[[I" ∈ lw_all := lw_mem (mt_4 _ (List.mem_of_getElem? (i := 45) rfl)) rfl
theorem qf_L_59 : Cond.fieldLink RL 59 "LiftNovelLaw$Sim" "mirrors" "[[I" ∈ lw_all := lw_mem (mt_4 _ (List.mem_of_getElem? (i := 47) rfl)) rfl
theorem qf_L_65 : Cond.fieldLink RL 65 "LiftNovelLaw$Sim" "stuck" "I" ∈ lw_all := lw_mem (mt_4 _ (List.mem_of_getElem? (i := 32) rfl)) rfl
theorem qf_L_68 : Cond.fieldLink RL 68 "LiftNovelLaw$Sim" "wear" "I" ∈ lw_all := lw_mem (mt_4 _ (List.mem_of_getElem? (i := 34) rfl)) rfl
theorem qf_L_81 : Cond.fieldLink RL 81 "LiftNovelLaw$Sim" "called" "[Z" ∈ lw_all := lw_mem (mt_4 _ (List.mem_of_getElem? (i := 39) rfl)) rfl
theorem qm_L_21 : Cond.methodLink RL 21 yX5_begin ∈ lw_all := lw_mem (mt_3 _ (List.mem_of_getElem? (i := 172) rfl)) rfl
theorem qi_X5_begin : Cond.instanceMethod yX5_begin ∈ lw_all := lw_mem (mt_3 _ (List.mem_of_getElem? (i := 173) rfl)) rfl
theorem qs_X5_begin : Cond.selects RX5 yX5_begin yX5_begin ∈ lw_all := lw_mem (mt_3 _ (List.mem_of_getElem? (i := 174) rfl)) rfl
theorem qc_X5_begin : Cond.code yX5_begin cX5_begin 2 none ∈ lw_all := lw_mem (mt_3 _ (List.mem_of_getElem? (i := 175) rfl)) rfl
theorem qf_X5_36 : Cond.fieldLink RX5 36 "LiftNovelLaw$Sim" "at" "I" ∈ lw_all := lw_mem (mt_4 _ (List.mem_of_getElem? (i := 29) rfl)) rfl
theorem qf_X5_39 : Cond.fieldLink RX5 39 "LiftNovelLaw$Sim" "way" "I" ∈ lw_all := lw_mem (mt_4 _ (List.mem_of_getElem? (i := 30) rfl)) rfl
theorem qf_X5_42 : Cond.fieldLink RX5 42 "LiftNovelLaw$Sim" "stuck" "I" ∈ lw_all := lw_mem (mt_4 _ (List.mem_of_getElem? (i := 31) rfl)) rfl
theorem qf_X5_45 : Cond.fieldLink RX5 45 "LiftNovelLaw$Sim" "wear" "I" ∈ lw_all := lw_mem (mt_4 _ (List.mem_of_getElem? (i := 33) rfl)) rfl
theorem qf_X5_48 : Cond.fieldLink RX5 48 "LiftNovelLaw$Sim" "suspense" "I" ∈ lw_all := lw_mem (mt_4 _ (List.mem_of_getElem? (i := 37) rfl)) rfl
theorem qm_L_25 : Cond.methodLink RL 25 yX4_begin ∈ lw_all := lw_mem (mt_3 _ (List.mem_of_getElem? (i := 177) rfl)) rfl
theorem qi_X4_begin : Cond.instanceMethod yX4_begin ∈ lw_all := lw_mem (mt_3 _ (List.mem_of_getElem? (i := 178) rfl)) rfl
theorem qs_X4_begin : Cond.selects RX4 yX4_begin yX4_begin ∈ lw_all := lw_mem (mt_3 _ (List.mem_of_getElem? (i := 179) rfl)) rfl
theorem qc_X4_begin : Cond.code yX4_begin cX4_begin 2 (some .int) ∈ lw_all := lw_mem (mt_3 _ (List.mem_of_getElem? (i := 180) rfl)) rfl
theorem qk_X4_42 : Cond.classLink RX4 42 "java/lang/IllegalArgumentException" ∈ lw_all := lw_mem (mt_1 _ (List.mem_of_getElem? (i := 187) rfl)) rfl
theorem qn_IAE : Cond.initialized "java/lang/IllegalArgumentException" ∈ lw_all := lw_mem (mt_1 _ (List.mem_of_getElem? (i := 10) rfl)) rfl
theorem qf_X4_56 : Cond.fieldLink RX4 56 "LiftNovel$Instalments" "count" "I" ∈ lw_all := lw_mem (mt_1 _ (List.mem_of_getElem? (i := 130) rfl)) rfl
theorem qm_X4_49 : Cond.methodLink RX4 49 yX1_clear ∈ lw_all := lw_mem (mt_3 _ (List.mem_of_getElem? (i := 182) rfl)) rfl
theorem qi_X1_clear : Cond.instanceMethod yX1_clear ∈ lw_all := lw_mem (mt_3 _ (List.mem_of_getElem? (i := 183) rfl)) rfl
theorem qs_X1_clear : Cond.selects RX1 yX1_clear yX1_clear ∈ lw_all := lw_mem (mt_3 _ (List.mem_of_getElem? (i := 184) rfl)) rfl
theorem qc_X1_clear : Cond.code yX1_clear cX1_clear 3 none ∈ lw_all := lw_mem (mt_3 _ (List.mem_of_getElem? (i := 185) rfl)) rfl
theorem qm_X4_53 : Cond.methodLink RX4 53 yX0_startOver ∈ lw_all := lw_mem (mt_3 _ (List.mem_of_getElem? (i := 186) rfl)) rfl
theorem qi_X0_startOver : Cond.instanceMethod yX0_startOver ∈ lw_all := lw_mem (mt_3 _ (List.mem_of_getElem? (i := 187) rfl)) rfl
theorem qs_X0_startOver : Cond.selects RX0 yX0_startOver yX0_startOver ∈ lw_all := lw_mem (mt_3 _ (List.mem_of_getElem? (i := 188) rfl)) rfl
theorem qc_X0_startOver : Cond.code yX0_startOver cX0_startOver 2 none ∈ lw_all := lw_mem (mt_3 _ (List.mem_of_getElem? (i := 189) rfl)) rfl
theorem qm_X4_60 : Cond.methodLink RX4 60 yX0_countSubscribers ∈ lw_all := lw_mem (mt_2 _ (List.mem_of_getElem? (i := 230) rfl)) rfl
theorem qi_X0_countSubscribers : Cond.instanceMethod yX0_countSubscribers ∈ lw_all := lw_mem (mt_2 _ (List.mem_of_getElem? (i := 231) rfl)) rfl
theorem qs_X0_countSubscribers : Cond.selects RX0 yX0_countSubscribers yX0_countSubscribers ∈ lw_all := lw_mem (mt_2 _ (List.mem_of_getElem? (i := 232) rfl)) rfl
theorem qc_X0_countSubscribers : Cond.code yX0_countSubscribers cX0_countSubscribers 3 (some .int) ∈ lw_all := lw_mem (mt_2 _ (List.mem_of_getElem? (i := 233) rfl)) rfl
theorem qf_X0_108 : Cond.fieldLink RX0 108 "LiftNovel$House" "readers" "I" ∈ lw_all := lw_mem (mt_1 _ (List.mem_of_getElem? (i := 36) rfl)) rfl
theorem qm_L_30 : Cond.methodLink RL 30 yX5_subscribers ∈ lw_all := lw_mem (mt_3 _ (List.mem_of_getElem? (i := 190) rfl)) rfl
theorem qi_X5_subscribers : Cond.instanceMethod yX5_subscribers ∈ lw_all := lw_mem (mt_3 _ (List.mem_of_getElem? (i := 106) rfl)) rfl
theorem qs_X5_subscribers : Cond.selects RX5 yX5_subscribers yX5_subscribers ∈ lw_all := lw_mem (mt_3 _ (List.mem_of_getElem? (i := 107) rfl)) rfl
theorem qc_X5_subscribers : Cond.code yX5_subscribers cX5_subscribers 6 (some .int) ∈ lw_all := lw_mem (mt_3 _ (List.mem_of_getElem? (i := 108) rfl)) rfl
theorem qm_L_38 : Cond.methodLink RL 38 yX4_turnTopic ∈ lw_all := lw_mem (mt_3 _ (List.mem_of_getElem? (i := 191) rfl)) rfl
theorem qi_X4_turnTopic : Cond.instanceMethod yX4_turnTopic ∈ lw_all := lw_mem (mt_3 _ (List.mem_of_getElem? (i := 192) rfl)) rfl
theorem qs_X4_turnTopic : Cond.selects RX4 yX4_turnTopic yX4_turnTopic ∈ lw_all := lw_mem (mt_3 _ (List.mem_of_getElem? (i := 193) rfl)) rfl
theorem qc_X4_turnTopic : Cond.code yX4_turnTopic cX4_turnTopic 2 (some .boolean) ∈ lw_all := lw_mem (mt_3 _ (List.mem_of_getElem? (i := 194) rfl)) rfl
theorem qf_X4_89 : Cond.fieldLink RX4 89 "LiftNovel$Course" "forbidden" "[Z" ∈ lw_all := lw_mem (mt_1 _ (List.mem_of_getElem? (i := 88) rfl)) rfl
theorem qm_X4_86 : Cond.methodLink RX4 86 yX4_needTopic ∈ lw_all := lw_mem (mt_2 _ (List.mem_of_getElem? (i := 166) rfl)) rfl
theorem qt_X4_needTopic : Cond.static yX4_needTopic ∈ lw_all := lw_mem (mt_2 _ (List.mem_of_getElem? (i := 167) rfl)) rfl
theorem qc_X4_needTopic : Cond.code yX4_needTopic cX4_needTopic 1 none ∈ lw_all := lw_mem (mt_2 _ (List.mem_of_getElem? (i := 168) rfl)) rfl
theorem qk_X4_372 : Cond.classLink RX4 372 "java/lang/IndexOutOfBoundsException" ∈ lw_all := lw_mem (mt_2 _ (List.mem_of_getElem? (i := 102) rfl)) rfl
theorem qn_IOB : Cond.initialized "java/lang/IndexOutOfBoundsException" ∈ lw_all := lw_mem (mt_1 _ (List.mem_of_getElem? (i := 11) rfl)) rfl
theorem qm_X4_67 : Cond.methodLink RX4 67 yX4_isTopic ∈ lw_all := lw_mem (mt_2 _ (List.mem_of_getElem? (i := 169) rfl)) rfl
theorem qt_X4_isTopic : Cond.static yX4_isTopic ∈ lw_all := lw_mem (mt_2 _ (List.mem_of_getElem? (i := 170) rfl)) rfl
theorem qc_X4_isTopic : Cond.code yX4_isTopic cX4_isTopic 1 (some .boolean) ∈ lw_all := lw_mem (mt_2 _ (List.mem_of_getElem? (i := 171) rfl)) rfl
theorem qm_L_46 : Cond.methodLink RL 46 yX4_setLimit ∈ lw_all := lw_mem (mt_3 _ (List.mem_of_getElem? (i := 195) rfl)) rfl
theorem qi_X4_setLimit : Cond.instanceMethod yX4_setLimit ∈ lw_all := lw_mem (mt_3 _ (List.mem_of_getElem? (i := 196) rfl)) rfl
theorem qs_X4_setLimit : Cond.selects RX4 yX4_setLimit yX4_setLimit ∈ lw_all := lw_mem (mt_3 _ (List.mem_of_getElem? (i := 197) rfl)) rfl
theorem qc_X4_setLimit : Cond.code yX4_setLimit cX4_setLimit 3 (some .int) ∈ lw_all := lw_mem (mt_3 _ (List.mem_of_getElem? (i := 198) rfl)) rfl
theorem qf_X4_95 : Cond.fieldLink RX4 95 "LiftNovel$House" "limit" "I" ∈ lw_all := lw_mem (mt_1 _ (List.mem_of_getElem? (i := 32) rfl)) rfl
theorem qm_L_52 : Cond.methodLink RL 52 yX5_with ∈ lw_all := lw_mem (mt_3 _ (List.mem_of_getElem? (i := 200) rfl)) rfl
theorem qt_X5_with : Cond.static yX5_with ∈ lw_all := lw_mem (mt_3 _ (List.mem_of_getElem? (i := 77) rfl)) rfl
theorem qc_X5_with : Cond.code yX5_with cX5_with 4 (some (.array (.array .int))) ∈ lw_all := lw_mem (mt_3 _ (List.mem_of_getElem? (i := 78) rfl)) rfl
theorem qm_L_56 : Cond.methodLink RL 56 yX4_addReader ∈ lw_all := lw_mem (mt_3 _ (List.mem_of_getElem? (i := 201) rfl)) rfl
theorem qi_X4_addReader : Cond.instanceMethod yX4_addReader ∈ lw_all := lw_mem (mt_3 _ (List.mem_of_getElem? (i := 202) rfl)) rfl
theorem qs_X4_addReader : Cond.selects RX4 yX4_addReader yX4_addReader ∈ lw_all := lw_mem (mt_3 _ (List.mem_of_getElem? (i := 203) rfl)) rfl
theorem qc_X4_addReader : Cond.code yX4_addReader cX4_addReader 4 (some .int) ∈ lw_all := lw_mem (mt_3 _ (List.mem_of_getElem? (i := 204) rfl)) rfl
theorem qk_X4_77 : Cond.classLink RX4 77 "java/lang/IllegalStateException" ∈ lw_all := lw_mem (mt_3 _ (List.mem_of_getElem? (i := 206) rfl)) rfl
theorem qn_ISE : Cond.initialized "java/lang/IllegalStateException" ∈ lw_all := lw_mem (mt_1 _ (List.mem_of_getElem? (i := 12) rfl)) rfl
theorem qf_X4_100 : Cond.fieldLink RX4 100 "LiftNovel$House" "readers" "I" ∈ lw_all := lw_mem (mt_1 _ (List.mem_of_getElem? (i := 35) rfl)) rfl
theorem qf_X4_105 : Cond.fieldLink RX4 105 "LiftNovel$House" "tastes" "[I" ∈ lw_all := lw_mem (mt_1 _ (List.mem_of_getElem? (i := 43) rfl)) rfl
theorem qf_X4_108 : Cond.fieldLink RX4 108 "LiftNovel$Course" "warmths" "[I" ∈ lw_all := lw_mem (mt_1 _ (List.mem_of_getElem? (i := 90) rfl)) rfl
theorem qf_X4_111 : Cond.fieldLink RX4 111 "LiftNovel$Course" "subscribed" "[Z" ∈ lw_all := lw_mem (mt_1 _ (List.mem_of_getElem? (i := 92) rfl)) rfl
theorem qm_L_62 : Cond.methodLink RL 62 yX4_addMirror ∈ lw_all := lw_mem (mt_3 _ (List.mem_of_getElem? (i := 222) rfl)) rfl
theorem qi_X4_addMirror : Cond.instanceMethod yX4_addMirror ∈ lw_all := lw_mem (mt_3 _ (List.mem_of_getElem? (i := 223) rfl)) rfl
theorem qs_X4_addMirror : Cond.selects RX4 yX4_addMirror yX4_addMirror ∈ lw_all := lw_mem (mt_3 _ (List.mem_of_getElem? (i := 224) rfl)) rfl
theorem qc_X4_addMirror : Cond.code yX4_addMirror cX4_addMirror 3 (some .int) ∈ lw_all := lw_mem (mt_3 _ (List.mem_of_getElem? (i := 225) rfl)) rfl
theorem qf_X4_116 : Cond.fieldLink RX4 116 "LiftNovel$Mirrors" "count" "I" ∈ lw_all := lw_mem (mt_1 _ (List.mem_of_getElem? (i := 157) rfl)) rfl
theorem qm_X4_119 : Cond.methodLink RX4 119 yX3_append ∈ lw_all := lw_mem (mt_3 _ (List.mem_of_getElem? (i := 228) rfl)) rfl
theorem qi_X3_append : Cond.instanceMethod yX3_append ∈ lw_all := lw_mem (mt_3 _ (List.mem_of_getElem? (i := 229) rfl)) rfl
theorem qs_X3_append : Cond.selects RX3 yX3_append yX3_append ∈ lw_all := lw_mem (mt_3 _ (List.mem_of_getElem? (i := 230) rfl)) rfl
theorem qc_X3_append : Cond.code yX3_append cX3_append 4 (some .int) ∈ lw_all := lw_mem (mt_3 _ (List.mem_of_getElem? (i := 231) rfl)) rfl
theorem qm_L_71 : Cond.methodLink RL 71 yX4_repair ∈ lw_all := lw_mem (mt_3 _ (List.mem_of_getElem? (i := 232) rfl)) rfl
theorem qi_X4_repair : Cond.instanceMethod yX4_repair ∈ lw_all := lw_mem (mt_3 _ (List.mem_of_getElem? (i := 233) rfl)) rfl
theorem qs_X4_repair : Cond.selects RX4 yX4_repair yX4_repair ∈ lw_all := lw_mem (mt_3 _ (List.mem_of_getElem? (i := 234) rfl)) rfl
theorem qc_X4_repair : Cond.code yX4_repair cX4_repair 2 (some .int) ∈ lw_all := lw_mem (mt_3 _ (List.mem_of_getElem? (i := 235) rfl)) rfl
theorem qf_X4_125 : Cond.fieldLink RX4 125 "LiftNovel$Course" "stuck" "I" ∈ lw_all := lw_mem (mt_1 _ (List.mem_of_getElem? (i := 75) rfl)) rfl
theorem qf_X4_128 : Cond.fieldLink RX4 128 "LiftNovel$Course" "wear" "I" ∈ lw_all := lw_mem (mt_1 _ (List.mem_of_getElem? (i := 77) rfl)) rfl
theorem qm_L_74 : Cond.methodLink RL 74 yX4_addParagraph ∈ lw_all := lw_mem (mt_3 _ (List.mem_of_getElem? (i := 236) rfl)) rfl
theorem qi_X4_addParagraph : Cond.instanceMethod yX4_addParagraph ∈ lw_all := lw_mem (mt_3 _ (List.mem_of_getElem? (i := 237) rfl)) rfl
theorem qs_X4_addParagraph : Cond.selects RX4 yX4_addParagraph yX4_addParagraph ∈ lw_all := lw_mem (mt_3 _ (List.mem_of_getElem? (i := 238) rfl)) rfl
theorem qc_X4_addParagraph : Cond.code yX4_addParagraph cX4_addParagraph 4 (some .int) ∈ lw_all := lw_mem (mt_3 _ (List.mem_of_getElem? (i := 239) rfl)) rfl
theorem qf_X4_73 : Cond.fieldLink RX4 73 "LiftNovel$House" "lengths" "[I" ∈ lw_all := lw_mem (mt_1 _ (List.mem_of_getElem? (i := 38) rfl)) rfl
theorem qm_X4_64 : Cond.methodLink RX4 64 yX4_needFloor ∈ lw_all := lw_mem (mt_2 _ (List.mem_of_getElem? (i := 98) rfl)) rfl
theorem qi_X4_needFloor : Cond.instanceMethod yX4_needFloor ∈ lw_all := lw_mem (mt_2 _ (List.mem_of_getElem? (i := 100) rfl)) rfl
theorem qs_X4_needFloor : Cond.selects RX4 yX4_needFloor yX4_needFloor ∈ lw_all := lw_mem (mt_0 _ (List.mem_of_getElem? (i := 1) rfl)) rfl
theorem qc_X4_needFloor : Cond.code yX4_needFloor cX4_needFloor 2 none ∈ lw_all := lw_mem (mt_2 _ (List.mem_of_getElem? (i := 101) rfl)) rfl
theorem qf_X4_148 : Cond.fieldLink RX4 148 "LiftNovel$House" "floors" "I" ∈ lw_all := lw_mem (mt_1 _ (List.mem_of_getElem? (i := 29) rfl)) rfl
theorem qm_X4_82 : Cond.methodLink RX4 82 yX1_append ∈ lw_all := lw_mem (mt_4 _ (List.mem_of_getElem? (i := 2) rfl)) rfl
theorem qi_X1_append : Cond.instanceMethod yX1_append ∈ lw_all := lw_mem (mt_4 _ (List.mem_of_getElem? (i := 3) rfl)) rfl
theorem qs_X1_append : Cond.selects RX1 yX1_append yX1_append ∈ lw_all := lw_mem (mt_4 _ (List.mem_of_getElem? (i := 4) rfl)) rfl
theorem qc_X1_append : Cond.code yX1_append cX1_append 5 (some .int) ∈ lw_all := lw_mem (mt_4 _ (List.mem_of_getElem? (i := 5) rfl)) rfl
theorem qm_L_78 : Cond.methodLink RL 78 yX5_add ∈ lw_all := lw_mem (mt_4 _ (List.mem_of_getElem? (i := 6) rfl)) rfl
theorem qi_X5_add : Cond.instanceMethod yX5_add ∈ lw_all := lw_mem (mt_4 _ (List.mem_of_getElem? (i := 7) rfl)) rfl
theorem qs_X5_add : Cond.selects RX5 yX5_add yX5_add ∈ lw_all := lw_mem (mt_4 _ (List.mem_of_getElem? (i := 8) rfl)) rfl
theorem qc_X5_add : Cond.code yX5_add cX5_add 7 (some .int) ∈ lw_all := lw_mem (mt_4 _ (List.mem_of_getElem? (i := 9) rfl)) rfl
theorem qm_L_84 : Cond.methodLink RL 84 yX4_call ∈ lw_all := lw_mem (mt_4 _ (List.mem_of_getElem? (i := 10) rfl)) rfl
theorem qi_X4_call : Cond.instanceMethod yX4_call ∈ lw_all := lw_mem (mt_4 _ (List.mem_of_getElem? (i := 11) rfl)) rfl
theorem qs_X4_call : Cond.selects RX4 yX4_call yX4_call ∈ lw_all := lw_mem (mt_4 _ (List.mem_of_getElem? (i := 12) rfl)) rfl
theorem qc_X4_call : Cond.code yX4_call cX4_call 3 (some .boolean) ∈ lw_all := lw_mem (mt_4 _ (List.mem_of_getElem? (i := 13) rfl)) rfl
theorem qf_X4_122 : Cond.fieldLink RX4 122 "LiftNovel$Course" "called" "[Z" ∈ lw_all := lw_mem (mt_1 _ (List.mem_of_getElem? (i := 82) rfl)) rfl
theorem qm_L_87 : Cond.methodLink RL 87 yX4_passHours ∈ lw_all := lw_mem (mt_1 _ (List.mem_of_getElem? (i := 183) rfl)) rfl
theorem qi_X4_passHours : Cond.instanceMethod yX4_passHours ∈ lw_all := lw_mem (mt_1 _ (List.mem_of_getElem? (i := 184) rfl)) rfl
theorem qs_X4_passHours : Cond.selects RX4 yX4_passHours yX4_passHours ∈ lw_all := lw_mem (mt_1 _ (List.mem_of_getElem? (i := 185) rfl)) rfl
theorem qc_X4_passHours : Cond.code yX4_passHours cX4_passHours 6 (some .int) ∈ lw_all := lw_mem (mt_1 _ (List.mem_of_getElem? (i := 186) rfl)) rfl
theorem qf_X4_133 : Cond.fieldLink RX4 133 "LiftNovel$Course" "hour" "I" ∈ lw_all := lw_mem (mt_1 _ (List.mem_of_getElem? (i := 69) rfl)) rfl
theorem qf_X4_139 : Cond.fieldLink RX4 139 "LiftNovel$Course" "at" "I" ∈ lw_all := lw_mem (mt_1 _ (List.mem_of_getElem? (i := 71) rfl)) rfl
theorem qf_X4_142 : Cond.fieldLink RX4 142 "LiftNovel$Course" "next" "[I" ∈ lw_all := lw_mem (mt_1 _ (List.mem_of_getElem? (i := 84) rfl)) rfl
theorem qm_X4_136 : Cond.methodLink RX4 136 yX0_passHour ∈ lw_all := lw_mem (mt_2 _ (List.mem_of_getElem? (i := 15) rfl)) rfl
theorem qi_X0_passHour : Cond.instanceMethod yX0_passHour ∈ lw_all := lw_mem (mt_2 _ (List.mem_of_getElem? (i := 16) rfl)) rfl
theorem qs_X0_passHour : Cond.selects RX0 yX0_passHour yX0_passHour ∈ lw_all := lw_mem (mt_2 _ (List.mem_of_getElem? (i := 17) rfl)) rfl
theorem qc_X0_passHour : Cond.code yX0_passHour cX0_passHour 2 (some .int) ∈ lw_all := lw_mem (mt_2 _ (List.mem_of_getElem? (i := 18) rfl)) rfl
theorem qm_X0_57 : Cond.methodLink RX0 57 yX0_waitStuck ∈ lw_all := lw_mem (mt_2 _ (List.mem_of_getElem? (i := 19) rfl)) rfl
theorem qi_X0_waitStuck : Cond.instanceMethod yX0_waitStuck ∈ lw_all := lw_mem (mt_2 _ (List.mem_of_getElem? (i := 20) rfl)) rfl
theorem qs_X0_waitStuck : Cond.selects RX0 yX0_waitStuck yX0_waitStuck ∈ lw_all := lw_mem (mt_2 _ (List.mem_of_getElem? (i := 21) rfl)) rfl
theorem qc_X0_waitStuck : Cond.code yX0_waitStuck cX0_waitStuck 1 none ∈ lw_all := lw_mem (mt_2 _ (List.mem_of_getElem? (i := 22) rfl)) rfl
theorem qm_X0_60 : Cond.methodLink RX0 60 yX0_countCalled ∈ lw_all := lw_mem (mt_2 _ (List.mem_of_getElem? (i := 23) rfl)) rfl
theorem qi_X0_countCalled : Cond.instanceMethod yX0_countCalled ∈ lw_all := lw_mem (mt_2 _ (List.mem_of_getElem? (i := 24) rfl)) rfl
theorem qs_X0_countCalled : Cond.selects RX0 yX0_countCalled yX0_countCalled ∈ lw_all := lw_mem (mt_2 _ (List.mem_of_getElem? (i := 25) rfl)) rfl
theorem qc_X0_countCalled : Cond.code yX0_countCalled cX0_countCalled 3 (some .int) ∈ lw_all := lw_mem (mt_2 _ (List.mem_of_getElem? (i := 26) rfl)) rfl
theorem qm_X0_64 : Cond.methodLink RX0 64 yX0_ride ∈ lw_all := lw_mem (mt_2 _ (List.mem_of_getElem? (i := 27) rfl)) rfl
theorem qi_X0_ride : Cond.instanceMethod yX0_ride ∈ lw_all := lw_mem (mt_2 _ (List.mem_of_getElem? (i := 28) rfl)) rfl
theorem qs_X0_ride : Cond.selects RX0 yX0_ride yX0_ride ∈ lw_all := lw_mem (mt_2 _ (List.mem_of_getElem? (i := 29) rfl)) rfl
theorem qc_X0_ride : Cond.code yX0_ride cX0_ride 2 none ∈ lw_all := lw_mem (mt_2 _ (List.mem_of_getElem? (i := 30) rfl)) rfl
theorem qm_X0_79 : Cond.methodLink RX0 79 yX0_hasCall ∈ lw_all := lw_mem (mt_2 _ (List.mem_of_getElem? (i := 31) rfl)) rfl
theorem qi_X0_hasCall : Cond.instanceMethod yX0_hasCall ∈ lw_all := lw_mem (mt_2 _ (List.mem_of_getElem? (i := 32) rfl)) rfl
theorem qs_X0_hasCall : Cond.selects RX0 yX0_hasCall yX0_hasCall ∈ lw_all := lw_mem (mt_2 _ (List.mem_of_getElem? (i := 33) rfl)) rfl
theorem qc_X0_hasCall : Cond.code yX0_hasCall cX0_hasCall 2 (some .boolean) ∈ lw_all := lw_mem (mt_2 _ (List.mem_of_getElem? (i := 34) rfl)) rfl
theorem qm_X0_83 : Cond.methodLink RX0 83 yX0_hasCallAbove ∈ lw_all := lw_mem (mt_2 _ (List.mem_of_getElem? (i := 35) rfl)) rfl
theorem qi_X0_hasCallAbove : Cond.instanceMethod yX0_hasCallAbove ∈ lw_all := lw_mem (mt_2 _ (List.mem_of_getElem? (i := 36) rfl)) rfl
theorem qs_X0_hasCallAbove : Cond.selects RX0 yX0_hasCallAbove yX0_hasCallAbove ∈ lw_all := lw_mem (mt_2 _ (List.mem_of_getElem? (i := 37) rfl)) rfl
theorem qc_X0_hasCallAbove : Cond.code yX0_hasCallAbove cX0_hasCallAbove 2 (some .boolean) ∈ lw_all := lw_mem (mt_2 _ (List.mem_of_getElem? (i := 38) rfl)) rfl
theorem qm_X0_87 : Cond.methodLink RX0 87 yX0_hasCallBelow ∈ lw_all := lw_mem (mt_2 _ (List.mem_of_getElem? (i := 39) rfl)) rfl
theorem qi_X0_hasCallBelow : Cond.instanceMethod yX0_hasCallBelow ∈ lw_all := lw_mem (mt_2 _ (List.mem_of_getElem? (i := 40) rfl)) rfl
theorem qs_X0_hasCallBelow : Cond.selects RX0 yX0_hasCallBelow yX0_hasCallBelow ∈ lw_all := lw_mem (mt_2 _ (List.mem_of_getElem? (i := 41) rfl)) rfl
theorem qc_X0_hasCallBelow : Cond.code yX0_hasCallBelow cX0_hasCallBelow 2 (some .boolean) ∈ lw_all := lw_mem (mt_2 _ (List.mem_of_getElem? (i := 42) rfl)) rfl
theorem qm_X0_90 : Cond.methodLink RX0 90 yX0_wayToNearestCall ∈ lw_all := lw_mem (mt_2 _ (List.mem_of_getElem? (i := 43) rfl)) rfl
theorem qi_X0_wayToNearestCall : Cond.instanceMethod yX0_wayToNearestCall ∈ lw_all := lw_mem (mt_2 _ (List.mem_of_getElem? (i := 44) rfl)) rfl
theorem qs_X0_wayToNearestCall : Cond.selects RX0 yX0_wayToNearestCall yX0_wayToNearestCall ∈ lw_all := lw_mem (mt_2 _ (List.mem_of_getElem? (i := 45) rfl)) rfl
theorem qc_X0_wayToNearestCall : Cond.code yX0_wayToNearestCall cX0_wayToNearestCall 2 (some .int) ∈ lw_all := lw_mem (mt_2 _ (List.mem_of_getElem? (i := 46) rfl)) rfl
theorem qm_X0_67 : Cond.methodLink RX0 67 yX0_stopIfCalled ∈ lw_all := lw_mem (mt_2 _ (List.mem_of_getElem? (i := 47) rfl)) rfl
theorem qi_X0_stopIfCalled : Cond.instanceMethod yX0_stopIfCalled ∈ lw_all := lw_mem (mt_2 _ (List.mem_of_getElem? (i := 48) rfl)) rfl
theorem qs_X0_stopIfCalled : Cond.selects RX0 yX0_stopIfCalled yX0_stopIfCalled ∈ lw_all := lw_mem (mt_2 _ (List.mem_of_getElem? (i := 49) rfl)) rfl
theorem qc_X0_stopIfCalled : Cond.code yX0_stopIfCalled cX0_stopIfCalled 3 (some .int) ∈ lw_all := lw_mem (mt_2 _ (List.mem_of_getElem? (i := 50) rfl)) rfl
theorem qf_X0_93 : Cond.fieldLink RX0 93 "LiftNovel$House" "lengths" "[I" ∈ lw_all := lw_mem (mt_1 _ (List.mem_of_getElem? (i := 39) rfl)) rfl
theorem qm_X0_98 : Cond.methodLink RX0 98 yX1_topicAt ∈ lw_all := lw_mem (mt_2 _ (List.mem_of_getElem? (i := 51) rfl)) rfl
theorem qi_X1_topicAt : Cond.instanceMethod yX1_topicAt ∈ lw_all := lw_mem (mt_2 _ (List.mem_of_getElem? (i := 52) rfl)) rfl
theorem qs_X1_topicAt : Cond.selects RX1 yX1_topicAt yX1_topicAt ∈ lw_all := lw_mem (mt_2 _ (List.mem_of_getElem? (i := 53) rfl)) rfl
theorem qc_X1_topicAt : Cond.code yX1_topicAt cX1_topicAt 3 (some .int) ∈ lw_all := lw_mem (mt_2 _ (List.mem_of_getElem? (i := 54) rfl)) rfl
theorem qm_X0_102 : Cond.methodLink RX0 102 yX1_thrillAt ∈ lw_all := lw_mem (mt_2 _ (List.mem_of_getElem? (i := 55) rfl)) rfl
theorem qi_X1_thrillAt : Cond.instanceMethod yX1_thrillAt ∈ lw_all := lw_mem (mt_2 _ (List.mem_of_getElem? (i := 56) rfl)) rfl
theorem qs_X1_thrillAt : Cond.selects RX1 yX1_thrillAt yX1_thrillAt ∈ lw_all := lw_mem (mt_2 _ (List.mem_of_getElem? (i := 57) rfl)) rfl
theorem qc_X1_thrillAt : Cond.code yX1_thrillAt cX1_thrillAt 3 (some .int) ∈ lw_all := lw_mem (mt_2 _ (List.mem_of_getElem? (i := 58) rfl)) rfl
theorem qm_X0_105 : Cond.methodLink RX0 105 yX0_print ∈ lw_all := lw_mem (mt_2 _ (List.mem_of_getElem? (i := 59) rfl)) rfl
theorem qi_X0_print : Cond.instanceMethod yX0_print ∈ lw_all := lw_mem (mt_2 _ (List.mem_of_getElem? (i := 60) rfl)) rfl
theorem qs_X0_print : Cond.selects RX0 yX0_print yX0_print ∈ lw_all := lw_mem (mt_2 _ (List.mem_of_getElem? (i := 61) rfl)) rfl
theorem qc_X0_print : Cond.code yX0_print cX0_print 6 (some .int) ∈ lw_all := lw_mem (mt_2 _ (List.mem_of_getElem? (i := 62) rfl)) rfl
theorem qf_X0_111 : Cond.fieldLink RX0 111 "LiftNovel$House" "tastes" "[I" ∈ lw_all := lw_mem (mt_1 _ (List.mem_of_getElem? (i := 44) rfl)) rfl
theorem qm_X0_114 : Cond.methodLink RX0 114 Lib.Math.min.name ∈ lw_all := lw_mem (mt_2 _ (List.mem_of_getElem? (i := 63) rfl)) rfl
theorem qt_Math_min : Cond.static Lib.Math.min.name ∈ lw_all := lw_mem (mt_2 _ (List.mem_of_getElem? (i := 64) rfl)) rfl
theorem qn_Math : Cond.initialized "java/lang/Math" ∈ lw_all := lw_mem (mt_1 _ (List.mem_of_getElem? (i := 13) rfl)) rfl
theorem qc_Math_min : Cond.code Lib.Math.min.name Lib.Math.min.code 2 (some .int) ∈ lw_all := lw_mem (mt_2 _ (List.mem_of_getElem? (i := 65) rfl)) rfl
theorem qm_X0_70 : Cond.methodLink RX0 70 yX0_coolReaders ∈ lw_all := lw_mem (mt_2 _ (List.mem_of_getElem? (i := 66) rfl)) rfl
theorem qi_X0_coolReaders : Cond.instanceMethod yX0_coolReaders ∈ lw_all := lw_mem (mt_2 _ (List.mem_of_getElem? (i := 67) rfl)) rfl
theorem qs_X0_coolReaders : Cond.selects RX0 yX0_coolReaders yX0_coolReaders ∈ lw_all := lw_mem (mt_2 _ (List.mem_of_getElem? (i := 68) rfl)) rfl
theorem qc_X0_coolReaders : Cond.code yX0_coolReaders cX0_coolReaders 2 none ∈ lw_all := lw_mem (mt_2 _ (List.mem_of_getElem? (i := 69) rfl)) rfl
theorem qm_X0_73 : Cond.methodLink RX0 73 yX0_getStuckIfWorn ∈ lw_all := lw_mem (mt_2 _ (List.mem_of_getElem? (i := 70) rfl)) rfl
theorem qi_X0_getStuckIfWorn : Cond.instanceMethod yX0_getStuckIfWorn ∈ lw_all := lw_mem (mt_2 _ (List.mem_of_getElem? (i := 71) rfl)) rfl
theorem qs_X0_getStuckIfWorn : Cond.selects RX0 yX0_getStuckIfWorn yX0_getStuckIfWorn ∈ lw_all := lw_mem (mt_2 _ (List.mem_of_getElem? (i := 72) rfl)) rfl
theorem qc_X0_getStuckIfWorn : Cond.code yX0_getStuckIfWorn cX0_getStuckIfWorn 1 none ∈ lw_all := lw_mem (mt_2 _ (List.mem_of_getElem? (i := 73) rfl)) rfl
theorem qf_X0_119 : Cond.fieldLink RX0 119 "LiftNovel$House" "limit" "I" ∈ lw_all := lw_mem (mt_1 _ (List.mem_of_getElem? (i := 33) rfl)) rfl
theorem qm_X4_145 : Cond.methodLink RX4 145 yX2_append ∈ lw_all := lw_mem (mt_2 _ (List.mem_of_getElem? (i := 74) rfl)) rfl
theorem qi_X2_append : Cond.instanceMethod yX2_append ∈ lw_all := lw_mem (mt_2 _ (List.mem_of_getElem? (i := 75) rfl)) rfl
theorem qs_X2_append : Cond.selects RX2 yX2_append yX2_append ∈ lw_all := lw_mem (mt_2 _ (List.mem_of_getElem? (i := 76) rfl)) rfl
theorem qc_X2_append : Cond.code yX2_append cX2_append 5 none ∈ lw_all := lw_mem (mt_2 _ (List.mem_of_getElem? (i := 77) rfl)) rfl
theorem qm_L_90 : Cond.methodLink RL 90 yX5_behind ∈ lw_all := lw_mem (mt_4 _ (List.mem_of_getElem? (i := 14) rfl)) rfl
theorem qi_X5_behind : Cond.instanceMethod yX5_behind ∈ lw_all := lw_mem (mt_4 _ (List.mem_of_getElem? (i := 15) rfl)) rfl
theorem qs_X5_behind : Cond.selects RX5 yX5_behind yX5_behind ∈ lw_all := lw_mem (mt_4 _ (List.mem_of_getElem? (i := 16) rfl)) rfl
theorem qc_X5_behind : Cond.code yX5_behind cX5_behind 4 (some .int) ∈ lw_all := lw_mem (mt_4 _ (List.mem_of_getElem? (i := 17) rfl)) rfl
theorem qm_X5_68 : Cond.methodLink RX5 68 yX5_pass ∈ lw_all := lw_mem (mt_4 _ (List.mem_of_getElem? (i := 18) rfl)) rfl
theorem qi_X5_pass : Cond.instanceMethod yX5_pass ∈ lw_all := lw_mem (mt_3 _ (List.mem_of_getElem? (i := 65) rfl)) rfl
theorem qs_X5_pass : Cond.selects RX5 yX5_pass yX5_pass ∈ lw_all := lw_mem (mt_3 _ (List.mem_of_getElem? (i := 66) rfl)) rfl
theorem qc_X5_pass : Cond.code yX5_pass cX5_pass 6 none ∈ lw_all := lw_mem (mt_3 _ (List.mem_of_getElem? (i := 67) rfl)) rfl
theorem qf_X5_51 : Cond.fieldLink RX5 51 "LiftNovelLaw$Sim" "stopped" "I" ∈ lw_all := lw_mem (mt_4 _ (List.mem_of_getElem? (i := 49) rfl)) rfl
theorem qf_X5_54 : Cond.fieldLink RX5 54 "LiftNovelLaw$Sim" "hour" "I" ∈ lw_all := lw_mem (mt_4 _ (List.mem_of_getElem? (i := 28) rfl)) rfl
theorem qm_X5_61 : Cond.methodLink RX5 61 yX5_calls ∈ lw_all := lw_mem (mt_3 _ (List.mem_of_getElem? (i := 68) rfl)) rfl
theorem qi_X5_calls : Cond.instanceMethod yX5_calls ∈ lw_all := lw_mem (mt_3 _ (List.mem_of_getElem? (i := 69) rfl)) rfl
theorem qs_X5_calls : Cond.selects RX5 yX5_calls yX5_calls ∈ lw_all := lw_mem (mt_3 _ (List.mem_of_getElem? (i := 70) rfl)) rfl
theorem qc_X5_calls : Cond.code yX5_calls cX5_calls 6 (some .int) ∈ lw_all := lw_mem (mt_3 _ (List.mem_of_getElem? (i := 71) rfl)) rfl
theorem qm_X5_65 : Cond.methodLink RX5 65 yX5_stop ∈ lw_all := lw_mem (mt_3 _ (List.mem_of_getElem? (i := 72) rfl)) rfl
theorem qi_X5_stop : Cond.instanceMethod yX5_stop ∈ lw_all := lw_mem (mt_3 _ (List.mem_of_getElem? (i := 73) rfl)) rfl
theorem qs_X5_stop : Cond.selects RX5 yX5_stop yX5_stop ∈ lw_all := lw_mem (mt_3 _ (List.mem_of_getElem? (i := 74) rfl)) rfl
theorem qc_X5_stop : Cond.code yX5_stop cX5_stop 10 none ∈ lw_all := lw_mem (mt_3 _ (List.mem_of_getElem? (i := 75) rfl)) rfl
theorem qm_X5_57 : Cond.methodLink RX5 57 yX5_with ∈ lw_all := lw_mem (mt_3 _ (List.mem_of_getElem? (i := 76) rfl)) rfl
theorem qm_L_107 : Cond.methodLink RL 107 yX4_floors ∈ lw_all := lw_mem (mt_2 _ (List.mem_of_getElem? (i := 78) rfl)) rfl
theorem qi_X4_floors : Cond.instanceMethod yX4_floors ∈ lw_all := lw_mem (mt_2 _ (List.mem_of_getElem? (i := 79) rfl)) rfl
theorem qs_X4_floors : Cond.selects RX4 yX4_floors yX4_floors ∈ lw_all := lw_mem (mt_2 _ (List.mem_of_getElem? (i := 80) rfl)) rfl
theorem qc_X4_floors : Cond.code yX4_floors cX4_floors 1 (some .int) ∈ lw_all := lw_mem (mt_2 _ (List.mem_of_getElem? (i := 81) rfl)) rfl
theorem qm_L_110 : Cond.methodLink RL 110 yX4_instalments ∈ lw_all := lw_mem (mt_2 _ (List.mem_of_getElem? (i := 189) rfl)) rfl
theorem qi_X4_instalments : Cond.instanceMethod yX4_instalments ∈ lw_all := lw_mem (mt_2 _ (List.mem_of_getElem? (i := 190) rfl)) rfl
theorem qs_X4_instalments : Cond.selects RX4 yX4_instalments yX4_instalments ∈ lw_all := lw_mem (mt_2 _ (List.mem_of_getElem? (i := 191) rfl)) rfl
theorem qc_X4_instalments : Cond.code yX4_instalments cX4_instalments 1 (some .int) ∈ lw_all := lw_mem (mt_2 _ (List.mem_of_getElem? (i := 192) rfl)) rfl
theorem qm_L_113 : Cond.methodLink RL 113 yX4_paragraphs ∈ lw_all := lw_mem (mt_2 _ (List.mem_of_getElem? (i := 135) rfl)) rfl
theorem qi_X4_paragraphs : Cond.instanceMethod yX4_paragraphs ∈ lw_all := lw_mem (mt_2 _ (List.mem_of_getElem? (i := 136) rfl)) rfl
theorem qs_X4_paragraphs : Cond.selects RX4 yX4_paragraphs yX4_paragraphs ∈ lw_all := lw_mem (mt_2 _ (List.mem_of_getElem? (i := 137) rfl)) rfl
theorem qc_X4_paragraphs : Cond.code yX4_paragraphs cX4_paragraphs 2 (some .int) ∈ lw_all := lw_mem (mt_2 _ (List.mem_of_getElem? (i := 138) rfl)) rfl
theorem qm_L_116 : Cond.methodLink RL 116 yX4_nextParagraph ∈ lw_all := lw_mem (mt_2 _ (List.mem_of_getElem? (i := 139) rfl)) rfl
theorem qi_X4_nextParagraph : Cond.instanceMethod yX4_nextParagraph ∈ lw_all := lw_mem (mt_2 _ (List.mem_of_getElem? (i := 140) rfl)) rfl
theorem qs_X4_nextParagraph : Cond.selects RX4 yX4_nextParagraph yX4_nextParagraph ∈ lw_all := lw_mem (mt_2 _ (List.mem_of_getElem? (i := 141) rfl)) rfl
theorem qc_X4_nextParagraph : Cond.code yX4_nextParagraph cX4_nextParagraph 2 (some .int) ∈ lw_all := lw_mem (mt_2 _ (List.mem_of_getElem? (i := 142) rfl)) rfl
theorem qm_L_119 : Cond.methodLink RL 119 yX4_isCalled ∈ lw_all := lw_mem (mt_2 _ (List.mem_of_getElem? (i := 94) rfl)) rfl
theorem qi_X4_isCalled : Cond.instanceMethod yX4_isCalled ∈ lw_all := lw_mem (mt_2 _ (List.mem_of_getElem? (i := 95) rfl)) rfl
theorem qs_X4_isCalled : Cond.selects RX4 yX4_isCalled yX4_isCalled ∈ lw_all := lw_mem (mt_2 _ (List.mem_of_getElem? (i := 96) rfl)) rfl
theorem qc_X4_isCalled : Cond.code yX4_isCalled cX4_isCalled 2 (some .boolean) ∈ lw_all := lw_mem (mt_2 _ (List.mem_of_getElem? (i := 97) rfl)) rfl
theorem qm_L_122 : Cond.methodLink RL 122 yX4_cutOn ∈ lw_all := lw_mem (mt_2 _ (List.mem_of_getElem? (i := 158) rfl)) rfl
theorem qi_X4_cutOn : Cond.instanceMethod yX4_cutOn ∈ lw_all := lw_mem (mt_2 _ (List.mem_of_getElem? (i := 159) rfl)) rfl
theorem qs_X4_cutOn : Cond.selects RX4 yX4_cutOn yX4_cutOn ∈ lw_all := lw_mem (mt_2 _ (List.mem_of_getElem? (i := 160) rfl)) rfl
theorem qc_X4_cutOn : Cond.code yX4_cutOn cX4_cutOn 2 (some .int) ∈ lw_all := lw_mem (mt_2 _ (List.mem_of_getElem? (i := 161) rfl)) rfl
theorem qf_X4_170 : Cond.fieldLink RX4 170 "LiftNovel$Course" "cut" "[I" ∈ lw_all := lw_mem (mt_1 _ (List.mem_of_getElem? (i := 86) rfl)) rfl
theorem qm_L_125 : Cond.methodLink RL 125 yX4_toCome ∈ lw_all := lw_mem (mt_2 _ (List.mem_of_getElem? (i := 181) rfl)) rfl
theorem qi_X4_toCome : Cond.instanceMethod yX4_toCome ∈ lw_all := lw_mem (mt_2 _ (List.mem_of_getElem? (i := 182) rfl)) rfl
theorem qs_X4_toCome : Cond.selects RX4 yX4_toCome yX4_toCome ∈ lw_all := lw_mem (mt_2 _ (List.mem_of_getElem? (i := 183) rfl)) rfl
theorem qc_X4_toCome : Cond.code yX4_toCome cX4_toCome 2 (some .int) ∈ lw_all := lw_mem (mt_2 _ (List.mem_of_getElem? (i := 184) rfl)) rfl
theorem qm_X4_176 : Cond.methodLink RX4 176 yX0_countToCome ∈ lw_all := lw_mem (mt_2 _ (List.mem_of_getElem? (i := 185) rfl)) rfl
theorem qi_X0_countToCome : Cond.instanceMethod yX0_countToCome ∈ lw_all := lw_mem (mt_2 _ (List.mem_of_getElem? (i := 186) rfl)) rfl
theorem qs_X0_countToCome : Cond.selects RX0 yX0_countToCome yX0_countToCome ∈ lw_all := lw_mem (mt_2 _ (List.mem_of_getElem? (i := 187) rfl)) rfl
theorem qc_X0_countToCome : Cond.code yX0_countToCome cX0_countToCome 5 (some .int) ∈ lw_all := lw_mem (mt_2 _ (List.mem_of_getElem? (i := 188) rfl)) rfl
theorem qf_X0_122 : Cond.fieldLink RX0 122 "LiftNovel$House" "floors" "I" ∈ lw_all := lw_mem (mt_1 _ (List.mem_of_getElem? (i := 30) rfl)) rfl
theorem qm_L_128 : Cond.methodLink RL 128 yX4_calls ∈ lw_all := lw_mem (mt_2 _ (List.mem_of_getElem? (i := 118) rfl)) rfl
theorem qi_X4_calls : Cond.instanceMethod yX4_calls ∈ lw_all := lw_mem (mt_2 _ (List.mem_of_getElem? (i := 119) rfl)) rfl
theorem qs_X4_calls : Cond.selects RX4 yX4_calls yX4_calls ∈ lw_all := lw_mem (mt_2 _ (List.mem_of_getElem? (i := 120) rfl)) rfl
theorem qc_X4_calls : Cond.code yX4_calls cX4_calls 1 (some .int) ∈ lw_all := lw_mem (mt_2 _ (List.mem_of_getElem? (i := 121) rfl)) rfl
theorem qm_X4_154 : Cond.methodLink RX4 154 yX0_countCalled ∈ lw_all := lw_mem (mt_2 _ (List.mem_of_getElem? (i := 122) rfl)) rfl
theorem qm_L_131 : Cond.methodLink RL 131 yX4_cuts ∈ lw_all := lw_mem (mt_2 _ (List.mem_of_getElem? (i := 173) rfl)) rfl
theorem qi_X4_cuts : Cond.instanceMethod yX4_cuts ∈ lw_all := lw_mem (mt_2 _ (List.mem_of_getElem? (i := 174) rfl)) rfl
theorem qs_X4_cuts : Cond.selects RX4 yX4_cuts yX4_cuts ∈ lw_all := lw_mem (mt_2 _ (List.mem_of_getElem? (i := 175) rfl)) rfl
theorem qc_X4_cuts : Cond.code yX4_cuts cX4_cuts 1 (some .int) ∈ lw_all := lw_mem (mt_2 _ (List.mem_of_getElem? (i := 176) rfl)) rfl
theorem qm_X4_173 : Cond.methodLink RX4 173 yX0_countCut ∈ lw_all := lw_mem (mt_2 _ (List.mem_of_getElem? (i := 177) rfl)) rfl
theorem qi_X0_countCut : Cond.instanceMethod yX0_countCut ∈ lw_all := lw_mem (mt_2 _ (List.mem_of_getElem? (i := 178) rfl)) rfl
theorem qs_X0_countCut : Cond.selects RX0 yX0_countCut yX0_countCut ∈ lw_all := lw_mem (mt_2 _ (List.mem_of_getElem? (i := 179) rfl)) rfl
theorem qc_X0_countCut : Cond.code yX0_countCut cX0_countCut 3 (some .int) ∈ lw_all := lw_mem (mt_2 _ (List.mem_of_getElem? (i := 180) rfl)) rfl
theorem qm_L_134 : Cond.methodLink RL 134 yX4_liftAt ∈ lw_all := lw_mem (mt_2 _ (List.mem_of_getElem? (i := 86) rfl)) rfl
theorem qi_X4_liftAt : Cond.instanceMethod yX4_liftAt ∈ lw_all := lw_mem (mt_2 _ (List.mem_of_getElem? (i := 87) rfl)) rfl
theorem qs_X4_liftAt : Cond.selects RX4 yX4_liftAt yX4_liftAt ∈ lw_all := lw_mem (mt_2 _ (List.mem_of_getElem? (i := 88) rfl)) rfl
theorem qc_X4_liftAt : Cond.code yX4_liftAt cX4_liftAt 1 (some .int) ∈ lw_all := lw_mem (mt_2 _ (List.mem_of_getElem? (i := 89) rfl)) rfl
theorem qm_L_137 : Cond.methodLink RL 137 yX4_goes ∈ lw_all := lw_mem (mt_2 _ (List.mem_of_getElem? (i := 90) rfl)) rfl
theorem qi_X4_goes : Cond.instanceMethod yX4_goes ∈ lw_all := lw_mem (mt_2 _ (List.mem_of_getElem? (i := 91) rfl)) rfl
theorem qs_X4_goes : Cond.selects RX4 yX4_goes yX4_goes ∈ lw_all := lw_mem (mt_2 _ (List.mem_of_getElem? (i := 92) rfl)) rfl
theorem qc_X4_goes : Cond.code yX4_goes cX4_goes 1 (some .int) ∈ lw_all := lw_mem (mt_2 _ (List.mem_of_getElem? (i := 93) rfl)) rfl
theorem qf_X4_151 : Cond.fieldLink RX4 151 "LiftNovel$Course" "way" "I" ∈ lw_all := lw_mem (mt_1 _ (List.mem_of_getElem? (i := 73) rfl)) rfl
theorem qm_L_140 : Cond.methodLink RL 140 yX4_wear ∈ lw_all := lw_mem (mt_2 _ (List.mem_of_getElem? (i := 127) rfl)) rfl
theorem qi_X4_wear : Cond.instanceMethod yX4_wear ∈ lw_all := lw_mem (mt_2 _ (List.mem_of_getElem? (i := 128) rfl)) rfl
theorem qs_X4_wear : Cond.selects RX4 yX4_wear yX4_wear ∈ lw_all := lw_mem (mt_2 _ (List.mem_of_getElem? (i := 129) rfl)) rfl
theorem qc_X4_wear : Cond.code yX4_wear cX4_wear 1 (some .int) ∈ lw_all := lw_mem (mt_2 _ (List.mem_of_getElem? (i := 130) rfl)) rfl
theorem qm_L_142 : Cond.methodLink RL 142 yX4_suspense ∈ lw_all := lw_mem (mt_2 _ (List.mem_of_getElem? (i := 131) rfl)) rfl
theorem qi_X4_suspense : Cond.instanceMethod yX4_suspense ∈ lw_all := lw_mem (mt_2 _ (List.mem_of_getElem? (i := 132) rfl)) rfl
theorem qs_X4_suspense : Cond.selects RX4 yX4_suspense yX4_suspense ∈ lw_all := lw_mem (mt_2 _ (List.mem_of_getElem? (i := 133) rfl)) rfl
theorem qc_X4_suspense : Cond.code yX4_suspense cX4_suspense 1 (some .int) ∈ lw_all := lw_mem (mt_2 _ (List.mem_of_getElem? (i := 134) rfl)) rfl
theorem qf_X4_157 : Cond.fieldLink RX4 157 "LiftNovel$Course" "suspense" "I" ∈ lw_all := lw_mem (mt_1 _ (List.mem_of_getElem? (i := 79) rfl)) rfl
theorem qm_L_145 : Cond.methodLink RL 145 yX4_floorIn ∈ lw_all := lw_mem (mt_2 _ (List.mem_of_getElem? (i := 193) rfl)) rfl
theorem qi_X4_floorIn : Cond.instanceMethod yX4_floorIn ∈ lw_all := lw_mem (mt_2 _ (List.mem_of_getElem? (i := 194) rfl)) rfl
theorem qs_X4_floorIn : Cond.selects RX4 yX4_floorIn yX4_floorIn ∈ lw_all := lw_mem (mt_2 _ (List.mem_of_getElem? (i := 195) rfl)) rfl
theorem qc_X4_floorIn : Cond.code yX4_floorIn cX4_floorIn 2 (some .int) ∈ lw_all := lw_mem (mt_2 _ (List.mem_of_getElem? (i := 196) rfl)) rfl
theorem qf_X4_183 : Cond.fieldLink RX4 183 "LiftNovel$Instalments" "floors" "[I" ∈ lw_all := lw_mem (mt_1 _ (List.mem_of_getElem? (i := 132) rfl)) rfl
theorem qm_X4_180 : Cond.methodLink RX4 180 yX4_needInstalment ∈ lw_all := lw_mem (mt_2 _ (List.mem_of_getElem? (i := 197) rfl)) rfl
theorem qi_X4_needInstalment : Cond.instanceMethod yX4_needInstalment ∈ lw_all := lw_mem (mt_2 _ (List.mem_of_getElem? (i := 199) rfl)) rfl
theorem qs_X4_needInstalment : Cond.selects RX4 yX4_needInstalment yX4_needInstalment ∈ lw_all := lw_mem (mt_0 _ (List.mem_of_getElem? (i := 3) rfl)) rfl
theorem qc_X4_needInstalment : Cond.code yX4_needInstalment cX4_needInstalment 2 none ∈ lw_all := lw_mem (mt_2 _ (List.mem_of_getElem? (i := 200) rfl)) rfl
theorem qm_L_148 : Cond.methodLink RL 148 yX4_paragraphIn ∈ lw_all := lw_mem (mt_2 _ (List.mem_of_getElem? (i := 202) rfl)) rfl
theorem qi_X4_paragraphIn : Cond.instanceMethod yX4_paragraphIn ∈ lw_all := lw_mem (mt_2 _ (List.mem_of_getElem? (i := 203) rfl)) rfl
theorem qs_X4_paragraphIn : Cond.selects RX4 yX4_paragraphIn yX4_paragraphIn ∈ lw_all := lw_mem (mt_2 _ (List.mem_of_getElem? (i := 204) rfl)) rfl
theorem qc_X4_paragraphIn : Cond.code yX4_paragraphIn cX4_paragraphIn 2 (some .int) ∈ lw_all := lw_mem (mt_2 _ (List.mem_of_getElem? (i := 205) rfl)) rfl
theorem qf_X4_185 : Cond.fieldLink RX4 185 "LiftNovel$Instalments" "paragraphs" "[I" ∈ lw_all := lw_mem (mt_1 _ (List.mem_of_getElem? (i := 134) rfl)) rfl
theorem qm_L_151 : Cond.methodLink RL 151 yX4_thrillOf ∈ lw_all := lw_mem (mt_2 _ (List.mem_of_getElem? (i := 153) rfl)) rfl
theorem qi_X4_thrillOf : Cond.instanceMethod yX4_thrillOf ∈ lw_all := lw_mem (mt_2 _ (List.mem_of_getElem? (i := 154) rfl)) rfl
theorem qs_X4_thrillOf : Cond.selects RX4 yX4_thrillOf yX4_thrillOf ∈ lw_all := lw_mem (mt_2 _ (List.mem_of_getElem? (i := 155) rfl)) rfl
theorem qc_X4_thrillOf : Cond.code yX4_thrillOf cX4_thrillOf 3 (some .int) ∈ lw_all := lw_mem (mt_2 _ (List.mem_of_getElem? (i := 156) rfl)) rfl
theorem qm_X4_160 : Cond.methodLink RX4 160 yX4_needParagraph ∈ lw_all := lw_mem (mt_2 _ (List.mem_of_getElem? (i := 147) rfl)) rfl
theorem qi_X4_needParagraph : Cond.instanceMethod yX4_needParagraph ∈ lw_all := lw_mem (mt_2 _ (List.mem_of_getElem? (i := 149) rfl)) rfl
theorem qs_X4_needParagraph : Cond.selects RX4 yX4_needParagraph yX4_needParagraph ∈ lw_all := lw_mem (mt_0 _ (List.mem_of_getElem? (i := 2) rfl)) rfl
theorem qc_X4_needParagraph : Cond.code yX4_needParagraph cX4_needParagraph 3 none ∈ lw_all := lw_mem (mt_2 _ (List.mem_of_getElem? (i := 150) rfl)) rfl
theorem qm_X4_167 : Cond.methodLink RX4 167 yX1_thrillAt ∈ lw_all := lw_mem (mt_2 _ (List.mem_of_getElem? (i := 157) rfl)) rfl
theorem qm_L_154 : Cond.methodLink RL 154 yX4_thrillIn ∈ lw_all := lw_mem (mt_2 _ (List.mem_of_getElem? (i := 206) rfl)) rfl
theorem qi_X4_thrillIn : Cond.instanceMethod yX4_thrillIn ∈ lw_all := lw_mem (mt_2 _ (List.mem_of_getElem? (i := 207) rfl)) rfl
theorem qs_X4_thrillIn : Cond.selects RX4 yX4_thrillIn yX4_thrillIn ∈ lw_all := lw_mem (mt_2 _ (List.mem_of_getElem? (i := 208) rfl)) rfl
theorem qc_X4_thrillIn : Cond.code yX4_thrillIn cX4_thrillIn 2 (some .int) ∈ lw_all := lw_mem (mt_2 _ (List.mem_of_getElem? (i := 209) rfl)) rfl
theorem qf_X4_188 : Cond.fieldLink RX4 188 "LiftNovel$Instalments" "thrills" "[I" ∈ lw_all := lw_mem (mt_1 _ (List.mem_of_getElem? (i := 136) rfl)) rfl
theorem qm_L_157 : Cond.methodLink RL 157 yX4_hourIn ∈ lw_all := lw_mem (mt_2 _ (List.mem_of_getElem? (i := 210) rfl)) rfl
theorem qi_X4_hourIn : Cond.instanceMethod yX4_hourIn ∈ lw_all := lw_mem (mt_2 _ (List.mem_of_getElem? (i := 211) rfl)) rfl
theorem qs_X4_hourIn : Cond.selects RX4 yX4_hourIn yX4_hourIn ∈ lw_all := lw_mem (mt_2 _ (List.mem_of_getElem? (i := 212) rfl)) rfl
theorem qc_X4_hourIn : Cond.code yX4_hourIn cX4_hourIn 2 (some .int) ∈ lw_all := lw_mem (mt_2 _ (List.mem_of_getElem? (i := 213) rfl)) rfl
theorem qf_X4_191 : Cond.fieldLink RX4 191 "LiftNovel$Instalments" "hours" "[I" ∈ lw_all := lw_mem (mt_1 _ (List.mem_of_getElem? (i := 138) rfl)) rfl
theorem qm_L_160 : Cond.methodLink RL 160 yX4_hours ∈ lw_all := lw_mem (mt_2 _ (List.mem_of_getElem? (i := 82) rfl)) rfl
theorem qi_X4_hours : Cond.instanceMethod yX4_hours ∈ lw_all := lw_mem (mt_2 _ (List.mem_of_getElem? (i := 83) rfl)) rfl
theorem qs_X4_hours : Cond.selects RX4 yX4_hours yX4_hours ∈ lw_all := lw_mem (mt_2 _ (List.mem_of_getElem? (i := 84) rfl)) rfl
theorem qc_X4_hours : Cond.code yX4_hours cX4_hours 1 (some .int) ∈ lw_all := lw_mem (mt_2 _ (List.mem_of_getElem? (i := 85) rfl)) rfl
theorem qm_L_163 : Cond.methodLink RL 163 yX4_mostThrilling ∈ lw_all := lw_mem (mt_2 _ (List.mem_of_getElem? (i := 214) rfl)) rfl
theorem qi_X4_mostThrilling : Cond.instanceMethod yX4_mostThrilling ∈ lw_all := lw_mem (mt_2 _ (List.mem_of_getElem? (i := 215) rfl)) rfl
theorem qs_X4_mostThrilling : Cond.selects RX4 yX4_mostThrilling yX4_mostThrilling ∈ lw_all := lw_mem (mt_2 _ (List.mem_of_getElem? (i := 216) rfl)) rfl
theorem qc_X4_mostThrilling : Cond.code yX4_mostThrilling cX4_mostThrilling 1 (some .int) ∈ lw_all := lw_mem (mt_2 _ (List.mem_of_getElem? (i := 217) rfl)) rfl
theorem qm_X4_194 : Cond.methodLink RX4 194 yX2_findMostThrilling ∈ lw_all := lw_mem (mt_2 _ (List.mem_of_getElem? (i := 218) rfl)) rfl
theorem qi_X2_findMostThrilling : Cond.instanceMethod yX2_findMostThrilling ∈ lw_all := lw_mem (mt_2 _ (List.mem_of_getElem? (i := 219) rfl)) rfl
theorem qs_X2_findMostThrilling : Cond.selects RX2 yX2_findMostThrilling yX2_findMostThrilling ∈ lw_all := lw_mem (mt_2 _ (List.mem_of_getElem? (i := 220) rfl)) rfl
theorem qc_X2_findMostThrilling : Cond.code yX2_findMostThrilling cX2_findMostThrilling 3 (some .int) ∈ lw_all := lw_mem (mt_2 _ (List.mem_of_getElem? (i := 221) rfl)) rfl
theorem qm_L_166 : Cond.methodLink RL 166 yX4_mirrors ∈ lw_all := lw_mem (mt_3 _ (List.mem_of_getElem? (i := 15) rfl)) rfl
theorem qi_X4_mirrors : Cond.instanceMethod yX4_mirrors ∈ lw_all := lw_mem (mt_3 _ (List.mem_of_getElem? (i := 16) rfl)) rfl
theorem qs_X4_mirrors : Cond.selects RX4 yX4_mirrors yX4_mirrors ∈ lw_all := lw_mem (mt_3 _ (List.mem_of_getElem? (i := 17) rfl)) rfl
theorem qc_X4_mirrors : Cond.code yX4_mirrors cX4_mirrors 1 (some .int) ∈ lw_all := lw_mem (mt_3 _ (List.mem_of_getElem? (i := 18) rfl)) rfl
theorem qm_L_168 : Cond.methodLink RL 168 yX4_grade ∈ lw_all := lw_mem (mt_3 _ (List.mem_of_getElem? (i := 19) rfl)) rfl
theorem qi_X4_grade : Cond.instanceMethod yX4_grade ∈ lw_all := lw_mem (mt_3 _ (List.mem_of_getElem? (i := 20) rfl)) rfl
theorem qs_X4_grade : Cond.selects RX4 yX4_grade yX4_grade ∈ lw_all := lw_mem (mt_3 _ (List.mem_of_getElem? (i := 21) rfl)) rfl
theorem qc_X4_grade : Cond.code yX4_grade cX4_grade 3 (some .int) ∈ lw_all := lw_mem (mt_3 _ (List.mem_of_getElem? (i := 22) rfl)) rfl
theorem qm_X4_209 : Cond.methodLink RX4 209 yX4_needMirror ∈ lw_all := lw_mem (mt_3 _ (List.mem_of_getElem? (i := 23) rfl)) rfl
theorem qi_X4_needMirror : Cond.instanceMethod yX4_needMirror ∈ lw_all := lw_mem (mt_3 _ (List.mem_of_getElem? (i := 25) rfl)) rfl
theorem qs_X4_needMirror : Cond.selects RX4 yX4_needMirror yX4_needMirror ∈ lw_all := lw_mem (mt_0 _ (List.mem_of_getElem? (i := 5) rfl)) rfl
theorem qc_X4_needMirror : Cond.code yX4_needMirror cX4_needMirror 2 none ∈ lw_all := lw_mem (mt_3 _ (List.mem_of_getElem? (i := 26) rfl)) rfl
theorem qm_X4_212 : Cond.methodLink RX4 212 yX4_judge ∈ lw_all := lw_mem (mt_3 _ (List.mem_of_getElem? (i := 28) rfl)) rfl
theorem qi_X4_judge : Cond.instanceMethod yX4_judge ∈ lw_all := lw_mem (mt_3 _ (List.mem_of_getElem? (i := 30) rfl)) rfl
theorem qs_X4_judge : Cond.selects RX4 yX4_judge yX4_judge ∈ lw_all := lw_mem (mt_0 _ (List.mem_of_getElem? (i := 6) rfl)) rfl
theorem qc_X4_judge : Cond.code yX4_judge cX4_judge 4 (some .int) ∈ lw_all := lw_mem (mt_3 _ (List.mem_of_getElem? (i := 31) rfl)) rfl
theorem qm_X4_164 : Cond.methodLink RX4 164 yX1_topicAt ∈ lw_all := lw_mem (mt_2 _ (List.mem_of_getElem? (i := 152) rfl)) rfl
theorem qm_X4_370 : Cond.methodLink RX4 370 yX3_judge ∈ lw_all := lw_mem (mt_3 _ (List.mem_of_getElem? (i := 32) rfl)) rfl
theorem qi_X3_judge : Cond.instanceMethod yX3_judge ∈ lw_all := lw_mem (mt_3 _ (List.mem_of_getElem? (i := 33) rfl)) rfl
theorem qs_X3_judge : Cond.selects RX3 yX3_judge yX3_judge ∈ lw_all := lw_mem (mt_3 _ (List.mem_of_getElem? (i := 34) rfl)) rfl
theorem qc_X3_judge : Cond.code yX3_judge cX3_judge 5 (some .int) ∈ lw_all := lw_mem (mt_3 _ (List.mem_of_getElem? (i := 35) rfl)) rfl
theorem qm_X3_22 : Cond.methodLink RX3 22 Lib.Math.min.name ∈ lw_all := lw_mem (mt_3 _ (List.mem_of_getElem? (i := 36) rfl)) rfl
theorem qm_X3_28 : Cond.methodLink RX3 28 Lib.Math.max.name ∈ lw_all := lw_mem (mt_3 _ (List.mem_of_getElem? (i := 37) rfl)) rfl
theorem qt_Math_max : Cond.static Lib.Math.max.name ∈ lw_all := lw_mem (mt_3 _ (List.mem_of_getElem? (i := 38) rfl)) rfl
theorem qc_Math_max : Cond.code Lib.Math.max.name Lib.Math.max.code 2 (some .int) ∈ lw_all := lw_mem (mt_3 _ (List.mem_of_getElem? (i := 39) rfl)) rfl
theorem qm_L_171 : Cond.methodLink RL 171 yX4_favouriteOf ∈ lw_all := lw_mem (mt_3 _ (List.mem_of_getElem? (i := 48) rfl)) rfl
theorem qi_X4_favouriteOf : Cond.instanceMethod yX4_favouriteOf ∈ lw_all := lw_mem (mt_3 _ (List.mem_of_getElem? (i := 49) rfl)) rfl
theorem qs_X4_favouriteOf : Cond.selects RX4 yX4_favouriteOf yX4_favouriteOf ∈ lw_all := lw_mem (mt_3 _ (List.mem_of_getElem? (i := 50) rfl)) rfl
theorem qc_X4_favouriteOf : Cond.code yX4_favouriteOf cX4_favouriteOf 6 (some .int) ∈ lw_all := lw_mem (mt_3 _ (List.mem_of_getElem? (i := 51) rfl)) rfl
theorem qm_L_174 : Cond.methodLink RL 174 yX4_gradesBy ∈ lw_all := lw_mem (mt_3 _ (List.mem_of_getElem? (i := 40) rfl)) rfl
theorem qi_X4_gradesBy : Cond.instanceMethod yX4_gradesBy ∈ lw_all := lw_mem (mt_3 _ (List.mem_of_getElem? (i := 41) rfl)) rfl
theorem qs_X4_gradesBy : Cond.selects RX4 yX4_gradesBy yX4_gradesBy ∈ lw_all := lw_mem (mt_3 _ (List.mem_of_getElem? (i := 42) rfl)) rfl
theorem qc_X4_gradesBy : Cond.code yX4_gradesBy cX4_gradesBy 2 (some .int) ∈ lw_all := lw_mem (mt_3 _ (List.mem_of_getElem? (i := 43) rfl)) rfl
theorem qm_X4_215 : Cond.methodLink RX4 215 yX4_sumOfGrades ∈ lw_all := lw_mem (mt_3 _ (List.mem_of_getElem? (i := 44) rfl)) rfl
theorem qi_X4_sumOfGrades : Cond.instanceMethod yX4_sumOfGrades ∈ lw_all := lw_mem (mt_3 _ (List.mem_of_getElem? (i := 46) rfl)) rfl
theorem qs_X4_sumOfGrades : Cond.selects RX4 yX4_sumOfGrades yX4_sumOfGrades ∈ lw_all := lw_mem (mt_0 _ (List.mem_of_getElem? (i := 7) rfl)) rfl
theorem qc_X4_sumOfGrades : Cond.code yX4_sumOfGrades cX4_sumOfGrades 4 (some .int) ∈ lw_all := lw_mem (mt_3 _ (List.mem_of_getElem? (i := 47) rfl)) rfl
theorem qm_L_177 : Cond.methodLink RL 177 yX4_kindest ∈ lw_all := lw_mem (mt_3 _ (List.mem_of_getElem? (i := 52) rfl)) rfl
theorem qi_X4_kindest : Cond.instanceMethod yX4_kindest ∈ lw_all := lw_mem (mt_3 _ (List.mem_of_getElem? (i := 53) rfl)) rfl
theorem qs_X4_kindest : Cond.selects RX4 yX4_kindest yX4_kindest ∈ lw_all := lw_mem (mt_3 _ (List.mem_of_getElem? (i := 54) rfl)) rfl
theorem qc_X4_kindest : Cond.code yX4_kindest cX4_kindest 5 (some .int) ∈ lw_all := lw_mem (mt_3 _ (List.mem_of_getElem? (i := 55) rfl)) rfl
theorem qm_L_180 : Cond.methodLink RL 180 yX4_readers ∈ lw_all := lw_mem (mt_2 _ (List.mem_of_getElem? (i := 222) rfl)) rfl
theorem qi_X4_readers : Cond.instanceMethod yX4_readers ∈ lw_all := lw_mem (mt_2 _ (List.mem_of_getElem? (i := 223) rfl)) rfl
theorem qs_X4_readers : Cond.selects RX4 yX4_readers yX4_readers ∈ lw_all := lw_mem (mt_2 _ (List.mem_of_getElem? (i := 224) rfl)) rfl
theorem qc_X4_readers : Cond.code yX4_readers cX4_readers 1 (some .int) ∈ lw_all := lw_mem (mt_2 _ (List.mem_of_getElem? (i := 225) rfl)) rfl
theorem qm_L_182 : Cond.methodLink RL 182 yX4_warmthOf ∈ lw_all := lw_mem (mt_2 _ (List.mem_of_getElem? (i := 234) rfl)) rfl
theorem qi_X4_warmthOf : Cond.instanceMethod yX4_warmthOf ∈ lw_all := lw_mem (mt_2 _ (List.mem_of_getElem? (i := 235) rfl)) rfl
theorem qs_X4_warmthOf : Cond.selects RX4 yX4_warmthOf yX4_warmthOf ∈ lw_all := lw_mem (mt_2 _ (List.mem_of_getElem? (i := 236) rfl)) rfl
theorem qc_X4_warmthOf : Cond.code yX4_warmthOf cX4_warmthOf 2 (some .int) ∈ lw_all := lw_mem (mt_2 _ (List.mem_of_getElem? (i := 237) rfl)) rfl
theorem qm_X4_203 : Cond.methodLink RX4 203 yX4_needReader ∈ lw_all := lw_mem (mt_2 _ (List.mem_of_getElem? (i := 238) rfl)) rfl
theorem qi_X4_needReader : Cond.instanceMethod yX4_needReader ∈ lw_all := lw_mem (mt_3 _ (List.mem_of_getElem? (i := 0) rfl)) rfl
theorem qs_X4_needReader : Cond.selects RX4 yX4_needReader yX4_needReader ∈ lw_all := lw_mem (mt_0 _ (List.mem_of_getElem? (i := 4) rfl)) rfl
theorem qc_X4_needReader : Cond.code yX4_needReader cX4_needReader 2 none ∈ lw_all := lw_mem (mt_3 _ (List.mem_of_getElem? (i := 1) rfl)) rfl
theorem qm_L_185 : Cond.methodLink RL 185 yX4_isSubscriber ∈ lw_all := lw_mem (mt_3 _ (List.mem_of_getElem? (i := 3) rfl)) rfl
theorem qi_X4_isSubscriber : Cond.instanceMethod yX4_isSubscriber ∈ lw_all := lw_mem (mt_3 _ (List.mem_of_getElem? (i := 4) rfl)) rfl
theorem qs_X4_isSubscriber : Cond.selects RX4 yX4_isSubscriber yX4_isSubscriber ∈ lw_all := lw_mem (mt_3 _ (List.mem_of_getElem? (i := 5) rfl)) rfl
theorem qc_X4_isSubscriber : Cond.code yX4_isSubscriber cX4_isSubscriber 2 (some .boolean) ∈ lw_all := lw_mem (mt_3 _ (List.mem_of_getElem? (i := 6) rfl)) rfl
theorem qm_L_188 : Cond.methodLink RL 188 yX4_warmest ∈ lw_all := lw_mem (mt_3 _ (List.mem_of_getElem? (i := 7) rfl)) rfl
theorem qi_X4_warmest : Cond.instanceMethod yX4_warmest ∈ lw_all := lw_mem (mt_3 _ (List.mem_of_getElem? (i := 8) rfl)) rfl
theorem qs_X4_warmest : Cond.selects RX4 yX4_warmest yX4_warmest ∈ lw_all := lw_mem (mt_3 _ (List.mem_of_getElem? (i := 9) rfl)) rfl
theorem qc_X4_warmest : Cond.code yX4_warmest cX4_warmest 1 (some .int) ∈ lw_all := lw_mem (mt_3 _ (List.mem_of_getElem? (i := 10) rfl)) rfl
theorem qm_X4_206 : Cond.methodLink RX4 206 yX0_findWarmest ∈ lw_all := lw_mem (mt_3 _ (List.mem_of_getElem? (i := 11) rfl)) rfl
theorem qi_X0_findWarmest : Cond.instanceMethod yX0_findWarmest ∈ lw_all := lw_mem (mt_3 _ (List.mem_of_getElem? (i := 12) rfl)) rfl
theorem qs_X0_findWarmest : Cond.selects RX0 yX0_findWarmest yX0_findWarmest ∈ lw_all := lw_mem (mt_3 _ (List.mem_of_getElem? (i := 13) rfl)) rfl
theorem qc_X0_findWarmest : Cond.code yX0_findWarmest cX0_findWarmest 3 (some .int) ∈ lw_all := lw_mem (mt_3 _ (List.mem_of_getElem? (i := 14) rfl)) rfl
theorem qm_L_191 : Cond.methodLink RL 191 yX4_subscribers ∈ lw_all := lw_mem (mt_2 _ (List.mem_of_getElem? (i := 226) rfl)) rfl
theorem qi_X4_subscribers : Cond.instanceMethod yX4_subscribers ∈ lw_all := lw_mem (mt_2 _ (List.mem_of_getElem? (i := 227) rfl)) rfl
theorem qs_X4_subscribers : Cond.selects RX4 yX4_subscribers yX4_subscribers ∈ lw_all := lw_mem (mt_2 _ (List.mem_of_getElem? (i := 228) rfl)) rfl
theorem qc_X4_subscribers : Cond.code yX4_subscribers cX4_subscribers 1 (some .int) ∈ lw_all := lw_mem (mt_2 _ (List.mem_of_getElem? (i := 229) rfl)) rfl
theorem qm_L_192 : Cond.methodLink RL 192 yX4_meanWarmth ∈ lw_all := lw_mem (mt_3 _ (List.mem_of_getElem? (i := 56) rfl)) rfl
theorem qi_X4_meanWarmth : Cond.instanceMethod yX4_meanWarmth ∈ lw_all := lw_mem (mt_3 _ (List.mem_of_getElem? (i := 57) rfl)) rfl
theorem qs_X4_meanWarmth : Cond.selects RX4 yX4_meanWarmth yX4_meanWarmth ∈ lw_all := lw_mem (mt_3 _ (List.mem_of_getElem? (i := 58) rfl)) rfl
theorem qc_X4_meanWarmth : Cond.code yX4_meanWarmth cX4_meanWarmth 2 (some .double) ∈ lw_all := lw_mem (mt_3 _ (List.mem_of_getElem? (i := 59) rfl)) rfl
theorem qm_X4_228 : Cond.methodLink RX4 228 yX0_sumOfWarmths ∈ lw_all := lw_mem (mt_3 _ (List.mem_of_getElem? (i := 60) rfl)) rfl
theorem qi_X0_sumOfWarmths : Cond.instanceMethod yX0_sumOfWarmths ∈ lw_all := lw_mem (mt_3 _ (List.mem_of_getElem? (i := 61) rfl)) rfl
theorem qs_X0_sumOfWarmths : Cond.selects RX0 yX0_sumOfWarmths yX0_sumOfWarmths ∈ lw_all := lw_mem (mt_3 _ (List.mem_of_getElem? (i := 62) rfl)) rfl
theorem qc_X0_sumOfWarmths : Cond.code yX0_sumOfWarmths cX0_sumOfWarmths 3 (some .int) ∈ lw_all := lw_mem (mt_3 _ (List.mem_of_getElem? (i := 63) rfl)) rfl
theorem qm_L_196 : Cond.methodLink RL 196 yX4_stuckFor ∈ lw_all := lw_mem (mt_2 _ (List.mem_of_getElem? (i := 123) rfl)) rfl
theorem qi_X4_stuckFor : Cond.instanceMethod yX4_stuckFor ∈ lw_all := lw_mem (mt_2 _ (List.mem_of_getElem? (i := 124) rfl)) rfl
theorem qs_X4_stuckFor : Cond.selects RX4 yX4_stuckFor yX4_stuckFor ∈ lw_all := lw_mem (mt_2 _ (List.mem_of_getElem? (i := 125) rfl)) rfl
theorem qc_X4_stuckFor : Cond.code yX4_stuckFor cX4_stuckFor 1 (some .int) ∈ lw_all := lw_mem (mt_2 _ (List.mem_of_getElem? (i := 126) rfl)) rfl
theorem qm_L_199 : Cond.methodLink RL 199 yX5_pass ∈ lw_all := lw_mem (mt_3 _ (List.mem_of_getElem? (i := 64) rfl)) rfl
theorem qm_L_202 : Cond.methodLink RL 202 yX4_topicOf ∈ lw_all := lw_mem (mt_2 _ (List.mem_of_getElem? (i := 143) rfl)) rfl
theorem qi_X4_topicOf : Cond.instanceMethod yX4_topicOf ∈ lw_all := lw_mem (mt_2 _ (List.mem_of_getElem? (i := 144) rfl)) rfl
theorem qs_X4_topicOf : Cond.selects RX4 yX4_topicOf yX4_topicOf ∈ lw_all := lw_mem (mt_2 _ (List.mem_of_getElem? (i := 145) rfl)) rfl
theorem qc_X4_topicOf : Cond.code yX4_topicOf cX4_topicOf 3 (some .int) ∈ lw_all := lw_mem (mt_2 _ (List.mem_of_getElem? (i := 146) rfl)) rfl
theorem qm_L_205 : Cond.methodLink RL 205 yX4_isForbidden ∈ lw_all := lw_mem (mt_2 _ (List.mem_of_getElem? (i := 162) rfl)) rfl
theorem qi_X4_isForbidden : Cond.instanceMethod yX4_isForbidden ∈ lw_all := lw_mem (mt_2 _ (List.mem_of_getElem? (i := 163) rfl)) rfl
theorem qs_X4_isForbidden : Cond.selects RX4 yX4_isForbidden yX4_isForbidden ∈ lw_all := lw_mem (mt_2 _ (List.mem_of_getElem? (i := 164) rfl)) rfl
theorem qc_X4_isForbidden : Cond.code yX4_isForbidden cX4_isForbidden 2 (some .boolean) ∈ lw_all := lw_mem (mt_2 _ (List.mem_of_getElem? (i := 165) rfl)) rfl
theorem qm_L_208 : Cond.methodLink RL 208 yX5_isSame ∈ lw_all := lw_mem (mt_3 _ (List.mem_of_getElem? (i := 81) rfl)) rfl
theorem qi_X5_isSame : Cond.instanceMethod yX5_isSame ∈ lw_all := lw_mem (mt_3 _ (List.mem_of_getElem? (i := 82) rfl)) rfl
theorem qs_X5_isSame : Cond.selects RX5 yX5_isSame yX5_isSame ∈ lw_all := lw_mem (mt_3 _ (List.mem_of_getElem? (i := 83) rfl)) rfl
theorem qc_X5_isSame : Cond.code yX5_isSame cX5_isSame 15 (some .boolean) ∈ lw_all := lw_mem (mt_3 _ (List.mem_of_getElem? (i := 84) rfl)) rfl
theorem qm_X5_144 : Cond.methodLink RX5 144 Lib.Math.max.name ∈ lw_all := lw_mem (mt_3 _ (List.mem_of_getElem? (i := 118) rfl)) rfl
theorem qm_X5_78 : Cond.methodLink RX5 78 yX4_floors ∈ lw_all := lw_mem (mt_3 _ (List.mem_of_getElem? (i := 85) rfl)) rfl
theorem qm_X5_83 : Cond.methodLink RX5 83 yX4_hours ∈ lw_all := lw_mem (mt_3 _ (List.mem_of_getElem? (i := 86) rfl)) rfl
theorem qm_X5_86 : Cond.methodLink RX5 86 yX4_liftAt ∈ lw_all := lw_mem (mt_3 _ (List.mem_of_getElem? (i := 87) rfl)) rfl
theorem qm_X5_89 : Cond.methodLink RX5 89 yX4_goes ∈ lw_all := lw_mem (mt_3 _ (List.mem_of_getElem? (i := 88) rfl)) rfl
theorem qm_X5_92 : Cond.methodLink RX5 92 yX4_calls ∈ lw_all := lw_mem (mt_3 _ (List.mem_of_getElem? (i := 89) rfl)) rfl
theorem qm_X5_93 : Cond.methodLink RX5 93 yX4_stuckFor ∈ lw_all := lw_mem (mt_3 _ (List.mem_of_getElem? (i := 90) rfl)) rfl
theorem qm_X5_96 : Cond.methodLink RX5 96 yX4_wear ∈ lw_all := lw_mem (mt_3 _ (List.mem_of_getElem? (i := 91) rfl)) rfl
theorem qm_X5_98 : Cond.methodLink RX5 98 yX4_limit ∈ lw_all := lw_mem (mt_3 _ (List.mem_of_getElem? (i := 92) rfl)) rfl
theorem qi_X4_limit : Cond.instanceMethod yX4_limit ∈ lw_all := lw_mem (mt_3 _ (List.mem_of_getElem? (i := 93) rfl)) rfl
theorem qs_X4_limit : Cond.selects RX4 yX4_limit yX4_limit ∈ lw_all := lw_mem (mt_3 _ (List.mem_of_getElem? (i := 94) rfl)) rfl
theorem qc_X4_limit : Cond.code yX4_limit cX4_limit 1 (some .int) ∈ lw_all := lw_mem (mt_3 _ (List.mem_of_getElem? (i := 95) rfl)) rfl
theorem qm_X5_100 : Cond.methodLink RX5 100 yX4_suspense ∈ lw_all := lw_mem (mt_3 _ (List.mem_of_getElem? (i := 96) rfl)) rfl
theorem qm_X5_102 : Cond.methodLink RX5 102 yX4_cuts ∈ lw_all := lw_mem (mt_3 _ (List.mem_of_getElem? (i := 97) rfl)) rfl
theorem qm_X5_105 : Cond.methodLink RX5 105 yX5_cuts ∈ lw_all := lw_mem (mt_3 _ (List.mem_of_getElem? (i := 98) rfl)) rfl
theorem qi_X5_cuts : Cond.instanceMethod yX5_cuts ∈ lw_all := lw_mem (mt_3 _ (List.mem_of_getElem? (i := 99) rfl)) rfl
theorem qs_X5_cuts : Cond.selects RX5 yX5_cuts yX5_cuts ∈ lw_all := lw_mem (mt_3 _ (List.mem_of_getElem? (i := 100) rfl)) rfl
theorem qc_X5_cuts : Cond.code yX5_cuts cX5_cuts 6 (some .int) ∈ lw_all := lw_mem (mt_3 _ (List.mem_of_getElem? (i := 101) rfl)) rfl
theorem qm_X5_106 : Cond.methodLink RX5 106 yX4_instalments ∈ lw_all := lw_mem (mt_3 _ (List.mem_of_getElem? (i := 102) rfl)) rfl
theorem qm_X5_109 : Cond.methodLink RX5 109 yX4_readers ∈ lw_all := lw_mem (mt_3 _ (List.mem_of_getElem? (i := 103) rfl)) rfl
theorem qm_X5_111 : Cond.methodLink RX5 111 yX4_subscribers ∈ lw_all := lw_mem (mt_3 _ (List.mem_of_getElem? (i := 104) rfl)) rfl
theorem qm_X5_114 : Cond.methodLink RX5 114 yX5_subscribers ∈ lw_all := lw_mem (mt_3 _ (List.mem_of_getElem? (i := 105) rfl)) rfl
theorem qm_X5_115 : Cond.methodLink RX5 115 yX4_mirrors ∈ lw_all := lw_mem (mt_3 _ (List.mem_of_getElem? (i := 109) rfl)) rfl
theorem qm_X5_117 : Cond.methodLink RX5 117 yX4_isCalled ∈ lw_all := lw_mem (mt_3 _ (List.mem_of_getElem? (i := 110) rfl)) rfl
theorem qm_X5_121 : Cond.methodLink RX5 121 yX4_paragraphs ∈ lw_all := lw_mem (mt_3 _ (List.mem_of_getElem? (i := 111) rfl)) rfl
theorem qm_X5_125 : Cond.methodLink RX5 125 yX4_nextParagraph ∈ lw_all := lw_mem (mt_3 _ (List.mem_of_getElem? (i := 112) rfl)) rfl
theorem qm_X5_128 : Cond.methodLink RX5 128 yX4_cutOn ∈ lw_all := lw_mem (mt_3 _ (List.mem_of_getElem? (i := 113) rfl)) rfl
theorem qm_X5_131 : Cond.methodLink RX5 131 yX4_topicOf ∈ lw_all := lw_mem (mt_3 _ (List.mem_of_getElem? (i := 114) rfl)) rfl
theorem qm_X5_135 : Cond.methodLink RX5 135 yX4_thrillOf ∈ lw_all := lw_mem (mt_3 _ (List.mem_of_getElem? (i := 115) rfl)) rfl
theorem qm_X5_138 : Cond.methodLink RX5 138 yX4_isForbidden ∈ lw_all := lw_mem (mt_3 _ (List.mem_of_getElem? (i := 116) rfl)) rfl
theorem qm_X5_141 : Cond.methodLink RX5 141 yX4_toCome ∈ lw_all := lw_mem (mt_3 _ (List.mem_of_getElem? (i := 117) rfl)) rfl
theorem qm_X5_149 : Cond.methodLink RX5 149 yX4_floorIn ∈ lw_all := lw_mem (mt_3 _ (List.mem_of_getElem? (i := 119) rfl)) rfl
theorem qm_X5_152 : Cond.methodLink RX5 152 yX4_paragraphIn ∈ lw_all := lw_mem (mt_3 _ (List.mem_of_getElem? (i := 120) rfl)) rfl
theorem qm_X5_155 : Cond.methodLink RX5 155 yX4_thrillIn ∈ lw_all := lw_mem (mt_3 _ (List.mem_of_getElem? (i := 121) rfl)) rfl
theorem qm_X5_158 : Cond.methodLink RX5 158 yX4_hourIn ∈ lw_all := lw_mem (mt_3 _ (List.mem_of_getElem? (i := 122) rfl)) rfl
theorem qm_X5_161 : Cond.methodLink RX5 161 yX4_tasteOf ∈ lw_all := lw_mem (mt_3 _ (List.mem_of_getElem? (i := 123) rfl)) rfl
theorem qi_X4_tasteOf : Cond.instanceMethod yX4_tasteOf ∈ lw_all := lw_mem (mt_3 _ (List.mem_of_getElem? (i := 124) rfl)) rfl
theorem qs_X4_tasteOf : Cond.selects RX4 yX4_tasteOf yX4_tasteOf ∈ lw_all := lw_mem (mt_3 _ (List.mem_of_getElem? (i := 125) rfl)) rfl
theorem qc_X4_tasteOf : Cond.code yX4_tasteOf cX4_tasteOf 2 (some .int) ∈ lw_all := lw_mem (mt_3 _ (List.mem_of_getElem? (i := 126) rfl)) rfl
theorem qm_X5_164 : Cond.methodLink RX5 164 yX4_warmthOf ∈ lw_all := lw_mem (mt_3 _ (List.mem_of_getElem? (i := 127) rfl)) rfl
theorem qm_X5_167 : Cond.methodLink RX5 167 yX4_isSubscriber ∈ lw_all := lw_mem (mt_3 _ (List.mem_of_getElem? (i := 128) rfl)) rfl
theorem qm_X5_170 : Cond.methodLink RX5 170 yX5_grade ∈ lw_all := lw_mem (mt_3 _ (List.mem_of_getElem? (i := 129) rfl)) rfl
theorem qi_X5_grade : Cond.instanceMethod yX5_grade ∈ lw_all := lw_mem (mt_3 _ (List.mem_of_getElem? (i := 130) rfl)) rfl
theorem qs_X5_grade : Cond.selects RX5 yX5_grade yX5_grade ∈ lw_all := lw_mem (mt_3 _ (List.mem_of_getElem? (i := 131) rfl)) rfl
theorem qc_X5_grade : Cond.code yX5_grade cX5_grade 4 (some .int) ∈ lw_all := lw_mem (mt_3 _ (List.mem_of_getElem? (i := 132) rfl)) rfl
theorem qm_X5_174 : Cond.methodLink RX5 174 yX4_grade ∈ lw_all := lw_mem (mt_3 _ (List.mem_of_getElem? (i := 133) rfl)) rfl
theorem qm_X5_176 : Cond.methodLink RX5 176 yX4_gradesBy ∈ lw_all := lw_mem (mt_3 _ (List.mem_of_getElem? (i := 134) rfl)) rfl
theorem qm_X5_179 : Cond.methodLink RX5 179 yX4_favouriteOf ∈ lw_all := lw_mem (mt_3 _ (List.mem_of_getElem? (i := 135) rfl)) rfl
theorem qm_X5_182 : Cond.methodLink RX5 182 yX4_mostThrilling ∈ lw_all := lw_mem (mt_3 _ (List.mem_of_getElem? (i := 136) rfl)) rfl
theorem qm_X5_185 : Cond.methodLink RX5 185 yX4_longestWait ∈ lw_all := lw_mem (mt_3 _ (List.mem_of_getElem? (i := 137) rfl)) rfl
theorem qi_X4_longestWait : Cond.instanceMethod yX4_longestWait ∈ lw_all := lw_mem (mt_3 _ (List.mem_of_getElem? (i := 138) rfl)) rfl
theorem qs_X4_longestWait : Cond.selects RX4 yX4_longestWait yX4_longestWait ∈ lw_all := lw_mem (mt_3 _ (List.mem_of_getElem? (i := 139) rfl)) rfl
theorem qc_X4_longestWait : Cond.code yX4_longestWait cX4_longestWait 1 (some .int) ∈ lw_all := lw_mem (mt_3 _ (List.mem_of_getElem? (i := 140) rfl)) rfl
theorem qm_X4_197 : Cond.methodLink RX4 197 yX2_findLongestWait ∈ lw_all := lw_mem (mt_3 _ (List.mem_of_getElem? (i := 141) rfl)) rfl
theorem qi_X2_findLongestWait : Cond.instanceMethod yX2_findLongestWait ∈ lw_all := lw_mem (mt_3 _ (List.mem_of_getElem? (i := 142) rfl)) rfl
theorem qs_X2_findLongestWait : Cond.selects RX2 yX2_findLongestWait yX2_findLongestWait ∈ lw_all := lw_mem (mt_3 _ (List.mem_of_getElem? (i := 143) rfl)) rfl
theorem qc_X2_findLongestWait : Cond.code yX2_findLongestWait cX2_findLongestWait 3 (some .int) ∈ lw_all := lw_mem (mt_3 _ (List.mem_of_getElem? (i := 144) rfl)) rfl
theorem qm_X2_28 : Cond.methodLink RX2 28 Lib.Math.max.name ∈ lw_all := lw_mem (mt_3 _ (List.mem_of_getElem? (i := 145) rfl)) rfl
theorem qm_X5_188 : Cond.methodLink RX5 188 yX4_climbs ∈ lw_all := lw_mem (mt_3 _ (List.mem_of_getElem? (i := 146) rfl)) rfl
theorem qi_X4_climbs : Cond.instanceMethod yX4_climbs ∈ lw_all := lw_mem (mt_3 _ (List.mem_of_getElem? (i := 147) rfl)) rfl
theorem qs_X4_climbs : Cond.selects RX4 yX4_climbs yX4_climbs ∈ lw_all := lw_mem (mt_3 _ (List.mem_of_getElem? (i := 148) rfl)) rfl
theorem qc_X4_climbs : Cond.code yX4_climbs cX4_climbs 1 (some .int) ∈ lw_all := lw_mem (mt_3 _ (List.mem_of_getElem? (i := 149) rfl)) rfl
theorem qm_X4_200 : Cond.methodLink RX4 200 yX2_countClimbs ∈ lw_all := lw_mem (mt_3 _ (List.mem_of_getElem? (i := 150) rfl)) rfl
theorem qi_X2_countClimbs : Cond.instanceMethod yX2_countClimbs ∈ lw_all := lw_mem (mt_3 _ (List.mem_of_getElem? (i := 151) rfl)) rfl
theorem qs_X2_countClimbs : Cond.selects RX2 yX2_countClimbs yX2_countClimbs ∈ lw_all := lw_mem (mt_3 _ (List.mem_of_getElem? (i := 152) rfl)) rfl
theorem qc_X2_countClimbs : Cond.code yX2_countClimbs cX2_countClimbs 3 (some .int) ∈ lw_all := lw_mem (mt_3 _ (List.mem_of_getElem? (i := 153) rfl)) rfl
theorem qm_X5_191 : Cond.methodLink RX5 191 yX4_warmest ∈ lw_all := lw_mem (mt_3 _ (List.mem_of_getElem? (i := 154) rfl)) rfl
theorem qm_X5_194 : Cond.methodLink RX5 194 yX4_kindest ∈ lw_all := lw_mem (mt_3 _ (List.mem_of_getElem? (i := 155) rfl)) rfl
theorem qm_X5_197 : Cond.methodLink RX5 197 yX4_meanWarmth ∈ lw_all := lw_mem (mt_3 _ (List.mem_of_getElem? (i := 156) rfl)) rfl
theorem qm_X5_201 : Cond.methodLink RX5 201 yX5_warmth ∈ lw_all := lw_mem (mt_3 _ (List.mem_of_getElem? (i := 157) rfl)) rfl
theorem qi_X5_warmth : Cond.instanceMethod yX5_warmth ∈ lw_all := lw_mem (mt_3 _ (List.mem_of_getElem? (i := 158) rfl)) rfl
theorem qs_X5_warmth : Cond.selects RX5 yX5_warmth yX5_warmth ∈ lw_all := lw_mem (mt_3 _ (List.mem_of_getElem? (i := 159) rfl)) rfl
theorem qc_X5_warmth : Cond.code yX5_warmth cX5_warmth 6 (some .int) ∈ lw_all := lw_mem (mt_3 _ (List.mem_of_getElem? (i := 160) rfl)) rfl
theorem qw_X0_0 : u_lay RX0 TX0 0 ∈ lw_all := lw_mem (mt_1 _ (List.mem_of_getElem? (i := 93) rfl)) rfl
theorem qw_X0_1 : u_lay RX0 TX0 1 ∈ lw_all := lw_mem (mt_1 _ (List.mem_of_getElem? (i := 95) rfl)) rfl
theorem qw_X0_2 : u_lay RX0 TX0 2 ∈ lw_all := lw_mem (mt_1 _ (List.mem_of_getElem? (i := 97) rfl)) rfl
theorem qw_X0_3 : u_lay RX0 TX0 3 ∈ lw_all := lw_mem (mt_1 _ (List.mem_of_getElem? (i := 99) rfl)) rfl
theorem qw_X0_4 : u_lay RX0 TX0 4 ∈ lw_all := lw_mem (mt_1 _ (List.mem_of_getElem? (i := 101) rfl)) rfl
theorem qw_X0_5 : u_lay RX0 TX0 5 ∈ lw_all := lw_mem (mt_1 _ (List.mem_of_getElem? (i := 103) rfl)) rfl
theorem qw_X0_6 : u_lay RX0 TX0 6 ∈ lw_all := lw_mem (mt_1 _ (List.mem_of_getElem? (i := 105) rfl)) rfl
theorem qw_X0_7 : u_lay RX0 TX0 7 ∈ lw_all := lw_mem (mt_1 _ (List.mem_of_getElem? (i := 107) rfl)) rfl
theorem qw_X0_8 : u_lay RX0 TX0 8 ∈ lw_all := lw_mem (mt_1 _ (List.mem_of_getElem? (i := 109) rfl)) rfl
theorem qw_X0_9 : u_lay RX0 TX0 9 ∈ lw_all := lw_mem (mt_1 _ (List.mem_of_getElem? (i := 111) rfl)) rfl
theorem qw_X0_10 : u_lay RX0 TX0 10 ∈ lw_all := lw_mem (mt_1 _ (List.mem_of_getElem? (i := 113) rfl)) rfl
theorem qw_X0_11 : u_lay RX0 TX0 11 ∈ lw_all := lw_mem (mt_1 _ (List.mem_of_getElem? (i := 115) rfl)) rfl
theorem qw_X0_12 : u_lay RX0 TX0 12 ∈ lw_all := lw_mem (mt_1 _ (List.mem_of_getElem? (i := 117) rfl)) rfl
theorem qw_X0_13 : u_lay RX0 TX0 13 ∈ lw_all := lw_mem (mt_1 _ (List.mem_of_getElem? (i := 119) rfl)) rfl
theorem inX0 : ∀ w ∈ wsX00, w ∈ lw_all := List.forall_mem_cons.mpr ⟨qw_X0_0, List.forall_mem_cons.mpr ⟨qw_X0_1, List.forall_mem_cons.mpr ⟨qw_X0_2, List.forall_mem_cons.mpr ⟨qw_X0_3, List.forall_mem_cons.mpr ⟨qw_X0_4, List.forall_mem_cons.mpr ⟨qw_X0_5, List.forall_mem_cons.mpr ⟨qw_X0_6, List.forall_mem_cons.mpr ⟨qw_X0_7, List.forall_mem_cons.mpr ⟨qw_X0_8, List.forall_mem_cons.mpr ⟨qw_X0_9, List.forall_mem_cons.mpr ⟨qw_X0_10, List.forall_mem_cons.mpr ⟨qw_X0_11, List.forall_mem_cons.mpr ⟨qw_X0_12, List.forall_mem_cons.mpr ⟨qw_X0_13, fun _ h => absurd h List.not_mem_nil⟩⟩⟩⟩⟩⟩⟩⟩⟩⟩⟩⟩⟩⟩
theorem qw_X1_0 : u_lay RX1 TX1 0 ∈ lw_all := lw_mem (mt_1 _ (List.mem_of_getElem? (i := 45) rfl)) rfl
theorem qw_X1_1 : u_lay RX1 TX1 1 ∈ lw_all := lw_mem (mt_1 _ (List.mem_of_getElem? (i := 47) rfl)) rfl
theorem qw_X1_2 : u_lay RX1 TX1 2 ∈ lw_all := lw_mem (mt_1 _ (List.mem_of_getElem? (i := 49) rfl)) rfl
theorem qw_X1_3 : u_lay RX1 TX1 3 ∈ lw_all := lw_mem (mt_1 _ (List.mem_of_getElem? (i := 51) rfl)) rfl
theorem qw_X1_4 : u_lay RX1 TX1 4 ∈ lw_all := lw_mem (mt_1 _ (List.mem_of_getElem? (i := 53) rfl)) rfl
theorem qw_X1_5 : u_lay RX1 TX1 5 ∈ lw_all := lw_mem (mt_1 _ (List.mem_of_getElem? (i := 55) rfl)) rfl
theorem qw_X1_6 : u_lay RX1 TX1 6 ∈ lw_all := lw_mem (mt_1 _ (List.mem_of_getElem? (i := 57) rfl)) rfl
theorem inX1 : ∀ w ∈ wsX10, w ∈ lw_all := List.forall_mem_cons.mpr ⟨qw_X1_0, List.forall_mem_cons.mpr ⟨qw_X1_1, List.forall_mem_cons.mpr ⟨qw_X1_2, List.forall_mem_cons.mpr ⟨qw_X1_3, List.forall_mem_cons.mpr ⟨qw_X1_4, List.forall_mem_cons.mpr ⟨qw_X1_5, List.forall_mem_cons.mpr ⟨qw_X1_6, fun _ h => absurd h List.not_mem_nil⟩⟩⟩⟩⟩⟩⟩
theorem qw_X2_0 : u_lay RX2 TX2 0 ∈ lw_all := lw_mem (mt_1 _ (List.mem_of_getElem? (i := 139) rfl)) rfl
theorem qw_X2_1 : u_lay RX2 TX2 1 ∈ lw_all := lw_mem (mt_1 _ (List.mem_of_getElem? (i := 141) rfl)) rfl
theorem qw_X2_2 : u_lay RX2 TX2 2 ∈ lw_all := lw_mem (mt_1 _ (List.mem_of_getElem? (i := 143) rfl)) rfl
theorem qw_X2_3 : u_lay RX2 TX2 3 ∈ lw_all := lw_mem (mt_1 _ (List.mem_of_getElem? (i := 145) rfl)) rfl
theorem qw_X2_4 : u_lay RX2 TX2 4 ∈ lw_all := lw_mem (mt_1 _ (List.mem_of_getElem? (i := 147) rfl)) rfl
theorem inX2 : ∀ w ∈ wsX20, w ∈ lw_all := List.forall_mem_cons.mpr ⟨qw_X2_0, List.forall_mem_cons.mpr ⟨qw_X2_1, List.forall_mem_cons.mpr ⟨qw_X2_2, List.forall_mem_cons.mpr ⟨qw_X2_3, List.forall_mem_cons.mpr ⟨qw_X2_4, fun _ h => absurd h List.not_mem_nil⟩⟩⟩⟩⟩
theorem qw_X3_0 : u_lay RX3 TX3 0 ∈ lw_all := lw_mem (mt_1 _ (List.mem_of_getElem? (i := 160) rfl)) rfl
theorem qw_X3_1 : u_lay RX3 TX3 1 ∈ lw_all := lw_mem (mt_1 _ (List.mem_of_getElem? (i := 162) rfl)) rfl
theorem qw_X3_2 : u_lay RX3 TX3 2 ∈ lw_all := lw_mem (mt_1 _ (List.mem_of_getElem? (i := 164) rfl)) rfl
theorem inX3 : ∀ w ∈ wsX30, w ∈ lw_all := List.forall_mem_cons.mpr ⟨qw_X3_0, List.forall_mem_cons.mpr ⟨qw_X3_1, List.forall_mem_cons.mpr ⟨qw_X3_2, fun _ h => absurd h List.not_mem_nil⟩⟩⟩
theorem qw_X4_0 : u_lay RX4 TX4 0 ∈ lw_all := lw_mem (mt_1 _ (List.mem_of_getElem? (i := 172) rfl)) rfl
theorem qw_X4_1 : u_lay RX4 TX4 1 ∈ lw_all := lw_mem (mt_1 _ (List.mem_of_getElem? (i := 174) rfl)) rfl
theorem qw_X4_2 : u_lay RX4 TX4 2 ∈ lw_all := lw_mem (mt_1 _ (List.mem_of_getElem? (i := 176) rfl)) rfl
theorem qw_X4_3 : u_lay RX4 TX4 3 ∈ lw_all := lw_mem (mt_1 _ (List.mem_of_getElem? (i := 178) rfl)) rfl
theorem qw_X4_4 : u_lay RX4 TX4 4 ∈ lw_all := lw_mem (mt_1 _ (List.mem_of_getElem? (i := 180) rfl)) rfl
theorem inX4 : ∀ w ∈ wsX40, w ∈ lw_all := List.forall_mem_cons.mpr ⟨qw_X4_0, List.forall_mem_cons.mpr ⟨qw_X4_1, List.forall_mem_cons.mpr ⟨qw_X4_2, List.forall_mem_cons.mpr ⟨qw_X4_3, List.forall_mem_cons.mpr ⟨qw_X4_4, fun _ h => absurd h List.not_mem_nil⟩⟩⟩⟩⟩
theorem qw_X5_0 : u_lay RX5 TX5 0 ∈ lw_all := lw_mem (mt_4 _ (List.mem_of_getElem? (i := 50) rfl)) rfl
theorem qw_X5_1 : u_lay RX5 TX5 1 ∈ lw_all := lw_mem (mt_4 _ (List.mem_of_getElem? (i := 52) rfl)) rfl
theorem qw_X5_2 : u_lay RX5 TX5 2 ∈ lw_all := lw_mem (mt_4 _ (List.mem_of_getElem? (i := 54) rfl)) rfl
theorem qw_X5_3 : u_lay RX5 TX5 3 ∈ lw_all := lw_mem (mt_4 _ (List.mem_of_getElem? (i := 56) rfl)) rfl
theorem qw_X5_4 : u_lay RX5 TX5 4 ∈ lw_all := lw_mem (mt_4 _ (List.mem_of_getElem? (i := 58) rfl)) rfl
theorem qw_X5_5 : u_lay RX5 TX5 5 ∈ lw_all := lw_mem (mt_4 _ (List.mem_of_getElem? (i := 60) rfl)) rfl
theorem qw_X5_6 : u_lay RX5 TX5 6 ∈ lw_all := lw_mem (mt_4 _ (List.mem_of_getElem? (i := 62) rfl)) rfl
theorem qw_X5_7 : u_lay RX5 TX5 7 ∈ lw_all := lw_mem (mt_4 _ (List.mem_of_getElem? (i := 64) rfl)) rfl
theorem qw_X5_8 : u_lay RX5 TX5 8 ∈ lw_all := lw_mem (mt_4 _ (List.mem_of_getElem? (i := 66) rfl)) rfl
theorem qw_X5_9 : u_lay RX5 TX5 9 ∈ lw_all := lw_mem (mt_4 _ (List.mem_of_getElem? (i := 68) rfl)) rfl
theorem qw_X5_10 : u_lay RX5 TX5 10 ∈ lw_all := lw_mem (mt_4 _ (List.mem_of_getElem? (i := 70) rfl)) rfl
theorem qw_X5_11 : u_lay RX5 TX5 11 ∈ lw_all := lw_mem (mt_4 _ (List.mem_of_getElem? (i := 72) rfl)) rfl
theorem qw_X5_12 : u_lay RX5 TX5 12 ∈ lw_all := lw_mem (mt_4 _ (List.mem_of_getElem? (i := 74) rfl)) rfl
theorem qw_X5_13 : u_lay RX5 TX5 13 ∈ lw_all := lw_mem (mt_4 _ (List.mem_of_getElem? (i := 76) rfl)) rfl
theorem inX5 : ∀ w ∈ wsX50, w ∈ lw_all := List.forall_mem_cons.mpr ⟨qw_X5_0, List.forall_mem_cons.mpr ⟨qw_X5_1, List.forall_mem_cons.mpr ⟨qw_X5_2, List.forall_mem_cons.mpr ⟨qw_X5_3, List.forall_mem_cons.mpr ⟨qw_X5_4, List.forall_mem_cons.mpr ⟨qw_X5_5, List.forall_mem_cons.mpr ⟨qw_X5_6, List.forall_mem_cons.mpr ⟨qw_X5_7, List.forall_mem_cons.mpr ⟨qw_X5_8, List.forall_mem_cons.mpr ⟨qw_X5_9, List.forall_mem_cons.mpr ⟨qw_X5_10, List.forall_mem_cons.mpr ⟨qw_X5_11, List.forall_mem_cons.mpr ⟨qw_X5_12, List.forall_mem_cons.mpr ⟨qw_X5_13, fun _ h => absurd h List.not_mem_nil⟩⟩⟩⟩⟩⟩⟩⟩⟩⟩⟩⟩⟩⟩
theorem lw_gc {c : Cond} (hc : c ∈ lw_all) : GoodIn lw_all (c :: lw_all) := fun w h => (List.mem_cons.mp h).elim (fun e => by rw [e]; exact ⟨hc, good_of_word (lw_good _ hc)⟩) (fun h => ⟨h, good_of_word (lw_good _ h)⟩)
theorem lw_g1 {a : Cond} {l : List Cond} (ha : a ∈ lw_all) (h : GoodIn lw_all l) : GoodIn lw_all (a :: l) := fun w hw => (List.mem_cons.mp hw).elim (fun e => by rw [e]; exact ⟨ha, good_of_word (lw_good _ ha)⟩) (fun e => h w e)
/-- a virtual call's words -/
theorem lw_V {own C : String} {idx : Nat} {y : MethodName} {c : Cond} (h1 : Cond.methodLink own idx y ∈ lw_all) (h2 : Cond.instanceMethod y ∈ lw_all) (h3 : Cond.selects C y y ∈ lw_all) (h4 : Cond.initialized C ∈ lw_all) (h5 : c ∈ lw_all) : GoodIn lw_all (wsV own idx C y (c :: lw_all)) := lw_g1 h1 (lw_g1 h2 (lw_g1 h3 (lw_g1 h4 (lw_gc h5))))
theorem lw_S {own : String} {idx : Nat} {y : MethodName} {c : Cond} (h1 : Cond.methodLink own idx y ∈ lw_all) (h2 : Cond.static y ∈ lw_all) (h4 : Cond.initialized y.cls ∈ lw_all) (h5 : c ∈ lw_all) : GoodIn lw_all (va_wsS own idx y (c :: lw_all)) := lw_g1 h1 (lw_g1 h2 (lw_g1 h4 (lw_gc h5)))
