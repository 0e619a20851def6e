section
-- ===== PART A: goes FIRST, ahead of the names: the tables' words, and 'selects' of the private methods out of them =====
/-- a private method of a class that the tables say can be made, by its rows of tables_1 -/
def lw_okq (q : MethodName × Nat) : Prop := (q.1.cls ≠ "java/lang/invoke/MethodHandle" ∧ q.1.cls ≠ "java/lang/invoke/VarHandle") ∧ Cond.instantiable q.1.cls q.2 ∈ tables_1 ∧ Cond.privateMethod q.1 ∈ tables_1 ∧ Cond.instanceMethod q.1 ∈ tables_1
theorem lw_p0 : lw_okq (⟨"LiftNovel", "sumOfGrades", "(I)I"⟩, 5) := ⟨⟨by decide +kernel, by decide +kernel⟩, List.mem_of_getElem? (i := 16) (by decide +kernel), List.mem_of_getElem? (i := 296) (by decide +kernel), List.mem_of_getElem? (i := 297) (by decide +kernel)⟩
theorem lw_p1 : lw_okq (⟨"LiftNovel", "judge", "(II)I"⟩, 5) := ⟨⟨by decide +kernel, by decide +kernel⟩, List.mem_of_getElem? (i := 16) (by decide +kernel), List.mem_of_getElem? (i := 300) (by decide +kernel), List.mem_of_getElem? (i := 301) (by decide +kernel)⟩
theorem lw_p2 : lw_okq (⟨"LiftNovel", "foldLift", "(J)J"⟩, 5) := ⟨⟨by decide +kernel, by decide +kernel⟩, List.mem_of_getElem? (i := 16) (by decide +kernel), List.mem_of_getElem? (i := 388) (by decide +kernel), List.mem_of_getElem? (i := 389) (by decide +kernel)⟩
theorem lw_p3 : lw_okq (⟨"LiftNovel", "foldForesight", "(J)J"⟩, 5) := ⟨⟨by decide +kernel, by decide +kernel⟩, List.mem_of_getElem? (i := 16) (by decide +kernel), List.mem_of_getElem? (i := 413) (by decide +kernel), List.mem_of_getElem? (i := 414) (by decide +kernel)⟩
theorem lw_p4 : lw_okq (⟨"java/lang/Throwable", "fillInStackTrace", "(I)Ljava/lang/Throwable;"⟩, 6) := ⟨⟨by decide +kernel, by decide +kernel⟩, List.mem_of_getElem? (i := 463) (by decide +kernel), List.mem_of_getElem? (i := 461) (by decide +kernel), List.mem_of_getElem? (i := 462) (by decide +kernel)⟩
theorem lw_p5 : lw_okq (⟨"LiftNovel", "foldFloors", "(J)J"⟩, 5) := ⟨⟨by decide +kernel, by decide +kernel⟩, List.mem_of_getElem? (i := 16) (by decide +kernel), List.mem_of_getElem? (i := 510) (by decide +kernel), List.mem_of_getElem? (i := 511) (by decide +kernel)⟩
theorem lw_p6 : lw_okq (⟨"LiftNovel", "needFloor", "(I)V"⟩, 5) := ⟨⟨by decide +kernel, by decide +kernel⟩, List.mem_of_getElem? (i := 16) (by decide +kernel), List.mem_of_getElem? (i := 518) (by decide +kernel), List.mem_of_getElem? (i := 519) (by decide +kernel)⟩
theorem lw_p7 : lw_okq (⟨"LiftNovel", "foldTopics", "(J)J"⟩, 5) := ⟨⟨by decide +kernel, by decide +kernel⟩, List.mem_of_getElem? (i := 16) (by decide +kernel), List.mem_of_getElem? (i := 557) (by decide +kernel), List.mem_of_getElem? (i := 558) (by decide +kernel)⟩
theorem lw_p8 : lw_okq (⟨"LiftNovel", "foldInstalments", "(J)J"⟩, 5) := ⟨⟨by decide +kernel, by decide +kernel⟩, List.mem_of_getElem? (i := 16) (by decide +kernel), List.mem_of_getElem? (i := 580) (by decide +kernel), List.mem_of_getElem? (i := 581) (by decide +kernel)⟩
theorem lw_p9 : lw_okq (⟨"LiftNovel", "needInstalment", "(I)V"⟩, 5) := ⟨⟨by decide +kernel, by decide +kernel⟩, List.mem_of_getElem? (i := 16) (by decide +kernel), List.mem_of_getElem? (i := 588) (by decide +kernel), List.mem_of_getElem? (i := 589) (by decide +kernel)⟩
theorem lw_p10 : lw_okq (⟨"LiftNovel", "foldReaders", "(J)J"⟩, 5) := ⟨⟨by decide +kernel, by decide +kernel⟩, List.mem_of_getElem? (i := 16) (by decide +kernel), List.mem_of_getElem? (i := 605) (by decide +kernel), List.mem_of_getElem? (i := 606) (by decide +kernel)⟩
theorem lw_p11 : lw_okq (⟨"LiftNovel", "needReader", "(I)V"⟩, 5) := ⟨⟨by decide +kernel, by decide +kernel⟩, List.mem_of_getElem? (i := 16) (by decide +kernel), List.mem_of_getElem? (i := 613) (by decide +kernel), List.mem_of_getElem? (i := 614) (by decide +kernel)⟩
theorem lw_p12 : lw_okq (⟨"LiftNovel", "foldMirrors", "(J)J"⟩, 5) := ⟨⟨by decide +kernel, by decide +kernel⟩, List.mem_of_getElem? (i := 16) (by decide +kernel), List.mem_of_getElem? (i := 622) (by decide +kernel), List.mem_of_getElem? (i := 623) (by decide +kernel)⟩
theorem lw_p13 : lw_okq (⟨"LiftNovel", "needMirror", "(I)V"⟩, 5) := ⟨⟨by decide +kernel, by decide +kernel⟩, List.mem_of_getElem? (i := 16) (by decide +kernel), List.mem_of_getElem? (i := 630) (by decide +kernel), List.mem_of_getElem? (i := 631) (by decide +kernel)⟩
theorem lw_p14 : lw_okq (⟨"LiftNovel", "needParagraph", "(II)V"⟩, 5) := ⟨⟨by decide +kernel, by decide +kernel⟩, List.mem_of_getElem? (i := 16) (by decide +kernel), List.mem_of_getElem? (i := 761) (by decide +kernel), List.mem_of_getElem? (i := 762) (by decide +kernel)⟩
theorem lw_p15 : lw_okq (⟨"LiftNovelModel", "fail", "(I)I"⟩, 18) := ⟨⟨by decide +kernel, by decide +kernel⟩, List.mem_of_getElem? (i := 852) (by decide +kernel), List.mem_of_getElem? (i := 924) (by decide +kernel), List.mem_of_getElem? (i := 925) (by decide +kernel)⟩
def lw_privs_1 : List (MethodName × Nat) := [(⟨"LiftNovel", "sumOfGrades", "(I)I"⟩, 5), (⟨"LiftNovel", "judge", "(II)I"⟩, 5), (⟨"LiftNovel", "foldLift", "(J)J"⟩, 5), (⟨"LiftNovel", "foldForesight", "(J)J"⟩, 5), (⟨"java/lang/Throwable", "fillInStackTrace", "(I)Ljava/lang/Throwable;"⟩, 6), (⟨"LiftNovel", "foldFloors", "(J)J"⟩, 5), (⟨"LiftNovel", "needFloor", "(I)V"⟩, 5), (⟨"LiftNovel", "foldTopics", "(J)J"⟩, 5), (⟨"LiftNovel", "foldInstalments", "(J)J"⟩, 5), (⟨"LiftNovel", "needInstalment", "(I)V"⟩, 5), (⟨"LiftNovel", "foldReaders", "(J)J"⟩, 5), (⟨"LiftNovel", "needReader", "(I)V"⟩, 5), (⟨"LiftNovel", "foldMirrors", "(J)J"⟩, 5), (⟨"LiftNovel", "needMirror", "(I)V"⟩, 5), (⟨"LiftNovel", "needParagraph", "(II)V"⟩, 5), (⟨"LiftNovelModel", "fail", "(I)I"⟩, 18)]
theorem lw_r1 : ∀ q ∈ lw_privs_1, lw_okq q := List.forall_mem_cons.mpr ⟨lw_p0, List.forall_mem_cons.mpr ⟨lw_p1, List.forall_mem_cons.mpr ⟨lw_p2, List.forall_mem_cons.mpr ⟨lw_p3, List.forall_mem_cons.mpr ⟨lw_p4, List.forall_mem_cons.mpr ⟨lw_p5, List.forall_mem_cons.mpr ⟨lw_p6, List.forall_mem_cons.mpr ⟨lw_p7, List.forall_mem_cons.mpr ⟨lw_p8, List.forall_mem_cons.mpr ⟨lw_p9, List.forall_mem_cons.mpr ⟨lw_p10, List.forall_mem_cons.mpr ⟨lw_p11, List.forall_mem_cons.mpr ⟨lw_p12, List.forall_mem_cons.mpr ⟨lw_p13, List.forall_mem_cons.mpr ⟨lw_p14, List.forall_mem_cons.mpr ⟨lw_p15, fun _ h => absurd h List.not_mem_nil⟩⟩⟩⟩⟩⟩⟩⟩⟩⟩⟩⟩⟩⟩⟩⟩
theorem lw_p16 : lw_okq (⟨"LiftNovelModel", "isFloor", "(I)Z"⟩, 18) := ⟨⟨by decide +kernel, by decide +kernel⟩, List.mem_of_getElem? (i := 852) (by decide +kernel), List.mem_of_getElem? (i := 935) (by decide +kernel), List.mem_of_getElem? (i := 936) (by decide +kernel)⟩
theorem lw_p17 : lw_okq (⟨"LiftNovelModel", "hoursOn", "(I)V"⟩, 18) := ⟨⟨by decide +kernel, by decide +kernel⟩, List.mem_of_getElem? (i := 852) (by decide +kernel), List.mem_of_getElem? (i := 973) (by decide +kernel), List.mem_of_getElem? (i := 974) (by decide +kernel)⟩
theorem lw_p18 : lw_okq (⟨"LiftNovelModel", "hourOn", "()V"⟩, 18) := ⟨⟨by decide +kernel, by decide +kernel⟩, List.mem_of_getElem? (i := 852) (by decide +kernel), List.mem_of_getElem? (i := 977) (by decide +kernel), List.mem_of_getElem? (i := 978) (by decide +kernel)⟩
theorem lw_p19 : lw_okq (⟨"LiftNovelModel", "ride", "()V"⟩, 18) := ⟨⟨by decide +kernel, by decide +kernel⟩, List.mem_of_getElem? (i := 852) (by decide +kernel), List.mem_of_getElem? (i := 981) (by decide +kernel), List.mem_of_getElem? (i := 982) (by decide +kernel)⟩
theorem lw_p20 : lw_okq (⟨"LiftNovelModel", "isWay", "(I)Z"⟩, 18) := ⟨⟨by decide +kernel, by decide +kernel⟩, List.mem_of_getElem? (i := 852) (by decide +kernel), List.mem_of_getElem? (i := 985) (by decide +kernel), List.mem_of_getElem? (i := 986) (by decide +kernel)⟩
theorem lw_p21 : lw_okq (⟨"LiftNovelModel", "wayToNearest", "()I"⟩, 18) := ⟨⟨by decide +kernel, by decide +kernel⟩, List.mem_of_getElem? (i := 852) (by decide +kernel), List.mem_of_getElem? (i := 989) (by decide +kernel), List.mem_of_getElem? (i := 990) (by decide +kernel)⟩
theorem lw_p22 : lw_okq (⟨"LiftNovelModel", "stop", "()V"⟩, 18) := ⟨⟨by decide +kernel, by decide +kernel⟩, List.mem_of_getElem? (i := 852) (by decide +kernel), List.mem_of_getElem? (i := 993) (by decide +kernel), List.mem_of_getElem? (i := 994) (by decide +kernel)⟩
theorem lw_p23 : lw_okq (⟨"LiftNovelModel", "print", "(I)V"⟩, 18) := ⟨⟨by decide +kernel, by decide +kernel⟩, List.mem_of_getElem? (i := 852) (by decide +kernel), List.mem_of_getElem? (i := 997) (by decide +kernel), List.mem_of_getElem? (i := 998) (by decide +kernel)⟩
theorem lw_p24 : lw_okq (⟨"LiftNovelModel", "reads", "(I)Z"⟩, 18) := ⟨⟨by decide +kernel, by decide +kernel⟩, List.mem_of_getElem? (i := 852) (by decide +kernel), List.mem_of_getElem? (i := 1001) (by decide +kernel), List.mem_of_getElem? (i := 1002) (by decide +kernel)⟩
theorem lw_p25 : lw_okq (⟨"LiftNovelModel", "told", "(I)I"⟩, 18) := ⟨⟨by decide +kernel, by decide +kernel⟩, List.mem_of_getElem? (i := 852) (by decide +kernel), List.mem_of_getElem? (i := 1010) (by decide +kernel), List.mem_of_getElem? (i := 1011) (by decide +kernel)⟩
theorem lw_p26 : lw_okq (⟨"LiftNovelModel", "next", "(I)I"⟩, 18) := ⟨⟨by decide +kernel, by decide +kernel⟩, List.mem_of_getElem? (i := 852) (by decide +kernel), List.mem_of_getElem? (i := 1058) (by decide +kernel), List.mem_of_getElem? (i := 1059) (by decide +kernel)⟩
theorem lw_p27 : lw_okq (⟨"LiftNovelModel", "of", "(II[I)I"⟩, 18) := ⟨⟨by decide +kernel, by decide +kernel⟩, List.mem_of_getElem? (i := 852) (by decide +kernel), List.mem_of_getElem? (i := 1066) (by decide +kernel), List.mem_of_getElem? (i := 1067) (by decide +kernel)⟩
theorem lw_p28 : lw_okq (⟨"LiftNovelModel", "cut", "()I"⟩, 18) := ⟨⟨by decide +kernel, by decide +kernel⟩, List.mem_of_getElem? (i := 852) (by decide +kernel), List.mem_of_getElem? (i := 1086) (by decide +kernel), List.mem_of_getElem? (i := 1087) (by decide +kernel)⟩
theorem lw_p29 : lw_okq (⟨"LiftNovelModel", "comes", "(I)I"⟩, 18) := ⟨⟨by decide +kernel, by decide +kernel⟩, List.mem_of_getElem? (i := 852) (by decide +kernel), List.mem_of_getElem? (i := 1094) (by decide +kernel), List.mem_of_getElem? (i := 1095) (by decide +kernel)⟩
theorem lw_p30 : lw_okq (⟨"LiftNovelModel", "isInstalment", "(I)Z"⟩, 18) := ⟨⟨by decide +kernel, by decide +kernel⟩, List.mem_of_getElem? (i := 852) (by decide +kernel), List.mem_of_getElem? (i := 1106) (by decide +kernel), List.mem_of_getElem? (i := 1107) (by decide +kernel)⟩
theorem lw_p31 : lw_okq (⟨"LiftNovelModel", "thrilling", "()I"⟩, 18) := ⟨⟨by decide +kernel, by decide +kernel⟩, List.mem_of_getElem? (i := 852) (by decide +kernel), List.mem_of_getElem? (i := 1126) (by decide +kernel), List.mem_of_getElem? (i := 1127) (by decide +kernel)⟩
def lw_privs_2 : List (MethodName × Nat) := [(⟨"LiftNovelModel", "isFloor", "(I)Z"⟩, 18), (⟨"LiftNovelModel", "hoursOn", "(I)V"⟩, 18), (⟨"LiftNovelModel", "hourOn", "()V"⟩, 18), (⟨"LiftNovelModel", "ride", "()V"⟩, 18), (⟨"LiftNovelModel", "isWay", "(I)Z"⟩, 18), (⟨"LiftNovelModel", "wayToNearest", "()I"⟩, 18), (⟨"LiftNovelModel", "stop", "()V"⟩, 18), (⟨"LiftNovelModel", "print", "(I)V"⟩, 18), (⟨"LiftNovelModel", "reads", "(I)Z"⟩, 18), (⟨"LiftNovelModel", "told", "(I)I"⟩, 18), (⟨"LiftNovelModel", "next", "(I)I"⟩, 18), (⟨"LiftNovelModel", "of", "(II[I)I"⟩, 18), (⟨"LiftNovelModel", "cut", "()I"⟩, 18), (⟨"LiftNovelModel", "comes", "(I)I"⟩, 18), (⟨"LiftNovelModel", "isInstalment", "(I)Z"⟩, 18), (⟨"LiftNovelModel", "thrilling", "()I"⟩, 18)]
theorem lw_r2 : ∀ q ∈ lw_privs_2, lw_okq q := List.forall_mem_cons.mpr ⟨lw_p16, List.forall_mem_cons.mpr ⟨lw_p17, List.forall_mem_cons.mpr ⟨lw_p18, List.forall_mem_cons.mpr ⟨lw_p19, List.forall_mem_cons.mpr ⟨lw_p20, List.forall_mem_cons.mpr ⟨lw_p21, List.forall_mem_cons.mpr ⟨lw_p22, List.forall_mem_cons.mpr ⟨lw_p23, List.forall_mem_cons.mpr ⟨lw_p24, List.forall_mem_cons.mpr ⟨lw_p25, List.forall_mem_cons.mpr ⟨lw_p26, List.forall_mem_cons.mpr ⟨lw_p27, List.forall_mem_cons.mpr ⟨lw_p28, List.forall_mem_cons.mpr ⟨lw_p29, List.forall_mem_cons.mpr ⟨lw_p30, List.forall_mem_cons.mpr ⟨lw_p31, fun _ h => absurd h List.not_mem_nil⟩⟩⟩⟩⟩⟩⟩⟩⟩⟩⟩⟩⟩⟩⟩⟩
theorem lw_p32 : lw_okq (⟨"LiftNovelModel", "waits", "()I"⟩, 18) := ⟨⟨by decide +kernel, by decide +kernel⟩, List.mem_of_getElem? (i := 852) (by decide +kernel), List.mem_of_getElem? (i := 1134) (by decide +kernel), List.mem_of_getElem? (i := 1135) (by decide +kernel)⟩
theorem lw_p33 : lw_okq (⟨"LiftNovelModel", "rises", "()I"⟩, 18) := ⟨⟨by decide +kernel, by decide +kernel⟩, List.mem_of_getElem? (i := 852) (by decide +kernel), List.mem_of_getElem? (i := 1143) (by decide +kernel), List.mem_of_getElem? (i := 1144) (by decide +kernel)⟩
theorem lw_p34 : lw_okq (⟨"LiftNovelModel", "isReader", "(I)Z"⟩, 18) := ⟨⟨by decide +kernel, by decide +kernel⟩, List.mem_of_getElem? (i := 852) (by decide +kernel), List.mem_of_getElem? (i := 1159) (by decide +kernel), List.mem_of_getElem? (i := 1160) (by decide +kernel)⟩
theorem lw_p35 : lw_okq (⟨"LiftNovelModel", "warm", "(I)I"⟩, 18) := ⟨⟨by decide +kernel, by decide +kernel⟩, List.mem_of_getElem? (i := 852) (by decide +kernel), List.mem_of_getElem? (i := 1167) (by decide +kernel), List.mem_of_getElem? (i := 1168) (by decide +kernel)⟩
theorem lw_p36 : lw_okq (⟨"LiftNovelModel", "hottest", "()I"⟩, 18) := ⟨⟨by decide +kernel, by decide +kernel⟩, List.mem_of_getElem? (i := 852) (by decide +kernel), List.mem_of_getElem? (i := 1179) (by decide +kernel), List.mem_of_getElem? (i := 1180) (by decide +kernel)⟩
theorem lw_p37 : lw_okq (⟨"LiftNovelModel", "isMirror", "(I)Z"⟩, 18) := ⟨⟨by decide +kernel, by decide +kernel⟩, List.mem_of_getElem? (i := 852) (by decide +kernel), List.mem_of_getElem? (i := 1191) (by decide +kernel), List.mem_of_getElem? (i := 1192) (by decide +kernel)⟩
theorem lw_p38 : lw_okq (⟨"LiftNovelModel", "graded", "(II)I"⟩, 18) := ⟨⟨by decide +kernel, by decide +kernel⟩, List.mem_of_getElem? (i := 852) (by decide +kernel), List.mem_of_getElem? (i := 1195) (by decide +kernel), List.mem_of_getElem? (i := 1196) (by decide +kernel)⟩
theorem lw_p39 : lw_okq (⟨"LiftNovelModel", "sumBy", "(I)I"⟩, 18) := ⟨⟨by decide +kernel, by decide +kernel⟩, List.mem_of_getElem? (i := 852) (by decide +kernel), List.mem_of_getElem? (i := 1203) (by decide +kernel), List.mem_of_getElem? (i := 1204) (by decide +kernel)⟩
theorem lw_p40 : lw_okq (⟨"LiftNovelModel", "liked", "(I)I"⟩, 18) := ⟨⟨by decide +kernel, by decide +kernel⟩, List.mem_of_getElem? (i := 852) (by decide +kernel), List.mem_of_getElem? (i := 1211) (by decide +kernel), List.mem_of_getElem? (i := 1212) (by decide +kernel)⟩
theorem lw_p41 : lw_okq (⟨"LiftNovelModel", "kind", "()I"⟩, 18) := ⟨⟨by decide +kernel, by decide +kernel⟩, List.mem_of_getElem? (i := 852) (by decide +kernel), List.mem_of_getElem? (i := 1219) (by decide +kernel), List.mem_of_getElem? (i := 1220) (by decide +kernel)⟩
theorem lw_p42 : lw_okq (⟨"LiftNovelModel", "untilStop", "(I)I"⟩, 18) := ⟨⟨by decide +kernel, by decide +kernel⟩, List.mem_of_getElem? (i := 852) (by decide +kernel), List.mem_of_getElem? (i := 1227) (by decide +kernel), List.mem_of_getElem? (i := 1228) (by decide +kernel)⟩
theorem lw_p43 : lw_okq (⟨"LiftNovelModel", "keep", "()V"⟩, 18) := ⟨⟨by decide +kernel, by decide +kernel⟩, List.mem_of_getElem? (i := 852) (by decide +kernel), List.mem_of_getElem? (i := 1231) (by decide +kernel), List.mem_of_getElem? (i := 1232) (by decide +kernel)⟩
theorem lw_p44 : lw_okq (⟨"LiftNovelModel", "bringBack", "()V"⟩, 18) := ⟨⟨by decide +kernel, by decide +kernel⟩, List.mem_of_getElem? (i := 852) (by decide +kernel), List.mem_of_getElem? (i := 1238) (by decide +kernel), List.mem_of_getElem? (i := 1239) (by decide +kernel)⟩
theorem lw_p45 : lw_okq (⟨"LiftNovelModel", "untilStuck", "()I"⟩, 18) := ⟨⟨by decide +kernel, by decide +kernel⟩, List.mem_of_getElem? (i := 852) (by decide +kernel), List.mem_of_getElem? (i := 1246) (by decide +kernel), List.mem_of_getElem? (i := 1247) (by decide +kernel)⟩
theorem lw_p46 : lw_okq (⟨"LiftNovelModel", "then", "(II)I"⟩, 18) := ⟨⟨by decide +kernel, by decide +kernel⟩, List.mem_of_getElem? (i := 852) (by decide +kernel), List.mem_of_getElem? (i := 1254) (by decide +kernel), List.mem_of_getElem? (i := 1255) (by decide +kernel)⟩
theorem lw_p47 : lw_okq (⟨"LiftNovelModel", "warmth", "()I"⟩, 18) := ⟨⟨by decide +kernel, by decide +kernel⟩, List.mem_of_getElem? (i := 852) (by decide +kernel), List.mem_of_getElem? (i := 1258) (by decide +kernel), List.mem_of_getElem? (i := 1259) (by decide +kernel)⟩
def lw_privs_3 : List (MethodName × Nat) := [(⟨"LiftNovelModel", "waits", "()I"⟩, 18), (⟨"LiftNovelModel", "rises", "()I"⟩, 18), (⟨"LiftNovelModel", "isReader", "(I)Z"⟩, 18), (⟨"LiftNovelModel", "warm", "(I)I"⟩, 18), (⟨"LiftNovelModel", "hottest", "()I"⟩, 18), (⟨"LiftNovelModel", "isMirror", "(I)Z"⟩, 18), (⟨"LiftNovelModel", "graded", "(II)I"⟩, 18), (⟨"LiftNovelModel", "sumBy", "(I)I"⟩, 18), (⟨"LiftNovelModel", "liked", "(I)I"⟩, 18), (⟨"LiftNovelModel", "kind", "()I"⟩, 18), (⟨"LiftNovelModel", "untilStop", "(I)I"⟩, 18), (⟨"LiftNovelModel", "keep", "()V"⟩, 18), (⟨"LiftNovelModel", "bringBack", "()V"⟩, 18), (⟨"LiftNovelModel", "untilStuck", "()I"⟩, 18), (⟨"LiftNovelModel", "then", "(II)I"⟩, 18), (⟨"LiftNovelModel", "warmth", "()I"⟩, 18)]
theorem lw_r3 : ∀ q ∈ lw_privs_3, lw_okq q := List.forall_mem_cons.mpr ⟨lw_p32, List.forall_mem_cons.mpr ⟨lw_p33, List.forall_mem_cons.mpr ⟨lw_p34, List.forall_mem_cons.mpr ⟨lw_p35, List.forall_mem_cons.mpr ⟨lw_p36, List.forall_mem_cons.mpr ⟨lw_p37, List.forall_mem_cons.mpr ⟨lw_p38, List.forall_mem_cons.mpr ⟨lw_p39, List.forall_mem_cons.mpr ⟨lw_p40, List.forall_mem_cons.mpr ⟨lw_p41, List.forall_mem_cons.mpr ⟨lw_p42, List.forall_mem_cons.mpr ⟨lw_p43, List.forall_mem_cons.mpr ⟨lw_p44, List.forall_mem_cons.mpr ⟨lw_p45, List.forall_mem_cons.mpr ⟨lw_p46, List.forall_mem_cons.mpr ⟨lw_p47, fun _ h => absurd h List.not_mem_nil⟩⟩⟩⟩⟩⟩⟩⟩⟩⟩⟩⟩⟩⟩⟩⟩
theorem lw_p48 : lw_okq (⟨"LiftNovelModel", "callBest", "(I)I"⟩, 18) := ⟨⟨by decide +kernel, by decide +kernel⟩, List.mem_of_getElem? (i := 852) (by decide +kernel), List.mem_of_getElem? (i := 1270) (by decide +kernel), List.mem_of_getElem? (i := 1271) (by decide +kernel)⟩
theorem lw_p49 : lw_okq (⟨"LiftNovelModel", "allowBest", "(I)I"⟩, 18) := ⟨⟨by decide +kernel, by decide +kernel⟩, List.mem_of_getElem? (i := 852) (by decide +kernel), List.mem_of_getElem? (i := 1278) (by decide +kernel), List.mem_of_getElem? (i := 1279) (by decide +kernel)⟩
def lw_privs_4 : List (MethodName × Nat) := [(⟨"LiftNovelModel", "callBest", "(I)I"⟩, 18), (⟨"LiftNovelModel", "allowBest", "(I)I"⟩, 18)]
theorem lw_r4 : ∀ q ∈ lw_privs_4, lw_okq q := List.forall_mem_cons.mpr ⟨lw_p48, List.forall_mem_cons.mpr ⟨lw_p49, fun _ h => absurd h List.not_mem_nil⟩⟩
def lw_privs : List (MethodName × Nat) := lw_privs_1 ++ (lw_privs_2 ++ (lw_privs_3 ++ (lw_privs_4)))
def lw_tbl : List Cond := k2_sels lw_privs ++ tables_1
theorem lw_privs_ok : ∀ q ∈ lw_privs, lw_okq q := by
  show ∀ q ∈ lw_privs_1 ++ (lw_privs_2 ++ (lw_privs_3 ++ (lw_privs_4))), lw_okq q
  exact List.forall_mem_append.mpr ⟨lw_r1, List.forall_mem_append.mpr ⟨lw_r2, List.forall_mem_append.mpr ⟨lw_r3, lw_r4⟩⟩⟩
/-- the streams that the claim lets the run draw from -/
abbrev lw_cs : List Choice := [Jvm.Choice.named "NaN.bits"]
theorem lw_bits : nanBits ∈ lw_cs := by first | decide | exact List.mem_cons_self | simp [lw_cs, nanBits]
end
section
/-! ===== BEGIN words of one list among another's, by their places ===== -/
theorem goodIn_r {big : List Cond} (ws : List Cond) (ps : List Nat) (hp : ws = ps.filterMap (fun i => big[i]?)) (h : ws.all goodWord = true) : GoodIn big ws := by
  intro w hw
  have h1 := List.all_eq_true.mp h w hw
  rw [hp] at hw
  obtain ⟨i, -, hi⟩ := List.mem_filterMap.mp hw
  have hm : w ∈ big := by first | exact List.mem_of_getElem? hi | exact List.getElem?_mem hi
  exact ⟨hm, good_of_word h1⟩
theorem goodIn_app {big a b : List Cond} (ha : GoodIn big a) (hb : GoodIn big b) : GoodIn big (a ++ b) := fun w h => (List.mem_append.mp h).elim (ha w) (hb w)
theorem goodIn_ca {big a b : List Cond} {c : Cond} (ha : GoodIn big (c :: a)) (hb : GoodIn big b) : GoodIn big (c :: (a ++ b)) := fun w h => (List.mem_cons.mp h).elim (fun e => ha w (List.mem_cons.mpr (Or.inl e))) (fun h => (List.mem_append.mp h).elim (fun h => ha w (List.mem_cons.mpr (Or.inr h))) (hb w))
theorem goodIn_sub {big ws : List Cond} (hm : ∀ w ∈ ws, w ∈ big) (h : ws.all goodWord = true) : GoodIn big ws := fun w hw => ⟨hm w hw, good_of_word (List.all_eq_true.mp h w hw)⟩
/-! ===== END ===== -/

/-! ===== BEGIN exceptions that leave a method, and their catching by the caller (launches without stack traces) ===== -/
section VXA
/-! The laws vx_back, vx_callV, vx_callS, vx_callSW, vx_throw0, vx_throwS follow proofs of the library, with one case more: JvmDerived/Free/Laws.lean (Back.of_free), Shelf42/LK1.lean (callV, callS), Shelf/KitTraced.lean (throwNew0V, throwNewS). -/
/-- where a method has thrown q: the class by its name, the cell, what was written, the world -/
def vx_T (XC : String → State → State → Prop) (st : State) (q : Addr) (t : State) (mc ms : Nat) (free : Addr → Prop) : Prop :=
  ∃ (E : String) (ce : Cell) (L : List Loc), XC E st t ∧ t.heap[q]? = some ce ∧ ce.vm = .none ∧ st.vm.findClass E = some ce.cls ∧ st.WarmedH t.vm ∧ st.sameButNew ({ t with vm := st.vm } : State) L mc ms ∧ ∀ z ∈ L, free z.base
def vx_Q (Qc : Array Value → State → Outcome → State → Prop) (XC : String → State → State → Prop) (mc ms : Nat) (free : Addr → Prop) : Array Value → State → Outcome → State → Prop := fun a st o t =>
  (Qc a st o t ∧ ∃ L, FrameEnd st o t L mc ms ∧ ∀ q ∈ L, free q.base) ∨ ∃ q, o = .threw q ∧ vx_T XC st q t mc ms free
/-- a callee that returns or throws -/
def vx_Met (l : Launch) (y : MethodName) (ws : List Cond) (rm : Room) (Pc : Array Value → State → Prop) (Qc : Array Value → State → Outcome → State → Prop) (XC : String → State → State → Prop) (mc ms : Nat) (free : Addr → Prop) : Prop :=
  MetFree l y (headSpec ws rm) Pc (fun _ _ _ _ _ => True) (vx_Q Qc XC mc ms free)
def vx_Post (XC : String → State → State → Prop) (mc ms : Nat) (free : Addr → Prop) : Pt → Array Value → Addr → Pt → Prop := fun A a q B =>
  ∃ (g : JFrame) (mk : MethodId) (t : State) (L : List Loc) (E : String) (ce : Cell), B.U.heap = t.heap ∧ B.U.vm = t.vm ∧ XC E (A.U.calling g mk a) t ∧ t.heap[q]? = some ce ∧ ce.vm = .none ∧ A.U.vm.findClass E = some ce.cls ∧ B.locs = A.locs ++ L ∧ (∀ z ∈ L, free z.base) ∧ B.cells = A.cells + mc ∧ B.slots = A.slots + ms
def vx_Back (l : Launch) (R : Room) (p : Program) (e : Env) (below : List Frame) (s : State) (sargs : Array Value) (y : MethodName) (len W9 : Nat)
    (Pre : Pt → Array Value → Prop) (Post : Pt → Array Value → Option Value → Pt → Prop) (PostX : Pt → Array Value → Addr → Pt → Prop) : Prop :=
  ∀ (m : MethodId) (meth : Method) (c : Code) (A : Pt) (g : JFrame) (ig : Instr) (mk : MethodId) (a : Array Value),
    Stand p l e R s m sargs below meth c A.U A.locs A.cells A.slots → g.method = m → g.locals.size = c.maxLocals → decode c.code g.pc = .ok (ig, len) →
    2 * g.monitorRoom + (g.stack.map fun v => v.category).sum ≤ W9 → A.U.methodNamed? y = some mk → Pre A a →
    (∃ (v : Option Value) (B : Pt), Stand p l e R s m sargs below meth c B.U B.locs B.cells B.slots ∧ Post A a v B ∧
      Steps p.tables e below (doInvoke e (A.U.setTop g) [] mk a).1 (B.U.setTop { g with pc := g.pc + len, stack := v.toList ++ g.stack })) ∨
    (∃ (q : Addr) (B : Pt), Stand p l e R s m sargs below meth c B.U B.locs B.cells B.slots ∧ PostX A a q B ∧
      Steps p.tables e below (doInvoke e (A.U.setTop g) [] mk a).1 ((B.U.setTop g).pushFrame (.throwing q)))
section Payer
variable {l : Launch} {R : Room} {p : Program} {e : Env} {below : List Frame} {s : State} {sargs : Array Value} {y : MethodName} {len W9 : Nat}
theorem vx_back {ws : List Cond} {rm : Room} {Pc : Array Value → State → Prop} {Qc : Array Value → State → Outcome → State → Prop} {XC : String → State → State → Prop} {mc ms : Nat} {free : Addr → Prop} {bytes : ByteArray} {maxL : Nat} {ret : Option FieldType}
    (hM : vx_Met l y ws rm Pc Qc XC mc ms free) (hblind : FrameBlind Pc) (hrc : rm.cells = mc) (hrs : rm.slots = ms)
    (hframes : rm.frames + 1 ≤ R.frames) (hlocals : W9 + (maxL + 11) + rm.locals ≤ R.locals)
    (hws : ∀ w ∈ ws, ∀ a' U, s.WarmedH U.vm → w.before a' U = true) (hcode : Cond.code y bytes maxL ret ∈ ws) (hinit : ∀ a' U, s.WarmedH U.vm → (Cond.initialized y.cls).before a' U = true) :
    vx_Back l R p e below s sargs y len W9 (PreOf R mc ms Pc) (PostOf Qc mc ms free) (vx_Post XC mc ms free) := by
  intro m meth c A g ig mk a X hg hsize hdg hW hn hp
  have h1 : (headSpec ws rm).pre.before a A.U = true := atoms_intro fun w hw => hws w hw _ _ X.warmed
  have h2 : (Cond.code y bytes maxL ret).before a A.U = true := hws _ hcode _ _ X.warmed
  have h3 : (Cond.initialized y.cls).before a A.U = true := hinit _ _ X.warmed
  have h4 : A.cells + (headSpec ws rm).room.cells ≤ R.cells := by rw [show (headSpec ws rm).room.cells = mc from hrc]; exact hp.1
  have h5 : A.slots + (headSpec ws rm).room.slots ≤ R.slots := by rw [show (headSpec ws rm).room.slots = ms from hrs]; exact hp.2.1
  have hPc : Pc a (A.U.calling g mk a) := hblind _ _ _ _ hp.2.2
  obtain ⟨U, Ls, c0, s0⟩ := A
  dsimp only [Pt.U, Pt.locs, Pt.cells, Pt.slots] at h1 h2 h3 h4 h5 X hn hPc ⊢
  obtain ⟨methY, cY, hmY, hcY, -, hlY, -, -, -, -⟩ := Cond.code_spec hn h2
  obtain ⟨kY, hkY, -⟩ := className_of_methodNamed hn
  have hinitY : kY.init = .initialized := Cond.initialized_spec (findClass_of_methodNamed hn) hkY h3
  have h : At U g.method c below := by rw [hg]; exact X.here
  have hlocals9 : W9 + (maxL + 11) + (headSpec ws rm).room.locals ≤ R.locals := hlocals
  have happ : (headSpec ws rm).appliesLoose y e.platform (U.calling g mk a) = true :=
    Spec.appliesLoose_calling (g := g) h hdg hn hkY hinitY
      (X.room_calling (g := g) (R' := (headSpec ws rm).room) hsize hmY hcY hframes (by rw [hlY]; omega) h4 h5) h1
  obtain ⟨mid, hmid⟩ := h.above
  have hfr : (U.setTop g).frames = (.java g :: mid) ++ below := by rw [State.frames_setTop' g h.top, hmid]; rfl
  obtain ⟨o, s₂, hsteps, -, hend, hq⟩ := Steps.callFree hM p X.admits X.cas X.clock (acts := []) hfr happ hPc trivial
  have hq' : vx_Q Qc XC mc ms free a (U.calling g mk a) o s₂ := hq
  rw [State.frames_setTop' g h.top] at hend
  obtain ⟨g₀, hg0⟩ := Option.isSome_iff_exists.mp h.top
  obtain ⟨r, hr⟩ := State.topJava?_eq_some.mp hg0
  have hr' : (({ U with heap := s₂.heap, slotsUsed := s₂.slotsUsed } : State).setVm s₂.vm).frames = .java g₀ :: r := hr
  rcases hq' with ⟨hqc, L, hfe, hL⟩ | ⟨q, rfl, E, ce, L, hx, hce, hcv, hcl, hW₂, hsm, hL⟩
  · obtain ⟨⟨v, rfl⟩, hW₂, e2, q2, q3, q4, q5, q6⟩ := id hfe
    have e3 : s₂ = ({ (U.calling g mk a).setFrames s₂.frames with heap := s₂.heap, slotsUsed := s₂.slotsUsed } : State).setVm s₂.vm := by
      have : s₂ = ({ s₂ with vm := (U.calling g mk a).vm } : State).setVm s₂.vm := rfl
      rw [e2] at this
      exact this
    obtain ⟨c₂, i₂, len₂, hc₂, hd₂, hf₂⟩ := hend
    have hW' : U.WarmedH s₂.vm := hW₂
    have hcc : c₂ = c := by
      have h1 : s₂.code? g.method = U.code? g.method := by
        rw [State.code?_eq, State.code?_eq, hW'.alike.method?]
      exact Option.some.inj (hc₂.symm.trans (h1.trans h.code))
    subst hcc
    have hlen : len₂ = len := by rw [hdg] at hd₂; cases hd₂; rfl
    subst hlen
    have hs₂ : s₂ = (({ U with heap := s₂.heap, slotsUsed := s₂.slotsUsed } : State).setVm s₂.vm).setTop { g with pc := g.pc + len₂, stack := v.toList ++ g.stack } := by
      refine e3.trans ?_
      rw [hf₂, State.calling_eq h.top, State.setFrames_setFrames, State.setTop_of_frames _ hr', hr]
      rfl
    have hsame : U.sameButNew ({ U with heap := s₂.heap, slotsUsed := s₂.slotsUsed } : State) L mc ms := by
      refine ⟨?_, q2, q3, q4, q5, q6⟩
      obtain ⟨t, ht, -⟩ := State.frames_cons hr
      show ({ U with heap := s₂.heap, slotsUsed := s₂.slotsUsed } : State) = { U.setFrames U.frames with heap := s₂.heap, slotsUsed := s₂.slotsUsed }
      rw [State.setFrames_self ht]
    subst hg
    refine Or.inl ⟨v, ⟨(({ U with heap := s₂.heap, slotsUsed := s₂.slotsUsed } : State).setVm s₂.vm), Ls ++ L, c0 + mc, s0 + ms⟩,
      ⟨X.admits, X.cas, X.clock, X.frames, X.room, X.hears, X.method, X.code, (X.here.setHeapUsed s₂.heap s₂.slotsUsed).setVm hW'.alike, X.tail, State.WarmedH.trans X.warmed hW', X.limits, X.bytes, X.same.trans (hsame.setVm s.vm)⟩,
      ⟨g, mk, s₂, L, rfl, rfl, hqc, rfl, hL, rfl, rfl⟩, ?_⟩
    show Steps p.tables e below _ ((({ U with heap := s₂.heap, slotsUsed := s₂.slotsUsed } : State).setVm s₂.vm).setTop { g with pc := g.pc + len₂, stack := v.toList ++ g.stack })
    rw [← hs₂]
    exact hsteps
  · obtain ⟨e2, q2, q3, q4, q5, q6⟩ := id hsm
    have e3 : s₂ = ({ (U.calling g mk a).setFrames s₂.frames with heap := s₂.heap, slotsUsed := s₂.slotsUsed } : State).setVm s₂.vm := by
      have : s₂ = ({ s₂ with vm := (U.calling g mk a).vm } : State).setVm s₂.vm := rfl
      rw [e2] at this
      exact this
    have hf₂ : s₂.frames = .throwing q :: .java g :: U.frames.tail := hend
    have hW' : U.WarmedH s₂.vm := hW₂
    have hs₂ : s₂ = ((({ U with heap := s₂.heap, slotsUsed := s₂.slotsUsed } : State).setVm s₂.vm).setTop g).pushFrame (.throwing q) := by
      refine e3.trans ?_
      rw [hf₂, State.calling_eq h.top, State.setFrames_setFrames, State.pushFrame, State.frames_setTop _ hr', State.setTop_of_frames _ hr', State.setFrames_setFrames, hr]
      rfl
    have hsame : U.sameButNew ({ U with heap := s₂.heap, slotsUsed := s₂.slotsUsed } : State) L mc ms := by
      refine ⟨?_, q2, q3, q4, q5, q6⟩
      obtain ⟨t, ht, -⟩ := State.frames_cons hr
      show ({ U with heap := s₂.heap, slotsUsed := s₂.slotsUsed } : State) = { U.setFrames U.frames with heap := s₂.heap, slotsUsed := s₂.slotsUsed }
      rw [State.setFrames_self ht]
    subst hg
    refine Or.inr ⟨q, ⟨(({ U with heap := s₂.heap, slotsUsed := s₂.slotsUsed } : State).setVm s₂.vm), Ls ++ L, c0 + mc, s0 + ms⟩,
      ⟨X.admits, X.cas, X.clock, X.frames, X.room, X.hears, X.method, X.code, (X.here.setHeapUsed s₂.heap s₂.slotsUsed).setVm hW'.alike, X.tail, State.WarmedH.trans X.warmed hW', X.limits, X.bytes, X.same.trans (hsame.setVm s.vm)⟩,
      ⟨g, mk, s₂, L, E, ce, rfl, rfl, hx, hce, hcv, hcl, rfl, hL, rfl, rfl⟩, ?_⟩
    show Steps p.tables e below _ (((({ U with heap := s₂.heap, slotsUsed := s₂.slotsUsed } : State).setVm s₂.vm).setTop g).pushFrame (.throwing q))
    rw [← hs₂]
    exact hsteps
end Payer
section Calls
variable {p : Program} {l : Launch} {e : Env} {R : Room} {s : State} {m : MethodId} {args : Array Value} {below : List Frame} {meth : Method} {c : Code} {T : State} {locs : List Loc} {cells slots : Nat}
theorem vx_callV (X : Stand p l e R s m args below meth c T locs cells slots) (hexec : p.tables.exec = Jvm.exec) {own C : String} {index : Nat} {y : MethodName} {bytes : ByteArray} {maxL : Nat} {ret : Option FieldType}
    (hown : s.vm.findClass own = some m.cls) (hlink : (Cond.methodLink own index y).before args s = true) (hinst : (Cond.instanceMethod y).before args s = true) (hsel : (Cond.selects C y y).before args s = true)
    (hcode : (Cond.code y bytes maxL ret).before args s = true) (hy : y.cls ≠ "java/lang/invoke/MethodHandle" ∧ y.cls ≠ "java/lang/invoke/VarHandle")
    {W9 : Nat} {Pre : Pt → Array Value → Prop} {Post : Pt → Array Value → Option Value → Pt → Prop} {PostX : Pt → Array Value → Addr → Pt → Prop} (hK : vx_Back l R p e below s args y 3 W9 Pre Post PostX)
    {b : Addr} {cellB : Cell} (hcell : T.heap[b]? = some cellB) (hobj : cellB.vm.isStatics = false) (hcls : s.vm.findClass C = some cellB.cls)
    {g : JFrame} (hg : g.method = m) (hsize : g.locals.size = c.maxLocals) {argsL rest : List Value} (hlen : ∀ sig, parseMethodDescriptor y.desc = some sig → argsL.length = sig.parameters.length)
    (hstack : g.stack = argsL.reverse ++ .ref b :: rest) (hW : 2 * g.monitorRoom + (rest.map fun v => v.category).sum ≤ W9) (hdg : decode c.code g.pc = .ok (.invokevirtual index, 3))
    (hpre : ∀ vm₁, s.WarmedH vm₁ → Pre ⟨T.setVm vm₁, locs, cells, slots⟩ (Value.ref b :: argsL).toArray) :
    (∃ (v : Option Value) (vm₁ : Vm) (B : Pt), s.WarmedH vm₁ ∧ Stand p l e R s m args below meth c B.U B.locs B.cells B.slots ∧ Post ⟨T.setVm vm₁, locs, cells, slots⟩ (Value.ref b :: argsL).toArray v B ∧
      ∀ target, Steps p.tables e below (B.U.setTop { g with pc := g.pc + 3, stack := v.toList ++ rest }) target → Steps p.tables e below (T.setTop g) target) ∨
    (∃ (q : Addr) (vm₁ : Vm) (B : Pt), s.WarmedH vm₁ ∧ Stand p l e R s m args below meth c B.U B.locs B.cells B.slots ∧ PostX ⟨T.setVm vm₁, locs, cells, slots⟩ (Value.ref b :: argsL).toArray q B ∧
      Steps p.tables e below (T.setTop g) ((B.U.setTop { g with stack := rest }).pushFrame (.throwing q))) := by
  obtain ⟨mk, methM, hnamed, hmethM, hstM, habM⟩ := Cond.instanceMethod_spec hinst
  obtain ⟨methM', cM, hmethM', -, -, -, -, -, -, hsigM⟩ := Cond.code_spec hnamed hcode
  cases hmethM.symm.trans hmethM'
  obtain ⟨c2, r2, m2, q1, q2, q3, q4, kP, hkP, hkPi⟩ := Cond.selects_spec hsel
  cases hcls.symm.trans q1
  cases (State.methodFound?_of_named hnamed hy).symm.trans q2
  cases hnamed.symm.trans q3
  have hselP : selectMethod e.platform s.vm cellB.cls mk = .method mk := by rw [Launch.admits_selectMethod X.admits]; exact q4
  obtain ⟨vm₁, X₁, hstep₁⟩ := X.invokevirtual hexec hown hlink hnamed hmethM hstM hkP hkPi hy (a := b) (cell := cellB) hcell
    (fun z h => by rw [h] at hobj; cases hobj) hselP hmethM habM hkP hkPi (g := g) hg (argsL := argsL) (rest := rest) (hlen _ hsigM) hstack hdg
  rcases hK m meth c ⟨T.setVm vm₁, locs, cells, slots⟩ { g with stack := rest } (.invokevirtual index) mk (Value.ref b :: argsL).toArray X₁ hg hsize hdg hW (X₁.named hnamed) (hpre vm₁ X₁.warmed) with ⟨v, B, X', hpost, hsteps⟩ | ⟨q, B, X', hpost, hsteps⟩
  · exact Or.inl ⟨v, vm₁, B, X₁.warmed, X', hpost, fun target h => hstep₁ _ fun acts => by rw [doInvoke_state]; exact hsteps.trans h⟩
  · exact Or.inr ⟨q, vm₁, B, X₁.warmed, X', hpost, hstep₁ _ fun acts => by rw [doInvoke_state]; exact hsteps⟩
theorem vx_callS (X : Stand p l e R s m args below meth c T locs cells slots) (hexec : p.tables.exec = Jvm.exec) {own : String} {index : Nat} {y : MethodName} {bytes : ByteArray} {maxL : Nat} {ret : Option FieldType}
    (hown : s.vm.findClass own = some m.cls) (hlink : (Cond.methodLink own index y).before args s = true) (hstat : (Cond.static y).before args s = true) (hinit : (Cond.initialized y.cls).before args s = true)
    (hcode : (Cond.code y bytes maxL ret).before args s = true) (hy : y.cls ≠ "java/lang/invoke/MethodHandle" ∧ y.cls ≠ "java/lang/invoke/VarHandle")
    {W9 : Nat} {Pre : Pt → Array Value → Prop} {Post : Pt → Array Value → Option Value → Pt → Prop} {PostX : Pt → Array Value → Addr → Pt → Prop} (hK : vx_Back l R p e below s args y 3 W9 Pre Post PostX)
    {g : JFrame} (hg : g.method = m) (hsize : g.locals.size = c.maxLocals) {argsL rest : List Value} (hlen : ∀ sig, parseMethodDescriptor y.desc = some sig → argsL.length = sig.parameters.length)
    (hstack : g.stack = argsL.reverse ++ rest) (hW : 2 * g.monitorRoom + (rest.map fun v => v.category).sum ≤ W9) (hdg : decode c.code g.pc = .ok (.invokestatic index, 3))
    (hpre : ∀ vm₁, s.WarmedH vm₁ → Pre ⟨T.setVm vm₁, locs, cells, slots⟩ argsL.toArray) :
    (∃ (v : Option Value) (vm₁ : Vm) (B : Pt), s.WarmedH vm₁ ∧ Stand p l e R s m args below meth c B.U B.locs B.cells B.slots ∧ Post ⟨T.setVm vm₁, locs, cells, slots⟩ argsL.toArray v B ∧
      ∀ target, Steps p.tables e below (B.U.setTop { g with pc := g.pc + 3, stack := v.toList ++ rest }) target → Steps p.tables e below (T.setTop g) target) ∨
    (∃ (q : Addr) (vm₁ : Vm) (B : Pt), s.WarmedH vm₁ ∧ Stand p l e R s m args below meth c B.U B.locs B.cells B.slots ∧ PostX ⟨T.setVm vm₁, locs, cells, slots⟩ argsL.toArray q B ∧
      Steps p.tables e below (T.setTop g) ((B.U.setTop { g with stack := rest }).pushFrame (.throwing q))) := by
  obtain ⟨mk, hnamed⟩ := Cond.code_named hcode
  obtain ⟨methM, cM, hmethM, -, -, -, -, -, -, hsigM⟩ := Cond.code_spec hnamed hcode
  have hstatic : methM.isStatic = true := Cond.static_spec hnamed hmethM hstat
  obtain ⟨kP, hkP, -⟩ := className_of_methodNamed hnamed
  have hinitP : kP.init = .initialized := Cond.initialized_spec (findClass_of_methodNamed hnamed) hkP hinit
  obtain ⟨vm₁, X₁, hstep₁⟩ := X.invokestatic hexec hown hlink hnamed hmethM hstatic hkP hinitP hy (g := g) hg (argsL := argsL) (rest := rest) (hlen _ hsigM) hstack hdg
  rcases hK m meth c ⟨T.setVm vm₁, locs, cells, slots⟩ { g with stack := rest } (.invokestatic index) mk argsL.toArray X₁ hg hsize hdg hW (X₁.named hnamed) (hpre vm₁ X₁.warmed) with ⟨v, B, X', hpost, hsteps⟩ | ⟨q, B, X', hpost, hsteps⟩
  · exact Or.inl ⟨v, vm₁, B, X₁.warmed, X', hpost, fun target h => hstep₁ _ fun acts => by rw [doInvoke_state]; exact hsteps.trans h⟩
  · exact Or.inr ⟨q, vm₁, B, X₁.warmed, X', hpost, hstep₁ _ fun acts => by rw [doInvoke_state]; exact hsteps⟩
end Calls
theorem vx_cls {s : State} {T : State} {vm₁ : Vm} {E : String} {k : ClassId} (hW : s.WarmedH vm₁) (h : (T.setVm vm₁).vm.findClass E = some k) : s.vm.findClass E = some k := by
  have h1 : vm₁.findClass E = some k := h
  rw [hW.alike.findClass] at h1
  exact h1
/-- the method's frame g, with q thrown over it -/
def vx_W (p : Program) (l : Launch) (e : Env) (R : Room) (s : State) (m : MethodId) (args : Array Value) (below : List Frame) (meth : Method) (c : Code) (H : Heap) (locs : List Loc) (cells slots : Nat) (Q : State → Prop) (g : JFrame) (q : Addr) : Prop :=
  ∀ T : State, T.heap = H → Stand p l e R s m args below meth c T locs cells slots → ∃ t, Steps p.tables e below ((T.setTop g).pushFrame (.throwing q)) t ∧ Q t
def vx_Run (p : Program) (l : Launch) (e : Env) (R : Room) (s : State) (m : MethodId) (args : Array Value) (below : List Frame) (meth : Method) (c : Code) (H : Heap) (locs : List Loc) (cells slots mc ms : Nat) (g : JFrame) (rest : List Value) (Qa : State → Outcome → State → Prop) (XC : String → State → State → Prop) (free : Addr → Prop) : Prop :=
  ∀ T : State, T.heap = H → Stand p l e R s m args below meth c T locs cells slots →
    (∃ (v : Option Value) (st₀ t T' : State) (L : List Loc), st₀.heap = H ∧ Stand p l e R s m args below meth c T' (locs ++ L) (cells + mc) (slots + ms) ∧ (∀ q ∈ L, free q.base) ∧ T'.heap = t.heap ∧ T'.vm = t.vm ∧ Qa st₀ (.returned v) t ∧
      Goes p e below T g T' { g with pc := g.pc + 3, stack := v.toList ++ rest }) ∨
    (∃ (q : Addr) (st₀ t T' : State) (L : List Loc) (E : String) (ce : Cell), st₀.heap = H ∧ Stand p l e R s m args below meth c T' (locs ++ L) (cells + mc) (slots + ms) ∧ (∀ z ∈ L, free z.base) ∧ T'.heap = t.heap ∧ T'.vm = t.vm ∧ XC E st₀ t ∧ t.heap[q]? = some ce ∧ ce.vm = .none ∧ s.vm.findClass E = some ce.cls ∧
      Steps p.tables e below (T.setTop g) ((T'.setTop { g with stack := rest }).pushFrame (.throwing q)))
def vx_X {S : Type} (px : S → Prop) (B : String → S → State → Prop) (A : Nat → Prop) : String → State → State → Prop := fun E st t => ∃ u : S, px u ∧ B E u t ∧ va_F A st t
section Runs
variable {p : Program} {l : Launch} {e : Env} {R : Room} {s : State} {m : MethodId} {args : Array Value} {below : List Frame} {meth : Method} {c : Code} {H : Heap} {locs : List Loc} {cells slots : Nat}
variable {y : MethodName} {bytes cc : ByteArray} {maxL nL mc ms n index : Nat} {ret : Option FieldType} {ws : List Cond} {rm : Room} {Pc : Array Value → State → Prop} {Qc : Array Value → State → Outcome → State → Prop} {XC : String → State → State → Prop} {free : Addr → Prop} {Ts : List Cond} {own C : String} {b : Addr} {As rest : List Value} {g : JFrame}
theorem vx_callBack (cb : CallB R s args own index y bytes maxL ret ws rm mc ms n) (hM : vx_Met l y ws rm Pc Qc XC mc ms free) (hbl : FrameBlind Pc) : vx_Back l R p e below s args y 3 8 (PreOf R mc ms Pc) (PostOf Qc mc ms free) (vx_Post XC mc ms free) := by
  obtain ⟨hrc, hrs, hfr, hlo, hws, hcw, -, hini, -⟩ := cb
  exact vx_back (bytes := bytes) (maxL := maxL) (ret := ret) hM hbl hrc hrs hfr hlo hws hcw (fun a' U hW => word_at hW (Or.inl (by first | rfl | simp [Cond.onTables, Cond.keeps, Cond.steady])) hini)
theorem vx_runV (S : CallFix p m c cc nL s args Ts own) (hM : vx_Met l y ws rm Pc Qc XC mc ms free) (cw : CallW R s args own C index y bytes maxL ret ws rm mc ms n) (hp : PreV s H C b Pc As)
    (hg : g.method = m) (hn : As.length = n) (hsize : g.locals.size = nL) (hstack : g.stack = As.reverse ++ .ref b :: rest) (hW : 2 * g.monitorRoom + (rest.map fun v => v.category).sum ≤ 8) (hdg : decode cc g.pc = .ok (.invokevirtual index, 3)) (hf : cells + mc ≤ R.cells ∧ slots + ms ≤ R.slots) :
    vx_Run p l e R s m args below meth c H locs cells slots mc ms g rest (Qc (Value.ref b :: As).toArray) XC free := by
  have hK : vx_Back l R p e below s args y 3 8 (PreOf R mc ms Pc) (PostOf Qc mc ms free) (vx_Post XC mc ms free) := vx_callBack cw.1 hM hp.1
  obtain ⟨⟨-, -, -, -, -, -, hcode, -, hy, hlen, hl⟩, hin, hse⟩ := cw
  obtain ⟨hx, hb, hml, ho, -⟩ := S
  obtain ⟨-, ⟨cellB, hcB, hoB, hclB⟩, hPc⟩ := hp
  intro T hT X
  rcases vx_callV X hx (C := C) (bytes := bytes) (maxL := maxL) (ret := ret) ho hl hin hse hcode hy hK (by rw [hT]; exact hcB) hoB hclB hg (hsize.trans hml.symm) (argsL := As) (rest := rest) (fun sig h => hn.trans (hlen sig h)) hstack hW (by rw [hb]; exact hdg)
    (fun vm₁ hW₁ => ⟨hf.1, hf.2, hPc (T.setVm vm₁) hT hW₁⟩) with ⟨v, vm₁, ⟨U', l2, c2, s2⟩, hW₁, X', ⟨g', mk, t, L, e1, e2, hq, h1, hL, h2, h3⟩, st⟩ | ⟨q, vm₁, ⟨U', l2, c2, s2⟩, hW₁, X', ⟨g', mk, t, L, E, ce, e1, e2, hq, hce, hcv, hcl, h1, hL, h2, h3⟩, st⟩
  · dsimp only [Pt.U, Pt.locs, Pt.cells, Pt.slots] at X' e1 e2 h1 h2 h3 st
    subst h1; subst h2; subst h3
    exact Or.inl ⟨v, (T.setVm vm₁).calling g' mk (Value.ref b :: As).toArray, t, U', L, hT, X', hL, e1, e2, hq, st⟩
  · dsimp only [Pt.U, Pt.locs, Pt.cells, Pt.slots] at X' e1 e2 h1 h2 h3 st hcl
    subst h1; subst h2; subst h3
    exact Or.inr ⟨q, (T.setVm vm₁).calling g' mk (Value.ref b :: As).toArray, t, U', L, E, ce, hT, X', hL, e1, e2, hq, hce, hcv, vx_cls hW₁ hcl, st⟩
theorem vx_runS (S : CallFix p m c cc nL s args Ts own) (hM : vx_Met l y ws rm Pc Qc XC mc ms free) (cw : CallB R s args own index y bytes maxL ret ws rm mc ms n ∧ (Cond.static y).before args s = true) (hp : PreS s H Pc As)
    (hg : g.method = m) (hn : As.length = n) (hsize : g.locals.size = nL) (hstack : g.stack = As.reverse ++ rest) (hW : 2 * g.monitorRoom + (rest.map fun v => v.category).sum ≤ 8) (hdg : decode cc g.pc = .ok (.invokestatic index, 3)) (hf : cells + mc ≤ R.cells ∧ slots + ms ≤ R.slots) :
    vx_Run p l e R s m args below meth c H locs cells slots mc ms g rest (Qc As.toArray) XC free := by
  have hK : vx_Back l R p e below s args y 3 8 (PreOf R mc ms Pc) (PostOf Qc mc ms free) (vx_Post XC mc ms free) := vx_callBack cw.1 hM hp.1
  obtain ⟨⟨-, -, -, -, -, -, hcode, hini, hy, hlen, hl⟩, hstt⟩ := cw
  obtain ⟨hx, hb, hml, ho, -⟩ := S
  intro T hT X
  rcases vx_callS X hx (bytes := bytes) (maxL := maxL) (ret := ret) ho hl hstt hini hcode hy hK hg (hsize.trans hml.symm) (argsL := As) (rest := rest) (fun sig h => hn.trans (hlen sig h)) hstack hW (by rw [hb]; exact hdg)
    (fun vm₁ hW₁ => ⟨hf.1, hf.2, hp.2 (T.setVm vm₁) hT hW₁⟩) with ⟨v, vm₁, ⟨U', l2, c2, s2⟩, hW₁, X', ⟨g', mk, t, L, e1, e2, hq, h1, hL, h2, h3⟩, st⟩ | ⟨q, vm₁, ⟨U', l2, c2, s2⟩, hW₁, X', ⟨g', mk, t, L, E, ce, e1, e2, hq, hce, hcv, hcl, h1, hL, h2, h3⟩, st⟩
  · dsimp only [Pt.U, Pt.locs, Pt.cells, Pt.slots] at X' e1 e2 h1 h2 h3 st
    subst h1; subst h2; subst h3
    exact Or.inl ⟨v, (T.setVm vm₁).calling g' mk As.toArray, t, U', L, hT, X', hL, e1, e2, hq, st⟩
  · dsimp only [Pt.U, Pt.locs, Pt.cells, Pt.slots] at X' e1 e2 h1 h2 h3 st hcl
    subst h1; subst h2; subst h3
    exact Or.inr ⟨q, (T.setVm vm₁).calling g' mk As.toArray, t, U', L, E, ce, hT, X', hL, e1, e2, hq, hce, hcv, vx_cls hW₁ hcl, st⟩
end Runs
section Rows
variable {p : Program} {l : Launch} {e : Env} {R : Room} {s : State} {m : MethodId} {args : Array Value} {below : List Frame} {meth : Method} {c : Code} {H : Heap} {locs : List Loc} {cells slots : Nat} {Q : State → Prop}
variable {mc ms : Nat} {free : Addr → Prop} {A0 A1 : Nat → Prop} {H0 : Heap} {a : Array Value} {pc : Nat} {ls : Array Slot} {st0 rest : List Value}
theorem vx_keep {st₀ t T' : State} {L : List Loc} (h0 : st₀.heap = H) (e1 : T'.heap = t.heap) (hS : va_S A0 H0 H locs) (hA : ∀ q, q < H.size → A1 q → A0 q) (hf : ∀ q, free q → A0 q) (hL : ∀ q ∈ L, free q.base) (hF : va_F A1 st₀ t) :
    H.size ≤ T'.heap.size ∧ (∀ q : Nat, q < H.size → ¬ A1 q → T'.heap[q]? = H[q]?) ∧ va_S A0 H0 T'.heap (locs ++ L) := by
  obtain ⟨hz, hk⟩ := hF
  rw [h0] at hz hk
  exact ⟨by rw [e1]; exact hz, fun q h1 h2 => by rw [e1]; exact hk q h1 h2,
    ⟨Nat.le_trans hS.1 (by rw [e1]; exact hz), fun q h1 h2 => by rw [e1, hk q (Nat.lt_of_lt_of_le h1 hS.1) (fun z => h2 (hA q (Nat.lt_of_lt_of_le h1 hS.1) z))]; exact hS.2.1 q h1 h2, fun q hq => by
      rcases List.mem_append.mp hq with h | h
      · exact hS.2.2 q h
      · exact hf _ (hL q h)⟩⟩
theorem vx_calli {S SX : Type} {post : Int32 → S → Prop} {px : SX → Prop} {B : S → State → Prop} {BX : String → SX → State → Prop} {AX : Nat → Prop} (hr : vx_Run p l e R s m args below meth c H locs cells slots mc ms (F0 m pc ls st0) rest (va_Qi post B A1 a) (vx_X px BX AX) free) (hS : va_S A0 H0 H locs) (hA : ∀ q, q < H.size → A1 q → A0 q) (hf : ∀ q, free q → A0 q) (hAX : ∀ q, q < H.size → AX q → A0 q)
    (kx : ∀ (E : String) (ce : Cell) (q9 : Addr) (u : SX) (t : State) (H1 : Heap) (locs1 : List Loc), t.heap = H1 → s.vm.Alike t.vm → px u → BX E u t → H.size ≤ H1.size → (∀ q : Nat, q < H.size → ¬ AX q → H1[q]? = H[q]?) → va_S A0 H0 H1 locs1 → H1[q9]? = some ce → ce.vm = .none → s.vm.findClass E = some ce.cls → vx_W p l e R s m args below meth c H1 locs1 (cells + mc) (slots + ms) Q (F0 m pc ls rest) q9)
    (kk : ∀ (r : Int32) (u : S) (t : State) (H1 : Heap) (locs1 : List Loc), t.heap = H1 → s.vm.Alike t.vm → post r u → B u t → H.size ≤ H1.size → (∀ q : Nat, q < H.size → ¬ A1 q → H1[q]? = H[q]?) → va_S A0 H0 H1 locs1 → W p l e R s m args below meth c H1 locs1 (cells + mc) (slots + ms) Q (F0 m (pc + 3) ls (.int r :: rest))) : W p l e R s m args below meth c H locs cells slots Q (F0 m pc ls st0) := by
  intro T hT X
  rcases hr T hT X with ⟨v, st₀, t, T', L, h0, X', hL, e1, e2, ⟨⟨r, u, hv, hp, hb⟩, hF⟩, st⟩ | ⟨q, st₀, t, T', L, E, ce, h0, X', hL, e1, e2, ⟨u, hp, hb, hF⟩, hce, hcv, hcl, st⟩
  · cases hv
    obtain ⟨k1, k2, k3⟩ := vx_keep h0 e1 hS hA hf hL hF
    obtain ⟨t2, a1, b1⟩ := kk r u t T'.heap (locs ++ L) e1.symm (by rw [← e2]; exact X'.warmed.alike) hp hb k1 k2 k3 T' rfl X'
    exact ⟨t2, st t2 a1, b1⟩
  · obtain ⟨k1, k2, k3⟩ := vx_keep h0 e1 hS hAX hf hL hF
    obtain ⟨t2, a1, b1⟩ := kx E ce q u t T'.heap (locs ++ L) e1.symm (by rw [← e2]; exact X'.warmed.alike) hp hb k1 k2 k3 (by rw [e1]; exact hce) hcv hcl T' rfl X'
    exact ⟨t2, st.trans a1, b1⟩
theorem vx_calll {S SX : Type} {post : Int64 → S → Prop} {px : SX → Prop} {B : S → State → Prop} {BX : String → SX → State → Prop} {AX : Nat → Prop} (hr : vx_Run p l e R s m args below meth c H locs cells slots mc ms (F0 m pc ls st0) rest (va_Ql post B A1 a) (vx_X px BX AX) free) (hS : va_S A0 H0 H locs) (hA : ∀ q, q < H.size → A1 q → A0 q) (hf : ∀ q, free q → A0 q) (hAX : ∀ q, q < H.size → AX q → A0 q)
    (kx : ∀ (E : String) (ce : Cell) (q9 : Addr) (u : SX) (t : State) (H1 : Heap) (locs1 : List Loc), t.heap = H1 → s.vm.Alike t.vm → px u → BX E u t → H.size ≤ H1.size → (∀ q : Nat, q < H.size → ¬ AX q → H1[q]? = H[q]?) → va_S A0 H0 H1 locs1 → H1[q9]? = some ce → ce.vm = .none → s.vm.findClass E = some ce.cls → vx_W p l e R s m args below meth c H1 locs1 (cells + mc) (slots + ms) Q (F0 m pc ls rest) q9)
    (kk : ∀ (r : Int64) (u : S) (t : State) (H1 : Heap) (locs1 : List Loc), t.heap = H1 → s.vm.Alike t.vm → post r u → B u t → H.size ≤ H1.size → (∀ q : Nat, q < H.size → ¬ A1 q → H1[q]? = H[q]?) → va_S A0 H0 H1 locs1 → W p l e R s m args below meth c H1 locs1 (cells + mc) (slots + ms) Q (F0 m (pc + 3) ls (.long r :: rest))) : W p l e R s m args below meth c H locs cells slots Q (F0 m pc ls st0) := by
  intro T hT X
  rcases hr T hT X with ⟨v, st₀, t, T', L, h0, X', hL, e1, e2, ⟨⟨r, u, hv, hp, hb⟩, hF⟩, st⟩ | ⟨q, st₀, t, T', L, E, ce, h0, X', hL, e1, e2, ⟨u, hp, hb, hF⟩, hce, hcv, hcl, st⟩
  · cases hv
    obtain ⟨k1, k2, k3⟩ := vx_keep h0 e1 hS hA hf hL hF
    obtain ⟨t2, a1, b1⟩ := kk r u t T'.heap (locs ++ L) e1.symm (by rw [← e2]; exact X'.warmed.alike) hp hb k1 k2 k3 T' rfl X'
    exact ⟨t2, st t2 a1, b1⟩
  · obtain ⟨k1, k2, k3⟩ := vx_keep h0 e1 hS hAX hf hL hF
    obtain ⟨t2, a1, b1⟩ := kx E ce q u t T'.heap (locs ++ L) e1.symm (by rw [← e2]; exact X'.warmed.alike) hp hb k1 k2 k3 (by rw [e1]; exact hce) hcv hcl T' rfl X'
    exact ⟨t2, st.trans a1, b1⟩
theorem vx_callf {S SX : Type} {post : UInt32 → S → Prop} {px : SX → Prop} {B : S → State → Prop} {BX : String → SX → State → Prop} {AX : Nat → Prop} (hr : vx_Run p l e R s m args below meth c H locs cells slots mc ms (F0 m pc ls st0) rest (va_Qf post B A1 a) (vx_X px BX AX) free) (hS : va_S A0 H0 H locs) (hA : ∀ q, q < H.size → A1 q → A0 q) (hf : ∀ q, free q → A0 q) (hAX : ∀ q, q < H.size → AX q → A0 q)
    (kx : ∀ (E : String) (ce : Cell) (q9 : Addr) (u : SX) (t : State) (H1 : Heap) (locs1 : List Loc), t.heap = H1 → s.vm.Alike t.vm → px u → BX E u t → H.size ≤ H1.size → (∀ q : Nat, q < H.size → ¬ AX q → H1[q]? = H[q]?) → va_S A0 H0 H1 locs1 → H1[q9]? = some ce → ce.vm = .none → s.vm.findClass E = some ce.cls → vx_W p l e R s m args below meth c H1 locs1 (cells + mc) (slots + ms) Q (F0 m pc ls rest) q9)
    (kk : ∀ (r : UInt32) (u : S) (t : State) (H1 : Heap) (locs1 : List Loc), t.heap = H1 → s.vm.Alike t.vm → post r u → B u t → H.size ≤ H1.size → (∀ q : Nat, q < H.size → ¬ A1 q → H1[q]? = H[q]?) → va_S A0 H0 H1 locs1 → W p l e R s m args below meth c H1 locs1 (cells + mc) (slots + ms) Q (F0 m (pc + 3) ls (.float r :: rest))) : W p l e R s m args below meth c H locs cells slots Q (F0 m pc ls st0) := by
  intro T hT X
  rcases hr T hT X with ⟨v, st₀, t, T', L, h0, X', hL, e1, e2, ⟨⟨r, u, hv, hp, hb⟩, hF⟩, st⟩ | ⟨q, st₀, t, T', L, E, ce, h0, X', hL, e1, e2, ⟨u, hp, hb, hF⟩, hce, hcv, hcl, st⟩
  · cases hv
    obtain ⟨k1, k2, k3⟩ := vx_keep h0 e1 hS hA hf hL hF
    obtain ⟨t2, a1, b1⟩ := kk r u t T'.heap (locs ++ L) e1.symm (by rw [← e2]; exact X'.warmed.alike) hp hb k1 k2 k3 T' rfl X'
    exact ⟨t2, st t2 a1, b1⟩
  · obtain ⟨k1, k2, k3⟩ := vx_keep h0 e1 hS hAX hf hL hF
    obtain ⟨t2, a1, b1⟩ := kx E ce q u t T'.heap (locs ++ L) e1.symm (by rw [← e2]; exact X'.warmed.alike) hp hb k1 k2 k3 (by rw [e1]; exact hce) hcv hcl T' rfl X'
    exact ⟨t2, st.trans a1, b1⟩
theorem vx_calld {S SX : Type} {post : UInt64 → S → Prop} {px : SX → Prop} {B : S → State → Prop} {BX : String → SX → State → Prop} {AX : Nat → Prop} (hr : vx_Run p l e R s m args below meth c H locs cells slots mc ms (F0 m pc ls st0) rest (va_Qd post B A1 a) (vx_X px BX AX) free) (hS : va_S A0 H0 H locs) (hA : ∀ q, q < H.size → A1 q → A0 q) (hf : ∀ q, free q → A0 q) (hAX : ∀ q, q < H.size → AX q → A0 q)
    (kx : ∀ (E : String) (ce : Cell) (q9 : Addr) (u : SX) (t : State) (H1 : Heap) (locs1 : List Loc), t.heap = H1 → s.vm.Alike t.vm → px u → BX E u t → H.size ≤ H1.size → (∀ q : Nat, q < H.size → ¬ AX q → H1[q]? = H[q]?) → va_S A0 H0 H1 locs1 → H1[q9]? = some ce → ce.vm = .none → s.vm.findClass E = some ce.cls → vx_W p l e R s m args below meth c H1 locs1 (cells + mc) (slots + ms) Q (F0 m pc ls rest) q9)
    (kk : ∀ (r : UInt64) (u : S) (t : State) (H1 : Heap) (locs1 : List Loc), t.heap = H1 → s.vm.Alike t.vm → post r u → B u t → H.size ≤ H1.size → (∀ q : Nat, q < H.size → ¬ A1 q → H1[q]? = H[q]?) → va_S A0 H0 H1 locs1 → W p l e R s m args below meth c H1 locs1 (cells + mc) (slots + ms) Q (F0 m (pc + 3) ls (.double r :: rest))) : W p l e R s m args below meth c H locs cells slots Q (F0 m pc ls st0) := by
  intro T hT X
  rcases hr T hT X with ⟨v, st₀, t, T', L, h0, X', hL, e1, e2, ⟨⟨r, u, hv, hp, hb⟩, hF⟩, st⟩ | ⟨q, st₀, t, T', L, E, ce, h0, X', hL, e1, e2, ⟨u, hp, hb, hF⟩, hce, hcv, hcl, st⟩
  · cases hv
    obtain ⟨k1, k2, k3⟩ := vx_keep h0 e1 hS hA hf hL hF
    obtain ⟨t2, a1, b1⟩ := kk r u t T'.heap (locs ++ L) e1.symm (by rw [← e2]; exact X'.warmed.alike) hp hb k1 k2 k3 T' rfl X'
    exact ⟨t2, st t2 a1, b1⟩
  · obtain ⟨k1, k2, k3⟩ := vx_keep h0 e1 hS hAX hf hL hF
    obtain ⟨t2, a1, b1⟩ := kx E ce q u t T'.heap (locs ++ L) e1.symm (by rw [← e2]; exact X'.warmed.alike) hp hb k1 k2 k3 (by rw [e1]; exact hce) hcv hcl T' rfl X'
    exact ⟨t2, st.trans a1, b1⟩
theorem vx_callv {S SX : Type} {post : S → Prop} {px : SX → Prop} {B : S → State → Prop} {BX : String → SX → State → Prop} {AX : Nat → Prop} (hr : vx_Run p l e R s m args below meth c H locs cells slots mc ms (F0 m pc ls st0) rest (va_Qv post B A1 a) (vx_X px BX AX) free) (hS : va_S A0 H0 H locs) (hA : ∀ q, q < H.size → A1 q → A0 q) (hf : ∀ q, free q → A0 q) (hAX : ∀ q, q < H.size → AX q → A0 q)
    (kx : ∀ (E : String) (ce : Cell) (q9 : Addr) (u : SX) (t : State) (H1 : Heap) (locs1 : List Loc), t.heap = H1 → s.vm.Alike t.vm → px u → BX E u t → H.size ≤ H1.size → (∀ q : Nat, q < H.size → ¬ AX q → H1[q]? = H[q]?) → va_S A0 H0 H1 locs1 → H1[q9]? = some ce → ce.vm = .none → s.vm.findClass E = some ce.cls → vx_W p l e R s m args below meth c H1 locs1 (cells + mc) (slots + ms) Q (F0 m pc ls rest) q9)
    (kk : ∀ (u : S) (t : State) (H1 : Heap) (locs1 : List Loc), t.heap = H1 → s.vm.Alike t.vm → post u → B u t → H.size ≤ H1.size → (∀ q : Nat, q < H.size → ¬ A1 q → H1[q]? = H[q]?) → va_S A0 H0 H1 locs1 → W p l e R s m args below meth c H1 locs1 (cells + mc) (slots + ms) Q (F0 m (pc + 3) ls (rest))) : W p l e R s m args below meth c H locs cells slots Q (F0 m pc ls st0) := by
  intro T hT X
  rcases hr T hT X with ⟨v, st₀, t, T', L, h0, X', hL, e1, e2, ⟨⟨u, hv, hp, hb⟩, hF⟩, st⟩ | ⟨q, st₀, t, T', L, E, ce, h0, X', hL, e1, e2, ⟨u, hp, hb, hF⟩, hce, hcv, hcl, st⟩
  · cases hv
    obtain ⟨k1, k2, k3⟩ := vx_keep h0 e1 hS hA hf hL hF
    obtain ⟨t2, a1, b1⟩ := kk u t T'.heap (locs ++ L) e1.symm (by rw [← e2]; exact X'.warmed.alike) hp hb k1 k2 k3 T' rfl X'
    exact ⟨t2, st t2 a1, b1⟩
  · obtain ⟨k1, k2, k3⟩ := vx_keep h0 e1 hS hAX hf hL hF
    obtain ⟨t2, a1, b1⟩ := kx E ce q u t T'.heap (locs ++ L) e1.symm (by rw [← e2]; exact X'.warmed.alike) hp hb k1 k2 k3 (by rw [e1]; exact hce) hcv hcl T' rfl X'
    exact ⟨t2, st.trans a1, b1⟩
/-- caught by the row x of this method's table; the rows ahead don't take it -/
theorem vx_catch {own name : String} {E : String} {ce : Cell} {q : Addr} (hown : s.vm.findClass own = some m.cls) (pre : List ExceptionTableEntry) (x : ExceptionTableEntry) (suf : List ExceptionTableEntry) (hsplit : c.exceptionTable.toList = pre ++ x :: suf)
    (hpass : ∀ z ∈ pre, covers z pc = false ∨ (z.catchType ≠ 0 ∧ ∃ nm : String, (Cond.classLink own z.catchType nm).before args s = true ∧ va_Nc E nm s)) (hx : covers x pc = true) (h0 : x.catchType ≠ 0)
    (hlink : (Cond.classLink own x.catchType name).before args s = true) (hcast : (Cond.castable E name).before args s = true) (hcell : H[q]? = some ce) (hv : ce.vm = .none) (hcl : s.vm.findClass E = some ce.cls)
    (kk : W p l e R s m args below meth c H locs cells slots Q (F0 m x.handlerPc ls [.ref q])) : vx_W p l e R s m args below meth c H locs cells slots Q (F0 m pc ls rest) q := by
  intro T hT X
  have hpl : e.platform.magicAccessors = ({} : Platform).magicAccessors := by rw [X.admits.platform]
  obtain ⟨c3, c4, hc3, hc4, hasg⟩ := Cond.castable_spec hcast
  cases Option.some.inj (hc3.symm.trans hcl)
  obtain ⟨c5, hc5, hcl5⟩ := Cond.classLink_spec hown hlink e.platform hpl
  cases Option.some.inj (hc4.symm.trans hc5)
  obtain ⟨vm', X', st⟩ := X.thenCaughtThrough q (g := F0 m pc ls rest) rfl (Steps.refl _) (by rw [hT]; exact hcell) (by rw [hv]; rfl) (by obtain ⟨k9, h9, -⟩ := Vm.findClass_spec hcl; exact ⟨k9, h9⟩) pre x suf hsplit
    (fun z hz => by
      rcases hpass z hz with h | ⟨hz0, nm, hl1, hn1⟩
      · exact Or.inl h
      · obtain ⟨c6, hc6, hcl6⟩ := Cond.classLink_spec hown hl1 e.platform hpl
        obtain ⟨a8, b8, h1, h2, h3⟩ := hn1
        cases Option.some.inj (h1.symm.trans hcl)
        cases Option.some.inj (h2.symm.trans hc6)
        exact Or.inr ⟨hz0, _, hcl6, h3⟩) hx (Or.inr ⟨h0, c4, hcl5, hasg⟩)
  obtain ⟨t, a1, b1⟩ := kk (T.setVm vm') hT X'
  exact ⟨t, st.trans a1, b1⟩
end Rows
section Ends
variable {p : Program} {l : Launch} {e : Env} {R : Room} {s : State} {m : MethodId} {args : Array Value} {below : List Frame} {meth : Method} {c : Code} {H : Heap} {locs : List Loc} {cells slots : Nat} {Q : State → Prop}
variable {mc ms : Nat} {free : Addr → Prop} {A0 A1 : Nat → Prop} {H0 : Heap} {a : Array Value} {ls : Array Slot} {st0 rest : List Value}
variable {Qc : Array Value → State → Outcome → State → Prop} {XC : String → State → State → Prop}
/-- what a body that may throw owes at its end -/
def vx_MQ (below : List Frame) (Qc : Array Value → State → Outcome → State → Prop) (XC : String → State → State → Prop) (a : Array Value) (s : State) (mc ms : Nat) (free : Addr → Prop) : State → Prop := fun t =>
  ∃ o, t.status = .running ∧ Ended t below o ∧ vx_Q Qc XC mc ms free a s o t
theorem vx_ret {g : JFrame} {mc ms : Nat} (k : W p l e R s m args below meth c H locs cells slots (MQ below Qc args s mc ms free) g) : W p l e R s m args below meth c H locs cells slots (vx_MQ below Qc XC args s mc ms free) g := by
  intro T hT X
  obtain ⟨t, a1, o, b1, b2, b3, b4⟩ := k T hT X
  exact ⟨t, a1, o, b1, b2, Or.inl ⟨b3, b4⟩⟩
/-- not caught here: it goes on to the caller -/
theorem vx_widen {g : JFrame} {q : Addr} {k n : Nat} (h1 : cells ≤ k) (h2 : slots ≤ n) (kk : vx_W p l e R s m args below meth c H locs k n Q g q) : vx_W p l e R s m args below meth c H locs cells slots Q g q := fun T hT X => kk T hT (stand_widen X h1 h2)
theorem vx_out {pc : Nat} {E : String} {ce : Cell} {q : Addr} {mc ms : Nat} (hout : ∀ x ∈ c.exceptionTable.toList, covers x pc = false) (hlocks : meth.locks = false) (hcell : H[q]? = some ce) (hv : ce.vm = .none) (hcl : s.vm.findClass E = some ce.cls)
    (hx : ∀ t : State, t.heap = H → s.vm.Alike t.vm → XC E s t) (hf : ∀ z ∈ locs, free z.base) (hc : cells ≤ mc) (hs : slots ≤ ms) :
    vx_W p l e R s m args below meth c H locs cells slots (vx_MQ below Qc XC args s mc ms free) (F0 m pc ls rest) q := by
  intro T hT X
  obtain ⟨st1, hrun, hend, hW, hsm⟩ := X.leaveThrown q (g := F0 m pc ls rest) rfl rfl rfl hout hlocks
  have hcell9 : (T.setFrames (.throwing q :: below)).heap[q]? = some ce := by
    show T.heap[q]? = some ce
    rw [hT]; exact hcell
  exact ⟨_, st1, .threw q, hrun, hend, Or.inr ⟨q, rfl, E, ce, locs, hx _ hT hW.alike, hcell9, hv, hcl, hW, hsm.mono hc hs, hf⟩⟩
theorem vx_frame {U : State} {k n : Nat} (h : s.sameButNew ({ U with vm := s.vm } : State) locs k n) : s.heap.size ≤ U.heap.size ∧ ∀ q : Nat, q < s.heap.size → (∀ z ∈ locs, z.base ≠ q) → U.heap[q]? = s.heap[q]? := by
  obtain ⟨-, h2, -, -, -, h6⟩ := h
  refine ⟨h2, fun q hq hz => ?_⟩
  obtain ⟨c9, e1, e2, e3, e4⟩ := h6 q _ (Array.getElem?_eq_getElem hq)
  have hs : c9.slots = (s.heap[q]).slots := Array.ext_getElem? fun i => e4 i fun hm => hz _ hm rfl
  have h9 : c9 = s.heap[q] := by
    rw [hs] at e2
    exact e2
  have e5 : U.heap[q]? = some c9 := e1
  rw [e5, h9, Array.getElem?_eq_getElem hq]
/-- the words of a throw but the four that speak of the heap -/
def vx_no (w : Cond) : Bool := decide (w ≠ .isRef (.static Bundle.tN "UNASSIGNED_STACK" Bundle.steD)) && decide (w ≠ .isRef (.static Bundle.tN "SUPPRESSED_SENTINEL" Bundle.listD)) && decide (w ≠ .laysStatic Bundle.tN "UNASSIGNED_STACK" Bundle.steD) && decide (w ≠ .laysStatic Bundle.tN "SUPPRESSED_SENTINEL" Bundle.listD)
def vx_at0 (own : String) (ic : Nat) (X : String) (names : List String) : List Cond := (Bundle.ownAtoms0 own ic X names).filter vx_no
def vx_atS (own : String) (ic : Nat) (X : String) (names : List String) : List Cond := (Bundle.ownAtoms own ic X names).filter vx_no
/-- a word that the tables alone decide, or a good one -/
def vx_ot (w : Cond) : Bool := w.onTables || goodWord w
theorem vx_ot_at {args a' : Array Value} {s U : State} {w : Cond} (hW : s.WarmedH U.vm) (hvm : s.vm = U.vm) (hg : vx_ot w = true) (h : w.before args s = true) : w.before a' U = true := by
  simp only [vx_ot, Bool.or_eq_true] at hg
  rcases hg with hg | hg
  · exact va_tabs hg hvm h
  · exact word_at hW (good_of_word hg) h
/-- a list's words: the good ones out of the method's own list, the others by premises of their own -/
theorem vx_hat {args : Array Value} {s : State} {L B : List Cond} (h1 : ∀ w ∈ L.filter goodWord, w.before args s = true) (h2 : ∀ w ∈ L.filter (fun w => !goodWord w), w ∈ B) (h3 : ∀ w ∈ B, w.before args s = true) : ∀ w ∈ L, w.before args s = true := by
  intro w hw
  by_cases g : goodWord w = true
  · exact h1 w (List.mem_filter.mpr ⟨hw, g⟩)
  · refine h3 w (h2 w (List.mem_filter.mpr ⟨hw, ?_⟩))
    show (!goodWord w) = true
    cases hgw : goodWord w
    · rfl
    · exact absurd hgw g
theorem vx_c {args : Array Value} {s : State} {w : Cond} {B : List Cond} (h : w.before args s = true) (t : ∀ w ∈ B, w.before args s = true) : ∀ w' ∈ w :: B, w'.before args s = true := fun w' h' => (List.mem_cons.mp h').elim (fun e => by rw [e]; exact h) (t w')
theorem vx_n {args : Array Value} {s : State} : ∀ w ∈ ([] : List Cond), w.before args s = true := fun _ h => nomatch h
theorem vx_own {args : Array Value} {s : State} {L : List Cond} (h1 : ∀ w ∈ L.filter vx_no, w.before args s = true)
    (hU : (Cond.isRef (.static Bundle.tN "UNASSIGNED_STACK" Bundle.steD)).before args s = true) (hN : (Cond.isRef (.static Bundle.tN "SUPPRESSED_SENTINEL" Bundle.listD)).before args s = true)
    (lU : (Cond.laysStatic Bundle.tN "UNASSIGNED_STACK" Bundle.steD).before args s = true) (lN : (Cond.laysStatic Bundle.tN "SUPPRESSED_SENTINEL" Bundle.listD).before args s = true) : ∀ w ∈ L, w.before args s = true := by
  intro w hw
  by_cases e1 : w = .isRef (.static Bundle.tN "UNASSIGNED_STACK" Bundle.steD)
  · rw [e1]; exact hU
  · by_cases e2 : w = .isRef (.static Bundle.tN "SUPPRESSED_SENTINEL" Bundle.listD)
    · rw [e2]; exact hN
    · by_cases e3 : w = .laysStatic Bundle.tN "UNASSIGNED_STACK" Bundle.steD
      · rw [e3]; exact lU
      · by_cases e4 : w = .laysStatic Bundle.tN "SUPPRESSED_SENTINEL" Bundle.listD
        · rw [e4]; exact lN
        · exact h1 w (List.mem_filter.mpr ⟨hw, by unfold vx_no; rw [decide_eq_true e1, decide_eq_true e2, decide_eq_true e3, decide_eq_true e4]; rfl⟩)
/-- where a static field lies, its class's statics cell in H -/
def vx_L (C n d : String) (A : Nat → Prop) (U : State) (H : Heap) : Prop := ∃ (c : ClassId) (k : Class) (i : Nat) (f : Field) (a : Nat) (cell : Cell), U.vm.findClass C = some c ∧ U.fieldFound? C n d = some (c, k, i, f) ∧ f.isStatic = true ∧ k.statics = some a ∧ H[a]? = some cell ∧ cell.vm.isStatics = true ∧ cell.cls = c ∧ f.slot < cell.slots.size ∧ k.staticTypes[f.slot]? = some f.type ∧ ¬ A a
theorem vx_L.moved {C n d : String} {A : Nat → Prop} {u U : State} {H : Heap} (hvm : u.vm.Alike U.vm) (h : vx_L C n d A u H) : vx_L C n d A U H := by
  obtain ⟨c, k, i, f, a, cell, h1, h2, h3, h4, h5, h6, h7, h8, h9, h10⟩ := h
  obtain ⟨k', hi', he⟩ := State.fieldFound?_setVm hvm h2
  exact ⟨c, k', i, f, a, cell, by rw [hvm.findClass]; exact h1, hi', h3, by rw [he]; exact h4, h5, h6, h7, h8, by rw [he]; exact h9, h10⟩
theorem vx_L.kept {C n d : String} {A : Nat → Prop} {U : State} {H H1 : Heap} (h : vx_L C n d A U H) (hq : ∀ a : Nat, a < H.size → ¬ A a → H1[a]? = H[a]?) : vx_L C n d A U H1 := by
  obtain ⟨c, k, i, f, a, cell, h1, h2, h3, h4, h5, h6, h7, h8, h9, h10⟩ := h
  exact ⟨c, k, i, f, a, cell, h1, h2, h3, h4, by rw [hq a (Array.getElem?_eq_some_iff.mp h5).1 h10]; exact h5, h6, h7, h8, h9, h10⟩
theorem vx_L.narrow {C n d : String} {A B : Nat → Prop} {U : State} {H : Heap} (h : vx_L C n d A U H) (hAB : ∀ q, B q → A q) : vx_L C n d B U H := by
  obtain ⟨c, k, i, f, a, cell, h1, h2, h3, h4, h5, h6, h7, h8, h9, h10⟩ := h
  exact ⟨c, k, i, f, a, cell, h1, h2, h3, h4, h5, h6, h7, h8, h9, fun z => h10 (hAB _ z)⟩
theorem vx_L.word {C n d : String} {A : Nat → Prop} {s : State} {args : Array Value} (h : vx_L C n d A s s.heap) : (Cond.laysStatic C n d).before args s = true := by
  obtain ⟨c, k, i, f, a, cell, h1, h2, h3, h4, h5, h6, h7, h8, h9, -⟩ := h
  show (Cond.laysStatic C n d).holds args s none s [] = true
  exact Cond.laysStatic_of h1 h2 h3 h4 h5 h6 h7 h8 h9
/-- .. and what it holds: null or some reference -/
def vx_Zq (C n d : String) (A : Nat → Prop) (U : State) (H : Heap) : Prop := va_Zq C n d A U H ∧ vx_L C n d A U H
theorem vx_Zq.moved {C n d : String} {A : Nat → Prop} {u U : State} {H : Heap} (hvm : u.vm.Alike U.vm) (h : vx_Zq C n d A u H) : vx_Zq C n d A U H := ⟨va_Zq.moved hvm h.1, vx_L.moved hvm h.2⟩
theorem vx_Zq.kept {C n d : String} {A : Nat → Prop} {U : State} {H H1 : Heap} (h : vx_Zq C n d A U H) (hq : ∀ a : Nat, a < H.size → ¬ A a → H1[a]? = H[a]?) : vx_Zq C n d A U H1 := ⟨va_Zq.kept h.1 hq, vx_L.kept h.2 hq⟩
theorem vx_Zq.narrow {C n d : String} {A B : Nat → Prop} {U : State} {H : Heap} (h : vx_Zq C n d A U H) (hAB : ∀ q, B q → A q) : vx_Zq C n d B U H := ⟨va_Zq.narrow h.1 hAB, vx_L.narrow h.2 hAB⟩
theorem vx_Zqof {args : Array Value} {s : State} {C n d : String} {A : Nat → Prop} (hl : (Cond.laysStatic C n d).before args s = true) (hini : (Cond.initialized C).before args s = true) (h : (Cond.isRef (.static C n d)).before args s = true) (hA : ∀ a : Nat, a < s.heap.size → ¬ A a) : vx_Zq C n d A s s.heap := by
  refine ⟨va_Zqof hl hini h hA, ?_⟩
  obtain ⟨c, k, i, f, a, cell, h1, h2, h3, h4, h5, h6, h7, h8, h9⟩ := Cond.laysStatic_spec hl
  exact ⟨c, k, i, f, a, cell, h1, h2, h3, h4, h5, h6, h7, h8, h9, hA a (Array.getElem?_eq_some_iff.mp h5).1⟩
theorem vx_isRef {C n d : String} {v : Value} {A : Nat → Prop} {s : State} {args : Array Value} (h : va_Z C n d v A s s.heap) (hv : v.isRef = true) : (Cond.isRef (.static C n d)).before args s = true := by
  obtain ⟨cf, kf, fi, f, a, cell, h1, h2, h3, h4, h5, h6, h7, -⟩ := h
  have he : (Term.static C n d).eval args s none [] s = some v := by
    simp [Term.eval, State.fieldNamed?, h1, h2, h4, h5, h6, h7]
  simp only [Cond.before, Cond.holds, Cond.value, he]
  cases v <;> simp_all [Value.isRef]
theorem vx_isRefq {C n d : String} {A : Nat → Prop} {s : State} {args : Array Value} (h : va_Zq C n d A s s.heap) : (Cond.isRef (.static C n d)).before args s = true := by
  rcases h with h | ⟨t, h⟩
  · exact vx_isRef h rfl
  · exact vx_isRef h rfl
/-- the same frame, seen from here: as if the method were called anew in this heap -/
theorem vx_rebase {T : State} (X : Stand p l e R s m args below meth c T locs cells slots) {R' : Room} (hf : R'.frames ≤ R.frames) (hl : R'.locals ≤ R.locals) (hc : cells + R'.cells ≤ R.cells) (hs : slots + R'.slots ≤ R.slots) :
    Stand p l e R' ((T.setVm s.vm).setFrames (.invoking m args :: below)) m args below meth c T [] 0 0 := by
  have htop : (T.setVm s.vm).topJava?.isSome := X.here.top
  have hF : ((T.setVm s.vm).setFrames (.invoking m args :: below)).frames = .invoking m args :: below := State.frames_setFrames _ (State.cur_lt_of_top htop)
  obtain ⟨g₀, hg0⟩ := Option.isSome_iff_exists.mp htop
  obtain ⟨r, hr⟩ := State.topJava?_eq_some.mp hg0
  have hl9 : e.platform.stackLimits (T.setVm s.vm).me = e.platform.stackLimits s.me := X.limits
  have hb9 : (T.setVm s.vm).me.stackBytes = s.me.stackBytes := X.bytes
  refine ⟨X.admits, X.cas, X.clock, hF, ?_, X.hears, X.method, X.code, X.here, X.tail, X.warmed, ?_, ?_, ?_⟩
  · have h := X.room
    have hU : ((T.setVm s.vm).setFrames (.invoking m args :: below)).localsInUse = s.localsInUse := by
      rw [State.localsInUse_invoking hF (meth := meth) (c := c) X.method X.code, State.localsInUse_invoking X.frames X.method X.code]
    simp only [State.hasRoom, Bool.and_eq_true, decide_eq_true_eq] at h ⊢
    obtain ⟨⟨⟨⟨h1, h2, h3, h4, h5, h6⟩, h7⟩, h8⟩, h9⟩ := h
    rw [X.frames, List.length_cons] at h2 h3
    have q1 := X.heapSize
    have q2 := X.used
    simp only [hF, hU, List.length_cons, State.stackLimits_setFrames, State.stackBytes_setFrames, hl9, hb9]
    refine ⟨⟨⟨⟨by omega, by omega, by omega, by omega, by omega, h6⟩, ?_⟩, ?_⟩, X.book⟩
    · show T.heap.size + R'.cells ≤ e.platform.maxCells
      omega
    · show T.slotsUsed + R'.slots ≤ e.platform.maxSlots
      omega
  · rw [State.stackLimits_setFrames]; rfl
  · rw [State.stackBytes_setFrames]; rfl
  · refine ⟨?_, Nat.le_refl _, Nat.le_refl _, ?_, ?_, fun a c9 h9 => ⟨c9, h9, rfl, rfl, fun _ _ => rfl⟩⟩
    · obtain ⟨t, ht, -⟩ := State.frames_cons hr
      show T.setVm s.vm = { ((T.setVm s.vm).setFrames (.invoking m args :: below)).setFrames (T.setVm s.vm).frames with heap := T.heap, slotsUsed := T.slotsUsed }
      rw [State.setFrames_setFrames, State.setFrames_self ht]
      rfl
    · show T.slotsUsed = T.slotsUsed + ((T.heap.toList.drop T.heap.size).map (·.slots.size)).sum
      rw [List.drop_eq_nil_of_le (Nat.le_of_eq Array.length_toList)]
      rfl
    · show ((T.heap.toList.drop T.heap.size).map (·.slots.size)).sum ≤ 0
      rw [List.drop_eq_nil_of_le (Nat.le_of_eq Array.length_toList)]
      exact Nat.le_refl _
/-- 'throw new E()': new; dup; invokespecial; athrow -/
theorem vx_throw0 {cc : ByteArray} {pc : Nat} (hexec : p.tables.exec = Jvm.exec) (hb : c.code = cc) (hl : l.stackTraces = false) {own cls : String} {names : List String} {ik ic mc ms : Nat} {A : Nat → Prop}
    (hown : s.vm.findClass own = some m.cls) (hcls : Bundle.fit cls = true) (hnames : ∀ n ∈ names, Bundle.fit n = true)
    (hk : (Cond.classLink own ik cls).before args s = true) (hini : (Cond.initialized cls).before args s = true) (hat : ∀ w ∈ vx_at0 own ic cls names, w.before args s = true)
    (hgood : ∀ w ∈ Cond.classLink own ik cls :: Cond.initialized cls :: vx_at0 own ic cls names, vx_ot w = true)
    (hU : vx_Zq Bundle.tN "UNASSIGNED_STACK" Bundle.steD A s s.heap) (hN : vx_Zq Bundle.tN "SUPPRESSED_SENTINEL" Bundle.listD A s s.heap) (hS : va_S A s.heap H locs) (hsize : ls.size = c.maxLocals)
    (d0 : decode cc pc = .ok (.new ik, 3)) (d3 : decode cc (pc + 3) = .ok (.dup, 1)) (d4 : decode cc (pc + 4) = .ok (.invokespecial ic, 3)) (d7 : decode cc (pc + 7) = .ok (.athrow, 1))
    (hout : ∀ x ∈ c.exceptionTable.toList, covers x (pc + 7) = false)
    (hRframes : names.length + 3 < R.frames) (hRlocals : (rest.map fun v => v.category).sum + (13 * (names.length + 1) + 42) ≤ R.locals) (hRcells : cells + 1 ≤ R.cells) (hRslots : slots + 6 ≤ R.slots) (hlocks : meth.locks = false)
    (hx : ∀ t : State, s.vm.Alike t.vm → H.size ≤ t.heap.size → (∀ q : Nat, q < H.size → t.heap[q]? = H[q]?) → XC cls s t)
    (hf : ∀ z ∈ locs, free z.base) (hc : cells + 1 ≤ mc) (hs : slots + 6 ≤ ms) :
    W p l e R s m args below meth c H locs cells slots (vx_MQ below Qc XC args s mc ms free) (F0 m pc ls rest) := by
  intro T hT X
  have htr : e.platform.stackTraces = false := (show e.platform.stackTraces = l.stackTraces by rw [X.admits.platform]).trans hl
  have Y := vx_rebase X (R' := { frames := R.frames, locals := R.locals, cells := 1, slots := 6 }) (Nat.le_refl _) (Nat.le_refl _) hRcells hRslots
  obtain ⟨s', hA⟩ : ∃ z, z = (T.setVm s.vm).setFrames (.invoking m args :: below) := ⟨_, rfl⟩
  rw [← hA] at Y
  have hvm : s'.vm = s.vm := by rw [hA]; rfl
  have hhp : s'.heap = H := by rw [hA]; exact hT
  have hW0 : s.WarmedH s'.vm := by rw [hvm]; exact State.WarmedH.refl s
  have hat' : ∀ w ∈ vx_at0 own ic cls names, w.before args s' = true := fun w hw => vx_ot_at hW0 hvm.symm (hgood w (List.mem_cons_of_mem _ (List.mem_cons_of_mem _ hw))) (hat w hw)
  have hk' : (Cond.classLink own ik cls).before args s' = true := vx_ot_at hW0 hvm.symm (hgood _ List.mem_cons_self) hk
  have hini' : (Cond.initialized cls).before args s' = true := vx_ot_at hW0 hvm.symm (hgood _ (List.mem_cons_of_mem _ List.mem_cons_self)) hini
  have hU' : vx_Zq Bundle.tN "UNASSIGNED_STACK" Bundle.steD A s' s'.heap := by rw [hhp]; exact vx_Zq.moved hW0.alike (hU.kept hS.2.1)
  have hN' : vx_Zq Bundle.tN "SUPPRESSED_SENTINEL" Bundle.listD A s' s'.heap := by rw [hhp]; exact vx_Zq.moved hW0.alike (hN.kept hS.2.1)
  have h : ∀ w ∈ Bundle.ownAtoms0 own ic cls names, w.before args s' = true := vx_own hat' (vx_isRefq hU'.1) (vx_isRefq hN'.1) hU'.2.word hN'.2.word
  have hown' : s'.vm.findClass own = some m.cls := by rw [hvm]; exact hown
  have hins : (Cond.instantiable cls 6).before args s' = true := h _ (by simp [Bundle.ownAtoms0])
  obtain ⟨vm₁, cX, kX, hfX, hkX, -, -, X₁, st1⟩ := Y.newCold hexec (own := own) (C := cls) (index := ik) (n := 6) hown' hk' hins hini'
    (g := F0 m pc ls rest) rfl (by rw [hb]; exact d0) (Nat.le_refl _) (Nat.le_refl _)
  generalize hT1 : (T.setVm vm₁).pushCell { cls := cX, slots := kX.instanceTypes.map defaultValue, vm := .none } = T1 at X₁ st1
  have hcat : (Value.ref T.heap.size).category = 1 := rfl
  have hcellA : T1.heap[T.heap.size]? = some (freshCell cX kX) := by rw [← hT1]; exact State.heap_pushCell_size _ _
  have d3' : decode c.code (pc + 3) = .ok (.dup, 1) := by rw [hb]; exact d3
  obtain ⟨U, hsteps, hrun, hend, hW, hsame, ce, hce, hO⟩ := X₁.ctorThrow0 hexec htr (own := own) (cls := cls) (names := names) (ic := ic) hown' hcls hnames h (fun x hx => nomatch hx) hfX hkX hcellA (by rw [hhp, hT]; exact Nat.le_refl _)
    (g := { method := m, pc := pc + 4, locals := ls, stack := .ref T.heap.size :: .ref T.heap.size :: rest, locked := none }) rfl hsize rfl rfl (rest := rest) rfl
    (by rw [hb]; exact d4) (by rw [hb]; exact d7) hout hRframes (by simp only [List.map_cons, List.sum_cons, hcat]; omega) hlocks
  obtain ⟨f1, f2⟩ := vx_frame hsame
  rw [hhp] at f1 f2
  have hWs : s.WarmedH U.vm := State.WarmedH.trans hW0 hW
  have hcl : s.vm.findClass cls = some ce.cls := by
    have h9 := hO.cls
    rw [hvm] at h9
    exact h9
  have hall : s.sameButNew ({ U with vm := s.vm } : State) locs mc ms := by
    subst hA
    obtain ⟨e1, e2⟩ := hsame
    rw [State.setFrames_setFrames] at e1
    have h2 : (T.setVm s.vm).sameButNew ({ U with vm := s.vm } : State) [] (0 + 1) (0 + 6) := ⟨e1, e2⟩
    have h3 := X.same.trans h2
    rw [List.append_nil] at h3
    exact h3.mono hc hs
  refine ⟨U, ?_, .threw T.heap.size, hrun, hend, Or.inr ⟨T.heap.size, rfl, cls, ce, locs, hx U hWs.alike f1 (fun q hq => f2 q hq (fun z hz => nomatch hz)), hce, hO.vm, hcl, hWs, hall, hf⟩⟩
  refine st1 _ ?_
  show Steps p.tables e below (T1.setTop { method := m, pc := pc + 3, locals := ls, stack := .ref T.heap.size :: rest, locked := none }) _
  jvm_step X₁.here [X₁.here.top, hexec, d3', Value.category]
  exact hsteps
/-- 'throw new E("text")': new; dup; ldc; invokespecial; athrow -/
theorem vx_throwS {cc : ByteArray} {pc : Nat} (hexec : p.tables.exec = Jvm.exec) (hb : c.code = cc) (hl : l.stackTraces = false) {own cls text : String} {names : List String} {ik is ic mc ms sa : Nat} {A : Nat → Prop}
    (hown : s.vm.findClass own = some m.cls) (hcls : Bundle.fit cls = true) (hnames : ∀ n ∈ names, Bundle.fit n = true)
    (hk : (Cond.classLink own ik cls).before args s = true) (hini : (Cond.initialized cls).before args s = true) (hstr : vk_R own is text sa s) (hat : ∀ w ∈ vx_atS own ic cls names, w.before args s = true)
    (hgood : ∀ w ∈ Cond.classLink own ik cls :: Cond.initialized cls :: vx_atS own ic cls names, vx_ot w = true)
    (hU : vx_Zq Bundle.tN "UNASSIGNED_STACK" Bundle.steD A s s.heap) (hN : vx_Zq Bundle.tN "SUPPRESSED_SENTINEL" Bundle.listD A s s.heap) (hS : va_S A s.heap H locs) (hsize : ls.size = c.maxLocals)
    (d0 : decode cc pc = .ok (.new ik, 3)) (d3 : decode cc (pc + 3) = .ok (.dup, 1)) (d4 : decode cc (pc + 4) = .ok (.ldc is, 2)) (d6 : decode cc (pc + 6) = .ok (.invokespecial ic, 3)) (d9 : decode cc (pc + 9) = .ok (.athrow, 1))
    (hout : ∀ x ∈ c.exceptionTable.toList, covers x (pc + 9) = false)
    (hRframes : names.length + 3 < R.frames) (hRlocals : (rest.map fun v => v.category).sum + (13 * (names.length + 1) + 43) ≤ R.locals) (hRcells : cells + 1 ≤ R.cells) (hRslots : slots + 6 ≤ R.slots) (hlocks : meth.locks = false)
    (hx : ∀ t : State, s.vm.Alike t.vm → H.size ≤ t.heap.size → (∀ q : Nat, q < H.size → t.heap[q]? = H[q]?) → XC cls s t)
    (hf : ∀ z ∈ locs, free z.base) (hc : cells + 1 ≤ mc) (hs : slots + 6 ≤ ms) :
    W p l e R s m args below meth c H locs cells slots (vx_MQ below Qc XC args s mc ms free) (F0 m pc ls rest) := by
  intro T hT X
  have htr : e.platform.stackTraces = false := (show e.platform.stackTraces = l.stackTraces by rw [X.admits.platform]).trans hl
  have Y := vx_rebase X (R' := { frames := R.frames, locals := R.locals, cells := 1, slots := 6 }) (Nat.le_refl _) (Nat.le_refl _) hRcells hRslots
  obtain ⟨s', hA⟩ : ∃ z, z = (T.setVm s.vm).setFrames (.invoking m args :: below) := ⟨_, rfl⟩
  rw [← hA] at Y
  have hvm : s'.vm = s.vm := by rw [hA]; rfl
  have hhp : s'.heap = H := by rw [hA]; exact hT
  have hW0 : s.WarmedH s'.vm := by rw [hvm]; exact State.WarmedH.refl s
  have hat' : ∀ w ∈ vx_atS own ic cls names, w.before args s' = true := fun w hw => vx_ot_at hW0 hvm.symm (hgood w (List.mem_cons_of_mem _ (List.mem_cons_of_mem _ hw))) (hat w hw)
  have hk' : (Cond.classLink own ik cls).before args s' = true := vx_ot_at hW0 hvm.symm (hgood _ List.mem_cons_self) hk
  have hini' : (Cond.initialized cls).before args s' = true := vx_ot_at hW0 hvm.symm (hgood _ (List.mem_cons_of_mem _ List.mem_cons_self)) hini
  have hU' : vx_Zq Bundle.tN "UNASSIGNED_STACK" Bundle.steD A s' s'.heap := by rw [hhp]; exact vx_Zq.moved hW0.alike (hU.kept hS.2.1)
  have hN' : vx_Zq Bundle.tN "SUPPRESSED_SENTINEL" Bundle.listD A s' s'.heap := by rw [hhp]; exact vx_Zq.moved hW0.alike (hN.kept hS.2.1)
  have h : ∀ w ∈ Bundle.ownAtoms own ic cls names, w.before args s' = true := vx_own hat' (vx_isRefq hU'.1) (vx_isRefq hN'.1) hU'.2.word hN'.2.word
  have hown' : s'.vm.findClass own = some m.cls := by rw [hvm]; exact hown
  have hins : (Cond.instantiable cls 6).before args s' = true := h _ (by simp [Bundle.ownAtoms])
  obtain ⟨vm₁, cX, kX, hfX, hkX, -, -, X₁, st1⟩ := Y.newCold hexec (own := own) (C := cls) (index := ik) (n := 6) hown' hk' hins hini'
    (g := F0 m pc ls rest) rfl (by rw [hb]; exact d0) (Nat.le_refl _) (Nat.le_refl _)
  generalize hT1 : (T.setVm vm₁).pushCell { cls := cX, slots := kX.instanceTypes.map defaultValue, vm := .none } = T1 at X₁ st1
  have hcat : (Value.ref T.heap.size).category = 1 := rfl
  have hcellA : T1.heap[T.heap.size]? = some (freshCell cX kX) := by rw [← hT1]; exact State.heap_pushCell_size _ _
  have d3' : decode c.code (pc + 3) = .ok (.dup, 1) := by rw [hb]; exact d3
  have d4' : decode c.code (pc + 4) = .ok (.ldc is, 2) := by rw [hb]; exact d4
  have hstr' : vk_R own is text sa s' := vk_R.warm hW0 hstr
  obtain ⟨U, hsteps, hrun, hend, hW, hsame, ce, hce, hO⟩ := X₁.ctorThrowS hexec htr (own := own) (cls := cls) (names := names) (ic := ic) hown' hcls hnames h (fun x hx => nomatch hx) hfX hkX hcellA (by rw [hhp, hT]; exact Nat.le_refl _) (msg := .ref sa) rfl
    (g := { method := m, pc := pc + 6, locals := ls, stack := .ref sa :: .ref T.heap.size :: .ref T.heap.size :: rest, locked := none }) rfl hsize rfl rfl (rest := rest) rfl
    (by rw [hb]; exact d6) (by rw [hb]; exact d9) hout hRframes (by simp only [List.map_cons, List.sum_cons, hcat]; omega) hlocks
  obtain ⟨f1, f2⟩ := vx_frame hsame
  rw [hhp] at f1 f2
  have hWs : s.WarmedH U.vm := State.WarmedH.trans hW0 hW
  have hcl : s.vm.findClass cls = some ce.cls := by
    have h9 := hO.cls
    rw [hvm] at h9
    exact h9
  have hall : s.sameButNew ({ U with vm := s.vm } : State) locs mc ms := by
    subst hA
    obtain ⟨e1, e2⟩ := hsame
    rw [State.setFrames_setFrames] at e1
    have h2 : (T.setVm s.vm).sameButNew ({ U with vm := s.vm } : State) [] (0 + 1) (0 + 6) := ⟨e1, e2⟩
    have h3 := X.same.trans h2
    rw [List.append_nil] at h3
    exact h3.mono hc hs
  refine ⟨U, ?_, .threw T.heap.size, hrun, hend, Or.inr ⟨T.heap.size, rfl, cls, ce, locs, hx U hWs.alike f1 (fun q hq => f2 q hq (fun z hz => nomatch hz)), hce, hO.vm, hcl, hWs, hall, hf⟩⟩
  refine st1 _ ?_
  show Steps p.tables e below (T1.setTop { method := m, pc := pc + 3, locals := ls, stack := .ref T.heap.size :: rest, locked := none }) _
  jvm_step X₁.here [X₁.here.top, hexec, d3', Value.category]
  exact X₁.ldcString hexec (own := own) (text := text) (index := is) (a := sa) hown' hstr'.1 hstr'.2
    (g := { method := m, pc := pc + 4, locals := ls, stack := .ref T.heap.size :: .ref T.heap.size :: rest, locked := none }) rfl d4' _ hsteps
/-- 'throw new E("text")', the text by a wide index -/
theorem vx_throwSW {cc : ByteArray} {pc : Nat} (hexec : p.tables.exec = Jvm.exec) (hb : c.code = cc) (hl : l.stackTraces = false) {own cls text : String} {names : List String} {ik is ic mc ms sa : Nat} {A : Nat → Prop}
    (hown : s.vm.findClass own = some m.cls) (hcls : Bundle.fit cls = true) (hnames : ∀ n ∈ names, Bundle.fit n = true)
    (hk : (Cond.classLink own ik cls).before args s = true) (hini : (Cond.initialized cls).before args s = true) (hstr : vk_R own is text sa s) (hat : ∀ w ∈ vx_atS own ic cls names, w.before args s = true)
    (hgood : ∀ w ∈ Cond.classLink own ik cls :: Cond.initialized cls :: vx_atS own ic cls names, vx_ot w = true)
    (hU : vx_Zq Bundle.tN "UNASSIGNED_STACK" Bundle.steD A s s.heap) (hN : vx_Zq Bundle.tN "SUPPRESSED_SENTINEL" Bundle.listD A s s.heap) (hS : va_S A s.heap H locs) (hsize : ls.size = c.maxLocals)
    (d0 : decode cc pc = .ok (.new ik, 3)) (d3 : decode cc (pc + 3) = .ok (.dup, 1)) (d4 : decode cc (pc + 4) = .ok (.ldc_w is, 3)) (d7 : decode cc (pc + 7) = .ok (.invokespecial ic, 3)) (d10 : decode cc (pc + 10) = .ok (.athrow, 1))
    (hout : ∀ x ∈ c.exceptionTable.toList, covers x (pc + 10) = false)
    (hRframes : names.length + 3 < R.frames) (hRlocals : (rest.map fun v => v.category).sum + (13 * (names.length + 1) + 43) ≤ R.locals) (hRcells : cells + 1 ≤ R.cells) (hRslots : slots + 6 ≤ R.slots) (hlocks : meth.locks = false)
    (hx : ∀ t : State, s.vm.Alike t.vm → H.size ≤ t.heap.size → (∀ q : Nat, q < H.size → t.heap[q]? = H[q]?) → XC cls s t)
    (hf : ∀ z ∈ locs, free z.base) (hc : cells + 1 ≤ mc) (hs : slots + 6 ≤ ms) :
    W p l e R s m args below meth c H locs cells slots (vx_MQ below Qc XC args s mc ms free) (F0 m pc ls rest) := by
  intro T hT X
  have htr : e.platform.stackTraces = false := (show e.platform.stackTraces = l.stackTraces by rw [X.admits.platform]).trans hl
  have Y := vx_rebase X (R' := { frames := R.frames, locals := R.locals, cells := 1, slots := 6 }) (Nat.le_refl _) (Nat.le_refl _) hRcells hRslots
  obtain ⟨s', hA⟩ : ∃ z, z = (T.setVm s.vm).setFrames (.invoking m args :: below) := ⟨_, rfl⟩
  rw [← hA] at Y
  have hvm : s'.vm = s.vm := by rw [hA]; rfl
  have hhp : s'.heap = H := by rw [hA]; exact hT
  have hW0 : s.WarmedH s'.vm := by rw [hvm]; exact State.WarmedH.refl s
  have hat' : ∀ w ∈ vx_atS own ic cls names, w.before args s' = true := fun w hw => vx_ot_at hW0 hvm.symm (hgood w (List.mem_cons_of_mem _ (List.mem_cons_of_mem _ hw))) (hat w hw)
  have hk' : (Cond.classLink own ik cls).before args s' = true := vx_ot_at hW0 hvm.symm (hgood _ List.mem_cons_self) hk
  have hini' : (Cond.initialized cls).before args s' = true := vx_ot_at hW0 hvm.symm (hgood _ (List.mem_cons_of_mem _ List.mem_cons_self)) hini
  have hU' : vx_Zq Bundle.tN "UNASSIGNED_STACK" Bundle.steD A s' s'.heap := by rw [hhp]; exact vx_Zq.moved hW0.alike (hU.kept hS.2.1)
  have hN' : vx_Zq Bundle.tN "SUPPRESSED_SENTINEL" Bundle.listD A s' s'.heap := by rw [hhp]; exact vx_Zq.moved hW0.alike (hN.kept hS.2.1)
  have h : ∀ w ∈ Bundle.ownAtoms own ic cls names, w.before args s' = true := vx_own hat' (vx_isRefq hU'.1) (vx_isRefq hN'.1) hU'.2.word hN'.2.word
  have hown' : s'.vm.findClass own = some m.cls := by rw [hvm]; exact hown
  have hins : (Cond.instantiable cls 6).before args s' = true := h _ (by simp [Bundle.ownAtoms])
  obtain ⟨vm₁, cX, kX, hfX, hkX, -, -, X₁, st1⟩ := Y.newCold hexec (own := own) (C := cls) (index := ik) (n := 6) hown' hk' hins hini'
    (g := F0 m pc ls rest) rfl (by rw [hb]; exact d0) (Nat.le_refl _) (Nat.le_refl _)
  generalize hT1 : (T.setVm vm₁).pushCell { cls := cX, slots := kX.instanceTypes.map defaultValue, vm := .none } = T1 at X₁ st1
  have hcat : (Value.ref T.heap.size).category = 1 := rfl
  have hcellA : T1.heap[T.heap.size]? = some (freshCell cX kX) := by rw [← hT1]; exact State.heap_pushCell_size _ _
  have d3' : decode c.code (pc + 3) = .ok (.dup, 1) := by rw [hb]; exact d3
  have d4' : decode c.code (pc + 4) = .ok (.ldc_w is, 3) := by rw [hb]; exact d4
  have hstr' : vk_R own is text sa s' := vk_R.warm hW0 hstr
  obtain ⟨U, hsteps, hrun, hend, hW, hsame, ce, hce, hO⟩ := X₁.ctorThrowS hexec htr (own := own) (cls := cls) (names := names) (ic := ic) hown' hcls hnames h (fun x hx => nomatch hx) hfX hkX hcellA (by rw [hhp, hT]; exact Nat.le_refl _) (msg := .ref sa) rfl
    (g := { method := m, pc := pc + 7, locals := ls, stack := .ref sa :: .ref T.heap.size :: .ref T.heap.size :: rest, locked := none }) rfl hsize rfl rfl (rest := rest) rfl
    (by rw [hb]; exact d7) (by rw [hb]; exact d10) hout hRframes (by simp only [List.map_cons, List.sum_cons, hcat]; omega) hlocks
  obtain ⟨f1, f2⟩ := vx_frame hsame
  rw [hhp] at f1 f2
  have hWs : s.WarmedH U.vm := State.WarmedH.trans hW0 hW
  have hcl : s.vm.findClass cls = some ce.cls := by
    have h9 := hO.cls
    rw [hvm] at h9
    exact h9
  have hall : s.sameButNew ({ U with vm := s.vm } : State) locs mc ms := by
    subst hA
    obtain ⟨e1, e2⟩ := hsame
    rw [State.setFrames_setFrames] at e1
    have h2 : (T.setVm s.vm).sameButNew ({ U with vm := s.vm } : State) [] (0 + 1) (0 + 6) := ⟨e1, e2⟩
    have h3 := X.same.trans h2
    rw [List.append_nil] at h3
    exact h3.mono hc hs
  refine ⟨U, ?_, .threw T.heap.size, hrun, hend, Or.inr ⟨T.heap.size, rfl, cls, ce, locs, hx U hWs.alike f1 (fun q hq => f2 q hq (fun z hz => nomatch hz)), hce, hO.vm, hcl, hWs, hall, hf⟩⟩
  refine st1 _ ?_
  show Steps p.tables e below (T1.setTop { method := m, pc := pc + 3, locals := ls, stack := .ref T.heap.size :: rest, locked := none }) _
  jvm_step X₁.here [X₁.here.top, hexec, d3', Value.category]
  exact X₁.ldcStringW hexec (own := own) (text := text) (index := is) (a := sa) hown' hstr'.1 hstr'.2
    (g := { method := m, pc := pc + 4, locals := ls, stack := .ref T.heap.size :: .ref T.heap.size :: rest, locked := none }) rfl d4' _ hsteps
end Ends
section Bodies
variable {l : Launch}
theorem vx_ofW {y : MethodName} {ws ws' : List Cond} {rm : Room} {Pc : Array Value → State → Prop} {Qc : Array Value → State → Outcome → State → Prop} {XC : String → State → State → Prop} {mc ms : Nat} {free : Addr → Prop} {cc : ByteArray} {maxL : Nat} {ret : Option FieldType}
    (hy : plainName y.cls = true) (hw : ws = Cond.code y cc maxL ret :: ws')
    (body : ∀ p e s m args below meth c s₁, BodyLoose p l y (headSpec ws rm) cc maxL ret e s m args below meth c s₁ → c.maxLocals = maxL → (∀ x ∈ c.exceptionTable.toList, False) → Pc args s →
      W p l e (headSpec ws rm).room s m args below meth c s.heap [] 0 0 (vx_MQ below Qc XC args s mc ms free) (entryFrame m args maxL)) : vx_Met l y ws rm Pc Qc XC mc ms free := by
  refine MetFree.of_bodyS (code := cc) (maxLocals := maxL) (ret := ret) hy ?_ ?_
  · intro args s m h hn
    obtain ⟨meth, c, h1, h2, h3, h4, h5, h6, -, -⟩ := Cond.code_spec hn (atoms_spec (ws := ws) h _ (by rw [hw]; exact List.mem_cons_self))
    exact ⟨meth, c, h1, h2, h3, h4, h5, h6⟩
  · intro p e s m args below meth c s₁ B hml hP _
    have hh0 : s₁.heap = s.heap := by rw [B.state]; rfl
    have ht : ∀ x ∈ c.exceptionTable.toList, False := by
      obtain ⟨meth9, c9, h1, h2, -, -, -, -, h7, -⟩ := Cond.code_spec B.named (atoms_spec (ws := ws) B.pre _ (by rw [hw]; exact List.mem_cons_self))
      cases Option.some.inj (h1.symm.trans B.method)
      cases Option.some.inj (h2.symm.trans (Stand.of_body B).code)
      intro x hx
      rw [Array.isEmpty_iff.mp h7] at hx
      cases hx
    obtain ⟨t, a1, o, b1, b2, b3⟩ := body p e s m args below meth c s₁ B hml ht hP s₁ hh0 (Stand.of_body B)
    exact ⟨t, o, a1, b1, b2, b3⟩
/-- the table of a body with handlers -/
theorem vx_table {p : Program} {x y : MethodName} {S : Spec} {cc bytes : ByteArray} {maxL maxL' : Nat} {ret ret' : Option FieldType} {e : Env} {s s₁ : State} {m : MethodId} {args : Array Value} {below : List Frame} {meth : Method} {c : Code} {hh : List (Nat × Nat × Nat × Nat)}
    (B : BodyLoose p l y S cc maxL ret e s m args below meth c s₁) (h : (Cond.codeWith y bytes maxL' ret' hh).before args s = true) : c.exceptionTable.toList = tableOf hh := by
  obtain ⟨m9, meth9, c9, hn9, h1, h2, -, -, h6, -⟩ := Cond.codeWith_spec h
  cases Option.some.inj (hn9.symm.trans B.named)
  cases Option.some.inj (h1.symm.trans B.method)
  cases Option.some.inj (h2.symm.trans (Stand.of_body B).code)
  rw [← h6, table_eq]
end Bodies
end VXA
/-! ===== END ===== -/
/-! ===== BEGIN a static call of a method with an exception table ===== -/
section VXS
variable {p : Program} {l : Launch} {e : Env} {R : Room} {s : State} {m : MethodId} {args : Array Value} {below : List Frame} {meth : Method} {c : Code} {T : State} {H : Heap} {locs : List Loc} {cells slots : Nat}
abbrev vx_CSW (R : Room) (s : State) (args : Array Value) (own : String) (index : Nat) (y : MethodName) (bytes : ByteArray) (maxL : Nat) (ret : Option FieldType) (hh : List (Nat × Nat × Nat × Nat)) (ws : List Cond) (rm : Room) (mc ms n : Nat) : Prop :=
  (rm.cells = mc ∧ rm.slots = ms ∧ rm.frames + 1 ≤ R.frames ∧ 8 + (maxL + 11) + rm.locals ≤ R.locals ∧ (∀ w ∈ ws, ∀ (a' : Array Value) (U : State), s.WarmedH U.vm → w.before a' U = true) ∧ Cond.codeWith y bytes maxL ret hh ∈ ws) ∧
  (Cond.codeWith y bytes maxL ret hh).before args s = true ∧ (Cond.initialized y.cls).before args s = true ∧ (y.cls ≠ "java/lang/invoke/MethodHandle" ∧ y.cls ≠ "java/lang/invoke/VarHandle") ∧
  (∀ sig, parseMethodDescriptor y.desc = some sig → n = sig.parameters.length) ∧ (Cond.methodLink own index y).before args s = true ∧ (Cond.static y).before args s = true
theorem vx_cwSW {own : String} {index maxL mc ms : Nat} {y : MethodName} {bytes : ByteArray} {ret : Option FieldType} {hh : List (Nat × Nat × Nat × Nat)} {Ts ws ws' : List Cond} {rm : Room} (n : Nat) (ht : ∀ w ∈ Ts, w.before args s = true) (hT : GoodIn Ts (va_wsS own index y ws)) (hw : ws = Cond.codeWith y bytes maxL ret hh :: ws') (hrc : rm.cells = mc) (hrs : rm.slots = ms)
    (hd : y.cls ≠ "java/lang/invoke/MethodHandle" ∧ y.cls ≠ "java/lang/invoke/VarHandle" ∧ (parseMethodDescriptor y.desc).map (fun d => d.parameters.length) = some n) (hR : rm.frames + 1 ≤ R.frames ∧ 8 + (maxL + 11) + rm.locals ≤ R.locals) :
    vx_CSW R s args own index y bytes maxL ret hh ws rm mc ms n := by
  have ok : ∀ w ∈ va_wsS own index y ws, w.before args s = true := fun w h => ht w (hT w h).1
  have hG : GoodIn Ts ws := fun w h => hT w (by unfold va_wsS; exact List.mem_append_right _ h)
  have hc : Cond.codeWith y bytes maxL ret hh ∈ ws := by rw [hw]; exact List.mem_cons_self
  refine ⟨⟨hrc, hrs, hR.1, hR.2, pay_in ht hG, hc⟩, ht _ (hG _ hc).1, ok _ (by simp [va_wsS]), ⟨hd.1, hd.2.1⟩, fun sig h => ?_, ok _ (by simp [va_wsS]), ok _ (by simp [va_wsS])⟩
  have h2 := hd.2.2
  rw [h] at h2
  exact (Option.some.inj h2).symm
theorem vx_callSW (X : Stand p l e R s m args below meth c T locs cells slots) (hexec : p.tables.exec = Jvm.exec) {own : String} {index : Nat} {y : MethodName} {bytes : ByteArray} {maxL : Nat} {ret : Option FieldType} {hh : List (Nat × Nat × Nat × Nat)}
    (hown : s.vm.findClass own = some m.cls) (hlink : (Cond.methodLink own index y).before args s = true) (hstat : (Cond.static y).before args s = true) (hinit : (Cond.initialized y.cls).before args s = true)
    (hcode : (Cond.codeWith y bytes maxL ret hh).before args s = true) (hy : y.cls ≠ "java/lang/invoke/MethodHandle" ∧ y.cls ≠ "java/lang/invoke/VarHandle")
    {W9 : Nat} {Pre : Pt → Array Value → Prop} {Post : Pt → Array Value → Option Value → Pt → Prop} (hK : Back l R p e below s args y 3 W9 Pre Post)
    {g : JFrame} (hg : g.method = m) (hsize : g.locals.size = c.maxLocals) {argsL rest : List Value} (hlen : ∀ sig, parseMethodDescriptor y.desc = some sig → argsL.length = sig.parameters.length)
    (hstack : g.stack = argsL.reverse ++ rest) (hW : 2 * g.monitorRoom + (rest.map fun v => v.category).sum ≤ W9) (hdg : decode c.code g.pc = .ok (.invokestatic index, 3))
    (hpre : ∀ vm₁, s.WarmedH vm₁ → Pre ⟨T.setVm vm₁, locs, cells, slots⟩ argsL.toArray) :
    ∃ (v : Option Value) (vm₁ : Vm) (B : Pt), s.WarmedH vm₁ ∧ Stand p l e R s m args below meth c B.U B.locs B.cells B.slots ∧ Post ⟨T.setVm vm₁, locs, cells, slots⟩ argsL.toArray v B ∧
      ∀ target, Steps p.tables e below (B.U.setTop { g with pc := g.pc + 3, stack := v.toList ++ rest }) target → Steps p.tables e below (T.setTop g) target := by
  obtain ⟨mk, methM, cM, hnamed, hmethM, -, -, -, -, -, -, hsigM⟩ := Cond.codeWith_spec hcode
  have hstatic : methM.isStatic = true := Cond.static_spec hnamed hmethM hstat
  obtain ⟨kP, hkP, -⟩ := className_of_methodNamed hnamed
  have hinitP : kP.init = .initialized := Cond.initialized_spec (findClass_of_methodNamed hnamed) hkP hinit
  obtain ⟨vm₁, X₁, hstep₁⟩ := X.invokestatic hexec hown hlink hnamed hmethM hstatic hkP hinitP hy (g := g) hg (argsL := argsL) (rest := rest) (hlen _ hsigM) hstack hdg
  obtain ⟨v, B, X', hpost, hsteps⟩ := hK m meth c ⟨T.setVm vm₁, locs, cells, slots⟩ { g with stack := rest } (.invokestatic index) mk argsL.toArray X₁ hg hsize hdg hW (X₁.named hnamed) (hpre vm₁ X₁.warmed)
  exact ⟨v, vm₁, B, X₁.warmed, X', hpost, fun target h => hstep₁ _ fun acts => by rw [doInvoke_state]; exact hsteps.trans h⟩
theorem vx_runSW {y : MethodName} {bytes cc : ByteArray} {maxL nL mc ms n index : Nat} {ret : Option FieldType} {hh : List (Nat × Nat × Nat × Nat)} {ws : List Cond} {rm : Room} {Pc : Array Value → State → Prop} {Qc : Array Value → State → Outcome → State → Prop} {free : Addr → Prop} {Ts : List Cond} {own : String} {As rest : List Value} {g : JFrame}
    (S : CallFix p m c cc nL s args Ts own) (hM : Met l y ws rm Pc Qc mc ms free) (cw : vx_CSW R s args own index y bytes maxL ret hh ws rm mc ms n) (hp : PreS s H Pc As)
    (hg : g.method = m) (hn : As.length = n) (hsize : g.locals.size = nL) (hstack : g.stack = As.reverse ++ rest) (hW : 2 * g.monitorRoom + (rest.map fun v => v.category).sum ≤ 8) (hdg : decode cc g.pc = .ok (.invokestatic index, 3)) (hf : cells + mc ≤ R.cells ∧ slots + ms ≤ R.slots) :
    va_Run p l e R s m args below meth c H locs cells slots mc ms g rest (Qc As.toArray) (free) := by
  obtain ⟨⟨hrc, hrs, hfr, hlo, hws, hcw⟩, hcode, hini, hy, hlen, hl, hstt⟩ := cw
  have hK : Back l R p e below s args y 3 8 (PreOf R mc ms Pc) (PostOf Qc mc ms free) := va_backW (hh := hh) (bytes := bytes) (maxL := maxL) (ret := ret) hM hp.1 hrc hrs hfr hlo hws hcw (fun a' U hW => word_at hW (Or.inl (by first | rfl | simp [Cond.onTables, Cond.keeps, Cond.steady])) hini)
  obtain ⟨hx, hb, hml, ho, -⟩ := S
  intro T hT X
  obtain ⟨v, vm₁, ⟨U', l2, c2, s2⟩, hW₁, X', ⟨g', mk, t, L, e1, e2, hq, h1, hL, h2, h3⟩, st⟩ := vx_callSW X hx (hh := hh) (bytes := bytes) (maxL := maxL) (ret := ret) ho hl hstt hini hcode hy hK hg (hsize.trans hml.symm) (argsL := As) (rest := rest) (fun sig h => hn.trans (hlen sig h)) hstack hW (by rw [hb]; exact hdg)
    (fun vm₁ hW₁ => ⟨hf.1, hf.2, hp.2 (T.setVm vm₁) hT hW₁⟩)
  dsimp only [Pt.U, Pt.locs, Pt.cells, Pt.slots] at X' e1 e2 h1 h2 h3 st
  subst h1; subst h2; subst h3
  exact ⟨v, (T.setVm vm₁).calling g' mk As.toArray, t, U', L, hT, X', hL, e1, e2, hq, st⟩
/-- not caught here, past rows that name other classes: it goes on to the caller -/
theorem vx_outP {p : Program} {l : Launch} {e : Env} {R : Room} {s : State} {m : MethodId} {args : Array Value} {below : List Frame} {meth : Method} {c : Code} {H : Heap} {locs : List Loc} {cells slots : Nat} {free : Addr → Prop} {ls : Array Slot} {rest : List Value} {Qc : Array Value → State → Outcome → State → Prop} {XC : String → State → State → Prop}
    {pc : Nat} {own E : String} {ce : Cell} {q : Addr} {mc ms : Nat} (hown : s.vm.findClass own = some m.cls) (hlocks : meth.locks = false)
    (hpass : ∀ z ∈ c.exceptionTable.toList, covers z pc = false ∨ (z.catchType ≠ 0 ∧ ∃ nm : String, (Cond.classLink own z.catchType nm).before args s = true ∧ va_Nc E nm s)) (hcell : H[q]? = some ce) (hv : ce.vm = .none) (hcl : s.vm.findClass E = some ce.cls)
    (hx : ∀ t : State, t.heap = H → s.vm.Alike t.vm → XC E s t) (hf : ∀ z ∈ locs, free z.base) (hc : cells ≤ mc) (hs : slots ≤ ms) :
    vx_W p l e R s m args below meth c H locs cells slots (vx_MQ below Qc XC args s mc ms free) (F0 m pc ls rest) q := by
  intro T hT X
  have hpl : e.platform.magicAccessors = ({} : Platform).magicAccessors := by rw [X.admits.platform]
  obtain ⟨vm', hW', X', st⟩ := X.outThrough hlocks q (g := F0 m pc ls rest) rfl rfl rfl (cell := ce) (by rw [hT]; exact hcell) (by rw [hv]; rfl)
    (by obtain ⟨k9, h9, -⟩ := Vm.findClass_spec hcl; exact ⟨k9, h9⟩) (fun z hz => by
      rcases hpass z hz with h | ⟨hz0, nm, hl1, hn1⟩
      · exact Or.inl h
      · obtain ⟨c6, hc6, hcl6⟩ := Cond.classLink_spec hown hl1 e.platform hpl
        obtain ⟨a8, b8, h1, h2, h3⟩ := hn1
        cases Option.some.inj (h1.symm.trans hcl)
        cases Option.some.inj (h2.symm.trans hc6)
        exact Or.inr ⟨hz0, _, hcl6, h3⟩)
  obtain ⟨g₀, hfr⟩ := X'.frames_eq
  have hcell9 : ((T.setVm vm').setFrames (.throwing q :: below)).heap[q]? = some ce := by
    show T.heap[q]? = some ce
    rw [hT]; exact hcell
  have hend : Ended ((T.setVm vm').setFrames (.throwing q :: below)) below (.threw q) := State.frames_setFrames _ (State.cur_lt_of_frames hfr)
  refine ⟨(T.setVm vm').setFrames (.throwing q :: below), ?_, .threw q, X'.here.running, hend, Or.inr ⟨q, rfl, E, ce, locs, hx _ hT (X'.ends _).1.alike, hcell9, hv, hcl, (X'.ends _).1, (X'.ends _).2.mono hc hs, hf⟩⟩
  rw [X.pushThrowing_eq]
  exact st
/-- a thing of a world lies in the heap -/
theorem vx_lt {D : va_G} {cl : List vw_C} {ws : va_W} {H1 : Heap} (h : va_P D cl ws H1) {k : Nat} {q : Nat × va_E} (hk : ws[k]? = some q) : q.1 < H1.size := (h k q hk).lt
end VXS
/-! ===== END ===== -/
/-! ===== BEGIN methods with a table of their own: called by a name, returning or throwing ===== -/
section VXH
/-! vx_backW, vx_callVX, vx_callSX, vx_callVW, vx_runVW, vx_runVX, vx_runSX, vx_ofWH follow the same proofs as their sisters above (Free/Laws.lean, Shelf42/LK1.lean); vx_outP calls Shelf42/NT130.lean (outThrough). -/
section
variable {l : Launch} {R : Room} {p : Program} {e : Env} {below : List Frame} {s : State} {sargs : Array Value} {y : MethodName} {len W9 : Nat}
theorem vx_backW {ws : List Cond} {rm : Room} {Pc : Array Value → State → Prop} {Qc : Array Value → State → Outcome → State → Prop} {XC : String → State → State → Prop} {mc ms : Nat} {free : Addr → Prop} {bytes : ByteArray} {maxL : Nat} {ret : Option FieldType} {hh : List (Nat × Nat × Nat × Nat)}
    (hM : vx_Met l y ws rm Pc Qc XC mc ms free) (hblind : FrameBlind Pc) (hrc : rm.cells = mc) (hrs : rm.slots = ms)
    (hframes : rm.frames + 1 ≤ R.frames) (hlocals : W9 + (maxL + 11) + rm.locals ≤ R.locals)
    (hws : ∀ w ∈ ws, ∀ a' U, s.WarmedH U.vm → w.before a' U = true) (hcode : Cond.codeWith y bytes maxL ret hh ∈ ws) (hinit : ∀ a' U, s.WarmedH U.vm → (Cond.initialized y.cls).before a' U = true) :
    vx_Back l R p e below s sargs y len W9 (PreOf R mc ms Pc) (PostOf Qc mc ms free) (vx_Post XC mc ms free) := by
  intro m meth c A g ig mk a X hg hsize hdg hW hn hp
  have h1 : (headSpec ws rm).pre.before a A.U = true := atoms_intro fun w hw => hws w hw _ _ X.warmed
  have h2 : (Cond.codeWith y bytes maxL ret hh).before a A.U = true := hws _ hcode _ _ X.warmed
  have h3 : (Cond.initialized y.cls).before a A.U = true := hinit _ _ X.warmed
  have h4 : A.cells + (headSpec ws rm).room.cells ≤ R.cells := by rw [show (headSpec ws rm).room.cells = mc from hrc]; exact hp.1
  have h5 : A.slots + (headSpec ws rm).room.slots ≤ R.slots := by rw [show (headSpec ws rm).room.slots = ms from hrs]; exact hp.2.1
  have hPc : Pc a (A.U.calling g mk a) := hblind _ _ _ _ hp.2.2
  obtain ⟨U, Ls, c0, s0⟩ := A
  dsimp only [Pt.U, Pt.locs, Pt.cells, Pt.slots] at h1 h2 h3 h4 h5 X hn hPc ⊢
  obtain ⟨m9, methY, cY, hn9, hmY, hcY, -, hlY, -⟩ := Cond.codeWith_spec h2
  cases Option.some.inj (hn9.symm.trans hn)
  obtain ⟨kY, hkY, -⟩ := className_of_methodNamed hn
  have hinitY : kY.init = .initialized := Cond.initialized_spec (findClass_of_methodNamed hn) hkY h3
  have h : At U g.method c below := by rw [hg]; exact X.here
  have hlocals9 : W9 + (maxL + 11) + (headSpec ws rm).room.locals ≤ R.locals := hlocals
  have happ : (headSpec ws rm).appliesLoose y e.platform (U.calling g mk a) = true :=
    Spec.appliesLoose_calling (g := g) h hdg hn hkY hinitY
      (X.room_calling (g := g) (R' := (headSpec ws rm).room) hsize hmY hcY hframes (by rw [hlY]; omega) h4 h5) h1
  obtain ⟨mid, hmid⟩ := h.above
  have hfr : (U.setTop g).frames = (.java g :: mid) ++ below := by rw [State.frames_setTop' g h.top, hmid]; rfl
  obtain ⟨o, s₂, hsteps, -, hend, hq⟩ := Steps.callFree hM p X.admits X.cas X.clock (acts := []) hfr happ hPc trivial
  have hq' : vx_Q Qc XC mc ms free a (U.calling g mk a) o s₂ := hq
  rw [State.frames_setTop' g h.top] at hend
  obtain ⟨g₀, hg0⟩ := Option.isSome_iff_exists.mp h.top
  obtain ⟨r, hr⟩ := State.topJava?_eq_some.mp hg0
  have hr' : (({ U with heap := s₂.heap, slotsUsed := s₂.slotsUsed } : State).setVm s₂.vm).frames = .java g₀ :: r := hr
  rcases hq' with ⟨hqc, L, hfe, hL⟩ | ⟨q, rfl, E, ce, L, hx, hce, hcv, hcl, hW₂, hsm, hL⟩
  · obtain ⟨⟨v, rfl⟩, hW₂, e2, q2, q3, q4, q5, q6⟩ := id hfe
    have e3 : s₂ = ({ (U.calling g mk a).setFrames s₂.frames with heap := s₂.heap, slotsUsed := s₂.slotsUsed } : State).setVm s₂.vm := by
      have : s₂ = ({ s₂ with vm := (U.calling g mk a).vm } : State).setVm s₂.vm := rfl
      rw [e2] at this
      exact this
    obtain ⟨c₂, i₂, len₂, hc₂, hd₂, hf₂⟩ := hend
    have hW' : U.WarmedH s₂.vm := hW₂
    have hcc : c₂ = c := by
      have h1 : s₂.code? g.method = U.code? g.method := by
        rw [State.code?_eq, State.code?_eq, hW'.alike.method?]
      exact Option.some.inj (hc₂.symm.trans (h1.trans h.code))
    subst hcc
    have hlen : len₂ = len := by rw [hdg] at hd₂; cases hd₂; rfl
    subst hlen
    have hs₂ : s₂ = (({ U with heap := s₂.heap, slotsUsed := s₂.slotsUsed } : State).setVm s₂.vm).setTop { g with pc := g.pc + len₂, stack := v.toList ++ g.stack } := by
      refine e3.trans ?_
      rw [hf₂, State.calling_eq h.top, State.setFrames_setFrames, State.setTop_of_frames _ hr', hr]
      rfl
    have hsame : U.sameButNew ({ U with heap := s₂.heap, slotsUsed := s₂.slotsUsed } : State) L mc ms := by
      refine ⟨?_, q2, q3, q4, q5, q6⟩
      obtain ⟨t, ht, -⟩ := State.frames_cons hr
      show ({ U with heap := s₂.heap, slotsUsed := s₂.slotsUsed } : State) = { U.setFrames U.frames with heap := s₂.heap, slotsUsed := s₂.slotsUsed }
      rw [State.setFrames_self ht]
    subst hg
    refine Or.inl ⟨v, ⟨(({ U with heap := s₂.heap, slotsUsed := s₂.slotsUsed } : State).setVm s₂.vm), Ls ++ L, c0 + mc, s0 + ms⟩,
      ⟨X.admits, X.cas, X.clock, X.frames, X.room, X.hears, X.method, X.code, (X.here.setHeapUsed s₂.heap s₂.slotsUsed).setVm hW'.alike, X.tail, State.WarmedH.trans X.warmed hW', X.limits, X.bytes, X.same.trans (hsame.setVm s.vm)⟩,
      ⟨g, mk, s₂, L, rfl, rfl, hqc, rfl, hL, rfl, rfl⟩, ?_⟩
    show Steps p.tables e below _ ((({ U with heap := s₂.heap, slotsUsed := s₂.slotsUsed } : State).setVm s₂.vm).setTop { g with pc := g.pc + len₂, stack := v.toList ++ g.stack })
    rw [← hs₂]
    exact hsteps
  · obtain ⟨e2, q2, q3, q4, q5, q6⟩ := id hsm
    have e3 : s₂ = ({ (U.calling g mk a).setFrames s₂.frames with heap := s₂.heap, slotsUsed := s₂.slotsUsed } : State).setVm s₂.vm := by
      have : s₂ = ({ s₂ with vm := (U.calling g mk a).vm } : State).setVm s₂.vm := rfl
      rw [e2] at this
      exact this
    have hf₂ : s₂.frames = .throwing q :: .java g :: U.frames.tail := hend
    have hW' : U.WarmedH s₂.vm := hW₂
    have hs₂ : s₂ = ((({ U with heap := s₂.heap, slotsUsed := s₂.slotsUsed } : State).setVm s₂.vm).setTop g).pushFrame (.throwing q) := by
      refine e3.trans ?_
      rw [hf₂, State.calling_eq h.top, State.setFrames_setFrames, State.pushFrame, State.frames_setTop _ hr', State.setTop_of_frames _ hr', State.setFrames_setFrames, hr]
      rfl
    have hsame : U.sameButNew ({ U with heap := s₂.heap, slotsUsed := s₂.slotsUsed } : State) L mc ms := by
      refine ⟨?_, q2, q3, q4, q5, q6⟩
      obtain ⟨t, ht, -⟩ := State.frames_cons hr
      show ({ U with heap := s₂.heap, slotsUsed := s₂.slotsUsed } : State) = { U.setFrames U.frames with heap := s₂.heap, slotsUsed := s₂.slotsUsed }
      rw [State.setFrames_self ht]
    subst hg
    refine Or.inr ⟨q, ⟨(({ U with heap := s₂.heap, slotsUsed := s₂.slotsUsed } : State).setVm s₂.vm), Ls ++ L, c0 + mc, s0 + ms⟩,
      ⟨X.admits, X.cas, X.clock, X.frames, X.room, X.hears, X.method, X.code, (X.here.setHeapUsed s₂.heap s₂.slotsUsed).setVm hW'.alike, X.tail, State.WarmedH.trans X.warmed hW', X.limits, X.bytes, X.same.trans (hsame.setVm s.vm)⟩,
      ⟨g, mk, s₂, L, E, ce, rfl, rfl, hx, hce, hcv, hcl, rfl, hL, rfl, rfl⟩, ?_⟩
    show Steps p.tables e below _ (((({ U with heap := s₂.heap, slotsUsed := s₂.slotsUsed } : State).setVm s₂.vm).setTop g).pushFrame (.throwing q))
    rw [← hs₂]
    exact hsteps
end
variable {p : Program} {l : Launch} {e : Env} {R : Room} {s : State} {m : MethodId} {args : Array Value} {below : List Frame} {meth : Method} {c : Code} {T : State} {H : Heap} {locs : List Loc} {cells slots : Nat}
theorem vx_callVX (X : Stand p l e R s m args below meth c T locs cells slots) (hexec : p.tables.exec = Jvm.exec) {own C : String} {index : Nat} {y : MethodName} {bytes : ByteArray} {maxL : Nat} {ret : Option FieldType} {hh : List (Nat × Nat × Nat × Nat)}
    (hown : s.vm.findClass own = some m.cls) (hlink : (Cond.methodLink own index y).before args s = true) (hinst : (Cond.instanceMethod y).before args s = true) (hsel : (Cond.selects C y y).before args s = true)
    (hcode : (Cond.codeWith y bytes maxL ret hh).before args s = true) (hy : y.cls ≠ "java/lang/invoke/MethodHandle" ∧ y.cls ≠ "java/lang/invoke/VarHandle")
    {W9 : Nat} {Pre : Pt → Array Value → Prop} {Post : Pt → Array Value → Option Value → Pt → Prop} {PostX : Pt → Array Value → Addr → Pt → Prop} (hK : vx_Back l R p e below s args y 3 W9 Pre Post PostX)
    {b : Addr} {cellB : Cell} (hcell : T.heap[b]? = some cellB) (hobj : cellB.vm.isStatics = false) (hcls : s.vm.findClass C = some cellB.cls)
    {g : JFrame} (hg : g.method = m) (hsize : g.locals.size = c.maxLocals) {argsL rest : List Value} (hlen : ∀ sig, parseMethodDescriptor y.desc = some sig → argsL.length = sig.parameters.length)
    (hstack : g.stack = argsL.reverse ++ .ref b :: rest) (hW : 2 * g.monitorRoom + (rest.map fun v => v.category).sum ≤ W9) (hdg : decode c.code g.pc = .ok (.invokevirtual index, 3))
    (hpre : ∀ vm₁, s.WarmedH vm₁ → Pre ⟨T.setVm vm₁, locs, cells, slots⟩ (Value.ref b :: argsL).toArray) :
    (∃ (v : Option Value) (vm₁ : Vm) (B : Pt), s.WarmedH vm₁ ∧ Stand p l e R s m args below meth c B.U B.locs B.cells B.slots ∧ Post ⟨T.setVm vm₁, locs, cells, slots⟩ (Value.ref b :: argsL).toArray v B ∧
      ∀ target, Steps p.tables e below (B.U.setTop { g with pc := g.pc + 3, stack := v.toList ++ rest }) target → Steps p.tables e below (T.setTop g) target) ∨
    (∃ (q : Addr) (vm₁ : Vm) (B : Pt), s.WarmedH vm₁ ∧ Stand p l e R s m args below meth c B.U B.locs B.cells B.slots ∧ PostX ⟨T.setVm vm₁, locs, cells, slots⟩ (Value.ref b :: argsL).toArray q B ∧
      Steps p.tables e below (T.setTop g) ((B.U.setTop { g with stack := rest }).pushFrame (.throwing q))) := by
  obtain ⟨mk, methM, hnamed, hmethM, hstM, habM⟩ := Cond.instanceMethod_spec hinst
  obtain ⟨m8, methM', cM, hn8, hmethM', -, -, -, -, -, -, hsigM⟩ := Cond.codeWith_spec hcode
  cases Option.some.inj (hn8.symm.trans hnamed)
  cases hmethM.symm.trans hmethM'
  obtain ⟨c2, r2, m2, q1, q2, q3, q4, kP, hkP, hkPi⟩ := Cond.selects_spec hsel
  cases hcls.symm.trans q1
  cases (State.methodFound?_of_named hnamed hy).symm.trans q2
  cases hnamed.symm.trans q3
  have hselP : selectMethod e.platform s.vm cellB.cls mk = .method mk := by rw [Launch.admits_selectMethod X.admits]; exact q4
  obtain ⟨vm₁, X₁, hstep₁⟩ := X.invokevirtual hexec hown hlink hnamed hmethM hstM hkP hkPi hy (a := b) (cell := cellB) hcell
    (fun z h => by rw [h] at hobj; cases hobj) hselP hmethM habM hkP hkPi (g := g) hg (argsL := argsL) (rest := rest) (hlen _ hsigM) hstack hdg
  rcases hK m meth c ⟨T.setVm vm₁, locs, cells, slots⟩ { g with stack := rest } (.invokevirtual index) mk (Value.ref b :: argsL).toArray X₁ hg hsize hdg hW (X₁.named hnamed) (hpre vm₁ X₁.warmed) with ⟨v, B, X', hpost, hsteps⟩ | ⟨q, B, X', hpost, hsteps⟩
  · exact Or.inl ⟨v, vm₁, B, X₁.warmed, X', hpost, fun target h => hstep₁ _ fun acts => by rw [doInvoke_state]; exact hsteps.trans h⟩
  · exact Or.inr ⟨q, vm₁, B, X₁.warmed, X', hpost, hstep₁ _ fun acts => by rw [doInvoke_state]; exact hsteps⟩
theorem vx_callSX (X : Stand p l e R s m args below meth c T locs cells slots) (hexec : p.tables.exec = Jvm.exec) {own : String} {index : Nat} {y : MethodName} {bytes : ByteArray} {maxL : Nat} {ret : Option FieldType} {hh : List (Nat × Nat × Nat × Nat)}
    (hown : s.vm.findClass own = some m.cls) (hlink : (Cond.methodLink own index y).before args s = true) (hstat : (Cond.static y).before args s = true) (hinit : (Cond.initialized y.cls).before args s = true)
    (hcode : (Cond.codeWith y bytes maxL ret hh).before args s = true) (hy : y.cls ≠ "java/lang/invoke/MethodHandle" ∧ y.cls ≠ "java/lang/invoke/VarHandle")
    {W9 : Nat} {Pre : Pt → Array Value → Prop} {Post : Pt → Array Value → Option Value → Pt → Prop} {PostX : Pt → Array Value → Addr → Pt → Prop} (hK : vx_Back l R p e below s args y 3 W9 Pre Post PostX)
    {g : JFrame} (hg : g.method = m) (hsize : g.locals.size = c.maxLocals) {argsL rest : List Value} (hlen : ∀ sig, parseMethodDescriptor y.desc = some sig → argsL.length = sig.parameters.length)
    (hstack : g.stack = argsL.reverse ++ rest) (hW : 2 * g.monitorRoom + (rest.map fun v => v.category).sum ≤ W9) (hdg : decode c.code g.pc = .ok (.invokestatic index, 3))
    (hpre : ∀ vm₁, s.WarmedH vm₁ → Pre ⟨T.setVm vm₁, locs, cells, slots⟩ argsL.toArray) :
    (∃ (v : Option Value) (vm₁ : Vm) (B : Pt), s.WarmedH vm₁ ∧ Stand p l e R s m args below meth c B.U B.locs B.cells B.slots ∧ Post ⟨T.setVm vm₁, locs, cells, slots⟩ argsL.toArray v B ∧
      ∀ target, Steps p.tables e below (B.U.setTop { g with pc := g.pc + 3, stack := v.toList ++ rest }) target → Steps p.tables e below (T.setTop g) target) ∨
    (∃ (q : Addr) (vm₁ : Vm) (B : Pt), s.WarmedH vm₁ ∧ Stand p l e R s m args below meth c B.U B.locs B.cells B.slots ∧ PostX ⟨T.setVm vm₁, locs, cells, slots⟩ argsL.toArray q B ∧
      Steps p.tables e below (T.setTop g) ((B.U.setTop { g with stack := rest }).pushFrame (.throwing q))) := by
  obtain ⟨mk, methM, cM, hnamed, hmethM, -, -, -, -, -, -, hsigM⟩ := Cond.codeWith_spec hcode
  have hstatic : methM.isStatic = true := Cond.static_spec hnamed hmethM hstat
  obtain ⟨kP, hkP, -⟩ := className_of_methodNamed hnamed
  have hinitP : kP.init = .initialized := Cond.initialized_spec (findClass_of_methodNamed hnamed) hkP hinit
  obtain ⟨vm₁, X₁, hstep₁⟩ := X.invokestatic hexec hown hlink hnamed hmethM hstatic hkP hinitP hy (g := g) hg (argsL := argsL) (rest := rest) (hlen _ hsigM) hstack hdg
  rcases hK m meth c ⟨T.setVm vm₁, locs, cells, slots⟩ { g with stack := rest } (.invokestatic index) mk argsL.toArray X₁ hg hsize hdg hW (X₁.named hnamed) (hpre vm₁ X₁.warmed) with ⟨v, B, X', hpost, hsteps⟩ | ⟨q, B, X', hpost, hsteps⟩
  · exact Or.inl ⟨v, vm₁, B, X₁.warmed, X', hpost, fun target h => hstep₁ _ fun acts => by rw [doInvoke_state]; exact hsteps.trans h⟩
  · exact Or.inr ⟨q, vm₁, B, X₁.warmed, X', hpost, hstep₁ _ fun acts => by rw [doInvoke_state]; exact hsteps⟩
theorem vx_callVW (X : Stand p l e R s m args below meth c T locs cells slots) (hexec : p.tables.exec = Jvm.exec) {own C : String} {index : Nat} {y : MethodName} {bytes : ByteArray} {maxL : Nat} {ret : Option FieldType} {hh : List (Nat × Nat × Nat × Nat)}
    (hown : s.vm.findClass own = some m.cls) (hlink : (Cond.methodLink own index y).before args s = true) (hinst : (Cond.instanceMethod y).before args s = true) (hsel : (Cond.selects C y y).before args s = true)
    (hcode : (Cond.codeWith y bytes maxL ret hh).before args s = true) (hy : y.cls ≠ "java/lang/invoke/MethodHandle" ∧ y.cls ≠ "java/lang/invoke/VarHandle")
    {W9 : Nat} {Pre : Pt → Array Value → Prop} {Post : Pt → Array Value → Option Value → Pt → Prop} (hK : Back l R p e below s args y 3 W9 Pre Post)
    {b : Addr} {cellB : Cell} (hcell : T.heap[b]? = some cellB) (hobj : cellB.vm.isStatics = false) (hcls : s.vm.findClass C = some cellB.cls)
    {g : JFrame} (hg : g.method = m) (hsize : g.locals.size = c.maxLocals) {argsL rest : List Value} (hlen : ∀ sig, parseMethodDescriptor y.desc = some sig → argsL.length = sig.parameters.length)
    (hstack : g.stack = argsL.reverse ++ .ref b :: rest) (hW : 2 * g.monitorRoom + (rest.map fun v => v.category).sum ≤ W9) (hdg : decode c.code g.pc = .ok (.invokevirtual index, 3))
    (hpre : ∀ vm₁, s.WarmedH vm₁ → Pre ⟨T.setVm vm₁, locs, cells, slots⟩ (Value.ref b :: argsL).toArray) :
    ∃ (v : Option Value) (vm₁ : Vm) (B : Pt), s.WarmedH vm₁ ∧ Stand p l e R s m args below meth c B.U B.locs B.cells B.slots ∧ Post ⟨T.setVm vm₁, locs, cells, slots⟩ (Value.ref b :: argsL).toArray v B ∧
      ∀ target, Steps p.tables e below (B.U.setTop { g with pc := g.pc + 3, stack := v.toList ++ rest }) target → Steps p.tables e below (T.setTop g) target := by
  obtain ⟨mk, methM, hnamed, hmethM, hstM, habM⟩ := Cond.instanceMethod_spec hinst
  obtain ⟨m8, methM', cM, hn8, hmethM', -, -, -, -, -, -, hsigM⟩ := Cond.codeWith_spec hcode
  cases Option.some.inj (hn8.symm.trans hnamed)
  cases hmethM.symm.trans hmethM'
  obtain ⟨c2, r2, m2, q1, q2, q3, q4, kP, hkP, hkPi⟩ := Cond.selects_spec hsel
  cases hcls.symm.trans q1
  cases (State.methodFound?_of_named hnamed hy).symm.trans q2
  cases hnamed.symm.trans q3
  have hselP : selectMethod e.platform s.vm cellB.cls mk = .method mk := by rw [Launch.admits_selectMethod X.admits]; exact q4
  obtain ⟨vm₁, X₁, hstep₁⟩ := X.invokevirtual hexec hown hlink hnamed hmethM hstM hkP hkPi hy (a := b) (cell := cellB) hcell
    (fun z h => by rw [h] at hobj; cases hobj) hselP hmethM habM hkP hkPi (g := g) hg (argsL := argsL) (rest := rest) (hlen _ hsigM) hstack hdg
  obtain ⟨v, B, X', hpost, hsteps⟩ := hK m meth c ⟨T.setVm vm₁, locs, cells, slots⟩ { g with stack := rest } (.invokevirtual index) mk (Value.ref b :: argsL).toArray X₁ hg hsize hdg hW (X₁.named hnamed) (hpre vm₁ X₁.warmed)
  exact ⟨v, vm₁, B, X₁.warmed, X', hpost, fun target h => hstep₁ _ fun acts => by rw [doInvoke_state]; exact hsteps.trans h⟩
abbrev vx_CVW (R : Room) (s : State) (args : Array Value) (own C : String) (index : Nat) (y : MethodName) (bytes : ByteArray) (maxL : Nat) (ret : Option FieldType) (hh : List (Nat × Nat × Nat × Nat)) (ws : List Cond) (rm : Room) (mc ms n : Nat) : Prop :=
  (rm.cells = mc ∧ rm.slots = ms ∧ rm.frames + 1 ≤ R.frames ∧ 8 + (maxL + 11) + rm.locals ≤ R.locals ∧ (∀ w ∈ ws, ∀ (a' : Array Value) (U : State), s.WarmedH U.vm → w.before a' U = true) ∧ Cond.codeWith y bytes maxL ret hh ∈ ws) ∧
  (Cond.codeWith y bytes maxL ret hh).before args s = true ∧ (Cond.initialized y.cls).before args s = true ∧ (y.cls ≠ "java/lang/invoke/MethodHandle" ∧ y.cls ≠ "java/lang/invoke/VarHandle") ∧
  (∀ sig, parseMethodDescriptor y.desc = some sig → n = sig.parameters.length) ∧ (Cond.methodLink own index y).before args s = true ∧ (Cond.instanceMethod y).before args s = true ∧ (Cond.selects C y y).before args s = true
theorem vx_cwVW {own C : String} {index maxL mc ms : Nat} {y : MethodName} {bytes : ByteArray} {ret : Option FieldType} {hh : List (Nat × Nat × Nat × Nat)} {Ts ws ws' : List Cond} {rm : Room} (n : Nat) (ht : ∀ w ∈ Ts, w.before args s = true) (hT : GoodIn Ts (wsV own index C y ws)) (hw : ws = Cond.codeWith y bytes maxL ret hh :: ws') (hrc : rm.cells = mc) (hrs : rm.slots = ms)
    (hd : y.cls = C ∧ y.cls ≠ "java/lang/invoke/MethodHandle" ∧ y.cls ≠ "java/lang/invoke/VarHandle" ∧ (parseMethodDescriptor y.desc).map (fun d => d.parameters.length) = some n) (hR : rm.frames + 1 ≤ R.frames ∧ 8 + (maxL + 11) + rm.locals ≤ R.locals) :
    vx_CVW R s args own C index y bytes maxL ret hh ws rm mc ms n := by
  obtain ⟨hC, hd⟩ := hd
  subst hC
  have ok : ∀ w ∈ wsV own index y.cls y ws, w.before args s = true := fun w h => ht w (hT w h).1
  have hG : GoodIn Ts ws := fun w h => hT w (by unfold wsV; exact List.mem_append_right _ h)
  have hc : Cond.codeWith y bytes maxL ret hh ∈ ws := by rw [hw]; exact List.mem_cons_self
  refine ⟨⟨hrc, hrs, hR.1, hR.2, pay_in ht hG, hc⟩, ht _ (hG _ hc).1, ok _ (by simp [wsV]), ⟨hd.1, hd.2.1⟩, fun sig h => ?_, ok _ (by simp [wsV]), ok _ (by simp [wsV]), ok _ (by simp [wsV])⟩
  have h2 := hd.2.2
  rw [h] at h2
  exact (Option.some.inj h2).symm
theorem vx_runVW {y : MethodName} {bytes cc : ByteArray} {maxL nL mc ms n index : Nat} {ret : Option FieldType} {hh : List (Nat × Nat × Nat × Nat)} {ws : List Cond} {rm : Room} {Pc : Array Value → State → Prop} {Qc : Array Value → State → Outcome → State → Prop} {free : Addr → Prop} {Ts : List Cond} {own C : String} {b : Addr} {As rest : List Value} {g : JFrame}
    (S : CallFix p m c cc nL s args Ts own) (hM : Met l y ws rm Pc Qc mc ms free) (cw : vx_CVW R s args own C index y bytes maxL ret hh ws rm mc ms n) (hp : PreV s H C b Pc As)
    (hg : g.method = m) (hn : As.length = n) (hsize : g.locals.size = nL) (hstack : g.stack = As.reverse ++ .ref b :: rest) (hW : 2 * g.monitorRoom + (rest.map fun v => v.category).sum ≤ 8) (hdg : decode cc g.pc = .ok (.invokevirtual index, 3)) (hf : cells + mc ≤ R.cells ∧ slots + ms ≤ R.slots) :
    va_Run p l e R s m args below meth c H locs cells slots mc ms g rest (Qc (Value.ref b :: As).toArray) free := by
  obtain ⟨⟨hrc, hrs, hfr, hlo, hws, hcw⟩, hcode, hini, hy, hlen, hl, hin, hse⟩ := cw
  have hK : Back l R p e below s args y 3 8 (PreOf R mc ms Pc) (PostOf Qc mc ms free) := va_backW (hh := hh) (bytes := bytes) (maxL := maxL) (ret := ret) hM hp.1 hrc hrs hfr hlo hws hcw (fun a' U hW => word_at hW (Or.inl (by first | rfl | simp [Cond.onTables, Cond.keeps, Cond.steady])) hini)
  obtain ⟨hx, hb, hml, ho, -⟩ := S
  obtain ⟨-, ⟨cellB, hcB, hoB, hclB⟩, hPc⟩ := hp
  intro T hT X
  obtain ⟨v, vm₁, ⟨U', l2, c2, s2⟩, hW₁, X', ⟨g', mk, t, L, e1, e2, hq, h1, hL, h2, h3⟩, st⟩ := vx_callVW X hx (C := C) (hh := hh) (bytes := bytes) (maxL := maxL) (ret := ret) ho hl hin hse hcode hy hK (by rw [hT]; exact hcB) hoB hclB hg (hsize.trans hml.symm) (argsL := As) (rest := rest) (fun sig h => hn.trans (hlen sig h)) hstack hW (by rw [hb]; exact hdg)
    (fun vm₁ hW₁ => ⟨hf.1, hf.2, hPc (T.setVm vm₁) hT hW₁⟩)
  dsimp only [Pt.U, Pt.locs, Pt.cells, Pt.slots] at X' e1 e2 h1 h2 h3 st
  subst h1; subst h2; subst h3
  exact ⟨v, (T.setVm vm₁).calling g' mk (Value.ref b :: As).toArray, t, U', L, hT, X', hL, e1, e2, hq, st⟩
section
variable {y : MethodName} {bytes cc : ByteArray} {maxL nL mc ms n index : Nat} {ret : Option FieldType} {ws : List Cond} {rm : Room} {Pc : Array Value → State → Prop} {Qc : Array Value → State → Outcome → State → Prop} {XC : String → State → State → Prop} {free : Addr → Prop} {Ts : List Cond} {own C : String} {b : Addr} {As rest : List Value} {g : JFrame}
theorem vx_runVX {hh : List (Nat × Nat × Nat × Nat)} (S : CallFix p m c cc nL s args Ts own) (hM : vx_Met l y ws rm Pc Qc XC mc ms free) (cw : vx_CVW R s args own C index y bytes maxL ret hh ws rm mc ms n) (hp : PreV s H C b Pc As)
    (hg : g.method = m) (hn : As.length = n) (hsize : g.locals.size = nL) (hstack : g.stack = As.reverse ++ .ref b :: rest) (hW : 2 * g.monitorRoom + (rest.map fun v => v.category).sum ≤ 8) (hdg : decode cc g.pc = .ok (.invokevirtual index, 3)) (hf : cells + mc ≤ R.cells ∧ slots + ms ≤ R.slots) :
    vx_Run p l e R s m args below meth c H locs cells slots mc ms g rest (Qc (Value.ref b :: As).toArray) XC free := by
  obtain ⟨⟨hrc, hrs, hfr, hlo, hws, hcw⟩, hcode, hini, hy, hlen, hl, hin, hse⟩ := cw
  have hK : vx_Back l R p e below s args y 3 8 (PreOf R mc ms Pc) (PostOf Qc mc ms free) (vx_Post XC mc ms free) := vx_backW (hh := hh) (bytes := bytes) (maxL := maxL) (ret := ret) hM hp.1 hrc hrs hfr hlo hws hcw (fun a' U hW => word_at hW (Or.inl (by first | rfl | simp [Cond.onTables, Cond.keeps, Cond.steady])) hini)
  obtain ⟨hx, hb, hml, ho, -⟩ := S
  obtain ⟨-, ⟨cellB, hcB, hoB, hclB⟩, hPc⟩ := hp
  intro T hT X
  rcases vx_callVX X hx (C := C) (hh := hh) (bytes := bytes) (maxL := maxL) (ret := ret) ho hl hin hse hcode hy hK (by rw [hT]; exact hcB) hoB hclB hg (hsize.trans hml.symm) (argsL := As) (rest := rest) (fun sig h => hn.trans (hlen sig h)) hstack hW (by rw [hb]; exact hdg)
    (fun vm₁ hW₁ => ⟨hf.1, hf.2, hPc (T.setVm vm₁) hT hW₁⟩) with ⟨v, vm₁, ⟨U', l2, c2, s2⟩, hW₁, X', ⟨g', mk, t, L, e1, e2, hq, h1, hL, h2, h3⟩, st⟩ | ⟨q, vm₁, ⟨U', l2, c2, s2⟩, hW₁, X', ⟨g', mk, t, L, E, ce, e1, e2, hq, hce, hcv, hcl, h1, hL, h2, h3⟩, st⟩
  · dsimp only [Pt.U, Pt.locs, Pt.cells, Pt.slots] at X' e1 e2 h1 h2 h3 st
    subst h1; subst h2; subst h3
    exact Or.inl ⟨v, (T.setVm vm₁).calling g' mk (Value.ref b :: As).toArray, t, U', L, hT, X', hL, e1, e2, hq, st⟩
  · dsimp only [Pt.U, Pt.locs, Pt.cells, Pt.slots] at X' e1 e2 h1 h2 h3 st hcl
    subst h1; subst h2; subst h3
    exact Or.inr ⟨q, (T.setVm vm₁).calling g' mk (Value.ref b :: As).toArray, t, U', L, E, ce, hT, X', hL, e1, e2, hq, hce, hcv, vx_cls hW₁ hcl, st⟩
theorem vx_runSX {hh : List (Nat × Nat × Nat × Nat)} (S : CallFix p m c cc nL s args Ts own) (hM : vx_Met l y ws rm Pc Qc XC mc ms free) (cw : vx_CSW R s args own index y bytes maxL ret hh ws rm mc ms n) (hp : PreS s H Pc As)
    (hg : g.method = m) (hn : As.length = n) (hsize : g.locals.size = nL) (hstack : g.stack = As.reverse ++ rest) (hW : 2 * g.monitorRoom + (rest.map fun v => v.category).sum ≤ 8) (hdg : decode cc g.pc = .ok (.invokestatic index, 3)) (hf : cells + mc ≤ R.cells ∧ slots + ms ≤ R.slots) :
    vx_Run p l e R s m args below meth c H locs cells slots mc ms g rest (Qc As.toArray) XC free := by
  obtain ⟨⟨hrc, hrs, hfr, hlo, hws, hcw⟩, hcode, hini, hy, hlen, hl, hstt⟩ := cw
  have hK : vx_Back l R p e below s args y 3 8 (PreOf R mc ms Pc) (PostOf Qc mc ms free) (vx_Post XC mc ms free) := vx_backW (hh := hh) (bytes := bytes) (maxL := maxL) (ret := ret) hM hp.1 hrc hrs hfr hlo hws hcw (fun a' U hW => word_at hW (Or.inl (by first | rfl | simp [Cond.onTables, Cond.keeps, Cond.steady])) hini)
  obtain ⟨hx, hb, hml, ho, -⟩ := S
  intro T hT X
  rcases vx_callSX X hx (hh := hh) (bytes := bytes) (maxL := maxL) (ret := ret) ho hl hstt hini hcode hy hK hg (hsize.trans hml.symm) (argsL := As) (rest := rest) (fun sig h => hn.trans (hlen sig h)) hstack hW (by rw [hb]; exact hdg)
    (fun vm₁ hW₁ => ⟨hf.1, hf.2, hp.2 (T.setVm vm₁) hT hW₁⟩) with ⟨v, vm₁, ⟨U', l2, c2, s2⟩, hW₁, X', ⟨g', mk, t, L, e1, e2, hq, h1, hL, h2, h3⟩, st⟩ | ⟨q, vm₁, ⟨U', l2, c2, s2⟩, hW₁, X', ⟨g', mk, t, L, E, ce, e1, e2, hq, hce, hcv, hcl, h1, hL, h2, h3⟩, st⟩
  · dsimp only [Pt.U, Pt.locs, Pt.cells, Pt.slots] at X' e1 e2 h1 h2 h3 st
    subst h1; subst h2; subst h3
    exact Or.inl ⟨v, (T.setVm vm₁).calling g' mk As.toArray, t, U', L, hT, X', hL, e1, e2, hq, st⟩
  · dsimp only [Pt.U, Pt.locs, Pt.cells, Pt.slots] at X' e1 e2 h1 h2 h3 st hcl
    subst h1; subst h2; subst h3
    exact Or.inr ⟨q, (T.setVm vm₁).calling g' mk As.toArray, t, U', L, E, ce, hT, X', hL, e1, e2, hq, hce, hcv, vx_cls hW₁ hcl, st⟩
end
end VXH
theorem vx_ofWH {l : Launch} {y : MethodName} {ws ws' : List Cond} {rm : Room} {Pc : Array Value → State → Prop} {Qc : Array Value → State → Outcome → State → Prop} {XC : String → State → State → Prop} {mc ms : Nat} {free : Addr → Prop} {cc : ByteArray} {maxL : Nat} {ret : Option FieldType} {hh : List (Nat × Nat × Nat × Nat)}
    (hy : plainName y.cls = true) (hw : ws = Cond.codeWith y cc maxL ret hh :: ws')
    (body : ∀ p e s m args below meth c s₁, BodyLoose p l y (headSpec ws rm) cc maxL ret e s m args below meth c s₁ → c.maxLocals = maxL → Pc args s →
      W p l e (headSpec ws rm).room s m args below meth c s.heap [] 0 0 (vx_MQ below Qc XC args s mc ms free) (entryFrame m args maxL)) : vx_Met l y ws rm Pc Qc XC mc ms free := by
  refine MetFree.of_bodyS (code := cc) (maxLocals := maxL) (ret := ret) hy ?_ ?_
  · intro args s m h hn
    obtain ⟨m9, meth, c, hn9, h1, h2, h3, h4, -, h5, h6, -⟩ := Cond.codeWith_spec (atoms_spec (ws := ws) h _ (by rw [hw]; exact List.mem_cons_self))
    cases hn.symm.trans hn9
    exact ⟨meth, c, h1, h2, h3, h4, h5, h6⟩
  · intro p e s m args below meth c s₁ B hml hP _
    have hh0 : s₁.heap = s.heap := by rw [B.state]; rfl
    obtain ⟨t, a1, o, b1, b2, b3⟩ := body p e s m args below meth c s₁ B hml hP s₁ hh0 (Stand.of_body B)
    exact ⟨t, o, a1, b1, b2, b3⟩
/-! ===== END ===== -/
end
section
/-! ===== BEGIN printed: names, fields, word lists, decode rows ===== -/
def RX0 : String := "LiftNovel$Course"
def TX0 : u_T := fun k => match k with
  | 0 => ("LiftNovel$Course", "house", "LLiftNovel$House;", true)
  | 1 => ("LiftNovel$Course", "hour", "I", false)
  | 2 => ("LiftNovel$Course", "at", "I", false)
  | 3 => ("LiftNovel$Course", "way", "I", false)
  | 4 => ("LiftNovel$Course", "stuck", "I", false)
  | 5 => ("LiftNovel$Course", "wear", "I", false)
  | 6 => ("LiftNovel$Course", "suspense", "I", false)
  | 7 => ("LiftNovel$Course", "lastThrill", "I", false)
  | 8 => ("LiftNovel$Course", "called", "[Z", true)
  | 9 => ("LiftNovel$Course", "next", "[I", true)
  | 10 => ("LiftNovel$Course", "cut", "[I", true)
  | 11 => ("LiftNovel$Course", "forbidden", "[Z", true)
  | 12 => ("LiftNovel$Course", "warmths", "[I", true)
  | _ => ("LiftNovel$Course", "subscribed", "[Z", true)
def tyX0 : Nat → FieldType := fun k => match k with
  | 0 => .object "LiftNovel$House"
  | 1 => .int
  | 2 => .int
  | 3 => .int
  | 4 => .int
  | 5 => .int
  | 6 => .int
  | 7 => .int
  | 8 => .array .boolean
  | 9 => .array .int
  | 10 => .array .int
  | 11 => .array .boolean
  | 12 => .array .int
  | _ => .array .boolean
abbrev wsX00 : List Cond := u_ws RX0 TX0 14
theorem nmX0 : ∀ a, a < 14 → ∀ b, b < 14 → a ≠ b → (TX0 a).2.1 ≠ (TX0 b).2.1 := by decide +kernel
theorem tyX0_ok : ∀ k, k < 14 → parseFieldDescriptor (TX0 k).2.2.1 = some (tyX0 k) := by decide +kernel
abbrev cX0_init : ByteArray := prog_2_method_1_code
def yX0_init : MethodName := ⟨RX0, "<init>", "(LLiftNovel$House;)V"⟩
abbrev cX0_startOver : ByteArray := prog_2_method_2_code
def yX0_startOver : MethodName := ⟨RX0, "startOver", "()V"⟩
abbrev cX0_copy : ByteArray := prog_2_method_3_code
def yX0_copy : MethodName := ⟨RX0, "copy", "(LLiftNovel$Course;)V"⟩
abbrev cX0_passHour : ByteArray := prog_2_method_4_code
def yX0_passHour : MethodName := ⟨RX0, "passHour", "()I"⟩
abbrev cX0_passAndCountPrinted : ByteArray := prog_2_method_5_code
def yX0_passAndCountPrinted : MethodName := ⟨RX0, "passAndCountPrinted", "(I)I"⟩
abbrev cX0_waitStuck : ByteArray := prog_2_method_6_code
def yX0_waitStuck : MethodName := ⟨RX0, "waitStuck", "()V"⟩
abbrev cX0_ride : ByteArray := prog_2_method_7_code
def yX0_ride : MethodName := ⟨RX0, "ride", "()V"⟩
abbrev cX0_wayToNearestCall : ByteArray := prog_2_method_8_code
def yX0_wayToNearestCall : MethodName := ⟨RX0, "wayToNearestCall", "()I"⟩
abbrev cX0_hasCall : ByteArray := prog_2_method_9_code
def yX0_hasCall : MethodName := ⟨RX0, "hasCall", "(I)Z"⟩
abbrev cX0_hasCallAbove : ByteArray := prog_2_method_10_code
def yX0_hasCallAbove : MethodName := ⟨RX0, "hasCallAbove", "()Z"⟩
abbrev cX0_hasCallBelow : ByteArray := prog_2_method_11_code
def yX0_hasCallBelow : MethodName := ⟨RX0, "hasCallBelow", "()Z"⟩
abbrev cX0_stopIfCalled : ByteArray := prog_2_method_12_code
def yX0_stopIfCalled : MethodName := ⟨RX0, "stopIfCalled", "()I"⟩
abbrev cX0_print : ByteArray := prog_2_method_13_code
def yX0_print : MethodName := ⟨RX0, "print", "(II)I"⟩
abbrev cX0_coolReaders : ByteArray := prog_2_method_14_code
def yX0_coolReaders : MethodName := ⟨RX0, "coolReaders", "()V"⟩
abbrev cX0_getStuckIfWorn : ByteArray := prog_2_method_15_code
def yX0_getStuckIfWorn : MethodName := ⟨RX0, "getStuckIfWorn", "()V"⟩
abbrev cX0_countCalled : ByteArray := prog_2_method_16_code
def yX0_countCalled : MethodName := ⟨RX0, "countCalled", "()I"⟩
abbrev cX0_countCut : ByteArray := prog_2_method_17_code
def yX0_countCut : MethodName := ⟨RX0, "countCut", "()I"⟩
abbrev cX0_countToCome : ByteArray := prog_2_method_18_code
def yX0_countToCome : MethodName := ⟨RX0, "countToCome", "(I)I"⟩
abbrev cX0_countSubscribers : ByteArray := prog_2_method_19_code
def yX0_countSubscribers : MethodName := ⟨RX0, "countSubscribers", "()I"⟩
abbrev cX0_sumOfWarmths : ByteArray := prog_2_method_20_code
def yX0_sumOfWarmths : MethodName := ⟨RX0, "sumOfWarmths", "()I"⟩
abbrev cX0_findWarmest : ByteArray := prog_2_method_21_code
def yX0_findWarmest : MethodName := ⟨RX0, "findWarmest", "()I"⟩
def RX1 : String := "LiftNovel$House"
def TX1 : u_T := fun k => match k with
  | 0 => ("LiftNovel$House", "floors", "I", false)
  | 1 => ("LiftNovel$House", "limit", "I", false)
  | 2 => ("LiftNovel$House", "readers", "I", false)
  | 3 => ("LiftNovel$House", "lengths", "[I", true)
  | 4 => ("LiftNovel$House", "topics", "[I", true)
  | 5 => ("LiftNovel$House", "thrills", "[I", true)
  | _ => ("LiftNovel$House", "tastes", "[I", true)
def tyX1 : Nat → FieldType := fun k => match k with
  | 0 => .int
  | 1 => .int
  | 2 => .int
  | 3 => .array .int
  | 4 => .array .int
  | 5 => .array .int
  | _ => .array .int
abbrev wsX10 : List Cond := u_ws RX1 TX1 7
theorem nmX1 : ∀ a, a < 7 → ∀ b, b < 7 → a ≠ b → (TX1 a).2.1 ≠ (TX1 b).2.1 := by decide +kernel
theorem tyX1_ok : ∀ k, k < 7 → parseFieldDescriptor (TX1 k).2.2.1 = some (tyX1 k) := by decide +kernel
abbrev cX1_init : ByteArray := prog_3_method_1_code
def yX1_init : MethodName := ⟨RX1, "<init>", "()V"⟩
abbrev cX1_clear : ByteArray := prog_3_method_2_code
def yX1_clear : MethodName := ⟨RX1, "clear", "(I)V"⟩
abbrev cX1_append : ByteArray := prog_3_method_3_code
def yX1_append : MethodName := ⟨RX1, "append", "(III)I"⟩
abbrev cX1_topicAt : ByteArray := prog_3_method_4_code
def yX1_topicAt : MethodName := ⟨RX1, "topicAt", "(II)I"⟩
abbrev cX1_thrillAt : ByteArray := prog_3_method_5_code
def yX1_thrillAt : MethodName := ⟨RX1, "thrillAt", "(II)I"⟩
def RX2 : String := "LiftNovel$Instalments"
def TX2 : u_T := fun k => match k with
  | 0 => ("LiftNovel$Instalments", "count", "I", false)
  | 1 => ("LiftNovel$Instalments", "floors", "[I", true)
  | 2 => ("LiftNovel$Instalments", "paragraphs", "[I", true)
  | 3 => ("LiftNovel$Instalments", "thrills", "[I", true)
  | _ => ("LiftNovel$Instalments", "hours", "[I", true)
def tyX2 : Nat → FieldType := fun k => match k with
  | 0 => .int
  | 1 => .array .int
  | 2 => .array .int
  | 3 => .array .int
  | _ => .array .int
abbrev wsX20 : List Cond := u_ws RX2 TX2 5
theorem nmX2 : ∀ a, a < 5 → ∀ b, b < 5 → a ≠ b → (TX2 a).2.1 ≠ (TX2 b).2.1 := by decide +kernel
theorem tyX2_ok : ∀ k, k < 5 → parseFieldDescriptor (TX2 k).2.2.1 = some (tyX2 k) := by decide +kernel
abbrev cX2_init : ByteArray := prog_4_method_1_code
def yX2_init : MethodName := ⟨RX2, "<init>", "()V"⟩
abbrev cX2_append : ByteArray := prog_4_method_2_code
def yX2_append : MethodName := ⟨RX2, "append", "(IIII)V"⟩
abbrev cX2_findMostThrilling : ByteArray := prog_4_method_3_code
def yX2_findMostThrilling : MethodName := ⟨RX2, "findMostThrilling", "()I"⟩
abbrev cX2_findLongestWait : ByteArray := prog_4_method_4_code
def yX2_findLongestWait : MethodName := ⟨RX2, "findLongestWait", "()I"⟩
abbrev cX2_countClimbs : ByteArray := prog_4_method_5_code
def yX2_countClimbs : MethodName := ⟨RX2, "countClimbs", "()I"⟩
def RX3 : String := "LiftNovel$Mirrors"
def TX3 : u_T := fun k => match k with
  | 0 => ("LiftNovel$Mirrors", "count", "I", false)
  | 1 => ("LiftNovel$Mirrors", "likes", "[I", true)
  | _ => ("LiftNovel$Mirrors", "dislikes", "[I", true)
def tyX3 : Nat → FieldType := fun k => match k with
  | 0 => .int
  | 1 => .array .int
  | _ => .array .int
abbrev wsX30 : List Cond := u_ws RX3 TX3 3
theorem nmX3 : ∀ a, a < 3 → ∀ b, b < 3 → a ≠ b → (TX3 a).2.1 ≠ (TX3 b).2.1 := by decide +kernel
theorem tyX3_ok : ∀ k, k < 3 → parseFieldDescriptor (TX3 k).2.2.1 = some (tyX3 k) := by decide +kernel
abbrev cX3_init : ByteArray := prog_5_method_1_code
def yX3_init : MethodName := ⟨RX3, "<init>", "()V"⟩
abbrev cX3_append : ByteArray := prog_5_method_2_code
def yX3_append : MethodName := ⟨RX3, "append", "(II)I"⟩
abbrev cX3_judge : ByteArray := prog_5_method_3_code
def yX3_judge : MethodName := ⟨RX3, "judge", "(III)I"⟩
def RX4 : String := "LiftNovel"
def TX4 : u_T := fun k => match k with
  | 0 => ("LiftNovel", "house", "LLiftNovel$House;", true)
  | 1 => ("LiftNovel", "now", "LLiftNovel$Course;", true)
  | 2 => ("LiftNovel", "trial", "LLiftNovel$Course;", true)
  | 3 => ("LiftNovel", "told", "LLiftNovel$Instalments;", true)
  | _ => ("LiftNovel", "mirrored", "LLiftNovel$Mirrors;", true)
def tyX4 : Nat → FieldType := fun k => match k with
  | 0 => .object "LiftNovel$House"
  | 1 => .object "LiftNovel$Course"
  | 2 => .object "LiftNovel$Course"
  | 3 => .object "LiftNovel$Instalments"
  | _ => .object "LiftNovel$Mirrors"
abbrev wsX40 : List Cond := u_ws RX4 TX4 5
theorem nmX4 : ∀ a, a < 5 → ∀ b, b < 5 → a ≠ b → (TX4 a).2.1 ≠ (TX4 b).2.1 := by decide +kernel
theorem tyX4_ok : ∀ k, k < 5 → parseFieldDescriptor (TX4 k).2.2.1 = some (tyX4 k) := by decide +kernel
abbrev cX4_init : ByteArray := prog_1_method_1_code
def yX4_init : MethodName := ⟨RX4, "<init>", "()V"⟩
abbrev cX4_begin : ByteArray := prog_1_method_2_code
def yX4_begin : MethodName := ⟨RX4, "begin", "(I)I"⟩
abbrev cX4_addParagraph : ByteArray := prog_1_method_3_code
def yX4_addParagraph : MethodName := ⟨RX4, "addParagraph", "(III)I"⟩
abbrev cX4_turnTopic : ByteArray := prog_1_method_4_code
def yX4_turnTopic : MethodName := ⟨RX4, "turnTopic", "(I)Z"⟩
abbrev cX4_setLimit : ByteArray := prog_1_method_5_code
def yX4_setLimit : MethodName := ⟨RX4, "setLimit", "(I)I"⟩
abbrev cX4_addReader : ByteArray := prog_1_method_6_code
def yX4_addReader : MethodName := ⟨RX4, "addReader", "(II)I"⟩
abbrev cX4_addMirror : ByteArray := prog_1_method_7_code
def yX4_addMirror : MethodName := ⟨RX4, "addMirror", "(II)I"⟩
abbrev cX4_call : ByteArray := prog_1_method_8_code
def yX4_call : MethodName := ⟨RX4, "call", "(I)Z"⟩
abbrev cX4_repair : ByteArray := prog_1_method_9_code
def yX4_repair : MethodName := ⟨RX4, "repair", "()I"⟩
abbrev cX4_passHours : ByteArray := prog_1_method_10_code
def yX4_passHours : MethodName := ⟨RX4, "passHours", "(I)I"⟩
abbrev cX4_floors : ByteArray := prog_1_method_11_code
def yX4_floors : MethodName := ⟨RX4, "floors", "()I"⟩
abbrev cX4_hours : ByteArray := prog_1_method_12_code
def yX4_hours : MethodName := ⟨RX4, "hours", "()I"⟩
abbrev cX4_liftAt : ByteArray := prog_1_method_13_code
def yX4_liftAt : MethodName := ⟨RX4, "liftAt", "()I"⟩
abbrev cX4_goes : ByteArray := prog_1_method_14_code
def yX4_goes : MethodName := ⟨RX4, "goes", "()I"⟩
abbrev cX4_isCalled : ByteArray := prog_1_method_15_code
def yX4_isCalled : MethodName := ⟨RX4, "isCalled", "(I)Z"⟩
abbrev cX4_calls : ByteArray := prog_1_method_16_code
def yX4_calls : MethodName := ⟨RX4, "calls", "()I"⟩
abbrev cX4_stuckFor : ByteArray := prog_1_method_17_code
def yX4_stuckFor : MethodName := ⟨RX4, "stuckFor", "()I"⟩
abbrev cX4_wear : ByteArray := prog_1_method_18_code
def yX4_wear : MethodName := ⟨RX4, "wear", "()I"⟩
abbrev cX4_limit : ByteArray := prog_1_method_19_code
def yX4_limit : MethodName := ⟨RX4, "limit", "()I"⟩
abbrev cX4_suspense : ByteArray := prog_1_method_20_code
def yX4_suspense : MethodName := ⟨RX4, "suspense", "()I"⟩
abbrev cX4_paragraphs : ByteArray := prog_1_method_21_code
def yX4_paragraphs : MethodName := ⟨RX4, "paragraphs", "(I)I"⟩
abbrev cX4_nextParagraph : ByteArray := prog_1_method_22_code
def yX4_nextParagraph : MethodName := ⟨RX4, "nextParagraph", "(I)I"⟩
abbrev cX4_topicOf : ByteArray := prog_1_method_23_code
def yX4_topicOf : MethodName := ⟨RX4, "topicOf", "(II)I"⟩
abbrev cX4_thrillOf : ByteArray := prog_1_method_24_code
def yX4_thrillOf : MethodName := ⟨RX4, "thrillOf", "(II)I"⟩
abbrev cX4_cutOn : ByteArray := prog_1_method_25_code
def yX4_cutOn : MethodName := ⟨RX4, "cutOn", "(I)I"⟩
abbrev cX4_isForbidden : ByteArray := prog_1_method_26_code
def yX4_isForbidden : MethodName := ⟨RX4, "isForbidden", "(I)Z"⟩
abbrev cX4_cuts : ByteArray := prog_1_method_27_code
def yX4_cuts : MethodName := ⟨RX4, "cuts", "()I"⟩
abbrev cX4_toCome : ByteArray := prog_1_method_28_code
def yX4_toCome : MethodName := ⟨RX4, "toCome", "(I)I"⟩
abbrev cX4_instalments : ByteArray := prog_1_method_29_code
def yX4_instalments : MethodName := ⟨RX4, "instalments", "()I"⟩
abbrev cX4_floorIn : ByteArray := prog_1_method_30_code
def yX4_floorIn : MethodName := ⟨RX4, "floorIn", "(I)I"⟩
abbrev cX4_paragraphIn : ByteArray := prog_1_method_31_code
def yX4_paragraphIn : MethodName := ⟨RX4, "paragraphIn", "(I)I"⟩
abbrev cX4_thrillIn : ByteArray := prog_1_method_32_code
def yX4_thrillIn : MethodName := ⟨RX4, "thrillIn", "(I)I"⟩
abbrev cX4_hourIn : ByteArray := prog_1_method_33_code
def yX4_hourIn : MethodName := ⟨RX4, "hourIn", "(I)I"⟩
abbrev cX4_mostThrilling : ByteArray := prog_1_method_34_code
def yX4_mostThrilling : MethodName := ⟨RX4, "mostThrilling", "()I"⟩
abbrev cX4_longestWait : ByteArray := prog_1_method_35_code
def yX4_longestWait : MethodName := ⟨RX4, "longestWait", "()I"⟩
abbrev cX4_climbs : ByteArray := prog_1_method_36_code
def yX4_climbs : MethodName := ⟨RX4, "climbs", "()I"⟩
abbrev cX4_readers : ByteArray := prog_1_method_37_code
def yX4_readers : MethodName := ⟨RX4, "readers", "()I"⟩
abbrev cX4_subscribers : ByteArray := prog_1_method_38_code
def yX4_subscribers : MethodName := ⟨RX4, "subscribers", "()I"⟩
abbrev cX4_tasteOf : ByteArray := prog_1_method_39_code
def yX4_tasteOf : MethodName := ⟨RX4, "tasteOf", "(I)I"⟩
abbrev cX4_warmthOf : ByteArray := prog_1_method_40_code
def yX4_warmthOf : MethodName := ⟨RX4, "warmthOf", "(I)I"⟩
abbrev cX4_isSubscriber : ByteArray := prog_1_method_41_code
def yX4_isSubscriber : MethodName := ⟨RX4, "isSubscriber", "(I)Z"⟩
abbrev cX4_warmest : ByteArray := prog_1_method_42_code
def yX4_warmest : MethodName := ⟨RX4, "warmest", "()I"⟩
abbrev cX4_mirrors : ByteArray := prog_1_method_43_code
def yX4_mirrors : MethodName := ⟨RX4, "mirrors", "()I"⟩
abbrev cX4_grade : ByteArray := prog_1_method_44_code
def yX4_grade : MethodName := ⟨RX4, "grade", "(II)I"⟩
abbrev cX4_gradesBy : ByteArray := prog_1_method_45_code
def yX4_gradesBy : MethodName := ⟨RX4, "gradesBy", "(I)I"⟩
abbrev cX4_favouriteOf : ByteArray := prog_1_method_46_code
def yX4_favouriteOf : MethodName := ⟨RX4, "favouriteOf", "(I)I"⟩
abbrev cX4_kindest : ByteArray := prog_1_method_47_code
def yX4_kindest : MethodName := ⟨RX4, "kindest", "()I"⟩
abbrev cX4_hoursUntilStop : ByteArray := prog_1_method_48_code
def yX4_hoursUntilStop : MethodName := ⟨RX4, "hoursUntilStop", "(I)I"⟩
abbrev cX4_hoursUntilStuck : ByteArray := prog_1_method_49_code
def yX4_hoursUntilStuck : MethodName := ⟨RX4, "hoursUntilStuck", "()I"⟩
abbrev cX4_printedIn : ByteArray := prog_1_method_50_code
def yX4_printedIn : MethodName := ⟨RX4, "printedIn", "(I)I"⟩
abbrev cX4_subscribersIn : ByteArray := prog_1_method_51_code
def yX4_subscribersIn : MethodName := ⟨RX4, "subscribersIn", "(I)I"⟩
abbrev cX4_bestToCall : ByteArray := prog_1_method_52_code
def yX4_bestToCall : MethodName := ⟨RX4, "bestToCall", "(I)I"⟩
abbrev cX4_bestToAllow : ByteArray := prog_1_method_53_code
def yX4_bestToAllow : MethodName := ⟨RX4, "bestToAllow", "(I)I"⟩
abbrev cX4_meanWarmth : ByteArray := prog_1_method_54_code
def yX4_meanWarmth : MethodName := ⟨RX4, "meanWarmth", "()D"⟩
abbrev cX4_digest : ByteArray := prog_1_method_55_code
def yX4_digest : MethodName := ⟨RX4, "digest", "()J"⟩
abbrev cX4_foldLift : ByteArray := prog_1_method_56_code
def yX4_foldLift : MethodName := ⟨RX4, "foldLift", "(J)J"⟩
abbrev cX4_foldForesight : ByteArray := prog_1_method_57_code
def yX4_foldForesight : MethodName := ⟨RX4, "foldForesight", "(J)J"⟩
abbrev cX4_foldFloors : ByteArray := prog_1_method_58_code
def yX4_foldFloors : MethodName := ⟨RX4, "foldFloors", "(J)J"⟩
abbrev cX4_foldTopics : ByteArray := prog_1_method_59_code
def yX4_foldTopics : MethodName := ⟨RX4, "foldTopics", "(J)J"⟩
abbrev cX4_foldInstalments : ByteArray := prog_1_method_60_code
def yX4_foldInstalments : MethodName := ⟨RX4, "foldInstalments", "(J)J"⟩
abbrev cX4_foldReaders : ByteArray := prog_1_method_61_code
def yX4_foldReaders : MethodName := ⟨RX4, "foldReaders", "(J)J"⟩
abbrev cX4_foldMirrors : ByteArray := prog_1_method_62_code
def yX4_foldMirrors : MethodName := ⟨RX4, "foldMirrors", "(J)J"⟩
abbrev cX4_fold : ByteArray := prog_1_method_63_code
def yX4_fold : MethodName := ⟨RX4, "fold", "(JI)J"⟩
abbrev cX4_bit : ByteArray := prog_1_method_64_code
def yX4_bit : MethodName := ⟨RX4, "bit", "(Z)I"⟩
abbrev cX4_judge : ByteArray := prog_1_method_65_code
def yX4_judge : MethodName := ⟨RX4, "judge", "(II)I"⟩
abbrev cX4_sumOfGrades : ByteArray := prog_1_method_66_code
def yX4_sumOfGrades : MethodName := ⟨RX4, "sumOfGrades", "(I)I"⟩
abbrev cX4_isTopic : ByteArray := prog_1_method_67_code
def yX4_isTopic : MethodName := ⟨RX4, "isTopic", "(I)Z"⟩
abbrev cX4_needFloor : ByteArray := prog_1_method_68_code
def yX4_needFloor : MethodName := ⟨RX4, "needFloor", "(I)V"⟩
abbrev cX4_needParagraph : ByteArray := prog_1_method_69_code
def yX4_needParagraph : MethodName := ⟨RX4, "needParagraph", "(II)V"⟩
abbrev cX4_needTopic : ByteArray := prog_1_method_70_code
def yX4_needTopic : MethodName := ⟨RX4, "needTopic", "(I)V"⟩
abbrev cX4_needInstalment : ByteArray := prog_1_method_71_code
def yX4_needInstalment : MethodName := ⟨RX4, "needInstalment", "(I)V"⟩
abbrev cX4_needReader : ByteArray := prog_1_method_72_code
def yX4_needReader : MethodName := ⟨RX4, "needReader", "(I)V"⟩
abbrev cX4_needMirror : ByteArray := prog_1_method_73_code
def yX4_needMirror : MethodName := ⟨RX4, "needMirror", "(I)V"⟩
abbrev cX4_needForeseeable : ByteArray := prog_1_method_74_code
def yX4_needForeseeable : MethodName := ⟨RX4, "needForeseeable", "(I)V"⟩
def RX5 : String := "LiftNovelModel"
def TX5 : u_T := fun k => match k with
  | 0 => ("LiftNovelModel", "thrown", "I", false)
  | 1 => ("LiftNovelModel", "floors", "I", false)
  | 2 => ("LiftNovelModel", "limit", "I", false)
  | 3 => ("LiftNovelModel", "forbidden", "I", false)
  | 4 => ("LiftNovelModel", "paragraphs", "[I", true)
  | 5 => ("LiftNovelModel", "topic", "[I", true)
  | 6 => ("LiftNovelModel", "thrill", "[I", true)
  | 7 => ("LiftNovelModel", "readers", "I", false)
  | 8 => ("LiftNovelModel", "taste", "[I", true)
  | 9 => ("LiftNovelModel", "mirrors", "I", false)
  | 10 => ("LiftNovelModel", "likes", "[I", true)
  | 11 => ("LiftNovelModel", "dislikes", "[I", true)
  | 12 => ("LiftNovelModel", "told", "[I", true)
  | 13 => ("LiftNovelModel", "thrills", "[I", true)
  | 14 => ("LiftNovelModel", "hours", "[I", true)
  | 15 => ("LiftNovelModel", "now", "[I", true)
  | 16 => ("LiftNovelModel", "kept", "[I", true)
  | _ => ("LiftNovelModel", "stopped", "I", false)
def tyX5 : Nat → FieldType := fun k => match k with
  | 0 => .int
  | 1 => .int
  | 2 => .int
  | 3 => .int
  | 4 => .array .int
  | 5 => .array .int
  | 6 => .array .int
  | 7 => .int
  | 8 => .array .int
  | 9 => .int
  | 10 => .array .int
  | 11 => .array .int
  | 12 => .array .int
  | 13 => .array .int
  | 14 => .array .int
  | 15 => .array .int
  | 16 => .array .int
  | _ => .int
abbrev wsX50 : List Cond := u_ws RX5 TX5 18
theorem nmX5 : ∀ a, a < 18 → ∀ b, b < 18 → a ≠ b → (TX5 a).2.1 ≠ (TX5 b).2.1 := by decide +kernel
theorem tyX5_ok : ∀ k, k < 18 → parseFieldDescriptor (TX5 k).2.2.1 = some (tyX5 k) := by decide +kernel
abbrev cX5_init : ByteArray := prog_7_method_1_code
def yX5_init : MethodName := ⟨RX5, "<init>", "()V"⟩
abbrev cX5_thrown : ByteArray := prog_7_method_2_code
def yX5_thrown : MethodName := ⟨RX5, "thrown", "()I"⟩
abbrev cX5_fail : ByteArray := prog_7_method_3_code
def yX5_fail : MethodName := ⟨RX5, "fail", "(I)I"⟩
abbrev cX5_told : ByteArray := prog_7_method_4_code
def yX5_told : MethodName := ⟨RX5, "told", "(I)I"⟩
abbrev cX5_isIn : ByteArray := prog_7_method_5_code
def yX5_isIn : MethodName := ⟨RX5, "isIn", "(III)Z"⟩
abbrev cX5_isFloor : ByteArray := prog_7_method_6_code
def yX5_isFloor : MethodName := ⟨RX5, "isFloor", "(I)Z"⟩
abbrev cX5_isTopic : ByteArray := prog_7_method_7_code
def yX5_isTopic : MethodName := ⟨RX5, "isTopic", "(I)Z"⟩
abbrev cX5_isReader : ByteArray := prog_7_method_8_code
def yX5_isReader : MethodName := ⟨RX5, "isReader", "(I)Z"⟩
abbrev cX5_isMirror : ByteArray := prog_7_method_9_code
def yX5_isMirror : MethodName := ⟨RX5, "isMirror", "(I)Z"⟩
abbrev cX5_isInstalment : ByteArray := prog_7_method_10_code
def yX5_isInstalment : MethodName := ⟨RX5, "isInstalment", "(I)Z"⟩
abbrev cX5_has : ByteArray := prog_7_method_11_code
def yX5_has : MethodName := ⟨RX5, "has", "(II)Z"⟩
abbrev cX5_keep : ByteArray := prog_7_method_12_code
def yX5_keep : MethodName := ⟨RX5, "keep", "()V"⟩
abbrev cX5_bringBack : ByteArray := prog_7_method_13_code
def yX5_bringBack : MethodName := ⟨RX5, "bringBack", "()V"⟩
abbrev cX5_reads : ByteArray := prog_7_method_14_code
def yX5_reads : MethodName := ⟨RX5, "reads", "(I)Z"⟩
abbrev cX5_print : ByteArray := prog_7_method_15_code
def yX5_print : MethodName := ⟨RX5, "print", "(I)V"⟩
abbrev cX5_stop : ByteArray := prog_7_method_16_code
def yX5_stop : MethodName := ⟨RX5, "stop", "()V"⟩
abbrev cX5_isWay : ByteArray := prog_7_method_17_code
def yX5_isWay : MethodName := ⟨RX5, "isWay", "(I)Z"⟩
abbrev cX5_wayToNearest : ByteArray := prog_7_method_18_code
def yX5_wayToNearest : MethodName := ⟨RX5, "wayToNearest", "()I"⟩
abbrev cX5_ride : ByteArray := prog_7_method_19_code
def yX5_ride : MethodName := ⟨RX5, "ride", "()V"⟩
abbrev cX5_hourOn : ByteArray := prog_7_method_20_code
def yX5_hourOn : MethodName := ⟨RX5, "hourOn", "()V"⟩
abbrev cX5_hoursOn : ByteArray := prog_7_method_21_code
def yX5_hoursOn : MethodName := ⟨RX5, "hoursOn", "(I)V"⟩
abbrev cX5_ones : ByteArray := prog_7_method_22_code
def yX5_ones : MethodName := ⟨RX5, "ones", "(I)I"⟩
abbrev cX5_cut : ByteArray := prog_7_method_23_code
def yX5_cut : MethodName := ⟨RX5, "cut", "()I"⟩
abbrev cX5_warmth : ByteArray := prog_7_method_24_code
def yX5_warmth : MethodName := ⟨RX5, "warmth", "()I"⟩
abbrev cX5_begin : ByteArray := prog_7_method_25_code
def yX5_begin : MethodName := ⟨RX5, "begin", "(I)I"⟩
abbrev cX5_addParagraph : ByteArray := prog_7_method_26_code
def yX5_addParagraph : MethodName := ⟨RX5, "addParagraph", "(III)I"⟩
abbrev cX5_turnTopic : ByteArray := prog_7_method_27_code
def yX5_turnTopic : MethodName := ⟨RX5, "turnTopic", "(I)Z"⟩
abbrev cX5_setLimit : ByteArray := prog_7_method_28_code
def yX5_setLimit : MethodName := ⟨RX5, "setLimit", "(I)I"⟩
abbrev cX5_addReader : ByteArray := prog_7_method_29_code
def yX5_addReader : MethodName := ⟨RX5, "addReader", "(II)I"⟩
abbrev cX5_addMirror : ByteArray := prog_7_method_30_code
def yX5_addMirror : MethodName := ⟨RX5, "addMirror", "(II)I"⟩
abbrev cX5_call : ByteArray := prog_7_method_31_code
def yX5_call : MethodName := ⟨RX5, "call", "(I)Z"⟩
abbrev cX5_repair : ByteArray := prog_7_method_32_code
def yX5_repair : MethodName := ⟨RX5, "repair", "()I"⟩
abbrev cX5_passHours : ByteArray := prog_7_method_33_code
def yX5_passHours : MethodName := ⟨RX5, "passHours", "(I)I"⟩
abbrev cX5_floors : ByteArray := prog_7_method_34_code
def yX5_floors : MethodName := ⟨RX5, "floors", "()I"⟩
abbrev cX5_hours : ByteArray := prog_7_method_35_code
def yX5_hours : MethodName := ⟨RX5, "hours", "()I"⟩
abbrev cX5_liftAt : ByteArray := prog_7_method_36_code
def yX5_liftAt : MethodName := ⟨RX5, "liftAt", "()I"⟩
abbrev cX5_goes : ByteArray := prog_7_method_37_code
def yX5_goes : MethodName := ⟨RX5, "goes", "()I"⟩
abbrev cX5_isCalled : ByteArray := prog_7_method_38_code
def yX5_isCalled : MethodName := ⟨RX5, "isCalled", "(I)Z"⟩
abbrev cX5_calls : ByteArray := prog_7_method_39_code
def yX5_calls : MethodName := ⟨RX5, "calls", "()I"⟩
abbrev cX5_stuckFor : ByteArray := prog_7_method_40_code
def yX5_stuckFor : MethodName := ⟨RX5, "stuckFor", "()I"⟩
abbrev cX5_wear : ByteArray := prog_7_method_41_code
def yX5_wear : MethodName := ⟨RX5, "wear", "()I"⟩
abbrev cX5_limit : ByteArray := prog_7_method_42_code
def yX5_limit : MethodName := ⟨RX5, "limit", "()I"⟩
abbrev cX5_suspense : ByteArray := prog_7_method_43_code
def yX5_suspense : MethodName := ⟨RX5, "suspense", "()I"⟩
abbrev cX5_paragraphs : ByteArray := prog_7_method_44_code
def yX5_paragraphs : MethodName := ⟨RX5, "paragraphs", "(I)I"⟩
abbrev cX5_next : ByteArray := prog_7_method_45_code
def yX5_next : MethodName := ⟨RX5, "next", "(I)I"⟩
abbrev cX5_nextParagraph : ByteArray := prog_7_method_46_code
def yX5_nextParagraph : MethodName := ⟨RX5, "nextParagraph", "(I)I"⟩
abbrev cX5_of : ByteArray := prog_7_method_47_code
def yX5_of : MethodName := ⟨RX5, "of", "(II[I)I"⟩
abbrev cX5_topicOf : ByteArray := prog_7_method_48_code
def yX5_topicOf : MethodName := ⟨RX5, "topicOf", "(II)I"⟩
abbrev cX5_thrillOf : ByteArray := prog_7_method_49_code
def yX5_thrillOf : MethodName := ⟨RX5, "thrillOf", "(II)I"⟩
abbrev cX5_cutOn : ByteArray := prog_7_method_50_code
def yX5_cutOn : MethodName := ⟨RX5, "cutOn", "(I)I"⟩
abbrev cX5_isForbidden : ByteArray := prog_7_method_51_code
def yX5_isForbidden : MethodName := ⟨RX5, "isForbidden", "(I)Z"⟩
abbrev cX5_cuts : ByteArray := prog_7_method_52_code
def yX5_cuts : MethodName := ⟨RX5, "cuts", "()I"⟩
abbrev cX5_comes : ByteArray := prog_7_method_53_code
def yX5_comes : MethodName := ⟨RX5, "comes", "(I)I"⟩
abbrev cX5_toCome : ByteArray := prog_7_method_54_code
def yX5_toCome : MethodName := ⟨RX5, "toCome", "(I)I"⟩
abbrev cX5_instalments : ByteArray := prog_7_method_55_code
def yX5_instalments : MethodName := ⟨RX5, "instalments", "()I"⟩
abbrev cX5_floorIn : ByteArray := prog_7_method_56_code
def yX5_floorIn : MethodName := ⟨RX5, "floorIn", "(I)I"⟩
abbrev cX5_paragraphIn : ByteArray := prog_7_method_57_code
def yX5_paragraphIn : MethodName := ⟨RX5, "paragraphIn", "(I)I"⟩
abbrev cX5_thrillIn : ByteArray := prog_7_method_58_code
def yX5_thrillIn : MethodName := ⟨RX5, "thrillIn", "(I)I"⟩
abbrev cX5_hourIn : ByteArray := prog_7_method_59_code
def yX5_hourIn : MethodName := ⟨RX5, "hourIn", "(I)I"⟩
abbrev cX5_thrilling : ByteArray := prog_7_method_60_code
def yX5_thrilling : MethodName := ⟨RX5, "thrilling", "()I"⟩
abbrev cX5_mostThrilling : ByteArray := prog_7_method_61_code
def yX5_mostThrilling : MethodName := ⟨RX5, "mostThrilling", "()I"⟩
abbrev cX5_waits : ByteArray := prog_7_method_62_code
def yX5_waits : MethodName := ⟨RX5, "waits", "()I"⟩
abbrev cX5_longestWait : ByteArray := prog_7_method_63_code
def yX5_longestWait : MethodName := ⟨RX5, "longestWait", "()I"⟩
abbrev cX5_rises : ByteArray := prog_7_method_64_code
def yX5_rises : MethodName := ⟨RX5, "rises", "()I"⟩
abbrev cX5_climbs : ByteArray := prog_7_method_65_code
def yX5_climbs : MethodName := ⟨RX5, "climbs", "()I"⟩
abbrev cX5_readers : ByteArray := prog_7_method_66_code
def yX5_readers : MethodName := ⟨RX5, "readers", "()I"⟩
abbrev cX5_subscribers : ByteArray := prog_7_method_67_code
def yX5_subscribers : MethodName := ⟨RX5, "subscribers", "()I"⟩
abbrev cX5_tasteOf : ByteArray := prog_7_method_68_code
def yX5_tasteOf : MethodName := ⟨RX5, "tasteOf", "(I)I"⟩
abbrev cX5_warm : ByteArray := prog_7_method_69_code
def yX5_warm : MethodName := ⟨RX5, "warm", "(I)I"⟩
abbrev cX5_warmthOf : ByteArray := prog_7_method_70_code
def yX5_warmthOf : MethodName := ⟨RX5, "warmthOf", "(I)I"⟩
abbrev cX5_isSubscriber : ByteArray := prog_7_method_71_code
def yX5_isSubscriber : MethodName := ⟨RX5, "isSubscriber", "(I)Z"⟩
abbrev cX5_hottest : ByteArray := prog_7_method_72_code
def yX5_hottest : MethodName := ⟨RX5, "hottest", "()I"⟩
abbrev cX5_warmest : ByteArray := prog_7_method_73_code
def yX5_warmest : MethodName := ⟨RX5, "warmest", "()I"⟩
abbrev cX5_mirrors : ByteArray := prog_7_method_74_code
def yX5_mirrors : MethodName := ⟨RX5, "mirrors", "()I"⟩
abbrev cX5_graded : ByteArray := prog_7_method_75_code
def yX5_graded : MethodName := ⟨RX5, "graded", "(II)I"⟩
abbrev cX5_grade : ByteArray := prog_7_method_76_code
def yX5_grade : MethodName := ⟨RX5, "grade", "(II)I"⟩
abbrev cX5_sumBy : ByteArray := prog_7_method_77_code
def yX5_sumBy : MethodName := ⟨RX5, "sumBy", "(I)I"⟩
abbrev cX5_gradesBy : ByteArray := prog_7_method_78_code
def yX5_gradesBy : MethodName := ⟨RX5, "gradesBy", "(I)I"⟩
abbrev cX5_liked : ByteArray := prog_7_method_79_code
def yX5_liked : MethodName := ⟨RX5, "liked", "(I)I"⟩
abbrev cX5_favouriteOf : ByteArray := prog_7_method_80_code
def yX5_favouriteOf : MethodName := ⟨RX5, "favouriteOf", "(I)I"⟩
abbrev cX5_kind : ByteArray := prog_7_method_81_code
def yX5_kind : MethodName := ⟨RX5, "kind", "()I"⟩
abbrev cX5_kindest : ByteArray := prog_7_method_82_code
def yX5_kindest : MethodName := ⟨RX5, "kindest", "()I"⟩
abbrev cX5_untilStop : ByteArray := prog_7_method_83_code
def yX5_untilStop : MethodName := ⟨RX5, "untilStop", "(I)I"⟩
abbrev cX5_hoursUntilStop : ByteArray := prog_7_method_84_code
def yX5_hoursUntilStop : MethodName := ⟨RX5, "hoursUntilStop", "(I)I"⟩
abbrev cX5_untilStuck : ByteArray := prog_7_method_85_code
def yX5_untilStuck : MethodName := ⟨RX5, "untilStuck", "()I"⟩
abbrev cX5_hoursUntilStuck : ByteArray := prog_7_method_86_code
def yX5_hoursUntilStuck : MethodName := ⟨RX5, "hoursUntilStuck", "()I"⟩
abbrev cX5_then : ByteArray := prog_7_method_87_code
def yX5_then : MethodName := ⟨RX5, "then", "(II)I"⟩
abbrev cX5_printedIn : ByteArray := prog_7_method_88_code
def yX5_printedIn : MethodName := ⟨RX5, "printedIn", "(I)I"⟩
abbrev cX5_subscribersIn : ByteArray := prog_7_method_89_code
def yX5_subscribersIn : MethodName := ⟨RX5, "subscribersIn", "(I)I"⟩
abbrev cX5_callBest : ByteArray := prog_7_method_90_code
def yX5_callBest : MethodName := ⟨RX5, "callBest", "(I)I"⟩
abbrev cX5_bestToCall : ByteArray := prog_7_method_91_code
def yX5_bestToCall : MethodName := ⟨RX5, "bestToCall", "(I)I"⟩
abbrev cX5_allowBest : ByteArray := prog_7_method_92_code
def yX5_allowBest : MethodName := ⟨RX5, "allowBest", "(I)I"⟩
abbrev cX5_bestToAllow : ByteArray := prog_7_method_93_code
def yX5_bestToAllow : MethodName := ⟨RX5, "bestToAllow", "(I)I"⟩
abbrev cX5_meanWarmth : ByteArray := prog_7_method_94_code
def yX5_meanWarmth : MethodName := ⟨RX5, "meanWarmth", "()D"⟩
abbrev cX5_digest : ByteArray := prog_7_method_95_code
def yX5_digest : MethodName := ⟨RX5, "digest", "()J"⟩
def RJ9 : String := "java/lang/Math"
def TJ9 : u_T := fun k => match k with
  | _ => ("", "", "", false)
def tyJ9 : Nat → FieldType := fun k => match k with
  | _ => .int
abbrev wsJ90 : List Cond := u_ws RJ9 TJ9 0
theorem nmJ9 : ∀ a, a < 0 → ∀ b, b < 0 → a ≠ b → (TJ9 a).2.1 ≠ (TJ9 b).2.1 := by decide +kernel
theorem tyJ9_ok : ∀ k, k < 0 → parseFieldDescriptor (TJ9 k).2.2.1 = some (tyJ9 k) := by decide +kernel
abbrev cJ9_max_7cf53 : ByteArray := prog_12_method_65_code
def yJ9_max_7cf53 : MethodName := ⟨RJ9, "max", "(II)I"⟩
abbrev cJ9_min_7cf53 : ByteArray := prog_12_method_69_code
def yJ9_min_7cf53 : MethodName := ⟨RJ9, "min", "(II)I"⟩
def RJ0 : String := "java/lang/String"
def TJ0 : u_T := fun k => match k with
  | _ => ("", "", "", false)
def tyJ0 : Nat → FieldType := fun k => match k with
  | _ => .int
abbrev wsJ00 : List Cond := u_ws RJ0 TJ0 0
theorem nmJ0 : ∀ a, a < 0 → ∀ b, b < 0 → a ≠ b → (TJ0 a).2.1 ≠ (TJ0 b).2.1 := by decide +kernel
theorem tyJ0_ok : ∀ k, k < 0 → parseFieldDescriptor (TJ0 k).2.2.1 = some (tyJ0 k) := by decide +kernel
def RJ10 : String := "java/lang/System"
def TJ10 : u_T := fun k => match k with
  | _ => ("", "", "", false)
def tyJ10 : Nat → FieldType := fun k => match k with
  | _ => .int
abbrev wsJ100 : List Cond := u_ws RJ10 TJ10 0
theorem nmJ10 : ∀ a, a < 0 → ∀ b, b < 0 → a ≠ b → (TJ10 a).2.1 ≠ (TJ10 b).2.1 := by decide +kernel
theorem tyJ10_ok : ∀ k, k < 0 → parseFieldDescriptor (TJ10 k).2.2.1 = some (tyJ10 k) := by decide +kernel
def RL : String := "LiftNovelLaw"
abbrev cL_begin : ByteArray := method_3_code
def yL_begin : MethodName := ⟨RL, "begin", "(LLiftNovel;I[J)I"⟩
abbrev cL_addParagraph : ByteArray := method_4_code
def yL_addParagraph : MethodName := ⟨RL, "addParagraph", "(LLiftNovel;III[J)I"⟩
abbrev cL_turnTopic : ByteArray := method_5_code
def yL_turnTopic : MethodName := ⟨RL, "turnTopic", "(LLiftNovel;I[J)I"⟩
abbrev cL_setLimit : ByteArray := method_6_code
def yL_setLimit : MethodName := ⟨RL, "setLimit", "(LLiftNovel;I[J)I"⟩
abbrev cL_addReader : ByteArray := method_7_code
def yL_addReader : MethodName := ⟨RL, "addReader", "(LLiftNovel;II[J)I"⟩
abbrev cL_addMirror : ByteArray := method_8_code
def yL_addMirror : MethodName := ⟨RL, "addMirror", "(LLiftNovel;II[J)I"⟩
abbrev cL_call : ByteArray := method_9_code
def yL_call : MethodName := ⟨RL, "call", "(LLiftNovel;I[J)I"⟩
abbrev cL_passHours : ByteArray := method_10_code
def yL_passHours : MethodName := ⟨RL, "passHours", "(LLiftNovel;I[J)I"⟩
abbrev cL_isCalled : ByteArray := method_11_code
def yL_isCalled : MethodName := ⟨RL, "isCalled", "(LLiftNovel;I[J)I"⟩
abbrev cL_paragraphs : ByteArray := method_12_code
def yL_paragraphs : MethodName := ⟨RL, "paragraphs", "(LLiftNovel;I[J)I"⟩
abbrev cL_nextParagraph : ByteArray := method_13_code
def yL_nextParagraph : MethodName := ⟨RL, "nextParagraph", "(LLiftNovel;I[J)I"⟩
abbrev cL_topicOf : ByteArray := method_14_code
def yL_topicOf : MethodName := ⟨RL, "topicOf", "(LLiftNovel;II[J)I"⟩
abbrev cL_thrillOf : ByteArray := method_15_code
def yL_thrillOf : MethodName := ⟨RL, "thrillOf", "(LLiftNovel;II[J)I"⟩
abbrev cL_cutOn : ByteArray := method_16_code
def yL_cutOn : MethodName := ⟨RL, "cutOn", "(LLiftNovel;I[J)I"⟩
abbrev cL_isForbidden : ByteArray := method_17_code
def yL_isForbidden : MethodName := ⟨RL, "isForbidden", "(LLiftNovel;I[J)I"⟩
abbrev cL_toCome : ByteArray := method_18_code
def yL_toCome : MethodName := ⟨RL, "toCome", "(LLiftNovel;I[J)I"⟩
abbrev cL_floorIn : ByteArray := method_19_code
def yL_floorIn : MethodName := ⟨RL, "floorIn", "(LLiftNovel;I[J)I"⟩
abbrev cL_paragraphIn : ByteArray := method_20_code
def yL_paragraphIn : MethodName := ⟨RL, "paragraphIn", "(LLiftNovel;I[J)I"⟩
abbrev cL_thrillIn : ByteArray := method_21_code
def yL_thrillIn : MethodName := ⟨RL, "thrillIn", "(LLiftNovel;I[J)I"⟩
abbrev cL_hourIn : ByteArray := method_22_code
def yL_hourIn : MethodName := ⟨RL, "hourIn", "(LLiftNovel;I[J)I"⟩
abbrev cL_tasteOf : ByteArray := method_23_code
def yL_tasteOf : MethodName := ⟨RL, "tasteOf", "(LLiftNovel;I[J)I"⟩
abbrev cL_warmthOf : ByteArray := method_24_code
def yL_warmthOf : MethodName := ⟨RL, "warmthOf", "(LLiftNovel;I[J)I"⟩
abbrev cL_isSubscriber : ByteArray := method_25_code
def yL_isSubscriber : MethodName := ⟨RL, "isSubscriber", "(LLiftNovel;I[J)I"⟩
abbrev cL_grade : ByteArray := method_26_code
def yL_grade : MethodName := ⟨RL, "grade", "(LLiftNovel;II[J)I"⟩
abbrev cL_gradesBy : ByteArray := method_27_code
def yL_gradesBy : MethodName := ⟨RL, "gradesBy", "(LLiftNovel;I[J)I"⟩
abbrev cL_favouriteOf : ByteArray := method_28_code
def yL_favouriteOf : MethodName := ⟨RL, "favouriteOf", "(LLiftNovel;I[J)I"⟩
abbrev cL_hoursUntilStop : ByteArray := method_29_code
def yL_hoursUntilStop : MethodName := ⟨RL, "hoursUntilStop", "(LLiftNovel;I[J)I"⟩
abbrev cL_printedIn : ByteArray := method_30_code
def yL_printedIn : MethodName := ⟨RL, "printedIn", "(LLiftNovel;I[J)I"⟩
abbrev cL_subscribersIn : ByteArray := method_31_code
def yL_subscribersIn : MethodName := ⟨RL, "subscribersIn", "(LLiftNovel;I[J)I"⟩
abbrev cL_bestToCall : ByteArray := method_32_code
def yL_bestToCall : MethodName := ⟨RL, "bestToCall", "(LLiftNovel;I[J)I"⟩
abbrev cL_bestToAllow : ByteArray := method_33_code
def yL_bestToAllow : MethodName := ⟨RL, "bestToAllow", "(LLiftNovel;I[J)I"⟩
abbrev cL_law : ByteArray := code
def yL_law : MethodName := ⟨RL, "law", "([I)Z"⟩
def wsJ9_max_7cf53 : List Cond := .code yJ9_max_7cf53 cJ9_max_7cf53 2 (some .int) :: ([])
def wsJ9_min_7cf53 : List Cond := .code yJ9_min_7cf53 cJ9_min_7cf53 2 (some .int) :: ([])
abbrev vwCl : List vw_C := [(RX0, TX0, 14), (RX1, TX1, 7), (RX2, TX2, 5), (RX3, TX3, 3), (RX4, TX4, 5), (RX5, TX5, 18)]
end
section
theorem dX0_init_0 : decode cX0_init 0 = .ok (.aload_n 0, 1) := by decide +kernel
theorem dX0_init_1 : decode cX0_init 1 = .ok (.invokespecial 3, 3) := by decide +kernel
theorem dX0_init_4 : decode cX0_init 4 = .ok (.aload_n 0, 1) := by decide +kernel
theorem dX0_init_5 : decode cX0_init 5 = .ok (.iconst 0, 1) := by decide +kernel
theorem dX0_init_6 : decode cX0_init 6 = .ok (.putfield 9, 3) := by decide +kernel
theorem dX0_init_9 : decode cX0_init 9 = .ok (.aload_n 0, 1) := by decide +kernel
theorem dX0_init_10 : decode cX0_init 10 = .ok (.iconst 0, 1) := by decide +kernel
theorem dX0_init_11 : decode cX0_init 11 = .ok (.putfield 15, 3) := by decide +kernel
theorem dX0_init_14 : decode cX0_init 14 = .ok (.aload_n 0, 1) := by decide +kernel
theorem dX0_init_15 : decode cX0_init 15 = .ok (.iconst 0, 1) := by decide +kernel
theorem dX0_init_16 : decode cX0_init 16 = .ok (.putfield 18, 3) := by decide +kernel
theorem dX0_init_19 : decode cX0_init 19 = .ok (.aload_n 0, 1) := by decide +kernel
theorem dX0_init_20 : decode cX0_init 20 = .ok (.iconst 0, 1) := by decide +kernel
theorem dX0_init_21 : decode cX0_init 21 = .ok (.putfield 21, 3) := by decide +kernel
theorem dX0_init_24 : decode cX0_init 24 = .ok (.aload_n 0, 1) := by decide +kernel
theorem dX0_init_25 : decode cX0_init 25 = .ok (.iconst 0, 1) := by decide +kernel
theorem dX0_init_26 : decode cX0_init 26 = .ok (.putfield 24, 3) := by decide +kernel
theorem dX0_init_29 : decode cX0_init 29 = .ok (.aload_n 0, 1) := by decide +kernel
theorem dX0_init_30 : decode cX0_init 30 = .ok (.iconst 0, 1) := by decide +kernel
theorem dX0_init_31 : decode cX0_init 31 = .ok (.putfield 27, 3) := by decide +kernel
theorem dX0_init_34 : decode cX0_init 34 = .ok (.aload_n 0, 1) := by decide +kernel
theorem dX0_init_35 : decode cX0_init 35 = .ok (.iconst 0, 1) := by decide +kernel
theorem dX0_init_36 : decode cX0_init 36 = .ok (.putfield 30, 3) := by decide +kernel
theorem dX0_init_39 : decode cX0_init 39 = .ok (.aload_n 0, 1) := by decide +kernel
theorem dX0_init_40 : decode cX0_init 40 = .ok (.bipush 12, 2) := by decide +kernel
theorem dX0_init_42 : decode cX0_init 42 = .ok (.newarray .boolean, 2) := by decide +kernel
theorem dX0_init_44 : decode cX0_init 44 = .ok (.putfield 33, 3) := by decide +kernel
theorem dX0_init_47 : decode cX0_init 47 = .ok (.aload_n 0, 1) := by decide +kernel
theorem dX0_init_48 : decode cX0_init 48 = .ok (.bipush 12, 2) := by decide +kernel
theorem dX0_init_50 : decode cX0_init 50 = .ok (.newarray .int, 2) := by decide +kernel
theorem dX0_init_52 : decode cX0_init 52 = .ok (.putfield 37, 3) := by decide +kernel
theorem dX0_init_55 : decode cX0_init 55 = .ok (.aload_n 0, 1) := by decide +kernel
theorem dX0_init_56 : decode cX0_init 56 = .ok (.bipush 12, 2) := by decide +kernel
theorem dX0_init_58 : decode cX0_init 58 = .ok (.newarray .int, 2) := by decide +kernel
theorem dX0_init_60 : decode cX0_init 60 = .ok (.putfield 41, 3) := by decide +kernel
theorem dX0_init_63 : decode cX0_init 63 = .ok (.aload_n 0, 1) := by decide +kernel
theorem dX0_init_64 : decode cX0_init 64 = .ok (.bipush 8, 2) := by decide +kernel
theorem dX0_init_66 : decode cX0_init 66 = .ok (.newarray .boolean, 2) := by decide +kernel
theorem dX0_init_68 : decode cX0_init 68 = .ok (.putfield 44, 3) := by decide +kernel
theorem dX0_init_71 : decode cX0_init 71 = .ok (.aload_n 0, 1) := by decide +kernel
theorem dX0_init_72 : decode cX0_init 72 = .ok (.bipush 8, 2) := by decide +kernel
theorem dX0_init_74 : decode cX0_init 74 = .ok (.newarray .int, 2) := by decide +kernel
theorem dX0_init_76 : decode cX0_init 76 = .ok (.putfield 47, 3) := by decide +kernel
theorem dX0_init_79 : decode cX0_init 79 = .ok (.aload_n 0, 1) := by decide +kernel
theorem dX0_init_80 : decode cX0_init 80 = .ok (.bipush 8, 2) := by decide +kernel
theorem dX0_init_82 : decode cX0_init 82 = .ok (.newarray .boolean, 2) := by decide +kernel
theorem dX0_init_84 : decode cX0_init 84 = .ok (.putfield 50, 3) := by decide +kernel
theorem dX0_init_87 : decode cX0_init 87 = .ok (.aload_n 0, 1) := by decide +kernel
theorem dX0_init_88 : decode cX0_init 88 = .ok (.aload_n 1, 1) := by decide +kernel
theorem dX0_init_89 : decode cX0_init 89 = .ok (.putfield 53, 3) := by decide +kernel
theorem dX0_init_92 : decode cX0_init 92 = .ok (.return_, 1) := by decide +kernel
theorem dX0_startOver_0 : decode cX0_startOver 0 = .ok (.aload_n 0, 1) := by decide +kernel
theorem dX0_startOver_1 : decode cX0_startOver 1 = .ok (.iconst 0, 1) := by decide +kernel
theorem dX0_startOver_2 : decode cX0_startOver 2 = .ok (.putfield 15, 3) := by decide +kernel
theorem dX0_startOver_5 : decode cX0_startOver 5 = .ok (.aload_n 0, 1) := by decide +kernel
theorem dX0_startOver_6 : decode cX0_startOver 6 = .ok (.iconst 0, 1) := by decide +kernel
theorem dX0_startOver_7 : decode cX0_startOver 7 = .ok (.putfield 18, 3) := by decide +kernel
theorem dX0_startOver_10 : decode cX0_startOver 10 = .ok (.aload_n 0, 1) := by decide +kernel
theorem dX0_startOver_11 : decode cX0_startOver 11 = .ok (.iconst 0, 1) := by decide +kernel
theorem dX0_startOver_12 : decode cX0_startOver 12 = .ok (.putfield 21, 3) := by decide +kernel
theorem dX0_startOver_15 : decode cX0_startOver 15 = .ok (.aload_n 0, 1) := by decide +kernel
theorem dX0_startOver_16 : decode cX0_startOver 16 = .ok (.iconst 0, 1) := by decide +kernel
theorem dX0_startOver_17 : decode cX0_startOver 17 = .ok (.putfield 24, 3) := by decide +kernel
theorem dX0_startOver_20 : decode cX0_startOver 20 = .ok (.aload_n 0, 1) := by decide +kernel
theorem dX0_startOver_21 : decode cX0_startOver 21 = .ok (.iconst 0, 1) := by decide +kernel
theorem dX0_startOver_22 : decode cX0_startOver 22 = .ok (.putfield 27, 3) := by decide +kernel
theorem dX0_startOver_25 : decode cX0_startOver 25 = .ok (.aload_n 0, 1) := by decide +kernel
theorem dX0_startOver_26 : decode cX0_startOver 26 = .ok (.iconst 0, 1) := by decide +kernel
theorem dX0_startOver_27 : decode cX0_startOver 27 = .ok (.putfield 30, 3) := by decide +kernel
theorem dX0_startOver_30 : decode cX0_startOver 30 = .ok (.iconst 0, 1) := by decide +kernel
theorem dX0_startOver_31 : decode cX0_startOver 31 = .ok (.istore_n 1, 1) := by decide +kernel
theorem dX0_startOver_32 : decode cX0_startOver 32 = .ok (.iload_n 1, 1) := by decide +kernel
theorem dX0_startOver_33 : decode cX0_startOver 33 = .ok (.bipush 12, 2) := by decide +kernel
theorem dX0_startOver_35 : decode cX0_startOver 35 = .ok (.if_icmp .ge 30, 3) := by decide +kernel
theorem dX0_startOver_38 : decode cX0_startOver 38 = .ok (.aload_n 0, 1) := by decide +kernel
theorem dX0_startOver_39 : decode cX0_startOver 39 = .ok (.getfield 33, 3) := by decide +kernel
theorem dX0_startOver_42 : decode cX0_startOver 42 = .ok (.iload_n 1, 1) := by decide +kernel
theorem dX0_startOver_43 : decode cX0_startOver 43 = .ok (.iconst 0, 1) := by decide +kernel
theorem dX0_startOver_44 : decode cX0_startOver 44 = .ok (.bastore, 1) := by decide +kernel
theorem dX0_startOver_45 : decode cX0_startOver 45 = .ok (.aload_n 0, 1) := by decide +kernel
theorem dX0_startOver_46 : decode cX0_startOver 46 = .ok (.getfield 37, 3) := by decide +kernel
theorem dX0_startOver_49 : decode cX0_startOver 49 = .ok (.iload_n 1, 1) := by decide +kernel
theorem dX0_startOver_50 : decode cX0_startOver 50 = .ok (.iconst 0, 1) := by decide +kernel
theorem dX0_startOver_51 : decode cX0_startOver 51 = .ok (.iastore, 1) := by decide +kernel
theorem dX0_startOver_52 : decode cX0_startOver 52 = .ok (.aload_n 0, 1) := by decide +kernel
theorem dX0_startOver_53 : decode cX0_startOver 53 = .ok (.getfield 41, 3) := by decide +kernel
theorem dX0_startOver_56 : decode cX0_startOver 56 = .ok (.iload_n 1, 1) := by decide +kernel
theorem dX0_startOver_57 : decode cX0_startOver 57 = .ok (.iconst 0, 1) := by decide +kernel
theorem dX0_startOver_58 : decode cX0_startOver 58 = .ok (.iastore, 1) := by decide +kernel
theorem dX0_startOver_59 : decode cX0_startOver 59 = .ok (.iinc 1 1, 3) := by decide +kernel
theorem dX0_startOver_62 : decode cX0_startOver 62 = .ok (.goto (-30), 3) := by decide +kernel
theorem dX0_startOver_65 : decode cX0_startOver 65 = .ok (.return_, 1) := by decide +kernel
theorem dX0_copy_0 : decode cX0_copy 0 = .ok (.aload_n 0, 1) := by decide +kernel
theorem dX0_copy_1 : decode cX0_copy 1 = .ok (.aload_n 1, 1) := by decide +kernel
theorem dX0_copy_2 : decode cX0_copy 2 = .ok (.getfield 9, 3) := by decide +kernel
theorem dX0_copy_5 : decode cX0_copy 5 = .ok (.putfield 9, 3) := by decide +kernel
theorem dX0_copy_8 : decode cX0_copy 8 = .ok (.aload_n 0, 1) := by decide +kernel
theorem dX0_copy_9 : decode cX0_copy 9 = .ok (.aload_n 1, 1) := by decide +kernel
theorem dX0_copy_10 : decode cX0_copy 10 = .ok (.getfield 15, 3) := by decide +kernel
theorem dX0_copy_13 : decode cX0_copy 13 = .ok (.putfield 15, 3) := by decide +kernel
theorem dX0_copy_16 : decode cX0_copy 16 = .ok (.aload_n 0, 1) := by decide +kernel
theorem dX0_copy_17 : decode cX0_copy 17 = .ok (.aload_n 1, 1) := by decide +kernel
theorem dX0_copy_18 : decode cX0_copy 18 = .ok (.getfield 18, 3) := by decide +kernel
theorem dX0_copy_21 : decode cX0_copy 21 = .ok (.putfield 18, 3) := by decide +kernel
theorem dX0_copy_24 : decode cX0_copy 24 = .ok (.aload_n 0, 1) := by decide +kernel
theorem dX0_copy_25 : decode cX0_copy 25 = .ok (.aload_n 1, 1) := by decide +kernel
theorem dX0_copy_26 : decode cX0_copy 26 = .ok (.getfield 21, 3) := by decide +kernel
theorem dX0_copy_29 : decode cX0_copy 29 = .ok (.putfield 21, 3) := by decide +kernel
theorem dX0_copy_32 : decode cX0_copy 32 = .ok (.aload_n 0, 1) := by decide +kernel
theorem dX0_copy_33 : decode cX0_copy 33 = .ok (.aload_n 1, 1) := by decide +kernel
theorem dX0_copy_34 : decode cX0_copy 34 = .ok (.getfield 24, 3) := by decide +kernel
theorem dX0_copy_37 : decode cX0_copy 37 = .ok (.putfield 24, 3) := by decide +kernel
theorem dX0_copy_40 : decode cX0_copy 40 = .ok (.aload_n 0, 1) := by decide +kernel
theorem dX0_copy_41 : decode cX0_copy 41 = .ok (.aload_n 1, 1) := by decide +kernel
theorem dX0_copy_42 : decode cX0_copy 42 = .ok (.getfield 27, 3) := by decide +kernel
theorem dX0_copy_45 : decode cX0_copy 45 = .ok (.putfield 27, 3) := by decide +kernel
theorem dX0_copy_48 : decode cX0_copy 48 = .ok (.aload_n 0, 1) := by decide +kernel
theorem dX0_copy_49 : decode cX0_copy 49 = .ok (.aload_n 1, 1) := by decide +kernel
theorem dX0_copy_50 : decode cX0_copy 50 = .ok (.getfield 30, 3) := by decide +kernel
theorem dX0_copy_53 : decode cX0_copy 53 = .ok (.putfield 30, 3) := by decide +kernel
theorem dX0_copy_56 : decode cX0_copy 56 = .ok (.iconst 0, 1) := by decide +kernel
theorem dX0_copy_57 : decode cX0_copy 57 = .ok (.istore_n 2, 1) := by decide +kernel
theorem dX0_copy_58 : decode cX0_copy 58 = .ok (.iload_n 2, 1) := by decide +kernel
theorem dX0_copy_59 : decode cX0_copy 59 = .ok (.bipush 12, 2) := by decide +kernel
theorem dX0_copy_61 : decode cX0_copy 61 = .ok (.if_icmp .ge 45, 3) := by decide +kernel
theorem dX0_copy_64 : decode cX0_copy 64 = .ok (.aload_n 0, 1) := by decide +kernel
theorem dX0_copy_65 : decode cX0_copy 65 = .ok (.getfield 33, 3) := by decide +kernel
theorem dX0_copy_68 : decode cX0_copy 68 = .ok (.iload_n 2, 1) := by decide +kernel
theorem dX0_copy_69 : decode cX0_copy 69 = .ok (.aload_n 1, 1) := by decide +kernel
theorem dX0_copy_70 : decode cX0_copy 70 = .ok (.getfield 33, 3) := by decide +kernel
theorem dX0_copy_73 : decode cX0_copy 73 = .ok (.iload_n 2, 1) := by decide +kernel
theorem dX0_copy_74 : decode cX0_copy 74 = .ok (.baload, 1) := by decide +kernel
theorem dX0_copy_75 : decode cX0_copy 75 = .ok (.bastore, 1) := by decide +kernel
theorem dX0_copy_76 : decode cX0_copy 76 = .ok (.aload_n 0, 1) := by decide +kernel
theorem dX0_copy_77 : decode cX0_copy 77 = .ok (.getfield 37, 3) := by decide +kernel
theorem dX0_copy_80 : decode cX0_copy 80 = .ok (.iload_n 2, 1) := by decide +kernel
theorem dX0_copy_81 : decode cX0_copy 81 = .ok (.aload_n 1, 1) := by decide +kernel
theorem dX0_copy_82 : decode cX0_copy 82 = .ok (.getfield 37, 3) := by decide +kernel
theorem dX0_copy_85 : decode cX0_copy 85 = .ok (.iload_n 2, 1) := by decide +kernel
theorem dX0_copy_86 : decode cX0_copy 86 = .ok (.iaload, 1) := by decide +kernel
theorem dX0_copy_87 : decode cX0_copy 87 = .ok (.iastore, 1) := by decide +kernel
theorem dX0_copy_88 : decode cX0_copy 88 = .ok (.aload_n 0, 1) := by decide +kernel
theorem dX0_copy_89 : decode cX0_copy 89 = .ok (.getfield 41, 3) := by decide +kernel
theorem dX0_copy_92 : decode cX0_copy 92 = .ok (.iload_n 2, 1) := by decide +kernel
theorem dX0_copy_93 : decode cX0_copy 93 = .ok (.aload_n 1, 1) := by decide +kernel
theorem dX0_copy_94 : decode cX0_copy 94 = .ok (.getfield 41, 3) := by decide +kernel
theorem dX0_copy_97 : decode cX0_copy 97 = .ok (.iload_n 2, 1) := by decide +kernel
theorem dX0_copy_98 : decode cX0_copy 98 = .ok (.iaload, 1) := by decide +kernel
theorem dX0_copy_99 : decode cX0_copy 99 = .ok (.iastore, 1) := by decide +kernel
theorem dX0_copy_100 : decode cX0_copy 100 = .ok (.iinc 2 1, 3) := by decide +kernel
theorem dX0_copy_103 : decode cX0_copy 103 = .ok (.goto (-45), 3) := by decide +kernel
theorem dX0_copy_106 : decode cX0_copy 106 = .ok (.iconst 0, 1) := by decide +kernel
theorem dX0_copy_107 : decode cX0_copy 107 = .ok (.istore_n 2, 1) := by decide +kernel
theorem dX0_copy_108 : decode cX0_copy 108 = .ok (.iload_n 2, 1) := by decide +kernel
theorem dX0_copy_109 : decode cX0_copy 109 = .ok (.bipush 8, 2) := by decide +kernel
theorem dX0_copy_111 : decode cX0_copy 111 = .ok (.if_icmp .ge 21, 3) := by decide +kernel
theorem dX0_copy_114 : decode cX0_copy 114 = .ok (.aload_n 0, 1) := by decide +kernel
theorem dX0_copy_115 : decode cX0_copy 115 = .ok (.getfield 44, 3) := by decide +kernel
theorem dX0_copy_118 : decode cX0_copy 118 = .ok (.iload_n 2, 1) := by decide +kernel
theorem dX0_copy_119 : decode cX0_copy 119 = .ok (.aload_n 1, 1) := by decide +kernel
theorem dX0_copy_120 : decode cX0_copy 120 = .ok (.getfield 44, 3) := by decide +kernel
theorem dX0_copy_123 : decode cX0_copy 123 = .ok (.iload_n 2, 1) := by decide +kernel
theorem dX0_copy_124 : decode cX0_copy 124 = .ok (.baload, 1) := by decide +kernel
theorem dX0_copy_125 : decode cX0_copy 125 = .ok (.bastore, 1) := by decide +kernel
theorem dX0_copy_126 : decode cX0_copy 126 = .ok (.iinc 2 1, 3) := by decide +kernel
theorem dX0_copy_129 : decode cX0_copy 129 = .ok (.goto (-21), 3) := by decide +kernel
theorem dX0_copy_132 : decode cX0_copy 132 = .ok (.iconst 0, 1) := by decide +kernel
theorem dX0_copy_133 : decode cX0_copy 133 = .ok (.istore_n 2, 1) := by decide +kernel
theorem dX0_copy_134 : decode cX0_copy 134 = .ok (.iload_n 2, 1) := by decide +kernel
theorem dX0_copy_135 : decode cX0_copy 135 = .ok (.bipush 8, 2) := by decide +kernel
theorem dX0_copy_137 : decode cX0_copy 137 = .ok (.if_icmp .ge 33, 3) := by decide +kernel
theorem dX0_copy_140 : decode cX0_copy 140 = .ok (.aload_n 0, 1) := by decide +kernel
theorem dX0_copy_141 : decode cX0_copy 141 = .ok (.getfield 47, 3) := by decide +kernel
theorem dX0_copy_144 : decode cX0_copy 144 = .ok (.iload_n 2, 1) := by decide +kernel
theorem dX0_copy_145 : decode cX0_copy 145 = .ok (.aload_n 1, 1) := by decide +kernel
theorem dX0_copy_146 : decode cX0_copy 146 = .ok (.getfield 47, 3) := by decide +kernel
theorem dX0_copy_149 : decode cX0_copy 149 = .ok (.iload_n 2, 1) := by decide +kernel
theorem dX0_copy_150 : decode cX0_copy 150 = .ok (.iaload, 1) := by decide +kernel
theorem dX0_copy_151 : decode cX0_copy 151 = .ok (.iastore, 1) := by decide +kernel
theorem dX0_copy_152 : decode cX0_copy 152 = .ok (.aload_n 0, 1) := by decide +kernel
theorem dX0_copy_153 : decode cX0_copy 153 = .ok (.getfield 50, 3) := by decide +kernel
theorem dX0_copy_156 : decode cX0_copy 156 = .ok (.iload_n 2, 1) := by decide +kernel
theorem dX0_copy_157 : decode cX0_copy 157 = .ok (.aload_n 1, 1) := by decide +kernel
theorem dX0_copy_158 : decode cX0_copy 158 = .ok (.getfield 50, 3) := by decide +kernel
theorem dX0_copy_161 : decode cX0_copy 161 = .ok (.iload_n 2, 1) := by decide +kernel
theorem dX0_copy_162 : decode cX0_copy 162 = .ok (.baload, 1) := by decide +kernel
theorem dX0_copy_163 : decode cX0_copy 163 = .ok (.bastore, 1) := by decide +kernel
theorem dX0_copy_164 : decode cX0_copy 164 = .ok (.iinc 2 1, 3) := by decide +kernel
theorem dX0_copy_167 : decode cX0_copy 167 = .ok (.goto (-33), 3) := by decide +kernel
theorem dX0_copy_170 : decode cX0_copy 170 = .ok (.return_, 1) := by decide +kernel
theorem dX0_passHour_0 : decode cX0_passHour 0 = .ok (.iconst (-1), 1) := by decide +kernel
theorem dX0_passHour_1 : decode cX0_passHour 1 = .ok (.istore_n 1, 1) := by decide +kernel
theorem dX0_passHour_2 : decode cX0_passHour 2 = .ok (.aload_n 0, 1) := by decide +kernel
theorem dX0_passHour_3 : decode cX0_passHour 3 = .ok (.getfield 21, 3) := by decide +kernel
theorem dX0_passHour_6 : decode cX0_passHour 6 = .ok (.ifCond .le 10, 3) := by decide +kernel
theorem dX0_passHour_9 : decode cX0_passHour 9 = .ok (.aload_n 0, 1) := by decide +kernel
theorem dX0_passHour_10 : decode cX0_passHour 10 = .ok (.invokevirtual 57, 3) := by decide +kernel
theorem dX0_passHour_13 : decode cX0_passHour 13 = .ok (.goto 19, 3) := by decide +kernel
theorem dX0_passHour_16 : decode cX0_passHour 16 = .ok (.aload_n 0, 1) := by decide +kernel
theorem dX0_passHour_17 : decode cX0_passHour 17 = .ok (.invokevirtual 60, 3) := by decide +kernel
theorem dX0_passHour_20 : decode cX0_passHour 20 = .ok (.ifCond .le 12, 3) := by decide +kernel
theorem dX0_passHour_23 : decode cX0_passHour 23 = .ok (.aload_n 0, 1) := by decide +kernel
theorem dX0_passHour_24 : decode cX0_passHour 24 = .ok (.invokevirtual 64, 3) := by decide +kernel
theorem dX0_passHour_27 : decode cX0_passHour 27 = .ok (.aload_n 0, 1) := by decide +kernel
theorem dX0_passHour_28 : decode cX0_passHour 28 = .ok (.invokevirtual 67, 3) := by decide +kernel
theorem dX0_passHour_31 : decode cX0_passHour 31 = .ok (.istore_n 1, 1) := by decide +kernel
theorem dX0_passHour_32 : decode cX0_passHour 32 = .ok (.iload_n 1, 1) := by decide +kernel
theorem dX0_passHour_33 : decode cX0_passHour 33 = .ok (.iconst (-1), 1) := by decide +kernel
theorem dX0_passHour_34 : decode cX0_passHour 34 = .ok (.if_icmp .ne 7, 3) := by decide +kernel
theorem dX0_passHour_37 : decode cX0_passHour 37 = .ok (.aload_n 0, 1) := by decide +kernel
theorem dX0_passHour_38 : decode cX0_passHour 38 = .ok (.invokevirtual 70, 3) := by decide +kernel
theorem dX0_passHour_41 : decode cX0_passHour 41 = .ok (.aload_n 0, 1) := by decide +kernel
theorem dX0_passHour_42 : decode cX0_passHour 42 = .ok (.invokevirtual 60, 3) := by decide +kernel
theorem dX0_passHour_45 : decode cX0_passHour 45 = .ok (.ifCond .ne 8, 3) := by decide +kernel
theorem dX0_passHour_48 : decode cX0_passHour 48 = .ok (.aload_n 0, 1) := by decide +kernel
theorem dX0_passHour_49 : decode cX0_passHour 49 = .ok (.iconst 0, 1) := by decide +kernel
theorem dX0_passHour_50 : decode cX0_passHour 50 = .ok (.putfield 18, 3) := by decide +kernel
theorem dX0_passHour_53 : decode cX0_passHour 53 = .ok (.aload_n 0, 1) := by decide +kernel
theorem dX0_passHour_54 : decode cX0_passHour 54 = .ok (.invokevirtual 73, 3) := by decide +kernel
theorem dX0_passHour_57 : decode cX0_passHour 57 = .ok (.aload_n 0, 1) := by decide +kernel
theorem dX0_passHour_58 : decode cX0_passHour 58 = .ok (.dup, 1) := by decide +kernel
theorem dX0_passHour_59 : decode cX0_passHour 59 = .ok (.getfield 9, 3) := by decide +kernel
theorem dX0_passHour_62 : decode cX0_passHour 62 = .ok (.iconst 1, 1) := by decide +kernel
theorem dX0_passHour_63 : decode cX0_passHour 63 = .ok (.iadd, 1) := by decide +kernel
theorem dX0_passHour_64 : decode cX0_passHour 64 = .ok (.putfield 9, 3) := by decide +kernel
theorem dX0_passHour_67 : decode cX0_passHour 67 = .ok (.iload_n 1, 1) := by decide +kernel
theorem dX0_passHour_68 : decode cX0_passHour 68 = .ok (.ireturn, 1) := by decide +kernel
theorem dX0_passAndCountPrinted_0 : decode cX0_passAndCountPrinted 0 = .ok (.iconst 0, 1) := by decide +kernel
theorem dX0_passAndCountPrinted_1 : decode cX0_passAndCountPrinted 1 = .ok (.istore_n 2, 1) := by decide +kernel
theorem dX0_passAndCountPrinted_2 : decode cX0_passAndCountPrinted 2 = .ok (.iconst 0, 1) := by decide +kernel
theorem dX0_passAndCountPrinted_3 : decode cX0_passAndCountPrinted 3 = .ok (.istore_n 3, 1) := by decide +kernel
theorem dX0_passAndCountPrinted_4 : decode cX0_passAndCountPrinted 4 = .ok (.iload_n 3, 1) := by decide +kernel
theorem dX0_passAndCountPrinted_5 : decode cX0_passAndCountPrinted 5 = .ok (.iload_n 1, 1) := by decide +kernel
theorem dX0_passAndCountPrinted_6 : decode cX0_passAndCountPrinted 6 = .ok (.if_icmp .ge 20, 3) := by decide +kernel
theorem dX0_passAndCountPrinted_9 : decode cX0_passAndCountPrinted 9 = .ok (.aload_n 0, 1) := by decide +kernel
theorem dX0_passAndCountPrinted_10 : decode cX0_passAndCountPrinted 10 = .ok (.invokevirtual 76, 3) := by decide +kernel
theorem dX0_passAndCountPrinted_13 : decode cX0_passAndCountPrinted 13 = .ok (.iconst (-1), 1) := by decide +kernel
theorem dX0_passAndCountPrinted_14 : decode cX0_passAndCountPrinted 14 = .ok (.if_icmp .eq 6, 3) := by decide +kernel
theorem dX0_passAndCountPrinted_17 : decode cX0_passAndCountPrinted 17 = .ok (.iinc 2 1, 3) := by decide +kernel
theorem dX0_passAndCountPrinted_20 : decode cX0_passAndCountPrinted 20 = .ok (.iinc 3 1, 3) := by decide +kernel
theorem dX0_passAndCountPrinted_23 : decode cX0_passAndCountPrinted 23 = .ok (.goto (-19), 3) := by decide +kernel
theorem dX0_passAndCountPrinted_26 : decode cX0_passAndCountPrinted 26 = .ok (.iload_n 2, 1) := by decide +kernel
theorem dX0_passAndCountPrinted_27 : decode cX0_passAndCountPrinted 27 = .ok (.ireturn, 1) := by decide +kernel
theorem dX0_waitStuck_0 : decode cX0_waitStuck 0 = .ok (.aload_n 0, 1) := by decide +kernel
theorem dX0_waitStuck_1 : decode cX0_waitStuck 1 = .ok (.dup, 1) := by decide +kernel
theorem dX0_waitStuck_2 : decode cX0_waitStuck 2 = .ok (.getfield 21, 3) := by decide +kernel
theorem dX0_waitStuck_5 : decode cX0_waitStuck 5 = .ok (.iconst 1, 1) := by decide +kernel
theorem dX0_waitStuck_6 : decode cX0_waitStuck 6 = .ok (.isub, 1) := by decide +kernel
theorem dX0_waitStuck_7 : decode cX0_waitStuck 7 = .ok (.putfield 21, 3) := by decide +kernel
theorem dX0_waitStuck_10 : decode cX0_waitStuck 10 = .ok (.aload_n 0, 1) := by decide +kernel
theorem dX0_waitStuck_11 : decode cX0_waitStuck 11 = .ok (.dup, 1) := by decide +kernel
theorem dX0_waitStuck_12 : decode cX0_waitStuck 12 = .ok (.getfield 27, 3) := by decide +kernel
theorem dX0_waitStuck_15 : decode cX0_waitStuck 15 = .ok (.iconst 1, 1) := by decide +kernel
theorem dX0_waitStuck_16 : decode cX0_waitStuck 16 = .ok (.aload_n 0, 1) := by decide +kernel
theorem dX0_waitStuck_17 : decode cX0_waitStuck 17 = .ok (.getfield 30, 3) := by decide +kernel
theorem dX0_waitStuck_20 : decode cX0_waitStuck 20 = .ok (.iadd, 1) := by decide +kernel
theorem dX0_waitStuck_21 : decode cX0_waitStuck 21 = .ok (.iadd, 1) := by decide +kernel
theorem dX0_waitStuck_22 : decode cX0_waitStuck 22 = .ok (.putfield 27, 3) := by decide +kernel
theorem dX0_waitStuck_25 : decode cX0_waitStuck 25 = .ok (.return_, 1) := by decide +kernel
theorem dX0_ride_0 : decode cX0_ride 0 = .ok (.aload_n 0, 1) := by decide +kernel
theorem dX0_ride_1 : decode cX0_ride 1 = .ok (.aload_n 0, 1) := by decide +kernel
theorem dX0_ride_2 : decode cX0_ride 2 = .ok (.getfield 15, 3) := by decide +kernel
theorem dX0_ride_5 : decode cX0_ride 5 = .ok (.invokevirtual 79, 3) := by decide +kernel
theorem dX0_ride_8 : decode cX0_ride 8 = .ok (.ifCond .eq 4, 3) := by decide +kernel
theorem dX0_ride_11 : decode cX0_ride 11 = .ok (.return_, 1) := by decide +kernel
theorem dX0_ride_12 : decode cX0_ride 12 = .ok (.aload_n 0, 1) := by decide +kernel
theorem dX0_ride_13 : decode cX0_ride 13 = .ok (.getfield 18, 3) := by decide +kernel
theorem dX0_ride_16 : decode cX0_ride 16 = .ok (.ifCond .le 10, 3) := by decide +kernel
theorem dX0_ride_19 : decode cX0_ride 19 = .ok (.aload_n 0, 1) := by decide +kernel
theorem dX0_ride_20 : decode cX0_ride 20 = .ok (.invokevirtual 83, 3) := by decide +kernel
theorem dX0_ride_23 : decode cX0_ride 23 = .ok (.ifCond .ne 17, 3) := by decide +kernel
theorem dX0_ride_26 : decode cX0_ride 26 = .ok (.aload_n 0, 1) := by decide +kernel
theorem dX0_ride_27 : decode cX0_ride 27 = .ok (.getfield 18, 3) := by decide +kernel
theorem dX0_ride_30 : decode cX0_ride 30 = .ok (.ifCond .ge 14, 3) := by decide +kernel
theorem dX0_ride_33 : decode cX0_ride 33 = .ok (.aload_n 0, 1) := by decide +kernel
theorem dX0_ride_34 : decode cX0_ride 34 = .ok (.invokevirtual 87, 3) := by decide +kernel
theorem dX0_ride_37 : decode cX0_ride 37 = .ok (.ifCond .eq 7, 3) := by decide +kernel
theorem dX0_ride_40 : decode cX0_ride 40 = .ok (.iconst 1, 1) := by decide +kernel
theorem dX0_ride_41 : decode cX0_ride 41 = .ok (.goto 4, 3) := by decide +kernel
theorem dX0_ride_44 : decode cX0_ride 44 = .ok (.iconst 0, 1) := by decide +kernel
theorem dX0_ride_45 : decode cX0_ride 45 = .ok (.istore_n 1, 1) := by decide +kernel
theorem dX0_ride_46 : decode cX0_ride 46 = .ok (.iload_n 1, 1) := by decide +kernel
theorem dX0_ride_47 : decode cX0_ride 47 = .ok (.ifCond .ne 11, 3) := by decide +kernel
theorem dX0_ride_50 : decode cX0_ride 50 = .ok (.aload_n 0, 1) := by decide +kernel
theorem dX0_ride_51 : decode cX0_ride 51 = .ok (.aload_n 0, 1) := by decide +kernel
theorem dX0_ride_52 : decode cX0_ride 52 = .ok (.invokevirtual 90, 3) := by decide +kernel
theorem dX0_ride_55 : decode cX0_ride 55 = .ok (.putfield 18, 3) := by decide +kernel
theorem dX0_ride_58 : decode cX0_ride 58 = .ok (.aload_n 0, 1) := by decide +kernel
theorem dX0_ride_59 : decode cX0_ride 59 = .ok (.dup, 1) := by decide +kernel
theorem dX0_ride_60 : decode cX0_ride 60 = .ok (.getfield 15, 3) := by decide +kernel
theorem dX0_ride_63 : decode cX0_ride 63 = .ok (.aload_n 0, 1) := by decide +kernel
theorem dX0_ride_64 : decode cX0_ride 64 = .ok (.getfield 18, 3) := by decide +kernel
theorem dX0_ride_67 : decode cX0_ride 67 = .ok (.iadd, 1) := by decide +kernel
theorem dX0_ride_68 : decode cX0_ride 68 = .ok (.putfield 15, 3) := by decide +kernel
theorem dX0_ride_71 : decode cX0_ride 71 = .ok (.aload_n 0, 1) := by decide +kernel
theorem dX0_ride_72 : decode cX0_ride 72 = .ok (.dup, 1) := by decide +kernel
theorem dX0_ride_73 : decode cX0_ride 73 = .ok (.getfield 24, 3) := by decide +kernel
theorem dX0_ride_76 : decode cX0_ride 76 = .ok (.iconst 1, 1) := by decide +kernel
theorem dX0_ride_77 : decode cX0_ride 77 = .ok (.iadd, 1) := by decide +kernel
theorem dX0_ride_78 : decode cX0_ride 78 = .ok (.putfield 24, 3) := by decide +kernel
theorem dX0_ride_81 : decode cX0_ride 81 = .ok (.return_, 1) := by decide +kernel
theorem dX0_wayToNearestCall_0 : decode cX0_wayToNearestCall 0 = .ok (.iconst 1, 1) := by decide +kernel
theorem dX0_wayToNearestCall_1 : decode cX0_wayToNearestCall 1 = .ok (.istore_n 1, 1) := by decide +kernel
theorem dX0_wayToNearestCall_2 : decode cX0_wayToNearestCall 2 = .ok (.iload_n 1, 1) := by decide +kernel
theorem dX0_wayToNearestCall_3 : decode cX0_wayToNearestCall 3 = .ok (.bipush 12, 2) := by decide +kernel
theorem dX0_wayToNearestCall_5 : decode cX0_wayToNearestCall 5 = .ok (.if_icmp .ge 39, 3) := by decide +kernel
theorem dX0_wayToNearestCall_8 : decode cX0_wayToNearestCall 8 = .ok (.aload_n 0, 1) := by decide +kernel
theorem dX0_wayToNearestCall_9 : decode cX0_wayToNearestCall 9 = .ok (.aload_n 0, 1) := by decide +kernel
theorem dX0_wayToNearestCall_10 : decode cX0_wayToNearestCall 10 = .ok (.getfield 15, 3) := by decide +kernel
theorem dX0_wayToNearestCall_13 : decode cX0_wayToNearestCall 13 = .ok (.iload_n 1, 1) := by decide +kernel
theorem dX0_wayToNearestCall_14 : decode cX0_wayToNearestCall 14 = .ok (.iadd, 1) := by decide +kernel
theorem dX0_wayToNearestCall_15 : decode cX0_wayToNearestCall 15 = .ok (.invokevirtual 79, 3) := by decide +kernel
theorem dX0_wayToNearestCall_18 : decode cX0_wayToNearestCall 18 = .ok (.ifCond .eq 5, 3) := by decide +kernel
theorem dX0_wayToNearestCall_21 : decode cX0_wayToNearestCall 21 = .ok (.iconst 1, 1) := by decide +kernel
theorem dX0_wayToNearestCall_22 : decode cX0_wayToNearestCall 22 = .ok (.ireturn, 1) := by decide +kernel
theorem dX0_wayToNearestCall_23 : decode cX0_wayToNearestCall 23 = .ok (.aload_n 0, 1) := by decide +kernel
theorem dX0_wayToNearestCall_24 : decode cX0_wayToNearestCall 24 = .ok (.aload_n 0, 1) := by decide +kernel
theorem dX0_wayToNearestCall_25 : decode cX0_wayToNearestCall 25 = .ok (.getfield 15, 3) := by decide +kernel
theorem dX0_wayToNearestCall_28 : decode cX0_wayToNearestCall 28 = .ok (.iload_n 1, 1) := by decide +kernel
theorem dX0_wayToNearestCall_29 : decode cX0_wayToNearestCall 29 = .ok (.isub, 1) := by decide +kernel
theorem dX0_wayToNearestCall_30 : decode cX0_wayToNearestCall 30 = .ok (.invokevirtual 79, 3) := by decide +kernel
theorem dX0_wayToNearestCall_33 : decode cX0_wayToNearestCall 33 = .ok (.ifCond .eq 5, 3) := by decide +kernel
theorem dX0_wayToNearestCall_36 : decode cX0_wayToNearestCall 36 = .ok (.iconst (-1), 1) := by decide +kernel
theorem dX0_wayToNearestCall_37 : decode cX0_wayToNearestCall 37 = .ok (.ireturn, 1) := by decide +kernel
theorem dX0_wayToNearestCall_38 : decode cX0_wayToNearestCall 38 = .ok (.iinc 1 1, 3) := by decide +kernel
theorem dX0_wayToNearestCall_41 : decode cX0_wayToNearestCall 41 = .ok (.goto (-39), 3) := by decide +kernel
theorem dX0_wayToNearestCall_44 : decode cX0_wayToNearestCall 44 = .ok (.iconst 0, 1) := by decide +kernel
theorem dX0_wayToNearestCall_45 : decode cX0_wayToNearestCall 45 = .ok (.ireturn, 1) := by decide +kernel
theorem dX0_hasCall_0 : decode cX0_hasCall 0 = .ok (.iload_n 1, 1) := by decide +kernel
theorem dX0_hasCall_1 : decode cX0_hasCall 1 = .ok (.ifCond .lt 22, 3) := by decide +kernel
theorem dX0_hasCall_4 : decode cX0_hasCall 4 = .ok (.iload_n 1, 1) := by decide +kernel
theorem dX0_hasCall_5 : decode cX0_hasCall 5 = .ok (.bipush 12, 2) := by decide +kernel
theorem dX0_hasCall_7 : decode cX0_hasCall 7 = .ok (.if_icmp .ge 16, 3) := by decide +kernel
theorem dX0_hasCall_10 : decode cX0_hasCall 10 = .ok (.aload_n 0, 1) := by decide +kernel
theorem dX0_hasCall_11 : decode cX0_hasCall 11 = .ok (.getfield 33, 3) := by decide +kernel
theorem dX0_hasCall_14 : decode cX0_hasCall 14 = .ok (.iload_n 1, 1) := by decide +kernel
theorem dX0_hasCall_15 : decode cX0_hasCall 15 = .ok (.baload, 1) := by decide +kernel
theorem dX0_hasCall_16 : decode cX0_hasCall 16 = .ok (.ifCond .eq 7, 3) := by decide +kernel
theorem dX0_hasCall_19 : decode cX0_hasCall 19 = .ok (.iconst 1, 1) := by decide +kernel
theorem dX0_hasCall_20 : decode cX0_hasCall 20 = .ok (.goto 4, 3) := by decide +kernel
theorem dX0_hasCall_23 : decode cX0_hasCall 23 = .ok (.iconst 0, 1) := by decide +kernel
theorem dX0_hasCall_24 : decode cX0_hasCall 24 = .ok (.ireturn, 1) := by decide +kernel
theorem dX0_hasCallAbove_0 : decode cX0_hasCallAbove 0 = .ok (.aload_n 0, 1) := by decide +kernel
theorem dX0_hasCallAbove_1 : decode cX0_hasCallAbove 1 = .ok (.getfield 15, 3) := by decide +kernel
theorem dX0_hasCallAbove_4 : decode cX0_hasCallAbove 4 = .ok (.iconst 1, 1) := by decide +kernel
theorem dX0_hasCallAbove_5 : decode cX0_hasCallAbove 5 = .ok (.iadd, 1) := by decide +kernel
theorem dX0_hasCallAbove_6 : decode cX0_hasCallAbove 6 = .ok (.istore_n 1, 1) := by decide +kernel
theorem dX0_hasCallAbove_7 : decode cX0_hasCallAbove 7 = .ok (.iload_n 1, 1) := by decide +kernel
theorem dX0_hasCallAbove_8 : decode cX0_hasCallAbove 8 = .ok (.bipush 12, 2) := by decide +kernel
theorem dX0_hasCallAbove_10 : decode cX0_hasCallAbove 10 = .ok (.if_icmp .ge 20, 3) := by decide +kernel
theorem dX0_hasCallAbove_13 : decode cX0_hasCallAbove 13 = .ok (.aload_n 0, 1) := by decide +kernel
theorem dX0_hasCallAbove_14 : decode cX0_hasCallAbove 14 = .ok (.getfield 33, 3) := by decide +kernel
theorem dX0_hasCallAbove_17 : decode cX0_hasCallAbove 17 = .ok (.iload_n 1, 1) := by decide +kernel
theorem dX0_hasCallAbove_18 : decode cX0_hasCallAbove 18 = .ok (.baload, 1) := by decide +kernel
theorem dX0_hasCallAbove_19 : decode cX0_hasCallAbove 19 = .ok (.ifCond .eq 5, 3) := by decide +kernel
theorem dX0_hasCallAbove_22 : decode cX0_hasCallAbove 22 = .ok (.iconst 1, 1) := by decide +kernel
theorem dX0_hasCallAbove_23 : decode cX0_hasCallAbove 23 = .ok (.ireturn, 1) := by decide +kernel
theorem dX0_hasCallAbove_24 : decode cX0_hasCallAbove 24 = .ok (.iinc 1 1, 3) := by decide +kernel
theorem dX0_hasCallAbove_27 : decode cX0_hasCallAbove 27 = .ok (.goto (-20), 3) := by decide +kernel
theorem dX0_hasCallAbove_30 : decode cX0_hasCallAbove 30 = .ok (.iconst 0, 1) := by decide +kernel
theorem dX0_hasCallAbove_31 : decode cX0_hasCallAbove 31 = .ok (.ireturn, 1) := by decide +kernel
theorem dX0_hasCallBelow_0 : decode cX0_hasCallBelow 0 = .ok (.iconst 0, 1) := by decide +kernel
theorem dX0_hasCallBelow_1 : decode cX0_hasCallBelow 1 = .ok (.istore_n 1, 1) := by decide +kernel
theorem dX0_hasCallBelow_2 : decode cX0_hasCallBelow 2 = .ok (.iload_n 1, 1) := by decide +kernel
theorem dX0_hasCallBelow_3 : decode cX0_hasCallBelow 3 = .ok (.aload_n 0, 1) := by decide +kernel
theorem dX0_hasCallBelow_4 : decode cX0_hasCallBelow 4 = .ok (.getfield 15, 3) := by decide +kernel
theorem dX0_hasCallBelow_7 : decode cX0_hasCallBelow 7 = .ok (.if_icmp .ge 20, 3) := by decide +kernel
theorem dX0_hasCallBelow_10 : decode cX0_hasCallBelow 10 = .ok (.aload_n 0, 1) := by decide +kernel
theorem dX0_hasCallBelow_11 : decode cX0_hasCallBelow 11 = .ok (.getfield 33, 3) := by decide +kernel
theorem dX0_hasCallBelow_14 : decode cX0_hasCallBelow 14 = .ok (.iload_n 1, 1) := by decide +kernel
theorem dX0_hasCallBelow_15 : decode cX0_hasCallBelow 15 = .ok (.baload, 1) := by decide +kernel
theorem dX0_hasCallBelow_16 : decode cX0_hasCallBelow 16 = .ok (.ifCond .eq 5, 3) := by decide +kernel
theorem dX0_hasCallBelow_19 : decode cX0_hasCallBelow 19 = .ok (.iconst 1, 1) := by decide +kernel
theorem dX0_hasCallBelow_20 : decode cX0_hasCallBelow 20 = .ok (.ireturn, 1) := by decide +kernel
theorem dX0_hasCallBelow_21 : decode cX0_hasCallBelow 21 = .ok (.iinc 1 1, 3) := by decide +kernel
theorem dX0_hasCallBelow_24 : decode cX0_hasCallBelow 24 = .ok (.goto (-22), 3) := by decide +kernel
theorem dX0_hasCallBelow_27 : decode cX0_hasCallBelow 27 = .ok (.iconst 0, 1) := by decide +kernel
theorem dX0_hasCallBelow_28 : decode cX0_hasCallBelow 28 = .ok (.ireturn, 1) := by decide +kernel
theorem dX0_stopIfCalled_0 : decode cX0_stopIfCalled 0 = .ok (.aload_n 0, 1) := by decide +kernel
theorem dX0_stopIfCalled_1 : decode cX0_stopIfCalled 1 = .ok (.aload_n 0, 1) := by decide +kernel
theorem dX0_stopIfCalled_2 : decode cX0_stopIfCalled 2 = .ok (.getfield 15, 3) := by decide +kernel
theorem dX0_stopIfCalled_5 : decode cX0_stopIfCalled 5 = .ok (.invokevirtual 79, 3) := by decide +kernel
theorem dX0_stopIfCalled_8 : decode cX0_stopIfCalled 8 = .ok (.ifCond .ne 5, 3) := by decide +kernel
theorem dX0_stopIfCalled_11 : decode cX0_stopIfCalled 11 = .ok (.iconst (-1), 1) := by decide +kernel
theorem dX0_stopIfCalled_12 : decode cX0_stopIfCalled 12 = .ok (.ireturn, 1) := by decide +kernel
theorem dX0_stopIfCalled_13 : decode cX0_stopIfCalled 13 = .ok (.aload_n 0, 1) := by decide +kernel
theorem dX0_stopIfCalled_14 : decode cX0_stopIfCalled 14 = .ok (.getfield 33, 3) := by decide +kernel
theorem dX0_stopIfCalled_17 : decode cX0_stopIfCalled 17 = .ok (.aload_n 0, 1) := by decide +kernel
theorem dX0_stopIfCalled_18 : decode cX0_stopIfCalled 18 = .ok (.getfield 15, 3) := by decide +kernel
theorem dX0_stopIfCalled_21 : decode cX0_stopIfCalled 21 = .ok (.iconst 0, 1) := by decide +kernel
theorem dX0_stopIfCalled_22 : decode cX0_stopIfCalled 22 = .ok (.bastore, 1) := by decide +kernel
theorem dX0_stopIfCalled_23 : decode cX0_stopIfCalled 23 = .ok (.aload_n 0, 1) := by decide +kernel
theorem dX0_stopIfCalled_24 : decode cX0_stopIfCalled 24 = .ok (.getfield 37, 3) := by decide +kernel
theorem dX0_stopIfCalled_27 : decode cX0_stopIfCalled 27 = .ok (.aload_n 0, 1) := by decide +kernel
theorem dX0_stopIfCalled_28 : decode cX0_stopIfCalled 28 = .ok (.getfield 15, 3) := by decide +kernel
theorem dX0_stopIfCalled_31 : decode cX0_stopIfCalled 31 = .ok (.iaload, 1) := by decide +kernel
theorem dX0_stopIfCalled_32 : decode cX0_stopIfCalled 32 = .ok (.istore_n 1, 1) := by decide +kernel
theorem dX0_stopIfCalled_33 : decode cX0_stopIfCalled 33 = .ok (.iload_n 1, 1) := by decide +kernel
theorem dX0_stopIfCalled_34 : decode cX0_stopIfCalled 34 = .ok (.aload_n 0, 1) := by decide +kernel
theorem dX0_stopIfCalled_35 : decode cX0_stopIfCalled 35 = .ok (.getfield 53, 3) := by decide +kernel
theorem dX0_stopIfCalled_38 : decode cX0_stopIfCalled 38 = .ok (.getfield 93, 3) := by decide +kernel
theorem dX0_stopIfCalled_41 : decode cX0_stopIfCalled 41 = .ok (.aload_n 0, 1) := by decide +kernel
theorem dX0_stopIfCalled_42 : decode cX0_stopIfCalled 42 = .ok (.getfield 15, 3) := by decide +kernel
theorem dX0_stopIfCalled_45 : decode cX0_stopIfCalled 45 = .ok (.iaload, 1) := by decide +kernel
theorem dX0_stopIfCalled_46 : decode cX0_stopIfCalled 46 = .ok (.if_icmp .lt 5, 3) := by decide +kernel
theorem dX0_stopIfCalled_49 : decode cX0_stopIfCalled 49 = .ok (.iconst (-1), 1) := by decide +kernel
theorem dX0_stopIfCalled_50 : decode cX0_stopIfCalled 50 = .ok (.ireturn, 1) := by decide +kernel
theorem dX0_stopIfCalled_51 : decode cX0_stopIfCalled 51 = .ok (.aload_n 0, 1) := by decide +kernel
theorem dX0_stopIfCalled_52 : decode cX0_stopIfCalled 52 = .ok (.getfield 37, 3) := by decide +kernel
theorem dX0_stopIfCalled_55 : decode cX0_stopIfCalled 55 = .ok (.aload_n 0, 1) := by decide +kernel
theorem dX0_stopIfCalled_56 : decode cX0_stopIfCalled 56 = .ok (.getfield 15, 3) := by decide +kernel
theorem dX0_stopIfCalled_59 : decode cX0_stopIfCalled 59 = .ok (.iload_n 1, 1) := by decide +kernel
theorem dX0_stopIfCalled_60 : decode cX0_stopIfCalled 60 = .ok (.iconst 1, 1) := by decide +kernel
theorem dX0_stopIfCalled_61 : decode cX0_stopIfCalled 61 = .ok (.iadd, 1) := by decide +kernel
theorem dX0_stopIfCalled_62 : decode cX0_stopIfCalled 62 = .ok (.iastore, 1) := by decide +kernel
theorem dX0_stopIfCalled_63 : decode cX0_stopIfCalled 63 = .ok (.aload_n 0, 1) := by decide +kernel
theorem dX0_stopIfCalled_64 : decode cX0_stopIfCalled 64 = .ok (.getfield 53, 3) := by decide +kernel
theorem dX0_stopIfCalled_67 : decode cX0_stopIfCalled 67 = .ok (.aload_n 0, 1) := by decide +kernel
theorem dX0_stopIfCalled_68 : decode cX0_stopIfCalled 68 = .ok (.getfield 15, 3) := by decide +kernel
theorem dX0_stopIfCalled_71 : decode cX0_stopIfCalled 71 = .ok (.iload_n 1, 1) := by decide +kernel
theorem dX0_stopIfCalled_72 : decode cX0_stopIfCalled 72 = .ok (.invokevirtual 98, 3) := by decide +kernel
theorem dX0_stopIfCalled_75 : decode cX0_stopIfCalled 75 = .ok (.istore_n 2, 1) := by decide +kernel
theorem dX0_stopIfCalled_76 : decode cX0_stopIfCalled 76 = .ok (.aload_n 0, 1) := by decide +kernel
theorem dX0_stopIfCalled_77 : decode cX0_stopIfCalled 77 = .ok (.getfield 44, 3) := by decide +kernel
theorem dX0_stopIfCalled_80 : decode cX0_stopIfCalled 80 = .ok (.iload_n 2, 1) := by decide +kernel
theorem dX0_stopIfCalled_81 : decode cX0_stopIfCalled 81 = .ok (.baload, 1) := by decide +kernel
theorem dX0_stopIfCalled_82 : decode cX0_stopIfCalled 82 = .ok (.ifCond .eq 18, 3) := by decide +kernel
theorem dX0_stopIfCalled_85 : decode cX0_stopIfCalled 85 = .ok (.aload_n 0, 1) := by decide +kernel
theorem dX0_stopIfCalled_86 : decode cX0_stopIfCalled 86 = .ok (.getfield 41, 3) := by decide +kernel
theorem dX0_stopIfCalled_89 : decode cX0_stopIfCalled 89 = .ok (.aload_n 0, 1) := by decide +kernel
theorem dX0_stopIfCalled_90 : decode cX0_stopIfCalled 90 = .ok (.getfield 15, 3) := by decide +kernel
theorem dX0_stopIfCalled_93 : decode cX0_stopIfCalled 93 = .ok (.dup2, 1) := by decide +kernel
theorem dX0_stopIfCalled_94 : decode cX0_stopIfCalled 94 = .ok (.iaload, 1) := by decide +kernel
theorem dX0_stopIfCalled_95 : decode cX0_stopIfCalled 95 = .ok (.iconst 1, 1) := by decide +kernel
theorem dX0_stopIfCalled_96 : decode cX0_stopIfCalled 96 = .ok (.iadd, 1) := by decide +kernel
theorem dX0_stopIfCalled_97 : decode cX0_stopIfCalled 97 = .ok (.iastore, 1) := by decide +kernel
theorem dX0_stopIfCalled_98 : decode cX0_stopIfCalled 98 = .ok (.iconst (-1), 1) := by decide +kernel
theorem dX0_stopIfCalled_99 : decode cX0_stopIfCalled 99 = .ok (.ireturn, 1) := by decide +kernel
theorem dX0_stopIfCalled_100 : decode cX0_stopIfCalled 100 = .ok (.aload_n 0, 1) := by decide +kernel
theorem dX0_stopIfCalled_101 : decode cX0_stopIfCalled 101 = .ok (.iload_n 2, 1) := by decide +kernel
theorem dX0_stopIfCalled_102 : decode cX0_stopIfCalled 102 = .ok (.aload_n 0, 1) := by decide +kernel
theorem dX0_stopIfCalled_103 : decode cX0_stopIfCalled 103 = .ok (.getfield 53, 3) := by decide +kernel
theorem dX0_stopIfCalled_106 : decode cX0_stopIfCalled 106 = .ok (.aload_n 0, 1) := by decide +kernel
theorem dX0_stopIfCalled_107 : decode cX0_stopIfCalled 107 = .ok (.getfield 15, 3) := by decide +kernel
theorem dX0_stopIfCalled_110 : decode cX0_stopIfCalled 110 = .ok (.iload_n 1, 1) := by decide +kernel
theorem dX0_stopIfCalled_111 : decode cX0_stopIfCalled 111 = .ok (.invokevirtual 102, 3) := by decide +kernel
theorem dX0_stopIfCalled_114 : decode cX0_stopIfCalled 114 = .ok (.invokevirtual 105, 3) := by decide +kernel
theorem dX0_stopIfCalled_117 : decode cX0_stopIfCalled 117 = .ok (.ireturn, 1) := by decide +kernel
theorem dX0_print_0 : decode cX0_print 0 = .ok (.iload_n 2, 1) := by decide +kernel
theorem dX0_print_1 : decode cX0_print 1 = .ok (.aload_n 0, 1) := by decide +kernel
theorem dX0_print_2 : decode cX0_print 2 = .ok (.getfield 27, 3) := by decide +kernel
theorem dX0_print_5 : decode cX0_print 5 = .ok (.iadd, 1) := by decide +kernel
theorem dX0_print_6 : decode cX0_print 6 = .ok (.istore_n 3, 1) := by decide +kernel
theorem dX0_print_7 : decode cX0_print 7 = .ok (.aload_n 0, 1) := by decide +kernel
theorem dX0_print_8 : decode cX0_print 8 = .ok (.iconst 0, 1) := by decide +kernel
theorem dX0_print_9 : decode cX0_print 9 = .ok (.putfield 27, 3) := by decide +kernel
theorem dX0_print_12 : decode cX0_print 12 = .ok (.aload_n 0, 1) := by decide +kernel
theorem dX0_print_13 : decode cX0_print 13 = .ok (.iload_n 2, 1) := by decide +kernel
theorem dX0_print_14 : decode cX0_print 14 = .ok (.putfield 30, 3) := by decide +kernel
theorem dX0_print_17 : decode cX0_print 17 = .ok (.iconst 0, 1) := by decide +kernel
theorem dX0_print_18 : decode cX0_print 18 = .ok (.istore 4, 2) := by decide +kernel
theorem dX0_print_20 : decode cX0_print 20 = .ok (.iload 4, 2) := by decide +kernel
theorem dX0_print_22 : decode cX0_print 22 = .ok (.aload_n 0, 1) := by decide +kernel
theorem dX0_print_23 : decode cX0_print 23 = .ok (.getfield 53, 3) := by decide +kernel
theorem dX0_print_26 : decode cX0_print 26 = .ok (.getfield 108, 3) := by decide +kernel
theorem dX0_print_29 : decode cX0_print 29 = .ok (.if_icmp .ge 64, 3) := by decide +kernel
theorem dX0_print_32 : decode cX0_print 32 = .ok (.aload_n 0, 1) := by decide +kernel
theorem dX0_print_33 : decode cX0_print 33 = .ok (.getfield 50, 3) := by decide +kernel
theorem dX0_print_36 : decode cX0_print 36 = .ok (.iload 4, 2) := by decide +kernel
theorem dX0_print_38 : decode cX0_print 38 = .ok (.baload, 1) := by decide +kernel
theorem dX0_print_39 : decode cX0_print 39 = .ok (.ifCond .eq 48, 3) := by decide +kernel
theorem dX0_print_42 : decode cX0_print 42 = .ok (.aload_n 0, 1) := by decide +kernel
theorem dX0_print_43 : decode cX0_print 43 = .ok (.getfield 53, 3) := by decide +kernel
theorem dX0_print_46 : decode cX0_print 46 = .ok (.getfield 111, 3) := by decide +kernel
theorem dX0_print_49 : decode cX0_print 49 = .ok (.iload 4, 2) := by decide +kernel
theorem dX0_print_51 : decode cX0_print 51 = .ok (.iaload, 1) := by decide +kernel
theorem dX0_print_52 : decode cX0_print 52 = .ok (.iload_n 1, 1) := by decide +kernel
theorem dX0_print_53 : decode cX0_print 53 = .ok (.if_icmp .ne 7, 3) := by decide +kernel
theorem dX0_print_56 : decode cX0_print 56 = .ok (.iload_n 3, 1) := by decide +kernel
theorem dX0_print_57 : decode cX0_print 57 = .ok (.goto 6, 3) := by decide +kernel
theorem dX0_print_60 : decode cX0_print 60 = .ok (.iload_n 3, 1) := by decide +kernel
theorem dX0_print_61 : decode cX0_print 61 = .ok (.iconst 3, 1) := by decide +kernel
theorem dX0_print_62 : decode cX0_print 62 = .ok (.idiv, 1) := by decide +kernel
theorem dX0_print_63 : decode cX0_print 63 = .ok (.istore 5, 2) := by decide +kernel
theorem dX0_print_65 : decode cX0_print 65 = .ok (.aload_n 0, 1) := by decide +kernel
theorem dX0_print_66 : decode cX0_print 66 = .ok (.getfield 47, 3) := by decide +kernel
theorem dX0_print_69 : decode cX0_print 69 = .ok (.iload 4, 2) := by decide +kernel
theorem dX0_print_71 : decode cX0_print 71 = .ok (.bipush 99, 2) := by decide +kernel
theorem dX0_print_73 : decode cX0_print 73 = .ok (.aload_n 0, 1) := by decide +kernel
theorem dX0_print_74 : decode cX0_print 74 = .ok (.getfield 47, 3) := by decide +kernel
theorem dX0_print_77 : decode cX0_print 77 = .ok (.iload 4, 2) := by decide +kernel
theorem dX0_print_79 : decode cX0_print 79 = .ok (.iaload, 1) := by decide +kernel
theorem dX0_print_80 : decode cX0_print 80 = .ok (.iload 5, 2) := by decide +kernel
theorem dX0_print_82 : decode cX0_print 82 = .ok (.iadd, 1) := by decide +kernel
theorem dX0_print_83 : decode cX0_print 83 = .ok (.invokestatic 114, 3) := by decide +kernel
theorem dX0_print_86 : decode cX0_print 86 = .ok (.iastore, 1) := by decide +kernel
theorem dX0_print_87 : decode cX0_print 87 = .ok (.iinc 4 1, 3) := by decide +kernel
theorem dX0_print_90 : decode cX0_print 90 = .ok (.goto (-70), 3) := by decide +kernel
theorem dX0_print_93 : decode cX0_print 93 = .ok (.iload_n 3, 1) := by decide +kernel
theorem dX0_print_94 : decode cX0_print 94 = .ok (.ireturn, 1) := by decide +kernel
theorem dX0_coolReaders_0 : decode cX0_coolReaders 0 = .ok (.iconst 0, 1) := by decide +kernel
theorem dX0_coolReaders_1 : decode cX0_coolReaders 1 = .ok (.istore_n 1, 1) := by decide +kernel
theorem dX0_coolReaders_2 : decode cX0_coolReaders 2 = .ok (.iload_n 1, 1) := by decide +kernel
theorem dX0_coolReaders_3 : decode cX0_coolReaders 3 = .ok (.aload_n 0, 1) := by decide +kernel
theorem dX0_coolReaders_4 : decode cX0_coolReaders 4 = .ok (.getfield 53, 3) := by decide +kernel
theorem dX0_coolReaders_7 : decode cX0_coolReaders 7 = .ok (.getfield 108, 3) := by decide +kernel
theorem dX0_coolReaders_10 : decode cX0_coolReaders 10 = .ok (.if_icmp .ge 38, 3) := by decide +kernel
theorem dX0_coolReaders_13 : decode cX0_coolReaders 13 = .ok (.aload_n 0, 1) := by decide +kernel
theorem dX0_coolReaders_14 : decode cX0_coolReaders 14 = .ok (.getfield 47, 3) := by decide +kernel
theorem dX0_coolReaders_17 : decode cX0_coolReaders 17 = .ok (.iload_n 1, 1) := by decide +kernel
theorem dX0_coolReaders_18 : decode cX0_coolReaders 18 = .ok (.iaload, 1) := by decide +kernel
theorem dX0_coolReaders_19 : decode cX0_coolReaders 19 = .ok (.ifCond .le 16, 3) := by decide +kernel
theorem dX0_coolReaders_22 : decode cX0_coolReaders 22 = .ok (.aload_n 0, 1) := by decide +kernel
theorem dX0_coolReaders_23 : decode cX0_coolReaders 23 = .ok (.getfield 47, 3) := by decide +kernel
theorem dX0_coolReaders_26 : decode cX0_coolReaders 26 = .ok (.iload_n 1, 1) := by decide +kernel
theorem dX0_coolReaders_27 : decode cX0_coolReaders 27 = .ok (.dup2, 1) := by decide +kernel
theorem dX0_coolReaders_28 : decode cX0_coolReaders 28 = .ok (.iaload, 1) := by decide +kernel
theorem dX0_coolReaders_29 : decode cX0_coolReaders 29 = .ok (.iconst 1, 1) := by decide +kernel
theorem dX0_coolReaders_30 : decode cX0_coolReaders 30 = .ok (.isub, 1) := by decide +kernel
theorem dX0_coolReaders_31 : decode cX0_coolReaders 31 = .ok (.iastore, 1) := by decide +kernel
theorem dX0_coolReaders_32 : decode cX0_coolReaders 32 = .ok (.goto 10, 3) := by decide +kernel
theorem dX0_coolReaders_35 : decode cX0_coolReaders 35 = .ok (.aload_n 0, 1) := by decide +kernel
theorem dX0_coolReaders_36 : decode cX0_coolReaders 36 = .ok (.getfield 50, 3) := by decide +kernel
theorem dX0_coolReaders_39 : decode cX0_coolReaders 39 = .ok (.iload_n 1, 1) := by decide +kernel
theorem dX0_coolReaders_40 : decode cX0_coolReaders 40 = .ok (.iconst 0, 1) := by decide +kernel
theorem dX0_coolReaders_41 : decode cX0_coolReaders 41 = .ok (.bastore, 1) := by decide +kernel
theorem dX0_coolReaders_42 : decode cX0_coolReaders 42 = .ok (.iinc 1 1, 3) := by decide +kernel
theorem dX0_coolReaders_45 : decode cX0_coolReaders 45 = .ok (.goto (-43), 3) := by decide +kernel
theorem dX0_coolReaders_48 : decode cX0_coolReaders 48 = .ok (.return_, 1) := by decide +kernel
theorem dX0_getStuckIfWorn_0 : decode cX0_getStuckIfWorn 0 = .ok (.aload_n 0, 1) := by decide +kernel
theorem dX0_getStuckIfWorn_1 : decode cX0_getStuckIfWorn 1 = .ok (.getfield 21, 3) := by decide +kernel
theorem dX0_getStuckIfWorn_4 : decode cX0_getStuckIfWorn 4 = .ok (.ifCond .ne 37, 3) := by decide +kernel
theorem dX0_getStuckIfWorn_7 : decode cX0_getStuckIfWorn 7 = .ok (.aload_n 0, 1) := by decide +kernel
theorem dX0_getStuckIfWorn_8 : decode cX0_getStuckIfWorn 8 = .ok (.getfield 24, 3) := by decide +kernel
theorem dX0_getStuckIfWorn_11 : decode cX0_getStuckIfWorn 11 = .ok (.aload_n 0, 1) := by decide +kernel
theorem dX0_getStuckIfWorn_12 : decode cX0_getStuckIfWorn 12 = .ok (.getfield 53, 3) := by decide +kernel
theorem dX0_getStuckIfWorn_15 : decode cX0_getStuckIfWorn 15 = .ok (.getfield 119, 3) := by decide +kernel
theorem dX0_getStuckIfWorn_18 : decode cX0_getStuckIfWorn 18 = .ok (.if_icmp .lt 23, 3) := by decide +kernel
theorem dX0_getStuckIfWorn_21 : decode cX0_getStuckIfWorn 21 = .ok (.aload_n 0, 1) := by decide +kernel
theorem dX0_getStuckIfWorn_22 : decode cX0_getStuckIfWorn 22 = .ok (.aload_n 0, 1) := by decide +kernel
theorem dX0_getStuckIfWorn_23 : decode cX0_getStuckIfWorn 23 = .ok (.getfield 53, 3) := by decide +kernel
theorem dX0_getStuckIfWorn_26 : decode cX0_getStuckIfWorn 26 = .ok (.getfield 119, 3) := by decide +kernel
theorem dX0_getStuckIfWorn_29 : decode cX0_getStuckIfWorn 29 = .ok (.iconst 4, 1) := by decide +kernel
theorem dX0_getStuckIfWorn_30 : decode cX0_getStuckIfWorn 30 = .ok (.idiv, 1) := by decide +kernel
theorem dX0_getStuckIfWorn_31 : decode cX0_getStuckIfWorn 31 = .ok (.iconst 1, 1) := by decide +kernel
theorem dX0_getStuckIfWorn_32 : decode cX0_getStuckIfWorn 32 = .ok (.iadd, 1) := by decide +kernel
theorem dX0_getStuckIfWorn_33 : decode cX0_getStuckIfWorn 33 = .ok (.putfield 21, 3) := by decide +kernel
theorem dX0_getStuckIfWorn_36 : decode cX0_getStuckIfWorn 36 = .ok (.aload_n 0, 1) := by decide +kernel
theorem dX0_getStuckIfWorn_37 : decode cX0_getStuckIfWorn 37 = .ok (.iconst 0, 1) := by decide +kernel
theorem dX0_getStuckIfWorn_38 : decode cX0_getStuckIfWorn 38 = .ok (.putfield 24, 3) := by decide +kernel
theorem dX0_getStuckIfWorn_41 : decode cX0_getStuckIfWorn 41 = .ok (.return_, 1) := by decide +kernel
theorem dX0_countCalled_0 : decode cX0_countCalled 0 = .ok (.iconst 0, 1) := by decide +kernel
theorem dX0_countCalled_1 : decode cX0_countCalled 1 = .ok (.istore_n 1, 1) := by decide +kernel
theorem dX0_countCalled_2 : decode cX0_countCalled 2 = .ok (.iconst 0, 1) := by decide +kernel
theorem dX0_countCalled_3 : decode cX0_countCalled 3 = .ok (.istore_n 2, 1) := by decide +kernel
theorem dX0_countCalled_4 : decode cX0_countCalled 4 = .ok (.iload_n 2, 1) := by decide +kernel
theorem dX0_countCalled_5 : decode cX0_countCalled 5 = .ok (.bipush 12, 2) := by decide +kernel
theorem dX0_countCalled_7 : decode cX0_countCalled 7 = .ok (.if_icmp .ge 21, 3) := by decide +kernel
theorem dX0_countCalled_10 : decode cX0_countCalled 10 = .ok (.aload_n 0, 1) := by decide +kernel
theorem dX0_countCalled_11 : decode cX0_countCalled 11 = .ok (.getfield 33, 3) := by decide +kernel
theorem dX0_countCalled_14 : decode cX0_countCalled 14 = .ok (.iload_n 2, 1) := by decide +kernel
theorem dX0_countCalled_15 : decode cX0_countCalled 15 = .ok (.baload, 1) := by decide +kernel
theorem dX0_countCalled_16 : decode cX0_countCalled 16 = .ok (.ifCond .eq 6, 3) := by decide +kernel
theorem dX0_countCalled_19 : decode cX0_countCalled 19 = .ok (.iinc 1 1, 3) := by decide +kernel
theorem dX0_countCalled_22 : decode cX0_countCalled 22 = .ok (.iinc 2 1, 3) := by decide +kernel
theorem dX0_countCalled_25 : decode cX0_countCalled 25 = .ok (.goto (-21), 3) := by decide +kernel
theorem dX0_countCalled_28 : decode cX0_countCalled 28 = .ok (.iload_n 1, 1) := by decide +kernel
theorem dX0_countCalled_29 : decode cX0_countCalled 29 = .ok (.ireturn, 1) := by decide +kernel
theorem dX0_countCut_0 : decode cX0_countCut 0 = .ok (.iconst 0, 1) := by decide +kernel
theorem dX0_countCut_1 : decode cX0_countCut 1 = .ok (.istore_n 1, 1) := by decide +kernel
theorem dX0_countCut_2 : decode cX0_countCut 2 = .ok (.iconst 0, 1) := by decide +kernel
theorem dX0_countCut_3 : decode cX0_countCut 3 = .ok (.istore_n 2, 1) := by decide +kernel
theorem dX0_countCut_4 : decode cX0_countCut 4 = .ok (.iload_n 2, 1) := by decide +kernel
theorem dX0_countCut_5 : decode cX0_countCut 5 = .ok (.bipush 12, 2) := by decide +kernel
theorem dX0_countCut_7 : decode cX0_countCut 7 = .ok (.if_icmp .ge 18, 3) := by decide +kernel
theorem dX0_countCut_10 : decode cX0_countCut 10 = .ok (.iload_n 1, 1) := by decide +kernel
theorem dX0_countCut_11 : decode cX0_countCut 11 = .ok (.aload_n 0, 1) := by decide +kernel
theorem dX0_countCut_12 : decode cX0_countCut 12 = .ok (.getfield 41, 3) := by decide +kernel
theorem dX0_countCut_15 : decode cX0_countCut 15 = .ok (.iload_n 2, 1) := by decide +kernel
theorem dX0_countCut_16 : decode cX0_countCut 16 = .ok (.iaload, 1) := by decide +kernel
theorem dX0_countCut_17 : decode cX0_countCut 17 = .ok (.iadd, 1) := by decide +kernel
theorem dX0_countCut_18 : decode cX0_countCut 18 = .ok (.istore_n 1, 1) := by decide +kernel
theorem dX0_countCut_19 : decode cX0_countCut 19 = .ok (.iinc 2 1, 3) := by decide +kernel
theorem dX0_countCut_22 : decode cX0_countCut 22 = .ok (.goto (-18), 3) := by decide +kernel
theorem dX0_countCut_25 : decode cX0_countCut 25 = .ok (.iload_n 1, 1) := by decide +kernel
theorem dX0_countCut_26 : decode cX0_countCut 26 = .ok (.ireturn, 1) := by decide +kernel
theorem dX0_countToCome_0 : decode cX0_countToCome 0 = .ok (.iconst 0, 1) := by decide +kernel
theorem dX0_countToCome_1 : decode cX0_countToCome 1 = .ok (.istore_n 2, 1) := by decide +kernel
theorem dX0_countToCome_2 : decode cX0_countToCome 2 = .ok (.iconst 0, 1) := by decide +kernel
theorem dX0_countToCome_3 : decode cX0_countToCome 3 = .ok (.istore_n 3, 1) := by decide +kernel
theorem dX0_countToCome_4 : decode cX0_countToCome 4 = .ok (.iload_n 3, 1) := by decide +kernel
theorem dX0_countToCome_5 : decode cX0_countToCome 5 = .ok (.aload_n 0, 1) := by decide +kernel
theorem dX0_countToCome_6 : decode cX0_countToCome 6 = .ok (.getfield 53, 3) := by decide +kernel
theorem dX0_countToCome_9 : decode cX0_countToCome 9 = .ok (.getfield 122, 3) := by decide +kernel
theorem dX0_countToCome_12 : decode cX0_countToCome 12 = .ok (.if_icmp .ge 54, 3) := by decide +kernel
theorem dX0_countToCome_15 : decode cX0_countToCome 15 = .ok (.aload_n 0, 1) := by decide +kernel
theorem dX0_countToCome_16 : decode cX0_countToCome 16 = .ok (.getfield 37, 3) := by decide +kernel
theorem dX0_countToCome_19 : decode cX0_countToCome 19 = .ok (.iload_n 3, 1) := by decide +kernel
theorem dX0_countToCome_20 : decode cX0_countToCome 20 = .ok (.iaload, 1) := by decide +kernel
theorem dX0_countToCome_21 : decode cX0_countToCome 21 = .ok (.istore 4, 2) := by decide +kernel
theorem dX0_countToCome_23 : decode cX0_countToCome 23 = .ok (.iload 4, 2) := by decide +kernel
theorem dX0_countToCome_25 : decode cX0_countToCome 25 = .ok (.aload_n 0, 1) := by decide +kernel
theorem dX0_countToCome_26 : decode cX0_countToCome 26 = .ok (.getfield 53, 3) := by decide +kernel
theorem dX0_countToCome_29 : decode cX0_countToCome 29 = .ok (.getfield 93, 3) := by decide +kernel
theorem dX0_countToCome_32 : decode cX0_countToCome 32 = .ok (.iload_n 3, 1) := by decide +kernel
theorem dX0_countToCome_33 : decode cX0_countToCome 33 = .ok (.iaload, 1) := by decide +kernel
theorem dX0_countToCome_34 : decode cX0_countToCome 34 = .ok (.if_icmp .ge 26, 3) := by decide +kernel
theorem dX0_countToCome_37 : decode cX0_countToCome 37 = .ok (.aload_n 0, 1) := by decide +kernel
theorem dX0_countToCome_38 : decode cX0_countToCome 38 = .ok (.getfield 53, 3) := by decide +kernel
theorem dX0_countToCome_41 : decode cX0_countToCome 41 = .ok (.iload_n 3, 1) := by decide +kernel
theorem dX0_countToCome_42 : decode cX0_countToCome 42 = .ok (.iload 4, 2) := by decide +kernel
theorem dX0_countToCome_44 : decode cX0_countToCome 44 = .ok (.invokevirtual 98, 3) := by decide +kernel
theorem dX0_countToCome_47 : decode cX0_countToCome 47 = .ok (.iload_n 1, 1) := by decide +kernel
theorem dX0_countToCome_48 : decode cX0_countToCome 48 = .ok (.if_icmp .ne 6, 3) := by decide +kernel
theorem dX0_countToCome_51 : decode cX0_countToCome 51 = .ok (.iinc 2 1, 3) := by decide +kernel
theorem dX0_countToCome_54 : decode cX0_countToCome 54 = .ok (.iinc 4 1, 3) := by decide +kernel
theorem dX0_countToCome_57 : decode cX0_countToCome 57 = .ok (.goto (-34), 3) := by decide +kernel
theorem dX0_countToCome_60 : decode cX0_countToCome 60 = .ok (.iinc 3 1, 3) := by decide +kernel
theorem dX0_countToCome_63 : decode cX0_countToCome 63 = .ok (.goto (-59), 3) := by decide +kernel
theorem dX0_countToCome_66 : decode cX0_countToCome 66 = .ok (.iload_n 2, 1) := by decide +kernel
theorem dX0_countToCome_67 : decode cX0_countToCome 67 = .ok (.ireturn, 1) := by decide +kernel
theorem dX0_countSubscribers_0 : decode cX0_countSubscribers 0 = .ok (.iconst 0, 1) := by decide +kernel
theorem dX0_countSubscribers_1 : decode cX0_countSubscribers 1 = .ok (.istore_n 1, 1) := by decide +kernel
theorem dX0_countSubscribers_2 : decode cX0_countSubscribers 2 = .ok (.iconst 0, 1) := by decide +kernel
theorem dX0_countSubscribers_3 : decode cX0_countSubscribers 3 = .ok (.istore_n 2, 1) := by decide +kernel
theorem dX0_countSubscribers_4 : decode cX0_countSubscribers 4 = .ok (.iload_n 2, 1) := by decide +kernel
theorem dX0_countSubscribers_5 : decode cX0_countSubscribers 5 = .ok (.aload_n 0, 1) := by decide +kernel
theorem dX0_countSubscribers_6 : decode cX0_countSubscribers 6 = .ok (.getfield 53, 3) := by decide +kernel
theorem dX0_countSubscribers_9 : decode cX0_countSubscribers 9 = .ok (.getfield 108, 3) := by decide +kernel
theorem dX0_countSubscribers_12 : decode cX0_countSubscribers 12 = .ok (.if_icmp .ge 21, 3) := by decide +kernel
theorem dX0_countSubscribers_15 : decode cX0_countSubscribers 15 = .ok (.aload_n 0, 1) := by decide +kernel
theorem dX0_countSubscribers_16 : decode cX0_countSubscribers 16 = .ok (.getfield 50, 3) := by decide +kernel
theorem dX0_countSubscribers_19 : decode cX0_countSubscribers 19 = .ok (.iload_n 2, 1) := by decide +kernel
theorem dX0_countSubscribers_20 : decode cX0_countSubscribers 20 = .ok (.baload, 1) := by decide +kernel
theorem dX0_countSubscribers_21 : decode cX0_countSubscribers 21 = .ok (.ifCond .eq 6, 3) := by decide +kernel
theorem dX0_countSubscribers_24 : decode cX0_countSubscribers 24 = .ok (.iinc 1 1, 3) := by decide +kernel
theorem dX0_countSubscribers_27 : decode cX0_countSubscribers 27 = .ok (.iinc 2 1, 3) := by decide +kernel
theorem dX0_countSubscribers_30 : decode cX0_countSubscribers 30 = .ok (.goto (-26), 3) := by decide +kernel
theorem dX0_countSubscribers_33 : decode cX0_countSubscribers 33 = .ok (.iload_n 1, 1) := by decide +kernel
theorem dX0_countSubscribers_34 : decode cX0_countSubscribers 34 = .ok (.ireturn, 1) := by decide +kernel
theorem dX0_sumOfWarmths_0 : decode cX0_sumOfWarmths 0 = .ok (.iconst 0, 1) := by decide +kernel
theorem dX0_sumOfWarmths_1 : decode cX0_sumOfWarmths 1 = .ok (.istore_n 1, 1) := by decide +kernel
theorem dX0_sumOfWarmths_2 : decode cX0_sumOfWarmths 2 = .ok (.iconst 0, 1) := by decide +kernel
theorem dX0_sumOfWarmths_3 : decode cX0_sumOfWarmths 3 = .ok (.istore_n 2, 1) := by decide +kernel
theorem dX0_sumOfWarmths_4 : decode cX0_sumOfWarmths 4 = .ok (.iload_n 2, 1) := by decide +kernel
theorem dX0_sumOfWarmths_5 : decode cX0_sumOfWarmths 5 = .ok (.aload_n 0, 1) := by decide +kernel
theorem dX0_sumOfWarmths_6 : decode cX0_sumOfWarmths 6 = .ok (.getfield 53, 3) := by decide +kernel
theorem dX0_sumOfWarmths_9 : decode cX0_sumOfWarmths 9 = .ok (.getfield 108, 3) := by decide +kernel
theorem dX0_sumOfWarmths_12 : decode cX0_sumOfWarmths 12 = .ok (.if_icmp .ge 27, 3) := by decide +kernel
theorem dX0_sumOfWarmths_15 : decode cX0_sumOfWarmths 15 = .ok (.aload_n 0, 1) := by decide +kernel
theorem dX0_sumOfWarmths_16 : decode cX0_sumOfWarmths 16 = .ok (.getfield 50, 3) := by decide +kernel
theorem dX0_sumOfWarmths_19 : decode cX0_sumOfWarmths 19 = .ok (.iload_n 2, 1) := by decide +kernel
theorem dX0_sumOfWarmths_20 : decode cX0_sumOfWarmths 20 = .ok (.baload, 1) := by decide +kernel
theorem dX0_sumOfWarmths_21 : decode cX0_sumOfWarmths 21 = .ok (.ifCond .eq 12, 3) := by decide +kernel
theorem dX0_sumOfWarmths_24 : decode cX0_sumOfWarmths 24 = .ok (.iload_n 1, 1) := by decide +kernel
theorem dX0_sumOfWarmths_25 : decode cX0_sumOfWarmths 25 = .ok (.aload_n 0, 1) := by decide +kernel
theorem dX0_sumOfWarmths_26 : decode cX0_sumOfWarmths 26 = .ok (.getfield 47, 3) := by decide +kernel
theorem dX0_sumOfWarmths_29 : decode cX0_sumOfWarmths 29 = .ok (.iload_n 2, 1) := by decide +kernel
theorem dX0_sumOfWarmths_30 : decode cX0_sumOfWarmths 30 = .ok (.iaload, 1) := by decide +kernel
theorem dX0_sumOfWarmths_31 : decode cX0_sumOfWarmths 31 = .ok (.iadd, 1) := by decide +kernel
theorem dX0_sumOfWarmths_32 : decode cX0_sumOfWarmths 32 = .ok (.istore_n 1, 1) := by decide +kernel
theorem dX0_sumOfWarmths_33 : decode cX0_sumOfWarmths 33 = .ok (.iinc 2 1, 3) := by decide +kernel
theorem dX0_sumOfWarmths_36 : decode cX0_sumOfWarmths 36 = .ok (.goto (-32), 3) := by decide +kernel
theorem dX0_sumOfWarmths_39 : decode cX0_sumOfWarmths 39 = .ok (.iload_n 1, 1) := by decide +kernel
theorem dX0_sumOfWarmths_40 : decode cX0_sumOfWarmths 40 = .ok (.ireturn, 1) := by decide +kernel
theorem dX0_findWarmest_0 : decode cX0_findWarmest 0 = .ok (.iconst (-1), 1) := by decide +kernel
theorem dX0_findWarmest_1 : decode cX0_findWarmest 1 = .ok (.istore_n 1, 1) := by decide +kernel
theorem dX0_findWarmest_2 : decode cX0_findWarmest 2 = .ok (.iconst 0, 1) := by decide +kernel
theorem dX0_findWarmest_3 : decode cX0_findWarmest 3 = .ok (.istore_n 2, 1) := by decide +kernel
theorem dX0_findWarmest_4 : decode cX0_findWarmest 4 = .ok (.iload_n 2, 1) := by decide +kernel
theorem dX0_findWarmest_5 : decode cX0_findWarmest 5 = .ok (.aload_n 0, 1) := by decide +kernel
theorem dX0_findWarmest_6 : decode cX0_findWarmest 6 = .ok (.getfield 53, 3) := by decide +kernel
theorem dX0_findWarmest_9 : decode cX0_findWarmest 9 = .ok (.getfield 108, 3) := by decide +kernel
theorem dX0_findWarmest_12 : decode cX0_findWarmest 12 = .ok (.if_icmp .ge 40, 3) := by decide +kernel
theorem dX0_findWarmest_15 : decode cX0_findWarmest 15 = .ok (.aload_n 0, 1) := by decide +kernel
theorem dX0_findWarmest_16 : decode cX0_findWarmest 16 = .ok (.getfield 50, 3) := by decide +kernel
theorem dX0_findWarmest_19 : decode cX0_findWarmest 19 = .ok (.iload_n 2, 1) := by decide +kernel
theorem dX0_findWarmest_20 : decode cX0_findWarmest 20 = .ok (.baload, 1) := by decide +kernel
theorem dX0_findWarmest_21 : decode cX0_findWarmest 21 = .ok (.ifCond .eq 25, 3) := by decide +kernel
theorem dX0_findWarmest_24 : decode cX0_findWarmest 24 = .ok (.iload_n 1, 1) := by decide +kernel
theorem dX0_findWarmest_25 : decode cX0_findWarmest 25 = .ok (.iconst (-1), 1) := by decide +kernel
theorem dX0_findWarmest_26 : decode cX0_findWarmest 26 = .ok (.if_icmp .eq 18, 3) := by decide +kernel
theorem dX0_findWarmest_29 : decode cX0_findWarmest 29 = .ok (.aload_n 0, 1) := by decide +kernel
theorem dX0_findWarmest_30 : decode cX0_findWarmest 30 = .ok (.getfield 47, 3) := by decide +kernel
theorem dX0_findWarmest_33 : decode cX0_findWarmest 33 = .ok (.iload_n 2, 1) := by decide +kernel
theorem dX0_findWarmest_34 : decode cX0_findWarmest 34 = .ok (.iaload, 1) := by decide +kernel
theorem dX0_findWarmest_35 : decode cX0_findWarmest 35 = .ok (.aload_n 0, 1) := by decide +kernel
theorem dX0_findWarmest_36 : decode cX0_findWarmest 36 = .ok (.getfield 47, 3) := by decide +kernel
theorem dX0_findWarmest_39 : decode cX0_findWarmest 39 = .ok (.iload_n 1, 1) := by decide +kernel
theorem dX0_findWarmest_40 : decode cX0_findWarmest 40 = .ok (.iaload, 1) := by decide +kernel
theorem dX0_findWarmest_41 : decode cX0_findWarmest 41 = .ok (.if_icmp .le 5, 3) := by decide +kernel
theorem dX0_findWarmest_44 : decode cX0_findWarmest 44 = .ok (.iload_n 2, 1) := by decide +kernel
theorem dX0_findWarmest_45 : decode cX0_findWarmest 45 = .ok (.istore_n 1, 1) := by decide +kernel
theorem dX0_findWarmest_46 : decode cX0_findWarmest 46 = .ok (.iinc 2 1, 3) := by decide +kernel
theorem dX0_findWarmest_49 : decode cX0_findWarmest 49 = .ok (.goto (-45), 3) := by decide +kernel
theorem dX0_findWarmest_52 : decode cX0_findWarmest 52 = .ok (.iload_n 1, 1) := by decide +kernel
theorem dX0_findWarmest_53 : decode cX0_findWarmest 53 = .ok (.ireturn, 1) := by decide +kernel
theorem dX1_init_0 : decode cX1_init 0 = .ok (.aload_n 0, 1) := by decide +kernel
theorem dX1_init_1 : decode cX1_init 1 = .ok (.invokespecial 3, 3) := by decide +kernel
theorem dX1_init_4 : decode cX1_init 4 = .ok (.aload_n 0, 1) := by decide +kernel
theorem dX1_init_5 : decode cX1_init 5 = .ok (.bipush 6, 2) := by decide +kernel
theorem dX1_init_7 : decode cX1_init 7 = .ok (.putfield 9, 3) := by decide +kernel
theorem dX1_init_10 : decode cX1_init 10 = .ok (.aload_n 0, 1) := by decide +kernel
theorem dX1_init_11 : decode cX1_init 11 = .ok (.bipush 20, 2) := by decide +kernel
theorem dX1_init_13 : decode cX1_init 13 = .ok (.putfield 15, 3) := by decide +kernel
theorem dX1_init_16 : decode cX1_init 16 = .ok (.aload_n 0, 1) := by decide +kernel
theorem dX1_init_17 : decode cX1_init 17 = .ok (.iconst 0, 1) := by decide +kernel
theorem dX1_init_18 : decode cX1_init 18 = .ok (.putfield 18, 3) := by decide +kernel
theorem dX1_init_21 : decode cX1_init 21 = .ok (.aload_n 0, 1) := by decide +kernel
theorem dX1_init_22 : decode cX1_init 22 = .ok (.bipush 12, 2) := by decide +kernel
theorem dX1_init_24 : decode cX1_init 24 = .ok (.newarray .int, 2) := by decide +kernel
theorem dX1_init_26 : decode cX1_init 26 = .ok (.putfield 21, 3) := by decide +kernel
theorem dX1_init_29 : decode cX1_init 29 = .ok (.aload_n 0, 1) := by decide +kernel
theorem dX1_init_30 : decode cX1_init 30 = .ok (.bipush 108, 2) := by decide +kernel
theorem dX1_init_32 : decode cX1_init 32 = .ok (.newarray .int, 2) := by decide +kernel
theorem dX1_init_34 : decode cX1_init 34 = .ok (.putfield 25, 3) := by decide +kernel
theorem dX1_init_37 : decode cX1_init 37 = .ok (.aload_n 0, 1) := by decide +kernel
theorem dX1_init_38 : decode cX1_init 38 = .ok (.bipush 108, 2) := by decide +kernel
theorem dX1_init_40 : decode cX1_init 40 = .ok (.newarray .int, 2) := by decide +kernel
theorem dX1_init_42 : decode cX1_init 42 = .ok (.putfield 28, 3) := by decide +kernel
theorem dX1_init_45 : decode cX1_init 45 = .ok (.aload_n 0, 1) := by decide +kernel
theorem dX1_init_46 : decode cX1_init 46 = .ok (.bipush 8, 2) := by decide +kernel
theorem dX1_init_48 : decode cX1_init 48 = .ok (.newarray .int, 2) := by decide +kernel
theorem dX1_init_50 : decode cX1_init 50 = .ok (.putfield 31, 3) := by decide +kernel
theorem dX1_init_53 : decode cX1_init 53 = .ok (.return_, 1) := by decide +kernel
theorem dX1_clear_0 : decode cX1_clear 0 = .ok (.aload_n 0, 1) := by decide +kernel
theorem dX1_clear_1 : decode cX1_clear 1 = .ok (.iload_n 1, 1) := by decide +kernel
theorem dX1_clear_2 : decode cX1_clear 2 = .ok (.putfield 9, 3) := by decide +kernel
theorem dX1_clear_5 : decode cX1_clear 5 = .ok (.iconst 0, 1) := by decide +kernel
theorem dX1_clear_6 : decode cX1_clear 6 = .ok (.istore_n 2, 1) := by decide +kernel
theorem dX1_clear_7 : decode cX1_clear 7 = .ok (.iload_n 2, 1) := by decide +kernel
theorem dX1_clear_8 : decode cX1_clear 8 = .ok (.bipush 12, 2) := by decide +kernel
theorem dX1_clear_10 : decode cX1_clear 10 = .ok (.if_icmp .ge 16, 3) := by decide +kernel
theorem dX1_clear_13 : decode cX1_clear 13 = .ok (.aload_n 0, 1) := by decide +kernel
theorem dX1_clear_14 : decode cX1_clear 14 = .ok (.getfield 21, 3) := by decide +kernel
theorem dX1_clear_17 : decode cX1_clear 17 = .ok (.iload_n 2, 1) := by decide +kernel
theorem dX1_clear_18 : decode cX1_clear 18 = .ok (.iconst 0, 1) := by decide +kernel
theorem dX1_clear_19 : decode cX1_clear 19 = .ok (.iastore, 1) := by decide +kernel
theorem dX1_clear_20 : decode cX1_clear 20 = .ok (.iinc 2 1, 3) := by decide +kernel
theorem dX1_clear_23 : decode cX1_clear 23 = .ok (.goto (-16), 3) := by decide +kernel
theorem dX1_clear_26 : decode cX1_clear 26 = .ok (.return_, 1) := by decide +kernel
theorem dX1_append_0 : decode cX1_append 0 = .ok (.aload_n 0, 1) := by decide +kernel
theorem dX1_append_1 : decode cX1_append 1 = .ok (.getfield 21, 3) := by decide +kernel
theorem dX1_append_4 : decode cX1_append 4 = .ok (.iload_n 1, 1) := by decide +kernel
theorem dX1_append_5 : decode cX1_append 5 = .ok (.iaload, 1) := by decide +kernel
theorem dX1_append_6 : decode cX1_append 6 = .ok (.istore 4, 2) := by decide +kernel
theorem dX1_append_8 : decode cX1_append 8 = .ok (.aload_n 0, 1) := by decide +kernel
theorem dX1_append_9 : decode cX1_append 9 = .ok (.getfield 25, 3) := by decide +kernel
theorem dX1_append_12 : decode cX1_append 12 = .ok (.iload_n 1, 1) := by decide +kernel
theorem dX1_append_13 : decode cX1_append 13 = .ok (.bipush 9, 2) := by decide +kernel
theorem dX1_append_15 : decode cX1_append 15 = .ok (.imul, 1) := by decide +kernel
theorem dX1_append_16 : decode cX1_append 16 = .ok (.iload 4, 2) := by decide +kernel
theorem dX1_append_18 : decode cX1_append 18 = .ok (.iadd, 1) := by decide +kernel
theorem dX1_append_19 : decode cX1_append 19 = .ok (.iload_n 2, 1) := by decide +kernel
theorem dX1_append_20 : decode cX1_append 20 = .ok (.iastore, 1) := by decide +kernel
theorem dX1_append_21 : decode cX1_append 21 = .ok (.aload_n 0, 1) := by decide +kernel
theorem dX1_append_22 : decode cX1_append 22 = .ok (.getfield 28, 3) := by decide +kernel
theorem dX1_append_25 : decode cX1_append 25 = .ok (.iload_n 1, 1) := by decide +kernel
theorem dX1_append_26 : decode cX1_append 26 = .ok (.bipush 9, 2) := by decide +kernel
theorem dX1_append_28 : decode cX1_append 28 = .ok (.imul, 1) := by decide +kernel
theorem dX1_append_29 : decode cX1_append 29 = .ok (.iload 4, 2) := by decide +kernel
theorem dX1_append_31 : decode cX1_append 31 = .ok (.iadd, 1) := by decide +kernel
theorem dX1_append_32 : decode cX1_append 32 = .ok (.iload_n 3, 1) := by decide +kernel
theorem dX1_append_33 : decode cX1_append 33 = .ok (.iastore, 1) := by decide +kernel
theorem dX1_append_34 : decode cX1_append 34 = .ok (.aload_n 0, 1) := by decide +kernel
theorem dX1_append_35 : decode cX1_append 35 = .ok (.getfield 21, 3) := by decide +kernel
theorem dX1_append_38 : decode cX1_append 38 = .ok (.iload_n 1, 1) := by decide +kernel
theorem dX1_append_39 : decode cX1_append 39 = .ok (.iload 4, 2) := by decide +kernel
theorem dX1_append_41 : decode cX1_append 41 = .ok (.iconst 1, 1) := by decide +kernel
theorem dX1_append_42 : decode cX1_append 42 = .ok (.iadd, 1) := by decide +kernel
theorem dX1_append_43 : decode cX1_append 43 = .ok (.iastore, 1) := by decide +kernel
theorem dX1_append_44 : decode cX1_append 44 = .ok (.iload 4, 2) := by decide +kernel
theorem dX1_append_46 : decode cX1_append 46 = .ok (.ireturn, 1) := by decide +kernel
theorem dX1_topicAt_0 : decode cX1_topicAt 0 = .ok (.aload_n 0, 1) := by decide +kernel
theorem dX1_topicAt_1 : decode cX1_topicAt 1 = .ok (.getfield 25, 3) := by decide +kernel
theorem dX1_topicAt_4 : decode cX1_topicAt 4 = .ok (.iload_n 1, 1) := by decide +kernel
theorem dX1_topicAt_5 : decode cX1_topicAt 5 = .ok (.bipush 9, 2) := by decide +kernel
theorem dX1_topicAt_7 : decode cX1_topicAt 7 = .ok (.imul, 1) := by decide +kernel
theorem dX1_topicAt_8 : decode cX1_topicAt 8 = .ok (.iload_n 2, 1) := by decide +kernel
theorem dX1_topicAt_9 : decode cX1_topicAt 9 = .ok (.iadd, 1) := by decide +kernel
theorem dX1_topicAt_10 : decode cX1_topicAt 10 = .ok (.iaload, 1) := by decide +kernel
theorem dX1_topicAt_11 : decode cX1_topicAt 11 = .ok (.ireturn, 1) := by decide +kernel
theorem dX1_thrillAt_0 : decode cX1_thrillAt 0 = .ok (.aload_n 0, 1) := by decide +kernel
theorem dX1_thrillAt_1 : decode cX1_thrillAt 1 = .ok (.getfield 28, 3) := by decide +kernel
theorem dX1_thrillAt_4 : decode cX1_thrillAt 4 = .ok (.iload_n 1, 1) := by decide +kernel
theorem dX1_thrillAt_5 : decode cX1_thrillAt 5 = .ok (.bipush 9, 2) := by decide +kernel
theorem dX1_thrillAt_7 : decode cX1_thrillAt 7 = .ok (.imul, 1) := by decide +kernel
theorem dX1_thrillAt_8 : decode cX1_thrillAt 8 = .ok (.iload_n 2, 1) := by decide +kernel
theorem dX1_thrillAt_9 : decode cX1_thrillAt 9 = .ok (.iadd, 1) := by decide +kernel
theorem dX1_thrillAt_10 : decode cX1_thrillAt 10 = .ok (.iaload, 1) := by decide +kernel
theorem dX1_thrillAt_11 : decode cX1_thrillAt 11 = .ok (.ireturn, 1) := by decide +kernel
theorem dX2_init_0 : decode cX2_init 0 = .ok (.aload_n 0, 1) := by decide +kernel
theorem dX2_init_1 : decode cX2_init 1 = .ok (.invokespecial 3, 3) := by decide +kernel
theorem dX2_init_4 : decode cX2_init 4 = .ok (.aload_n 0, 1) := by decide +kernel
theorem dX2_init_5 : decode cX2_init 5 = .ok (.iconst 0, 1) := by decide +kernel
theorem dX2_init_6 : decode cX2_init 6 = .ok (.putfield 9, 3) := by decide +kernel
theorem dX2_init_9 : decode cX2_init 9 = .ok (.aload_n 0, 1) := by decide +kernel
theorem dX2_init_10 : decode cX2_init 10 = .ok (.bipush 108, 2) := by decide +kernel
theorem dX2_init_12 : decode cX2_init 12 = .ok (.newarray .int, 2) := by decide +kernel
theorem dX2_init_14 : decode cX2_init 14 = .ok (.putfield 15, 3) := by decide +kernel
theorem dX2_init_17 : decode cX2_init 17 = .ok (.aload_n 0, 1) := by decide +kernel
theorem dX2_init_18 : decode cX2_init 18 = .ok (.bipush 108, 2) := by decide +kernel
theorem dX2_init_20 : decode cX2_init 20 = .ok (.newarray .int, 2) := by decide +kernel
theorem dX2_init_22 : decode cX2_init 22 = .ok (.putfield 19, 3) := by decide +kernel
theorem dX2_init_25 : decode cX2_init 25 = .ok (.aload_n 0, 1) := by decide +kernel
theorem dX2_init_26 : decode cX2_init 26 = .ok (.bipush 108, 2) := by decide +kernel
theorem dX2_init_28 : decode cX2_init 28 = .ok (.newarray .int, 2) := by decide +kernel
theorem dX2_init_30 : decode cX2_init 30 = .ok (.putfield 22, 3) := by decide +kernel
theorem dX2_init_33 : decode cX2_init 33 = .ok (.aload_n 0, 1) := by decide +kernel
theorem dX2_init_34 : decode cX2_init 34 = .ok (.bipush 108, 2) := by decide +kernel
theorem dX2_init_36 : decode cX2_init 36 = .ok (.newarray .int, 2) := by decide +kernel
theorem dX2_init_38 : decode cX2_init 38 = .ok (.putfield 25, 3) := by decide +kernel
theorem dX2_init_41 : decode cX2_init 41 = .ok (.return_, 1) := by decide +kernel
theorem dX2_append_0 : decode cX2_append 0 = .ok (.aload_n 0, 1) := by decide +kernel
theorem dX2_append_1 : decode cX2_append 1 = .ok (.getfield 9, 3) := by decide +kernel
theorem dX2_append_4 : decode cX2_append 4 = .ok (.bipush 108, 2) := by decide +kernel
theorem dX2_append_6 : decode cX2_append 6 = .ok (.if_icmp .lt 4, 3) := by decide +kernel
theorem dX2_append_9 : decode cX2_append 9 = .ok (.return_, 1) := by decide +kernel
theorem dX2_append_10 : decode cX2_append 10 = .ok (.aload_n 0, 1) := by decide +kernel
theorem dX2_append_11 : decode cX2_append 11 = .ok (.getfield 15, 3) := by decide +kernel
theorem dX2_append_14 : decode cX2_append 14 = .ok (.aload_n 0, 1) := by decide +kernel
theorem dX2_append_15 : decode cX2_append 15 = .ok (.getfield 9, 3) := by decide +kernel
theorem dX2_append_18 : decode cX2_append 18 = .ok (.iload_n 1, 1) := by decide +kernel
theorem dX2_append_19 : decode cX2_append 19 = .ok (.iastore, 1) := by decide +kernel
theorem dX2_append_20 : decode cX2_append 20 = .ok (.aload_n 0, 1) := by decide +kernel
theorem dX2_append_21 : decode cX2_append 21 = .ok (.getfield 19, 3) := by decide +kernel
theorem dX2_append_24 : decode cX2_append 24 = .ok (.aload_n 0, 1) := by decide +kernel
theorem dX2_append_25 : decode cX2_append 25 = .ok (.getfield 9, 3) := by decide +kernel
theorem dX2_append_28 : decode cX2_append 28 = .ok (.iload_n 2, 1) := by decide +kernel
theorem dX2_append_29 : decode cX2_append 29 = .ok (.iastore, 1) := by decide +kernel
theorem dX2_append_30 : decode cX2_append 30 = .ok (.aload_n 0, 1) := by decide +kernel
theorem dX2_append_31 : decode cX2_append 31 = .ok (.getfield 22, 3) := by decide +kernel
theorem dX2_append_34 : decode cX2_append 34 = .ok (.aload_n 0, 1) := by decide +kernel
theorem dX2_append_35 : decode cX2_append 35 = .ok (.getfield 9, 3) := by decide +kernel
theorem dX2_append_38 : decode cX2_append 38 = .ok (.iload_n 3, 1) := by decide +kernel
theorem dX2_append_39 : decode cX2_append 39 = .ok (.iastore, 1) := by decide +kernel
theorem dX2_append_40 : decode cX2_append 40 = .ok (.aload_n 0, 1) := by decide +kernel
theorem dX2_append_41 : decode cX2_append 41 = .ok (.getfield 25, 3) := by decide +kernel
theorem dX2_append_44 : decode cX2_append 44 = .ok (.aload_n 0, 1) := by decide +kernel
theorem dX2_append_45 : decode cX2_append 45 = .ok (.getfield 9, 3) := by decide +kernel
theorem dX2_append_48 : decode cX2_append 48 = .ok (.iload 4, 2) := by decide +kernel
theorem dX2_append_50 : decode cX2_append 50 = .ok (.iastore, 1) := by decide +kernel
theorem dX2_append_51 : decode cX2_append 51 = .ok (.aload_n 0, 1) := by decide +kernel
theorem dX2_append_52 : decode cX2_append 52 = .ok (.dup, 1) := by decide +kernel
theorem dX2_append_53 : decode cX2_append 53 = .ok (.getfield 9, 3) := by decide +kernel
theorem dX2_append_56 : decode cX2_append 56 = .ok (.iconst 1, 1) := by decide +kernel
theorem dX2_append_57 : decode cX2_append 57 = .ok (.iadd, 1) := by decide +kernel
theorem dX2_append_58 : decode cX2_append 58 = .ok (.putfield 9, 3) := by decide +kernel
theorem dX2_append_61 : decode cX2_append 61 = .ok (.return_, 1) := by decide +kernel
theorem dX2_findMostThrilling_0 : decode cX2_findMostThrilling 0 = .ok (.iconst (-1), 1) := by decide +kernel
theorem dX2_findMostThrilling_1 : decode cX2_findMostThrilling 1 = .ok (.istore_n 1, 1) := by decide +kernel
theorem dX2_findMostThrilling_2 : decode cX2_findMostThrilling 2 = .ok (.iconst 0, 1) := by decide +kernel
theorem dX2_findMostThrilling_3 : decode cX2_findMostThrilling 3 = .ok (.istore_n 2, 1) := by decide +kernel
theorem dX2_findMostThrilling_4 : decode cX2_findMostThrilling 4 = .ok (.iload_n 2, 1) := by decide +kernel
theorem dX2_findMostThrilling_5 : decode cX2_findMostThrilling 5 = .ok (.aload_n 0, 1) := by decide +kernel
theorem dX2_findMostThrilling_6 : decode cX2_findMostThrilling 6 = .ok (.getfield 9, 3) := by decide +kernel
theorem dX2_findMostThrilling_9 : decode cX2_findMostThrilling 9 = .ok (.if_icmp .ge 31, 3) := by decide +kernel
theorem dX2_findMostThrilling_12 : decode cX2_findMostThrilling 12 = .ok (.iload_n 1, 1) := by decide +kernel
theorem dX2_findMostThrilling_13 : decode cX2_findMostThrilling 13 = .ok (.iconst (-1), 1) := by decide +kernel
theorem dX2_findMostThrilling_14 : decode cX2_findMostThrilling 14 = .ok (.if_icmp .eq 18, 3) := by decide +kernel
theorem dX2_findMostThrilling_17 : decode cX2_findMostThrilling 17 = .ok (.aload_n 0, 1) := by decide +kernel
theorem dX2_findMostThrilling_18 : decode cX2_findMostThrilling 18 = .ok (.getfield 22, 3) := by decide +kernel
theorem dX2_findMostThrilling_21 : decode cX2_findMostThrilling 21 = .ok (.iload_n 2, 1) := by decide +kernel
theorem dX2_findMostThrilling_22 : decode cX2_findMostThrilling 22 = .ok (.iaload, 1) := by decide +kernel
theorem dX2_findMostThrilling_23 : decode cX2_findMostThrilling 23 = .ok (.aload_n 0, 1) := by decide +kernel
theorem dX2_findMostThrilling_24 : decode cX2_findMostThrilling 24 = .ok (.getfield 22, 3) := by decide +kernel
theorem dX2_findMostThrilling_27 : decode cX2_findMostThrilling 27 = .ok (.iload_n 1, 1) := by decide +kernel
theorem dX2_findMostThrilling_28 : decode cX2_findMostThrilling 28 = .ok (.iaload, 1) := by decide +kernel
theorem dX2_findMostThrilling_29 : decode cX2_findMostThrilling 29 = .ok (.if_icmp .le 5, 3) := by decide +kernel
theorem dX2_findMostThrilling_32 : decode cX2_findMostThrilling 32 = .ok (.iload_n 2, 1) := by decide +kernel
theorem dX2_findMostThrilling_33 : decode cX2_findMostThrilling 33 = .ok (.istore_n 1, 1) := by decide +kernel
theorem dX2_findMostThrilling_34 : decode cX2_findMostThrilling 34 = .ok (.iinc 2 1, 3) := by decide +kernel
theorem dX2_findMostThrilling_37 : decode cX2_findMostThrilling 37 = .ok (.goto (-33), 3) := by decide +kernel
theorem dX2_findMostThrilling_40 : decode cX2_findMostThrilling 40 = .ok (.iload_n 1, 1) := by decide +kernel
theorem dX2_findMostThrilling_41 : decode cX2_findMostThrilling 41 = .ok (.ireturn, 1) := by decide +kernel
theorem dX2_findLongestWait_0 : decode cX2_findLongestWait 0 = .ok (.iconst 0, 1) := by decide +kernel
theorem dX2_findLongestWait_1 : decode cX2_findLongestWait 1 = .ok (.istore_n 1, 1) := by decide +kernel
theorem dX2_findLongestWait_2 : decode cX2_findLongestWait 2 = .ok (.iconst 1, 1) := by decide +kernel
theorem dX2_findLongestWait_3 : decode cX2_findLongestWait 3 = .ok (.istore_n 2, 1) := by decide +kernel
theorem dX2_findLongestWait_4 : decode cX2_findLongestWait 4 = .ok (.iload_n 2, 1) := by decide +kernel
theorem dX2_findLongestWait_5 : decode cX2_findLongestWait 5 = .ok (.aload_n 0, 1) := by decide +kernel
theorem dX2_findLongestWait_6 : decode cX2_findLongestWait 6 = .ok (.getfield 9, 3) := by decide +kernel
theorem dX2_findLongestWait_9 : decode cX2_findLongestWait 9 = .ok (.if_icmp .ge 29, 3) := by decide +kernel
theorem dX2_findLongestWait_12 : decode cX2_findLongestWait 12 = .ok (.iload_n 1, 1) := by decide +kernel
theorem dX2_findLongestWait_13 : decode cX2_findLongestWait 13 = .ok (.aload_n 0, 1) := by decide +kernel
theorem dX2_findLongestWait_14 : decode cX2_findLongestWait 14 = .ok (.getfield 25, 3) := by decide +kernel
theorem dX2_findLongestWait_17 : decode cX2_findLongestWait 17 = .ok (.iload_n 2, 1) := by decide +kernel
theorem dX2_findLongestWait_18 : decode cX2_findLongestWait 18 = .ok (.iaload, 1) := by decide +kernel
theorem dX2_findLongestWait_19 : decode cX2_findLongestWait 19 = .ok (.aload_n 0, 1) := by decide +kernel
theorem dX2_findLongestWait_20 : decode cX2_findLongestWait 20 = .ok (.getfield 25, 3) := by decide +kernel
theorem dX2_findLongestWait_23 : decode cX2_findLongestWait 23 = .ok (.iload_n 2, 1) := by decide +kernel
theorem dX2_findLongestWait_24 : decode cX2_findLongestWait 24 = .ok (.iconst 1, 1) := by decide +kernel
theorem dX2_findLongestWait_25 : decode cX2_findLongestWait 25 = .ok (.isub, 1) := by decide +kernel
theorem dX2_findLongestWait_26 : decode cX2_findLongestWait 26 = .ok (.iaload, 1) := by decide +kernel
theorem dX2_findLongestWait_27 : decode cX2_findLongestWait 27 = .ok (.isub, 1) := by decide +kernel
theorem dX2_findLongestWait_28 : decode cX2_findLongestWait 28 = .ok (.invokestatic 28, 3) := by decide +kernel
theorem dX2_findLongestWait_31 : decode cX2_findLongestWait 31 = .ok (.istore_n 1, 1) := by decide +kernel
theorem dX2_findLongestWait_32 : decode cX2_findLongestWait 32 = .ok (.iinc 2 1, 3) := by decide +kernel
theorem dX2_findLongestWait_35 : decode cX2_findLongestWait 35 = .ok (.goto (-31), 3) := by decide +kernel
theorem dX2_findLongestWait_38 : decode cX2_findLongestWait 38 = .ok (.iload_n 1, 1) := by decide +kernel
theorem dX2_findLongestWait_39 : decode cX2_findLongestWait 39 = .ok (.ireturn, 1) := by decide +kernel
theorem dX2_countClimbs_0 : decode cX2_countClimbs 0 = .ok (.iconst 0, 1) := by decide +kernel
theorem dX2_countClimbs_1 : decode cX2_countClimbs 1 = .ok (.istore_n 1, 1) := by decide +kernel
theorem dX2_countClimbs_2 : decode cX2_countClimbs 2 = .ok (.iconst 1, 1) := by decide +kernel
theorem dX2_countClimbs_3 : decode cX2_countClimbs 3 = .ok (.istore_n 2, 1) := by decide +kernel
theorem dX2_countClimbs_4 : decode cX2_countClimbs 4 = .ok (.iload_n 2, 1) := by decide +kernel
theorem dX2_countClimbs_5 : decode cX2_countClimbs 5 = .ok (.aload_n 0, 1) := by decide +kernel
theorem dX2_countClimbs_6 : decode cX2_countClimbs 6 = .ok (.getfield 9, 3) := by decide +kernel
theorem dX2_countClimbs_9 : decode cX2_countClimbs 9 = .ok (.if_icmp .ge 29, 3) := by decide +kernel
theorem dX2_countClimbs_12 : decode cX2_countClimbs 12 = .ok (.aload_n 0, 1) := by decide +kernel
theorem dX2_countClimbs_13 : decode cX2_countClimbs 13 = .ok (.getfield 15, 3) := by decide +kernel
theorem dX2_countClimbs_16 : decode cX2_countClimbs 16 = .ok (.iload_n 2, 1) := by decide +kernel
theorem dX2_countClimbs_17 : decode cX2_countClimbs 17 = .ok (.iaload, 1) := by decide +kernel
theorem dX2_countClimbs_18 : decode cX2_countClimbs 18 = .ok (.aload_n 0, 1) := by decide +kernel
theorem dX2_countClimbs_19 : decode cX2_countClimbs 19 = .ok (.getfield 15, 3) := by decide +kernel
theorem dX2_countClimbs_22 : decode cX2_countClimbs 22 = .ok (.iload_n 2, 1) := by decide +kernel
theorem dX2_countClimbs_23 : decode cX2_countClimbs 23 = .ok (.iconst 1, 1) := by decide +kernel
theorem dX2_countClimbs_24 : decode cX2_countClimbs 24 = .ok (.isub, 1) := by decide +kernel
theorem dX2_countClimbs_25 : decode cX2_countClimbs 25 = .ok (.iaload, 1) := by decide +kernel
theorem dX2_countClimbs_26 : decode cX2_countClimbs 26 = .ok (.if_icmp .le 6, 3) := by decide +kernel
theorem dX2_countClimbs_29 : decode cX2_countClimbs 29 = .ok (.iinc 1 1, 3) := by decide +kernel
theorem dX2_countClimbs_32 : decode cX2_countClimbs 32 = .ok (.iinc 2 1, 3) := by decide +kernel
theorem dX2_countClimbs_35 : decode cX2_countClimbs 35 = .ok (.goto (-31), 3) := by decide +kernel
theorem dX2_countClimbs_38 : decode cX2_countClimbs 38 = .ok (.iload_n 1, 1) := by decide +kernel
theorem dX2_countClimbs_39 : decode cX2_countClimbs 39 = .ok (.ireturn, 1) := by decide +kernel
theorem dX3_init_0 : decode cX3_init 0 = .ok (.aload_n 0, 1) := by decide +kernel
theorem dX3_init_1 : decode cX3_init 1 = .ok (.invokespecial 3, 3) := by decide +kernel
theorem dX3_init_4 : decode cX3_init 4 = .ok (.aload_n 0, 1) := by decide +kernel
theorem dX3_init_5 : decode cX3_init 5 = .ok (.iconst 0, 1) := by decide +kernel
theorem dX3_init_6 : decode cX3_init 6 = .ok (.putfield 9, 3) := by decide +kernel
theorem dX3_init_9 : decode cX3_init 9 = .ok (.aload_n 0, 1) := by decide +kernel
theorem dX3_init_10 : decode cX3_init 10 = .ok (.iconst 4, 1) := by decide +kernel
theorem dX3_init_11 : decode cX3_init 11 = .ok (.newarray .int, 2) := by decide +kernel
theorem dX3_init_13 : decode cX3_init 13 = .ok (.putfield 15, 3) := by decide +kernel
theorem dX3_init_16 : decode cX3_init 16 = .ok (.aload_n 0, 1) := by decide +kernel
theorem dX3_init_17 : decode cX3_init 17 = .ok (.iconst 4, 1) := by decide +kernel
theorem dX3_init_18 : decode cX3_init 18 = .ok (.newarray .int, 2) := by decide +kernel
theorem dX3_init_20 : decode cX3_init 20 = .ok (.putfield 19, 3) := by decide +kernel
theorem dX3_init_23 : decode cX3_init 23 = .ok (.return_, 1) := by decide +kernel
theorem dX3_append_0 : decode cX3_append 0 = .ok (.aload_n 0, 1) := by decide +kernel
theorem dX3_append_1 : decode cX3_append 1 = .ok (.getfield 9, 3) := by decide +kernel
theorem dX3_append_4 : decode cX3_append 4 = .ok (.istore_n 3, 1) := by decide +kernel
theorem dX3_append_5 : decode cX3_append 5 = .ok (.aload_n 0, 1) := by decide +kernel
theorem dX3_append_6 : decode cX3_append 6 = .ok (.getfield 15, 3) := by decide +kernel
theorem dX3_append_9 : decode cX3_append 9 = .ok (.iload_n 3, 1) := by decide +kernel
theorem dX3_append_10 : decode cX3_append 10 = .ok (.iload_n 1, 1) := by decide +kernel
theorem dX3_append_11 : decode cX3_append 11 = .ok (.iastore, 1) := by decide +kernel
theorem dX3_append_12 : decode cX3_append 12 = .ok (.aload_n 0, 1) := by decide +kernel
theorem dX3_append_13 : decode cX3_append 13 = .ok (.getfield 19, 3) := by decide +kernel
theorem dX3_append_16 : decode cX3_append 16 = .ok (.iload_n 3, 1) := by decide +kernel
theorem dX3_append_17 : decode cX3_append 17 = .ok (.iload_n 2, 1) := by decide +kernel
theorem dX3_append_18 : decode cX3_append 18 = .ok (.iastore, 1) := by decide +kernel
theorem dX3_append_19 : decode cX3_append 19 = .ok (.aload_n 0, 1) := by decide +kernel
theorem dX3_append_20 : decode cX3_append 20 = .ok (.iload_n 3, 1) := by decide +kernel
theorem dX3_append_21 : decode cX3_append 21 = .ok (.iconst 1, 1) := by decide +kernel
theorem dX3_append_22 : decode cX3_append 22 = .ok (.iadd, 1) := by decide +kernel
theorem dX3_append_23 : decode cX3_append 23 = .ok (.putfield 9, 3) := by decide +kernel
theorem dX3_append_26 : decode cX3_append 26 = .ok (.iload_n 3, 1) := by decide +kernel
theorem dX3_append_27 : decode cX3_append 27 = .ok (.ireturn, 1) := by decide +kernel
theorem dX3_judge_0 : decode cX3_judge 0 = .ok (.iconst 4, 1) := by decide +kernel
theorem dX3_judge_1 : decode cX3_judge 1 = .ok (.iload_n 3, 1) := by decide +kernel
theorem dX3_judge_2 : decode cX3_judge 2 = .ok (.iconst 3, 1) := by decide +kernel
theorem dX3_judge_3 : decode cX3_judge 3 = .ok (.idiv, 1) := by decide +kernel
theorem dX3_judge_4 : decode cX3_judge 4 = .ok (.iadd, 1) := by decide +kernel
theorem dX3_judge_5 : decode cX3_judge 5 = .ok (.istore 4, 2) := by decide +kernel
theorem dX3_judge_7 : decode cX3_judge 7 = .ok (.aload_n 0, 1) := by decide +kernel
theorem dX3_judge_8 : decode cX3_judge 8 = .ok (.getfield 15, 3) := by decide +kernel
theorem dX3_judge_11 : decode cX3_judge 11 = .ok (.iload_n 1, 1) := by decide +kernel
theorem dX3_judge_12 : decode cX3_judge 12 = .ok (.iaload, 1) := by decide +kernel
theorem dX3_judge_13 : decode cX3_judge 13 = .ok (.iload_n 2, 1) := by decide +kernel
theorem dX3_judge_14 : decode cX3_judge 14 = .ok (.if_icmp .ne 6, 3) := by decide +kernel
theorem dX3_judge_17 : decode cX3_judge 17 = .ok (.iinc 4 2, 3) := by decide +kernel
theorem dX3_judge_20 : decode cX3_judge 20 = .ok (.aload_n 0, 1) := by decide +kernel
theorem dX3_judge_21 : decode cX3_judge 21 = .ok (.getfield 19, 3) := by decide +kernel
theorem dX3_judge_24 : decode cX3_judge 24 = .ok (.iload_n 1, 1) := by decide +kernel
theorem dX3_judge_25 : decode cX3_judge 25 = .ok (.iaload, 1) := by decide +kernel
theorem dX3_judge_26 : decode cX3_judge 26 = .ok (.iload_n 2, 1) := by decide +kernel
theorem dX3_judge_27 : decode cX3_judge 27 = .ok (.if_icmp .ne 6, 3) := by decide +kernel
theorem dX3_judge_30 : decode cX3_judge 30 = .ok (.iinc 4 (-3), 3) := by decide +kernel
theorem dX3_judge_33 : decode cX3_judge 33 = .ok (.iconst 0, 1) := by decide +kernel
theorem dX3_judge_34 : decode cX3_judge 34 = .ok (.bipush 10, 2) := by decide +kernel
theorem dX3_judge_36 : decode cX3_judge 36 = .ok (.iload 4, 2) := by decide +kernel
theorem dX3_judge_38 : decode cX3_judge 38 = .ok (.invokestatic 22, 3) := by decide +kernel
theorem dX3_judge_41 : decode cX3_judge 41 = .ok (.invokestatic 28, 3) := by decide +kernel
theorem dX3_judge_44 : decode cX3_judge 44 = .ok (.ireturn, 1) := by decide +kernel
theorem dX4_init_0 : decode cX4_init 0 = .ok (.aload_n 0, 1) := by decide +kernel
theorem dX4_init_1 : decode cX4_init 1 = .ok (.invokespecial 3, 3) := by decide +kernel
theorem dX4_init_4 : decode cX4_init 4 = .ok (.aload_n 0, 1) := by decide +kernel
theorem dX4_init_5 : decode cX4_init 5 = .ok (.new 9, 3) := by decide +kernel
theorem dX4_init_8 : decode cX4_init 8 = .ok (.dup, 1) := by decide +kernel
theorem dX4_init_9 : decode cX4_init 9 = .ok (.invokespecial 11, 3) := by decide +kernel
theorem dX4_init_12 : decode cX4_init 12 = .ok (.putfield 12, 3) := by decide +kernel
theorem dX4_init_15 : decode cX4_init 15 = .ok (.aload_n 0, 1) := by decide +kernel
theorem dX4_init_16 : decode cX4_init 16 = .ok (.new 16, 3) := by decide +kernel
theorem dX4_init_19 : decode cX4_init 19 = .ok (.dup, 1) := by decide +kernel
theorem dX4_init_20 : decode cX4_init 20 = .ok (.aload_n 0, 1) := by decide +kernel
theorem dX4_init_21 : decode cX4_init 21 = .ok (.getfield 12, 3) := by decide +kernel
theorem dX4_init_24 : decode cX4_init 24 = .ok (.invokespecial 18, 3) := by decide +kernel
theorem dX4_init_27 : decode cX4_init 27 = .ok (.putfield 21, 3) := by decide +kernel
theorem dX4_init_30 : decode cX4_init 30 = .ok (.aload_n 0, 1) := by decide +kernel
theorem dX4_init_31 : decode cX4_init 31 = .ok (.new 16, 3) := by decide +kernel
theorem dX4_init_34 : decode cX4_init 34 = .ok (.dup, 1) := by decide +kernel
theorem dX4_init_35 : decode cX4_init 35 = .ok (.aload_n 0, 1) := by decide +kernel
theorem dX4_init_36 : decode cX4_init 36 = .ok (.getfield 12, 3) := by decide +kernel
theorem dX4_init_39 : decode cX4_init 39 = .ok (.invokespecial 18, 3) := by decide +kernel
theorem dX4_init_42 : decode cX4_init 42 = .ok (.putfield 25, 3) := by decide +kernel
theorem dX4_init_45 : decode cX4_init 45 = .ok (.aload_n 0, 1) := by decide +kernel
theorem dX4_init_46 : decode cX4_init 46 = .ok (.new 28, 3) := by decide +kernel
theorem dX4_init_49 : decode cX4_init 49 = .ok (.dup, 1) := by decide +kernel
theorem dX4_init_50 : decode cX4_init 50 = .ok (.invokespecial 30, 3) := by decide +kernel
theorem dX4_init_53 : decode cX4_init 53 = .ok (.putfield 31, 3) := by decide +kernel
theorem dX4_init_56 : decode cX4_init 56 = .ok (.aload_n 0, 1) := by decide +kernel
theorem dX4_init_57 : decode cX4_init 57 = .ok (.new 35, 3) := by decide +kernel
theorem dX4_init_60 : decode cX4_init 60 = .ok (.dup, 1) := by decide +kernel
theorem dX4_init_61 : decode cX4_init 61 = .ok (.invokespecial 37, 3) := by decide +kernel
theorem dX4_init_64 : decode cX4_init 64 = .ok (.putfield 38, 3) := by decide +kernel
theorem dX4_init_67 : decode cX4_init 67 = .ok (.return_, 1) := by decide +kernel
theorem dX4_begin_0 : decode cX4_begin 0 = .ok (.iload_n 1, 1) := by decide +kernel
theorem dX4_begin_1 : decode cX4_begin 1 = .ok (.iconst 2, 1) := by decide +kernel
theorem dX4_begin_2 : decode cX4_begin 2 = .ok (.if_icmp .lt 9, 3) := by decide +kernel
theorem dX4_begin_5 : decode cX4_begin 5 = .ok (.iload_n 1, 1) := by decide +kernel
theorem dX4_begin_6 : decode cX4_begin 6 = .ok (.bipush 12, 2) := by decide +kernel
theorem dX4_begin_8 : decode cX4_begin 8 = .ok (.if_icmp .le 13, 3) := by decide +kernel
theorem dX4_begin_11 : decode cX4_begin 11 = .ok (.new 42, 3) := by decide +kernel
theorem dX4_begin_14 : decode cX4_begin 14 = .ok (.dup, 1) := by decide +kernel
theorem dX4_begin_15 : decode cX4_begin 15 = .ok (.ldc 44, 2) := by decide +kernel
theorem dX4_begin_17 : decode cX4_begin 17 = .ok (.invokespecial 46, 3) := by decide +kernel
theorem dX4_begin_20 : decode cX4_begin 20 = .ok (.athrow, 1) := by decide +kernel
theorem dX4_begin_21 : decode cX4_begin 21 = .ok (.aload_n 0, 1) := by decide +kernel
theorem dX4_begin_22 : decode cX4_begin 22 = .ok (.getfield 12, 3) := by decide +kernel
theorem dX4_begin_25 : decode cX4_begin 25 = .ok (.iload_n 1, 1) := by decide +kernel
theorem dX4_begin_26 : decode cX4_begin 26 = .ok (.invokevirtual 49, 3) := by decide +kernel
theorem dX4_begin_29 : decode cX4_begin 29 = .ok (.aload_n 0, 1) := by decide +kernel
theorem dX4_begin_30 : decode cX4_begin 30 = .ok (.getfield 21, 3) := by decide +kernel
theorem dX4_begin_33 : decode cX4_begin 33 = .ok (.invokevirtual 53, 3) := by decide +kernel
theorem dX4_begin_36 : decode cX4_begin 36 = .ok (.aload_n 0, 1) := by decide +kernel
theorem dX4_begin_37 : decode cX4_begin 37 = .ok (.getfield 31, 3) := by decide +kernel
theorem dX4_begin_40 : decode cX4_begin 40 = .ok (.iconst 0, 1) := by decide +kernel
theorem dX4_begin_41 : decode cX4_begin 41 = .ok (.putfield 56, 3) := by decide +kernel
theorem dX4_begin_44 : decode cX4_begin 44 = .ok (.aload_n 0, 1) := by decide +kernel
theorem dX4_begin_45 : decode cX4_begin 45 = .ok (.getfield 21, 3) := by decide +kernel
theorem dX4_begin_48 : decode cX4_begin 48 = .ok (.invokevirtual 60, 3) := by decide +kernel
theorem dX4_begin_51 : decode cX4_begin 51 = .ok (.ireturn, 1) := by decide +kernel
theorem dX4_addParagraph_0 : decode cX4_addParagraph 0 = .ok (.aload_n 0, 1) := by decide +kernel
theorem dX4_addParagraph_1 : decode cX4_addParagraph 1 = .ok (.iload_n 1, 1) := by decide +kernel
theorem dX4_addParagraph_2 : decode cX4_addParagraph 2 = .ok (.invokevirtual 64, 3) := by decide +kernel
theorem dX4_addParagraph_5 : decode cX4_addParagraph 5 = .ok (.iload_n 2, 1) := by decide +kernel
theorem dX4_addParagraph_6 : decode cX4_addParagraph 6 = .ok (.invokestatic 67, 3) := by decide +kernel
theorem dX4_addParagraph_9 : decode cX4_addParagraph 9 = .ok (.ifCond .eq 13, 3) := by decide +kernel
theorem dX4_addParagraph_12 : decode cX4_addParagraph 12 = .ok (.iload_n 3, 1) := by decide +kernel
theorem dX4_addParagraph_13 : decode cX4_addParagraph 13 = .ok (.ifCond .lt 9, 3) := by decide +kernel
theorem dX4_addParagraph_16 : decode cX4_addParagraph 16 = .ok (.iload_n 3, 1) := by decide +kernel
theorem dX4_addParagraph_17 : decode cX4_addParagraph 17 = .ok (.bipush 9, 2) := by decide +kernel
theorem dX4_addParagraph_19 : decode cX4_addParagraph 19 = .ok (.if_icmp .le 13, 3) := by decide +kernel
theorem dX4_addParagraph_22 : decode cX4_addParagraph 22 = .ok (.new 42, 3) := by decide +kernel
theorem dX4_addParagraph_25 : decode cX4_addParagraph 25 = .ok (.dup, 1) := by decide +kernel
theorem dX4_addParagraph_26 : decode cX4_addParagraph 26 = .ok (.ldc 71, 2) := by decide +kernel
theorem dX4_addParagraph_28 : decode cX4_addParagraph 28 = .ok (.invokespecial 46, 3) := by decide +kernel
theorem dX4_addParagraph_31 : decode cX4_addParagraph 31 = .ok (.athrow, 1) := by decide +kernel
theorem dX4_addParagraph_32 : decode cX4_addParagraph 32 = .ok (.aload_n 0, 1) := by decide +kernel
theorem dX4_addParagraph_33 : decode cX4_addParagraph 33 = .ok (.getfield 12, 3) := by decide +kernel
theorem dX4_addParagraph_36 : decode cX4_addParagraph 36 = .ok (.getfield 73, 3) := by decide +kernel
theorem dX4_addParagraph_39 : decode cX4_addParagraph 39 = .ok (.iload_n 1, 1) := by decide +kernel
theorem dX4_addParagraph_40 : decode cX4_addParagraph 40 = .ok (.iaload, 1) := by decide +kernel
theorem dX4_addParagraph_41 : decode cX4_addParagraph 41 = .ok (.bipush 9, 2) := by decide +kernel
theorem dX4_addParagraph_43 : decode cX4_addParagraph 43 = .ok (.if_icmp .lt 13, 3) := by decide +kernel
theorem dX4_addParagraph_46 : decode cX4_addParagraph 46 = .ok (.new 77, 3) := by decide +kernel
theorem dX4_addParagraph_49 : decode cX4_addParagraph 49 = .ok (.dup, 1) := by decide +kernel
theorem dX4_addParagraph_50 : decode cX4_addParagraph 50 = .ok (.ldc 79, 2) := by decide +kernel
theorem dX4_addParagraph_52 : decode cX4_addParagraph 52 = .ok (.invokespecial 81, 3) := by decide +kernel
theorem dX4_addParagraph_55 : decode cX4_addParagraph 55 = .ok (.athrow, 1) := by decide +kernel
theorem dX4_addParagraph_56 : decode cX4_addParagraph 56 = .ok (.aload_n 0, 1) := by decide +kernel
theorem dX4_addParagraph_57 : decode cX4_addParagraph 57 = .ok (.getfield 12, 3) := by decide +kernel
theorem dX4_addParagraph_60 : decode cX4_addParagraph 60 = .ok (.iload_n 1, 1) := by decide +kernel
theorem dX4_addParagraph_61 : decode cX4_addParagraph 61 = .ok (.iload_n 2, 1) := by decide +kernel
theorem dX4_addParagraph_62 : decode cX4_addParagraph 62 = .ok (.iload_n 3, 1) := by decide +kernel
theorem dX4_addParagraph_63 : decode cX4_addParagraph 63 = .ok (.invokevirtual 82, 3) := by decide +kernel
theorem dX4_addParagraph_66 : decode cX4_addParagraph 66 = .ok (.ireturn, 1) := by decide +kernel
theorem dX4_turnTopic_0 : decode cX4_turnTopic 0 = .ok (.iload_n 1, 1) := by decide +kernel
theorem dX4_turnTopic_1 : decode cX4_turnTopic 1 = .ok (.invokestatic 86, 3) := by decide +kernel
theorem dX4_turnTopic_4 : decode cX4_turnTopic 4 = .ok (.aload_n 0, 1) := by decide +kernel
theorem dX4_turnTopic_5 : decode cX4_turnTopic 5 = .ok (.getfield 21, 3) := by decide +kernel
theorem dX4_turnTopic_8 : decode cX4_turnTopic 8 = .ok (.getfield 89, 3) := by decide +kernel
theorem dX4_turnTopic_11 : decode cX4_turnTopic 11 = .ok (.iload_n 1, 1) := by decide +kernel
theorem dX4_turnTopic_12 : decode cX4_turnTopic 12 = .ok (.aload_n 0, 1) := by decide +kernel
theorem dX4_turnTopic_13 : decode cX4_turnTopic 13 = .ok (.getfield 21, 3) := by decide +kernel
theorem dX4_turnTopic_16 : decode cX4_turnTopic 16 = .ok (.getfield 89, 3) := by decide +kernel
theorem dX4_turnTopic_19 : decode cX4_turnTopic 19 = .ok (.iload_n 1, 1) := by decide +kernel
theorem dX4_turnTopic_20 : decode cX4_turnTopic 20 = .ok (.baload, 1) := by decide +kernel
theorem dX4_turnTopic_21 : decode cX4_turnTopic 21 = .ok (.ifCond .ne 7, 3) := by decide +kernel
theorem dX4_turnTopic_24 : decode cX4_turnTopic 24 = .ok (.iconst 1, 1) := by decide +kernel
theorem dX4_turnTopic_25 : decode cX4_turnTopic 25 = .ok (.goto 4, 3) := by decide +kernel
theorem dX4_turnTopic_28 : decode cX4_turnTopic 28 = .ok (.iconst 0, 1) := by decide +kernel
theorem dX4_turnTopic_29 : decode cX4_turnTopic 29 = .ok (.bastore, 1) := by decide +kernel
theorem dX4_turnTopic_30 : decode cX4_turnTopic 30 = .ok (.aload_n 0, 1) := by decide +kernel
theorem dX4_turnTopic_31 : decode cX4_turnTopic 31 = .ok (.getfield 21, 3) := by decide +kernel
theorem dX4_turnTopic_34 : decode cX4_turnTopic 34 = .ok (.getfield 89, 3) := by decide +kernel
theorem dX4_turnTopic_37 : decode cX4_turnTopic 37 = .ok (.iload_n 1, 1) := by decide +kernel
theorem dX4_turnTopic_38 : decode cX4_turnTopic 38 = .ok (.baload, 1) := by decide +kernel
theorem dX4_turnTopic_39 : decode cX4_turnTopic 39 = .ok (.ireturn, 1) := by decide +kernel
theorem dX4_setLimit_0 : decode cX4_setLimit 0 = .ok (.iload_n 1, 1) := by decide +kernel
theorem dX4_setLimit_1 : decode cX4_setLimit 1 = .ok (.iconst 1, 1) := by decide +kernel
theorem dX4_setLimit_2 : decode cX4_setLimit 2 = .ok (.if_icmp .lt 9, 3) := by decide +kernel
theorem dX4_setLimit_5 : decode cX4_setLimit 5 = .ok (.iload_n 1, 1) := by decide +kernel
theorem dX4_setLimit_6 : decode cX4_setLimit 6 = .ok (.bipush 99, 2) := by decide +kernel
theorem dX4_setLimit_8 : decode cX4_setLimit 8 = .ok (.if_icmp .le 13, 3) := by decide +kernel
theorem dX4_setLimit_11 : decode cX4_setLimit 11 = .ok (.new 42, 3) := by decide +kernel
theorem dX4_setLimit_14 : decode cX4_setLimit 14 = .ok (.dup, 1) := by decide +kernel
theorem dX4_setLimit_15 : decode cX4_setLimit 15 = .ok (.ldc 93, 2) := by decide +kernel
theorem dX4_setLimit_17 : decode cX4_setLimit 17 = .ok (.invokespecial 46, 3) := by decide +kernel
theorem dX4_setLimit_20 : decode cX4_setLimit 20 = .ok (.athrow, 1) := by decide +kernel
theorem dX4_setLimit_21 : decode cX4_setLimit 21 = .ok (.aload_n 0, 1) := by decide +kernel
theorem dX4_setLimit_22 : decode cX4_setLimit 22 = .ok (.getfield 12, 3) := by decide +kernel
theorem dX4_setLimit_25 : decode cX4_setLimit 25 = .ok (.getfield 95, 3) := by decide +kernel
theorem dX4_setLimit_28 : decode cX4_setLimit 28 = .ok (.istore_n 2, 1) := by decide +kernel
theorem dX4_setLimit_29 : decode cX4_setLimit 29 = .ok (.aload_n 0, 1) := by decide +kernel
theorem dX4_setLimit_30 : decode cX4_setLimit 30 = .ok (.getfield 12, 3) := by decide +kernel
theorem dX4_setLimit_33 : decode cX4_setLimit 33 = .ok (.iload_n 1, 1) := by decide +kernel
theorem dX4_setLimit_34 : decode cX4_setLimit 34 = .ok (.putfield 95, 3) := by decide +kernel
theorem dX4_setLimit_37 : decode cX4_setLimit 37 = .ok (.iload_n 2, 1) := by decide +kernel
theorem dX4_setLimit_38 : decode cX4_setLimit 38 = .ok (.ireturn, 1) := by decide +kernel
theorem dX4_addReader_0 : decode cX4_addReader 0 = .ok (.iload_n 1, 1) := by decide +kernel
theorem dX4_addReader_1 : decode cX4_addReader 1 = .ok (.invokestatic 67, 3) := by decide +kernel
theorem dX4_addReader_4 : decode cX4_addReader 4 = .ok (.ifCond .eq 14, 3) := by decide +kernel
theorem dX4_addReader_7 : decode cX4_addReader 7 = .ok (.iload_n 2, 1) := by decide +kernel
theorem dX4_addReader_8 : decode cX4_addReader 8 = .ok (.iconst 1, 1) := by decide +kernel
theorem dX4_addReader_9 : decode cX4_addReader 9 = .ok (.if_icmp .lt 9, 3) := by decide +kernel
theorem dX4_addReader_12 : decode cX4_addReader 12 = .ok (.iload_n 2, 1) := by decide +kernel
theorem dX4_addReader_13 : decode cX4_addReader 13 = .ok (.bipush 20, 2) := by decide +kernel
theorem dX4_addReader_15 : decode cX4_addReader 15 = .ok (.if_icmp .le 13, 3) := by decide +kernel
theorem dX4_addReader_18 : decode cX4_addReader 18 = .ok (.new 42, 3) := by decide +kernel
theorem dX4_addReader_21 : decode cX4_addReader 21 = .ok (.dup, 1) := by decide +kernel
theorem dX4_addReader_22 : decode cX4_addReader 22 = .ok (.ldc 98, 2) := by decide +kernel
theorem dX4_addReader_24 : decode cX4_addReader 24 = .ok (.invokespecial 46, 3) := by decide +kernel
theorem dX4_addReader_27 : decode cX4_addReader 27 = .ok (.athrow, 1) := by decide +kernel
theorem dX4_addReader_28 : decode cX4_addReader 28 = .ok (.aload_n 0, 1) := by decide +kernel
theorem dX4_addReader_29 : decode cX4_addReader 29 = .ok (.getfield 12, 3) := by decide +kernel
theorem dX4_addReader_32 : decode cX4_addReader 32 = .ok (.getfield 100, 3) := by decide +kernel
theorem dX4_addReader_35 : decode cX4_addReader 35 = .ok (.bipush 8, 2) := by decide +kernel
theorem dX4_addReader_37 : decode cX4_addReader 37 = .ok (.if_icmp .lt 13, 3) := by decide +kernel
theorem dX4_addReader_40 : decode cX4_addReader 40 = .ok (.new 77, 3) := by decide +kernel
theorem dX4_addReader_43 : decode cX4_addReader 43 = .ok (.dup, 1) := by decide +kernel
theorem dX4_addReader_44 : decode cX4_addReader 44 = .ok (.ldc 103, 2) := by decide +kernel
theorem dX4_addReader_46 : decode cX4_addReader 46 = .ok (.invokespecial 81, 3) := by decide +kernel
theorem dX4_addReader_49 : decode cX4_addReader 49 = .ok (.athrow, 1) := by decide +kernel
theorem dX4_addReader_50 : decode cX4_addReader 50 = .ok (.aload_n 0, 1) := by decide +kernel
theorem dX4_addReader_51 : decode cX4_addReader 51 = .ok (.getfield 12, 3) := by decide +kernel
theorem dX4_addReader_54 : decode cX4_addReader 54 = .ok (.getfield 100, 3) := by decide +kernel
theorem dX4_addReader_57 : decode cX4_addReader 57 = .ok (.istore_n 3, 1) := by decide +kernel
theorem dX4_addReader_58 : decode cX4_addReader 58 = .ok (.aload_n 0, 1) := by decide +kernel
theorem dX4_addReader_59 : decode cX4_addReader 59 = .ok (.getfield 12, 3) := by decide +kernel
theorem dX4_addReader_62 : decode cX4_addReader 62 = .ok (.getfield 105, 3) := by decide +kernel
theorem dX4_addReader_65 : decode cX4_addReader 65 = .ok (.iload_n 3, 1) := by decide +kernel
theorem dX4_addReader_66 : decode cX4_addReader 66 = .ok (.iload_n 1, 1) := by decide +kernel
theorem dX4_addReader_67 : decode cX4_addReader 67 = .ok (.iastore, 1) := by decide +kernel
theorem dX4_addReader_68 : decode cX4_addReader 68 = .ok (.aload_n 0, 1) := by decide +kernel
theorem dX4_addReader_69 : decode cX4_addReader 69 = .ok (.getfield 12, 3) := by decide +kernel
theorem dX4_addReader_72 : decode cX4_addReader 72 = .ok (.iload_n 3, 1) := by decide +kernel
theorem dX4_addReader_73 : decode cX4_addReader 73 = .ok (.iconst 1, 1) := by decide +kernel
theorem dX4_addReader_74 : decode cX4_addReader 74 = .ok (.iadd, 1) := by decide +kernel
theorem dX4_addReader_75 : decode cX4_addReader 75 = .ok (.putfield 100, 3) := by decide +kernel
theorem dX4_addReader_78 : decode cX4_addReader 78 = .ok (.aload_n 0, 1) := by decide +kernel
theorem dX4_addReader_79 : decode cX4_addReader 79 = .ok (.getfield 21, 3) := by decide +kernel
theorem dX4_addReader_82 : decode cX4_addReader 82 = .ok (.getfield 108, 3) := by decide +kernel
theorem dX4_addReader_85 : decode cX4_addReader 85 = .ok (.iload_n 3, 1) := by decide +kernel
theorem dX4_addReader_86 : decode cX4_addReader 86 = .ok (.iload_n 2, 1) := by decide +kernel
theorem dX4_addReader_87 : decode cX4_addReader 87 = .ok (.iastore, 1) := by decide +kernel
theorem dX4_addReader_88 : decode cX4_addReader 88 = .ok (.aload_n 0, 1) := by decide +kernel
theorem dX4_addReader_89 : decode cX4_addReader 89 = .ok (.getfield 21, 3) := by decide +kernel
theorem dX4_addReader_92 : decode cX4_addReader 92 = .ok (.getfield 111, 3) := by decide +kernel
theorem dX4_addReader_95 : decode cX4_addReader 95 = .ok (.iload_n 3, 1) := by decide +kernel
theorem dX4_addReader_96 : decode cX4_addReader 96 = .ok (.iconst 1, 1) := by decide +kernel
theorem dX4_addReader_97 : decode cX4_addReader 97 = .ok (.bastore, 1) := by decide +kernel
theorem dX4_addReader_98 : decode cX4_addReader 98 = .ok (.iload_n 3, 1) := by decide +kernel
theorem dX4_addReader_99 : decode cX4_addReader 99 = .ok (.ireturn, 1) := by decide +kernel
theorem dX4_addMirror_0 : decode cX4_addMirror 0 = .ok (.iload_n 1, 1) := by decide +kernel
theorem dX4_addMirror_1 : decode cX4_addMirror 1 = .ok (.invokestatic 67, 3) := by decide +kernel
theorem dX4_addMirror_4 : decode cX4_addMirror 4 = .ok (.ifCond .eq 15, 3) := by decide +kernel
theorem dX4_addMirror_7 : decode cX4_addMirror 7 = .ok (.iload_n 2, 1) := by decide +kernel
theorem dX4_addMirror_8 : decode cX4_addMirror 8 = .ok (.invokestatic 67, 3) := by decide +kernel
theorem dX4_addMirror_11 : decode cX4_addMirror 11 = .ok (.ifCond .eq 8, 3) := by decide +kernel
theorem dX4_addMirror_14 : decode cX4_addMirror 14 = .ok (.iload_n 1, 1) := by decide +kernel
theorem dX4_addMirror_15 : decode cX4_addMirror 15 = .ok (.iload_n 2, 1) := by decide +kernel
theorem dX4_addMirror_16 : decode cX4_addMirror 16 = .ok (.if_icmp .ne 13, 3) := by decide +kernel
theorem dX4_addMirror_19 : decode cX4_addMirror 19 = .ok (.new 42, 3) := by decide +kernel
theorem dX4_addMirror_22 : decode cX4_addMirror 22 = .ok (.dup, 1) := by decide +kernel
theorem dX4_addMirror_23 : decode cX4_addMirror 23 = .ok (.ldc 114, 2) := by decide +kernel
theorem dX4_addMirror_25 : decode cX4_addMirror 25 = .ok (.invokespecial 46, 3) := by decide +kernel
theorem dX4_addMirror_28 : decode cX4_addMirror 28 = .ok (.athrow, 1) := by decide +kernel
theorem dX4_addMirror_29 : decode cX4_addMirror 29 = .ok (.aload_n 0, 1) := by decide +kernel
theorem dX4_addMirror_30 : decode cX4_addMirror 30 = .ok (.getfield 38, 3) := by decide +kernel
theorem dX4_addMirror_33 : decode cX4_addMirror 33 = .ok (.getfield 116, 3) := by decide +kernel
theorem dX4_addMirror_36 : decode cX4_addMirror 36 = .ok (.iconst 4, 1) := by decide +kernel
theorem dX4_addMirror_37 : decode cX4_addMirror 37 = .ok (.if_icmp .lt 13, 3) := by decide +kernel
theorem dX4_addMirror_40 : decode cX4_addMirror 40 = .ok (.new 77, 3) := by decide +kernel
theorem dX4_addMirror_43 : decode cX4_addMirror 43 = .ok (.dup, 1) := by decide +kernel
theorem dX4_addMirror_44 : decode cX4_addMirror 44 = .ok (.ldc 117, 2) := by decide +kernel
theorem dX4_addMirror_46 : decode cX4_addMirror 46 = .ok (.invokespecial 81, 3) := by decide +kernel
theorem dX4_addMirror_49 : decode cX4_addMirror 49 = .ok (.athrow, 1) := by decide +kernel
theorem dX4_addMirror_50 : decode cX4_addMirror 50 = .ok (.aload_n 0, 1) := by decide +kernel
theorem dX4_addMirror_51 : decode cX4_addMirror 51 = .ok (.getfield 38, 3) := by decide +kernel
theorem dX4_addMirror_54 : decode cX4_addMirror 54 = .ok (.iload_n 1, 1) := by decide +kernel
theorem dX4_addMirror_55 : decode cX4_addMirror 55 = .ok (.iload_n 2, 1) := by decide +kernel
theorem dX4_addMirror_56 : decode cX4_addMirror 56 = .ok (.invokevirtual 119, 3) := by decide +kernel
theorem dX4_addMirror_59 : decode cX4_addMirror 59 = .ok (.ireturn, 1) := by decide +kernel
theorem dX4_call_0 : decode cX4_call 0 = .ok (.aload_n 0, 1) := by decide +kernel
theorem dX4_call_1 : decode cX4_call 1 = .ok (.iload_n 1, 1) := by decide +kernel
theorem dX4_call_2 : decode cX4_call 2 = .ok (.invokevirtual 64, 3) := by decide +kernel
theorem dX4_call_5 : decode cX4_call 5 = .ok (.aload_n 0, 1) := by decide +kernel
theorem dX4_call_6 : decode cX4_call 6 = .ok (.getfield 21, 3) := by decide +kernel
theorem dX4_call_9 : decode cX4_call 9 = .ok (.getfield 122, 3) := by decide +kernel
theorem dX4_call_12 : decode cX4_call 12 = .ok (.iload_n 1, 1) := by decide +kernel
theorem dX4_call_13 : decode cX4_call 13 = .ok (.baload, 1) := by decide +kernel
theorem dX4_call_14 : decode cX4_call 14 = .ok (.ifCond .ne 7, 3) := by decide +kernel
theorem dX4_call_17 : decode cX4_call 17 = .ok (.iconst 1, 1) := by decide +kernel
theorem dX4_call_18 : decode cX4_call 18 = .ok (.goto 4, 3) := by decide +kernel
theorem dX4_call_21 : decode cX4_call 21 = .ok (.iconst 0, 1) := by decide +kernel
theorem dX4_call_22 : decode cX4_call 22 = .ok (.istore_n 2, 1) := by decide +kernel
theorem dX4_call_23 : decode cX4_call 23 = .ok (.aload_n 0, 1) := by decide +kernel
theorem dX4_call_24 : decode cX4_call 24 = .ok (.getfield 21, 3) := by decide +kernel
theorem dX4_call_27 : decode cX4_call 27 = .ok (.getfield 122, 3) := by decide +kernel
theorem dX4_call_30 : decode cX4_call 30 = .ok (.iload_n 1, 1) := by decide +kernel
theorem dX4_call_31 : decode cX4_call 31 = .ok (.iconst 1, 1) := by decide +kernel
theorem dX4_call_32 : decode cX4_call 32 = .ok (.bastore, 1) := by decide +kernel
theorem dX4_call_33 : decode cX4_call 33 = .ok (.iload_n 2, 1) := by decide +kernel
theorem dX4_call_34 : decode cX4_call 34 = .ok (.ireturn, 1) := by decide +kernel
theorem dX4_repair_0 : decode cX4_repair 0 = .ok (.aload_n 0, 1) := by decide +kernel
theorem dX4_repair_1 : decode cX4_repair 1 = .ok (.getfield 21, 3) := by decide +kernel
theorem dX4_repair_4 : decode cX4_repair 4 = .ok (.getfield 125, 3) := by decide +kernel
theorem dX4_repair_7 : decode cX4_repair 7 = .ok (.istore_n 1, 1) := by decide +kernel
theorem dX4_repair_8 : decode cX4_repair 8 = .ok (.aload_n 0, 1) := by decide +kernel
theorem dX4_repair_9 : decode cX4_repair 9 = .ok (.getfield 21, 3) := by decide +kernel
theorem dX4_repair_12 : decode cX4_repair 12 = .ok (.iconst 0, 1) := by decide +kernel
theorem dX4_repair_13 : decode cX4_repair 13 = .ok (.putfield 125, 3) := by decide +kernel
theorem dX4_repair_16 : decode cX4_repair 16 = .ok (.aload_n 0, 1) := by decide +kernel
theorem dX4_repair_17 : decode cX4_repair 17 = .ok (.getfield 21, 3) := by decide +kernel
theorem dX4_repair_20 : decode cX4_repair 20 = .ok (.iconst 0, 1) := by decide +kernel
theorem dX4_repair_21 : decode cX4_repair 21 = .ok (.putfield 128, 3) := by decide +kernel
theorem dX4_repair_24 : decode cX4_repair 24 = .ok (.iload_n 1, 1) := by decide +kernel
theorem dX4_repair_25 : decode cX4_repair 25 = .ok (.ireturn, 1) := by decide +kernel
theorem dX4_passHours_0 : decode cX4_passHours 0 = .ok (.iload_n 1, 1) := by decide +kernel
theorem dX4_passHours_1 : decode cX4_passHours 1 = .ok (.iconst 1, 1) := by decide +kernel
theorem dX4_passHours_2 : decode cX4_passHours 2 = .ok (.if_icmp .lt 9, 3) := by decide +kernel
theorem dX4_passHours_5 : decode cX4_passHours 5 = .ok (.iload_n 1, 1) := by decide +kernel
theorem dX4_passHours_6 : decode cX4_passHours 6 = .ok (.bipush 60, 2) := by decide +kernel
theorem dX4_passHours_8 : decode cX4_passHours 8 = .ok (.if_icmp .le 13, 3) := by decide +kernel
theorem dX4_passHours_11 : decode cX4_passHours 11 = .ok (.new 42, 3) := by decide +kernel
theorem dX4_passHours_14 : decode cX4_passHours 14 = .ok (.dup, 1) := by decide +kernel
theorem dX4_passHours_15 : decode cX4_passHours 15 = .ok (.ldc 131, 2) := by decide +kernel
theorem dX4_passHours_17 : decode cX4_passHours 17 = .ok (.invokespecial 46, 3) := by decide +kernel
theorem dX4_passHours_20 : decode cX4_passHours 20 = .ok (.athrow, 1) := by decide +kernel
theorem dX4_passHours_21 : decode cX4_passHours 21 = .ok (.aload_n 0, 1) := by decide +kernel
theorem dX4_passHours_22 : decode cX4_passHours 22 = .ok (.getfield 31, 3) := by decide +kernel
theorem dX4_passHours_25 : decode cX4_passHours 25 = .ok (.getfield 56, 3) := by decide +kernel
theorem dX4_passHours_28 : decode cX4_passHours 28 = .ok (.istore_n 2, 1) := by decide +kernel
theorem dX4_passHours_29 : decode cX4_passHours 29 = .ok (.iconst 0, 1) := by decide +kernel
theorem dX4_passHours_30 : decode cX4_passHours 30 = .ok (.istore_n 3, 1) := by decide +kernel
theorem dX4_passHours_31 : decode cX4_passHours 31 = .ok (.iload_n 3, 1) := by decide +kernel
theorem dX4_passHours_32 : decode cX4_passHours 32 = .ok (.iload_n 1, 1) := by decide +kernel
theorem dX4_passHours_33 : decode cX4_passHours 33 = .ok (.if_icmp .ge 68, 3) := by decide +kernel
theorem dX4_passHours_36 : decode cX4_passHours 36 = .ok (.aload_n 0, 1) := by decide +kernel
theorem dX4_passHours_37 : decode cX4_passHours 37 = .ok (.getfield 21, 3) := by decide +kernel
theorem dX4_passHours_40 : decode cX4_passHours 40 = .ok (.getfield 133, 3) := by decide +kernel
theorem dX4_passHours_43 : decode cX4_passHours 43 = .ok (.istore 4, 2) := by decide +kernel
theorem dX4_passHours_45 : decode cX4_passHours 45 = .ok (.aload_n 0, 1) := by decide +kernel
theorem dX4_passHours_46 : decode cX4_passHours 46 = .ok (.getfield 21, 3) := by decide +kernel
theorem dX4_passHours_49 : decode cX4_passHours 49 = .ok (.invokevirtual 136, 3) := by decide +kernel
theorem dX4_passHours_52 : decode cX4_passHours 52 = .ok (.istore 5, 2) := by decide +kernel
theorem dX4_passHours_54 : decode cX4_passHours 54 = .ok (.iload 5, 2) := by decide +kernel
theorem dX4_passHours_56 : decode cX4_passHours 56 = .ok (.iconst (-1), 1) := by decide +kernel
theorem dX4_passHours_57 : decode cX4_passHours 57 = .ok (.if_icmp .eq 38, 3) := by decide +kernel
theorem dX4_passHours_60 : decode cX4_passHours 60 = .ok (.aload_n 0, 1) := by decide +kernel
theorem dX4_passHours_61 : decode cX4_passHours 61 = .ok (.getfield 31, 3) := by decide +kernel
theorem dX4_passHours_64 : decode cX4_passHours 64 = .ok (.aload_n 0, 1) := by decide +kernel
theorem dX4_passHours_65 : decode cX4_passHours 65 = .ok (.getfield 21, 3) := by decide +kernel
theorem dX4_passHours_68 : decode cX4_passHours 68 = .ok (.getfield 139, 3) := by decide +kernel
theorem dX4_passHours_71 : decode cX4_passHours 71 = .ok (.aload_n 0, 1) := by decide +kernel
theorem dX4_passHours_72 : decode cX4_passHours 72 = .ok (.getfield 21, 3) := by decide +kernel
theorem dX4_passHours_75 : decode cX4_passHours 75 = .ok (.getfield 142, 3) := by decide +kernel
theorem dX4_passHours_78 : decode cX4_passHours 78 = .ok (.aload_n 0, 1) := by decide +kernel
theorem dX4_passHours_79 : decode cX4_passHours 79 = .ok (.getfield 21, 3) := by decide +kernel
theorem dX4_passHours_82 : decode cX4_passHours 82 = .ok (.getfield 139, 3) := by decide +kernel
theorem dX4_passHours_85 : decode cX4_passHours 85 = .ok (.iaload, 1) := by decide +kernel
theorem dX4_passHours_86 : decode cX4_passHours 86 = .ok (.iconst 1, 1) := by decide +kernel
theorem dX4_passHours_87 : decode cX4_passHours 87 = .ok (.isub, 1) := by decide +kernel
theorem dX4_passHours_88 : decode cX4_passHours 88 = .ok (.iload 5, 2) := by decide +kernel
theorem dX4_passHours_90 : decode cX4_passHours 90 = .ok (.iload 4, 2) := by decide +kernel
theorem dX4_passHours_92 : decode cX4_passHours 92 = .ok (.invokevirtual 145, 3) := by decide +kernel
theorem dX4_passHours_95 : decode cX4_passHours 95 = .ok (.iinc 3 1, 3) := by decide +kernel
theorem dX4_passHours_98 : decode cX4_passHours 98 = .ok (.goto (-67), 3) := by decide +kernel
theorem dX4_passHours_101 : decode cX4_passHours 101 = .ok (.aload_n 0, 1) := by decide +kernel
theorem dX4_passHours_102 : decode cX4_passHours 102 = .ok (.getfield 31, 3) := by decide +kernel
theorem dX4_passHours_105 : decode cX4_passHours 105 = .ok (.getfield 56, 3) := by decide +kernel
theorem dX4_passHours_108 : decode cX4_passHours 108 = .ok (.iload_n 2, 1) := by decide +kernel
theorem dX4_passHours_109 : decode cX4_passHours 109 = .ok (.isub, 1) := by decide +kernel
theorem dX4_passHours_110 : decode cX4_passHours 110 = .ok (.ireturn, 1) := by decide +kernel
theorem dX4_floors_0 : decode cX4_floors 0 = .ok (.aload_n 0, 1) := by decide +kernel
theorem dX4_floors_1 : decode cX4_floors 1 = .ok (.getfield 12, 3) := by decide +kernel
theorem dX4_floors_4 : decode cX4_floors 4 = .ok (.getfield 148, 3) := by decide +kernel
theorem dX4_floors_7 : decode cX4_floors 7 = .ok (.ireturn, 1) := by decide +kernel
theorem dX4_hours_0 : decode cX4_hours 0 = .ok (.aload_n 0, 1) := by decide +kernel
theorem dX4_hours_1 : decode cX4_hours 1 = .ok (.getfield 21, 3) := by decide +kernel
theorem dX4_hours_4 : decode cX4_hours 4 = .ok (.getfield 133, 3) := by decide +kernel
theorem dX4_hours_7 : decode cX4_hours 7 = .ok (.ireturn, 1) := by decide +kernel
theorem dX4_liftAt_0 : decode cX4_liftAt 0 = .ok (.aload_n 0, 1) := by decide +kernel
theorem dX4_liftAt_1 : decode cX4_liftAt 1 = .ok (.getfield 21, 3) := by decide +kernel
theorem dX4_liftAt_4 : decode cX4_liftAt 4 = .ok (.getfield 139, 3) := by decide +kernel
theorem dX4_liftAt_7 : decode cX4_liftAt 7 = .ok (.ireturn, 1) := by decide +kernel
theorem dX4_goes_0 : decode cX4_goes 0 = .ok (.aload_n 0, 1) := by decide +kernel
theorem dX4_goes_1 : decode cX4_goes 1 = .ok (.getfield 21, 3) := by decide +kernel
theorem dX4_goes_4 : decode cX4_goes 4 = .ok (.getfield 151, 3) := by decide +kernel
theorem dX4_goes_7 : decode cX4_goes 7 = .ok (.ireturn, 1) := by decide +kernel
theorem dX4_isCalled_0 : decode cX4_isCalled 0 = .ok (.aload_n 0, 1) := by decide +kernel
theorem dX4_isCalled_1 : decode cX4_isCalled 1 = .ok (.iload_n 1, 1) := by decide +kernel
theorem dX4_isCalled_2 : decode cX4_isCalled 2 = .ok (.invokevirtual 64, 3) := by decide +kernel
theorem dX4_isCalled_5 : decode cX4_isCalled 5 = .ok (.aload_n 0, 1) := by decide +kernel
theorem dX4_isCalled_6 : decode cX4_isCalled 6 = .ok (.getfield 21, 3) := by decide +kernel
theorem dX4_isCalled_9 : decode cX4_isCalled 9 = .ok (.getfield 122, 3) := by decide +kernel
theorem dX4_isCalled_12 : decode cX4_isCalled 12 = .ok (.iload_n 1, 1) := by decide +kernel
theorem dX4_isCalled_13 : decode cX4_isCalled 13 = .ok (.baload, 1) := by decide +kernel
theorem dX4_isCalled_14 : decode cX4_isCalled 14 = .ok (.ireturn, 1) := by decide +kernel
theorem dX4_calls_0 : decode cX4_calls 0 = .ok (.aload_n 0, 1) := by decide +kernel
theorem dX4_calls_1 : decode cX4_calls 1 = .ok (.getfield 21, 3) := by decide +kernel
theorem dX4_calls_4 : decode cX4_calls 4 = .ok (.invokevirtual 154, 3) := by decide +kernel
theorem dX4_calls_7 : decode cX4_calls 7 = .ok (.ireturn, 1) := by decide +kernel
theorem dX4_stuckFor_0 : decode cX4_stuckFor 0 = .ok (.aload_n 0, 1) := by decide +kernel
theorem dX4_stuckFor_1 : decode cX4_stuckFor 1 = .ok (.getfield 21, 3) := by decide +kernel
theorem dX4_stuckFor_4 : decode cX4_stuckFor 4 = .ok (.getfield 125, 3) := by decide +kernel
theorem dX4_stuckFor_7 : decode cX4_stuckFor 7 = .ok (.ireturn, 1) := by decide +kernel
theorem dX4_wear_0 : decode cX4_wear 0 = .ok (.aload_n 0, 1) := by decide +kernel
theorem dX4_wear_1 : decode cX4_wear 1 = .ok (.getfield 21, 3) := by decide +kernel
theorem dX4_wear_4 : decode cX4_wear 4 = .ok (.getfield 128, 3) := by decide +kernel
theorem dX4_wear_7 : decode cX4_wear 7 = .ok (.ireturn, 1) := by decide +kernel
theorem dX4_limit_0 : decode cX4_limit 0 = .ok (.aload_n 0, 1) := by decide +kernel
theorem dX4_limit_1 : decode cX4_limit 1 = .ok (.getfield 12, 3) := by decide +kernel
theorem dX4_limit_4 : decode cX4_limit 4 = .ok (.getfield 95, 3) := by decide +kernel
theorem dX4_limit_7 : decode cX4_limit 7 = .ok (.ireturn, 1) := by decide +kernel
theorem dX4_suspense_0 : decode cX4_suspense 0 = .ok (.aload_n 0, 1) := by decide +kernel
theorem dX4_suspense_1 : decode cX4_suspense 1 = .ok (.getfield 21, 3) := by decide +kernel
theorem dX4_suspense_4 : decode cX4_suspense 4 = .ok (.getfield 157, 3) := by decide +kernel
theorem dX4_suspense_7 : decode cX4_suspense 7 = .ok (.ireturn, 1) := by decide +kernel
theorem dX4_paragraphs_0 : decode cX4_paragraphs 0 = .ok (.aload_n 0, 1) := by decide +kernel
theorem dX4_paragraphs_1 : decode cX4_paragraphs 1 = .ok (.iload_n 1, 1) := by decide +kernel
theorem dX4_paragraphs_2 : decode cX4_paragraphs 2 = .ok (.invokevirtual 64, 3) := by decide +kernel
theorem dX4_paragraphs_5 : decode cX4_paragraphs 5 = .ok (.aload_n 0, 1) := by decide +kernel
theorem dX4_paragraphs_6 : decode cX4_paragraphs 6 = .ok (.getfield 12, 3) := by decide +kernel
theorem dX4_paragraphs_9 : decode cX4_paragraphs 9 = .ok (.getfield 73, 3) := by decide +kernel
theorem dX4_paragraphs_12 : decode cX4_paragraphs 12 = .ok (.iload_n 1, 1) := by decide +kernel
theorem dX4_paragraphs_13 : decode cX4_paragraphs 13 = .ok (.iaload, 1) := by decide +kernel
theorem dX4_paragraphs_14 : decode cX4_paragraphs 14 = .ok (.ireturn, 1) := by decide +kernel
theorem dX4_nextParagraph_0 : decode cX4_nextParagraph 0 = .ok (.aload_n 0, 1) := by decide +kernel
theorem dX4_nextParagraph_1 : decode cX4_nextParagraph 1 = .ok (.iload_n 1, 1) := by decide +kernel
theorem dX4_nextParagraph_2 : decode cX4_nextParagraph 2 = .ok (.invokevirtual 64, 3) := by decide +kernel
theorem dX4_nextParagraph_5 : decode cX4_nextParagraph 5 = .ok (.aload_n 0, 1) := by decide +kernel
theorem dX4_nextParagraph_6 : decode cX4_nextParagraph 6 = .ok (.getfield 21, 3) := by decide +kernel
theorem dX4_nextParagraph_9 : decode cX4_nextParagraph 9 = .ok (.getfield 142, 3) := by decide +kernel
theorem dX4_nextParagraph_12 : decode cX4_nextParagraph 12 = .ok (.iload_n 1, 1) := by decide +kernel
theorem dX4_nextParagraph_13 : decode cX4_nextParagraph 13 = .ok (.iaload, 1) := by decide +kernel
theorem dX4_nextParagraph_14 : decode cX4_nextParagraph 14 = .ok (.aload_n 0, 1) := by decide +kernel
theorem dX4_nextParagraph_15 : decode cX4_nextParagraph 15 = .ok (.getfield 12, 3) := by decide +kernel
theorem dX4_nextParagraph_18 : decode cX4_nextParagraph 18 = .ok (.getfield 73, 3) := by decide +kernel
theorem dX4_nextParagraph_21 : decode cX4_nextParagraph 21 = .ok (.iload_n 1, 1) := by decide +kernel
theorem dX4_nextParagraph_22 : decode cX4_nextParagraph 22 = .ok (.iaload, 1) := by decide +kernel
theorem dX4_nextParagraph_23 : decode cX4_nextParagraph 23 = .ok (.if_icmp .ge 15, 3) := by decide +kernel
theorem dX4_nextParagraph_26 : decode cX4_nextParagraph 26 = .ok (.aload_n 0, 1) := by decide +kernel
theorem dX4_nextParagraph_27 : decode cX4_nextParagraph 27 = .ok (.getfield 21, 3) := by decide +kernel
theorem dX4_nextParagraph_30 : decode cX4_nextParagraph 30 = .ok (.getfield 142, 3) := by decide +kernel
theorem dX4_nextParagraph_33 : decode cX4_nextParagraph 33 = .ok (.iload_n 1, 1) := by decide +kernel
theorem dX4_nextParagraph_34 : decode cX4_nextParagraph 34 = .ok (.iaload, 1) := by decide +kernel
theorem dX4_nextParagraph_35 : decode cX4_nextParagraph 35 = .ok (.goto 4, 3) := by decide +kernel
theorem dX4_nextParagraph_38 : decode cX4_nextParagraph 38 = .ok (.iconst (-1), 1) := by decide +kernel
theorem dX4_nextParagraph_39 : decode cX4_nextParagraph 39 = .ok (.ireturn, 1) := by decide +kernel
theorem dX4_topicOf_0 : decode cX4_topicOf 0 = .ok (.aload_n 0, 1) := by decide +kernel
theorem dX4_topicOf_1 : decode cX4_topicOf 1 = .ok (.iload_n 1, 1) := by decide +kernel
theorem dX4_topicOf_2 : decode cX4_topicOf 2 = .ok (.iload_n 2, 1) := by decide +kernel
theorem dX4_topicOf_3 : decode cX4_topicOf 3 = .ok (.invokevirtual 160, 3) := by decide +kernel
theorem dX4_topicOf_6 : decode cX4_topicOf 6 = .ok (.aload_n 0, 1) := by decide +kernel
theorem dX4_topicOf_7 : decode cX4_topicOf 7 = .ok (.getfield 12, 3) := by decide +kernel
theorem dX4_topicOf_10 : decode cX4_topicOf 10 = .ok (.iload_n 1, 1) := by decide +kernel
theorem dX4_topicOf_11 : decode cX4_topicOf 11 = .ok (.iload_n 2, 1) := by decide +kernel
theorem dX4_topicOf_12 : decode cX4_topicOf 12 = .ok (.invokevirtual 164, 3) := by decide +kernel
theorem dX4_topicOf_15 : decode cX4_topicOf 15 = .ok (.ireturn, 1) := by decide +kernel
theorem dX4_thrillOf_0 : decode cX4_thrillOf 0 = .ok (.aload_n 0, 1) := by decide +kernel
theorem dX4_thrillOf_1 : decode cX4_thrillOf 1 = .ok (.iload_n 1, 1) := by decide +kernel
theorem dX4_thrillOf_2 : decode cX4_thrillOf 2 = .ok (.iload_n 2, 1) := by decide +kernel
theorem dX4_thrillOf_3 : decode cX4_thrillOf 3 = .ok (.invokevirtual 160, 3) := by decide +kernel
theorem dX4_thrillOf_6 : decode cX4_thrillOf 6 = .ok (.aload_n 0, 1) := by decide +kernel
theorem dX4_thrillOf_7 : decode cX4_thrillOf 7 = .ok (.getfield 12, 3) := by decide +kernel
theorem dX4_thrillOf_10 : decode cX4_thrillOf 10 = .ok (.iload_n 1, 1) := by decide +kernel
theorem dX4_thrillOf_11 : decode cX4_thrillOf 11 = .ok (.iload_n 2, 1) := by decide +kernel
theorem dX4_thrillOf_12 : decode cX4_thrillOf 12 = .ok (.invokevirtual 167, 3) := by decide +kernel
theorem dX4_thrillOf_15 : decode cX4_thrillOf 15 = .ok (.ireturn, 1) := by decide +kernel
theorem dX4_cutOn_0 : decode cX4_cutOn 0 = .ok (.aload_n 0, 1) := by decide +kernel
theorem dX4_cutOn_1 : decode cX4_cutOn 1 = .ok (.iload_n 1, 1) := by decide +kernel
theorem dX4_cutOn_2 : decode cX4_cutOn 2 = .ok (.invokevirtual 64, 3) := by decide +kernel
theorem dX4_cutOn_5 : decode cX4_cutOn 5 = .ok (.aload_n 0, 1) := by decide +kernel
theorem dX4_cutOn_6 : decode cX4_cutOn 6 = .ok (.getfield 21, 3) := by decide +kernel
theorem dX4_cutOn_9 : decode cX4_cutOn 9 = .ok (.getfield 170, 3) := by decide +kernel
theorem dX4_cutOn_12 : decode cX4_cutOn 12 = .ok (.iload_n 1, 1) := by decide +kernel
theorem dX4_cutOn_13 : decode cX4_cutOn 13 = .ok (.iaload, 1) := by decide +kernel
theorem dX4_cutOn_14 : decode cX4_cutOn 14 = .ok (.ireturn, 1) := by decide +kernel
theorem dX4_isForbidden_0 : decode cX4_isForbidden 0 = .ok (.iload_n 1, 1) := by decide +kernel
theorem dX4_isForbidden_1 : decode cX4_isForbidden 1 = .ok (.invokestatic 86, 3) := by decide +kernel
theorem dX4_isForbidden_4 : decode cX4_isForbidden 4 = .ok (.aload_n 0, 1) := by decide +kernel
theorem dX4_isForbidden_5 : decode cX4_isForbidden 5 = .ok (.getfield 21, 3) := by decide +kernel
theorem dX4_isForbidden_8 : decode cX4_isForbidden 8 = .ok (.getfield 89, 3) := by decide +kernel
theorem dX4_isForbidden_11 : decode cX4_isForbidden 11 = .ok (.iload_n 1, 1) := by decide +kernel
theorem dX4_isForbidden_12 : decode cX4_isForbidden 12 = .ok (.baload, 1) := by decide +kernel
theorem dX4_isForbidden_13 : decode cX4_isForbidden 13 = .ok (.ireturn, 1) := by decide +kernel
theorem dX4_cuts_0 : decode cX4_cuts 0 = .ok (.aload_n 0, 1) := by decide +kernel
theorem dX4_cuts_1 : decode cX4_cuts 1 = .ok (.getfield 21, 3) := by decide +kernel
theorem dX4_cuts_4 : decode cX4_cuts 4 = .ok (.invokevirtual 173, 3) := by decide +kernel
theorem dX4_cuts_7 : decode cX4_cuts 7 = .ok (.ireturn, 1) := by decide +kernel
theorem dX4_toCome_0 : decode cX4_toCome 0 = .ok (.iload_n 1, 1) := by decide +kernel
theorem dX4_toCome_1 : decode cX4_toCome 1 = .ok (.invokestatic 86, 3) := by decide +kernel
theorem dX4_toCome_4 : decode cX4_toCome 4 = .ok (.aload_n 0, 1) := by decide +kernel
theorem dX4_toCome_5 : decode cX4_toCome 5 = .ok (.getfield 21, 3) := by decide +kernel
theorem dX4_toCome_8 : decode cX4_toCome 8 = .ok (.iload_n 1, 1) := by decide +kernel
theorem dX4_toCome_9 : decode cX4_toCome 9 = .ok (.invokevirtual 176, 3) := by decide +kernel
theorem dX4_toCome_12 : decode cX4_toCome 12 = .ok (.ireturn, 1) := by decide +kernel
theorem dX4_instalments_0 : decode cX4_instalments 0 = .ok (.aload_n 0, 1) := by decide +kernel
theorem dX4_instalments_1 : decode cX4_instalments 1 = .ok (.getfield 31, 3) := by decide +kernel
theorem dX4_instalments_4 : decode cX4_instalments 4 = .ok (.getfield 56, 3) := by decide +kernel
theorem dX4_instalments_7 : decode cX4_instalments 7 = .ok (.ireturn, 1) := by decide +kernel
theorem dX4_floorIn_0 : decode cX4_floorIn 0 = .ok (.aload_n 0, 1) := by decide +kernel
theorem dX4_floorIn_1 : decode cX4_floorIn 1 = .ok (.iload_n 1, 1) := by decide +kernel
theorem dX4_floorIn_2 : decode cX4_floorIn 2 = .ok (.invokevirtual 180, 3) := by decide +kernel
theorem dX4_floorIn_5 : decode cX4_floorIn 5 = .ok (.aload_n 0, 1) := by decide +kernel
theorem dX4_floorIn_6 : decode cX4_floorIn 6 = .ok (.getfield 31, 3) := by decide +kernel
theorem dX4_floorIn_9 : decode cX4_floorIn 9 = .ok (.getfield 183, 3) := by decide +kernel
theorem dX4_floorIn_12 : decode cX4_floorIn 12 = .ok (.iload_n 1, 1) := by decide +kernel
theorem dX4_floorIn_13 : decode cX4_floorIn 13 = .ok (.iaload, 1) := by decide +kernel
theorem dX4_floorIn_14 : decode cX4_floorIn 14 = .ok (.ireturn, 1) := by decide +kernel
theorem dX4_paragraphIn_0 : decode cX4_paragraphIn 0 = .ok (.aload_n 0, 1) := by decide +kernel
theorem dX4_paragraphIn_1 : decode cX4_paragraphIn 1 = .ok (.iload_n 1, 1) := by decide +kernel
theorem dX4_paragraphIn_2 : decode cX4_paragraphIn 2 = .ok (.invokevirtual 180, 3) := by decide +kernel
theorem dX4_paragraphIn_5 : decode cX4_paragraphIn 5 = .ok (.aload_n 0, 1) := by decide +kernel
theorem dX4_paragraphIn_6 : decode cX4_paragraphIn 6 = .ok (.getfield 31, 3) := by decide +kernel
theorem dX4_paragraphIn_9 : decode cX4_paragraphIn 9 = .ok (.getfield 185, 3) := by decide +kernel
theorem dX4_paragraphIn_12 : decode cX4_paragraphIn 12 = .ok (.iload_n 1, 1) := by decide +kernel
theorem dX4_paragraphIn_13 : decode cX4_paragraphIn 13 = .ok (.iaload, 1) := by decide +kernel
theorem dX4_paragraphIn_14 : decode cX4_paragraphIn 14 = .ok (.ireturn, 1) := by decide +kernel
theorem dX4_thrillIn_0 : decode cX4_thrillIn 0 = .ok (.aload_n 0, 1) := by decide +kernel
theorem dX4_thrillIn_1 : decode cX4_thrillIn 1 = .ok (.iload_n 1, 1) := by decide +kernel
theorem dX4_thrillIn_2 : decode cX4_thrillIn 2 = .ok (.invokevirtual 180, 3) := by decide +kernel
theorem dX4_thrillIn_5 : decode cX4_thrillIn 5 = .ok (.aload_n 0, 1) := by decide +kernel
theorem dX4_thrillIn_6 : decode cX4_thrillIn 6 = .ok (.getfield 31, 3) := by decide +kernel
theorem dX4_thrillIn_9 : decode cX4_thrillIn 9 = .ok (.getfield 188, 3) := by decide +kernel
theorem dX4_thrillIn_12 : decode cX4_thrillIn 12 = .ok (.iload_n 1, 1) := by decide +kernel
theorem dX4_thrillIn_13 : decode cX4_thrillIn 13 = .ok (.iaload, 1) := by decide +kernel
theorem dX4_thrillIn_14 : decode cX4_thrillIn 14 = .ok (.ireturn, 1) := by decide +kernel
theorem dX4_hourIn_0 : decode cX4_hourIn 0 = .ok (.aload_n 0, 1) := by decide +kernel
theorem dX4_hourIn_1 : decode cX4_hourIn 1 = .ok (.iload_n 1, 1) := by decide +kernel
theorem dX4_hourIn_2 : decode cX4_hourIn 2 = .ok (.invokevirtual 180, 3) := by decide +kernel
theorem dX4_hourIn_5 : decode cX4_hourIn 5 = .ok (.aload_n 0, 1) := by decide +kernel
theorem dX4_hourIn_6 : decode cX4_hourIn 6 = .ok (.getfield 31, 3) := by decide +kernel
theorem dX4_hourIn_9 : decode cX4_hourIn 9 = .ok (.getfield 191, 3) := by decide +kernel
theorem dX4_hourIn_12 : decode cX4_hourIn 12 = .ok (.iload_n 1, 1) := by decide +kernel
theorem dX4_hourIn_13 : decode cX4_hourIn 13 = .ok (.iaload, 1) := by decide +kernel
theorem dX4_hourIn_14 : decode cX4_hourIn 14 = .ok (.ireturn, 1) := by decide +kernel
theorem dX4_mostThrilling_0 : decode cX4_mostThrilling 0 = .ok (.aload_n 0, 1) := by decide +kernel
theorem dX4_mostThrilling_1 : decode cX4_mostThrilling 1 = .ok (.getfield 31, 3) := by decide +kernel
theorem dX4_mostThrilling_4 : decode cX4_mostThrilling 4 = .ok (.invokevirtual 194, 3) := by decide +kernel
theorem dX4_mostThrilling_7 : decode cX4_mostThrilling 7 = .ok (.ireturn, 1) := by decide +kernel
theorem dX4_longestWait_0 : decode cX4_longestWait 0 = .ok (.aload_n 0, 1) := by decide +kernel
theorem dX4_longestWait_1 : decode cX4_longestWait 1 = .ok (.getfield 31, 3) := by decide +kernel
theorem dX4_longestWait_4 : decode cX4_longestWait 4 = .ok (.invokevirtual 197, 3) := by decide +kernel
theorem dX4_longestWait_7 : decode cX4_longestWait 7 = .ok (.ireturn, 1) := by decide +kernel
theorem dX4_climbs_0 : decode cX4_climbs 0 = .ok (.aload_n 0, 1) := by decide +kernel
theorem dX4_climbs_1 : decode cX4_climbs 1 = .ok (.getfield 31, 3) := by decide +kernel
theorem dX4_climbs_4 : decode cX4_climbs 4 = .ok (.invokevirtual 200, 3) := by decide +kernel
theorem dX4_climbs_7 : decode cX4_climbs 7 = .ok (.ireturn, 1) := by decide +kernel
theorem dX4_readers_0 : decode cX4_readers 0 = .ok (.aload_n 0, 1) := by decide +kernel
theorem dX4_readers_1 : decode cX4_readers 1 = .ok (.getfield 12, 3) := by decide +kernel
theorem dX4_readers_4 : decode cX4_readers 4 = .ok (.getfield 100, 3) := by decide +kernel
theorem dX4_readers_7 : decode cX4_readers 7 = .ok (.ireturn, 1) := by decide +kernel
theorem dX4_subscribers_0 : decode cX4_subscribers 0 = .ok (.aload_n 0, 1) := by decide +kernel
theorem dX4_subscribers_1 : decode cX4_subscribers 1 = .ok (.getfield 21, 3) := by decide +kernel
theorem dX4_subscribers_4 : decode cX4_subscribers 4 = .ok (.invokevirtual 60, 3) := by decide +kernel
theorem dX4_subscribers_7 : decode cX4_subscribers 7 = .ok (.ireturn, 1) := by decide +kernel
theorem dX4_tasteOf_0 : decode cX4_tasteOf 0 = .ok (.aload_n 0, 1) := by decide +kernel
theorem dX4_tasteOf_1 : decode cX4_tasteOf 1 = .ok (.iload_n 1, 1) := by decide +kernel
theorem dX4_tasteOf_2 : decode cX4_tasteOf 2 = .ok (.invokevirtual 203, 3) := by decide +kernel
theorem dX4_tasteOf_5 : decode cX4_tasteOf 5 = .ok (.aload_n 0, 1) := by decide +kernel
theorem dX4_tasteOf_6 : decode cX4_tasteOf 6 = .ok (.getfield 12, 3) := by decide +kernel
theorem dX4_tasteOf_9 : decode cX4_tasteOf 9 = .ok (.getfield 105, 3) := by decide +kernel
theorem dX4_tasteOf_12 : decode cX4_tasteOf 12 = .ok (.iload_n 1, 1) := by decide +kernel
theorem dX4_tasteOf_13 : decode cX4_tasteOf 13 = .ok (.iaload, 1) := by decide +kernel
theorem dX4_tasteOf_14 : decode cX4_tasteOf 14 = .ok (.ireturn, 1) := by decide +kernel
theorem dX4_warmthOf_0 : decode cX4_warmthOf 0 = .ok (.aload_n 0, 1) := by decide +kernel
theorem dX4_warmthOf_1 : decode cX4_warmthOf 1 = .ok (.iload_n 1, 1) := by decide +kernel
theorem dX4_warmthOf_2 : decode cX4_warmthOf 2 = .ok (.invokevirtual 203, 3) := by decide +kernel
theorem dX4_warmthOf_5 : decode cX4_warmthOf 5 = .ok (.aload_n 0, 1) := by decide +kernel
theorem dX4_warmthOf_6 : decode cX4_warmthOf 6 = .ok (.getfield 21, 3) := by decide +kernel
theorem dX4_warmthOf_9 : decode cX4_warmthOf 9 = .ok (.getfield 111, 3) := by decide +kernel
theorem dX4_warmthOf_12 : decode cX4_warmthOf 12 = .ok (.iload_n 1, 1) := by decide +kernel
theorem dX4_warmthOf_13 : decode cX4_warmthOf 13 = .ok (.baload, 1) := by decide +kernel
theorem dX4_warmthOf_14 : decode cX4_warmthOf 14 = .ok (.ifCond .eq 15, 3) := by decide +kernel
theorem dX4_warmthOf_17 : decode cX4_warmthOf 17 = .ok (.aload_n 0, 1) := by decide +kernel
theorem dX4_warmthOf_18 : decode cX4_warmthOf 18 = .ok (.getfield 21, 3) := by decide +kernel
theorem dX4_warmthOf_21 : decode cX4_warmthOf 21 = .ok (.getfield 108, 3) := by decide +kernel
theorem dX4_warmthOf_24 : decode cX4_warmthOf 24 = .ok (.iload_n 1, 1) := by decide +kernel
theorem dX4_warmthOf_25 : decode cX4_warmthOf 25 = .ok (.iaload, 1) := by decide +kernel
theorem dX4_warmthOf_26 : decode cX4_warmthOf 26 = .ok (.goto 4, 3) := by decide +kernel
theorem dX4_warmthOf_29 : decode cX4_warmthOf 29 = .ok (.iconst 0, 1) := by decide +kernel
theorem dX4_warmthOf_30 : decode cX4_warmthOf 30 = .ok (.ireturn, 1) := by decide +kernel
theorem dX4_isSubscriber_0 : decode cX4_isSubscriber 0 = .ok (.aload_n 0, 1) := by decide +kernel
theorem dX4_isSubscriber_1 : decode cX4_isSubscriber 1 = .ok (.iload_n 1, 1) := by decide +kernel
theorem dX4_isSubscriber_2 : decode cX4_isSubscriber 2 = .ok (.invokevirtual 203, 3) := by decide +kernel
theorem dX4_isSubscriber_5 : decode cX4_isSubscriber 5 = .ok (.aload_n 0, 1) := by decide +kernel
theorem dX4_isSubscriber_6 : decode cX4_isSubscriber 6 = .ok (.getfield 21, 3) := by decide +kernel
theorem dX4_isSubscriber_9 : decode cX4_isSubscriber 9 = .ok (.getfield 111, 3) := by decide +kernel
theorem dX4_isSubscriber_12 : decode cX4_isSubscriber 12 = .ok (.iload_n 1, 1) := by decide +kernel
theorem dX4_isSubscriber_13 : decode cX4_isSubscriber 13 = .ok (.baload, 1) := by decide +kernel
theorem dX4_isSubscriber_14 : decode cX4_isSubscriber 14 = .ok (.ireturn, 1) := by decide +kernel
theorem dX4_warmest_0 : decode cX4_warmest 0 = .ok (.aload_n 0, 1) := by decide +kernel
theorem dX4_warmest_1 : decode cX4_warmest 1 = .ok (.getfield 21, 3) := by decide +kernel
theorem dX4_warmest_4 : decode cX4_warmest 4 = .ok (.invokevirtual 206, 3) := by decide +kernel
theorem dX4_warmest_7 : decode cX4_warmest 7 = .ok (.ireturn, 1) := by decide +kernel
theorem dX4_mirrors_0 : decode cX4_mirrors 0 = .ok (.aload_n 0, 1) := by decide +kernel
theorem dX4_mirrors_1 : decode cX4_mirrors 1 = .ok (.getfield 38, 3) := by decide +kernel
theorem dX4_mirrors_4 : decode cX4_mirrors 4 = .ok (.getfield 116, 3) := by decide +kernel
theorem dX4_mirrors_7 : decode cX4_mirrors 7 = .ok (.ireturn, 1) := by decide +kernel
theorem dX4_grade_0 : decode cX4_grade 0 = .ok (.aload_n 0, 1) := by decide +kernel
theorem dX4_grade_1 : decode cX4_grade 1 = .ok (.iload_n 1, 1) := by decide +kernel
theorem dX4_grade_2 : decode cX4_grade 2 = .ok (.invokevirtual 209, 3) := by decide +kernel
theorem dX4_grade_5 : decode cX4_grade 5 = .ok (.aload_n 0, 1) := by decide +kernel
theorem dX4_grade_6 : decode cX4_grade 6 = .ok (.iload_n 2, 1) := by decide +kernel
theorem dX4_grade_7 : decode cX4_grade 7 = .ok (.invokevirtual 180, 3) := by decide +kernel
theorem dX4_grade_10 : decode cX4_grade 10 = .ok (.aload_n 0, 1) := by decide +kernel
theorem dX4_grade_11 : decode cX4_grade 11 = .ok (.iload_n 1, 1) := by decide +kernel
theorem dX4_grade_12 : decode cX4_grade 12 = .ok (.iload_n 2, 1) := by decide +kernel
theorem dX4_grade_13 : decode cX4_grade 13 = .ok (.invokevirtual 212, 3) := by decide +kernel
theorem dX4_grade_16 : decode cX4_grade 16 = .ok (.ireturn, 1) := by decide +kernel
theorem dX4_gradesBy_0 : decode cX4_gradesBy 0 = .ok (.aload_n 0, 1) := by decide +kernel
theorem dX4_gradesBy_1 : decode cX4_gradesBy 1 = .ok (.iload_n 1, 1) := by decide +kernel
theorem dX4_gradesBy_2 : decode cX4_gradesBy 2 = .ok (.invokevirtual 209, 3) := by decide +kernel
theorem dX4_gradesBy_5 : decode cX4_gradesBy 5 = .ok (.aload_n 0, 1) := by decide +kernel
theorem dX4_gradesBy_6 : decode cX4_gradesBy 6 = .ok (.iload_n 1, 1) := by decide +kernel
theorem dX4_gradesBy_7 : decode cX4_gradesBy 7 = .ok (.invokevirtual 215, 3) := by decide +kernel
theorem dX4_gradesBy_10 : decode cX4_gradesBy 10 = .ok (.ireturn, 1) := by decide +kernel
theorem dX4_favouriteOf_0 : decode cX4_favouriteOf 0 = .ok (.aload_n 0, 1) := by decide +kernel
theorem dX4_favouriteOf_1 : decode cX4_favouriteOf 1 = .ok (.iload_n 1, 1) := by decide +kernel
theorem dX4_favouriteOf_2 : decode cX4_favouriteOf 2 = .ok (.invokevirtual 209, 3) := by decide +kernel
theorem dX4_favouriteOf_5 : decode cX4_favouriteOf 5 = .ok (.iconst (-1), 1) := by decide +kernel
theorem dX4_favouriteOf_6 : decode cX4_favouriteOf 6 = .ok (.istore_n 2, 1) := by decide +kernel
theorem dX4_favouriteOf_7 : decode cX4_favouriteOf 7 = .ok (.iconst (-1), 1) := by decide +kernel
theorem dX4_favouriteOf_8 : decode cX4_favouriteOf 8 = .ok (.istore_n 3, 1) := by decide +kernel
theorem dX4_favouriteOf_9 : decode cX4_favouriteOf 9 = .ok (.iconst 0, 1) := by decide +kernel
theorem dX4_favouriteOf_10 : decode cX4_favouriteOf 10 = .ok (.istore 4, 2) := by decide +kernel
theorem dX4_favouriteOf_12 : decode cX4_favouriteOf 12 = .ok (.iload 4, 2) := by decide +kernel
theorem dX4_favouriteOf_14 : decode cX4_favouriteOf 14 = .ok (.aload_n 0, 1) := by decide +kernel
theorem dX4_favouriteOf_15 : decode cX4_favouriteOf 15 = .ok (.getfield 31, 3) := by decide +kernel
theorem dX4_favouriteOf_18 : decode cX4_favouriteOf 18 = .ok (.getfield 56, 3) := by decide +kernel
theorem dX4_favouriteOf_21 : decode cX4_favouriteOf 21 = .ok (.if_icmp .ge 30, 3) := by decide +kernel
theorem dX4_favouriteOf_24 : decode cX4_favouriteOf 24 = .ok (.aload_n 0, 1) := by decide +kernel
theorem dX4_favouriteOf_25 : decode cX4_favouriteOf 25 = .ok (.iload_n 1, 1) := by decide +kernel
theorem dX4_favouriteOf_26 : decode cX4_favouriteOf 26 = .ok (.iload 4, 2) := by decide +kernel
theorem dX4_favouriteOf_28 : decode cX4_favouriteOf 28 = .ok (.invokevirtual 212, 3) := by decide +kernel
theorem dX4_favouriteOf_31 : decode cX4_favouriteOf 31 = .ok (.istore 5, 2) := by decide +kernel
theorem dX4_favouriteOf_33 : decode cX4_favouriteOf 33 = .ok (.iload 5, 2) := by decide +kernel
theorem dX4_favouriteOf_35 : decode cX4_favouriteOf 35 = .ok (.iload_n 3, 1) := by decide +kernel
theorem dX4_favouriteOf_36 : decode cX4_favouriteOf 36 = .ok (.if_icmp .le 9, 3) := by decide +kernel
theorem dX4_favouriteOf_39 : decode cX4_favouriteOf 39 = .ok (.iload 5, 2) := by decide +kernel
theorem dX4_favouriteOf_41 : decode cX4_favouriteOf 41 = .ok (.istore_n 3, 1) := by decide +kernel
theorem dX4_favouriteOf_42 : decode cX4_favouriteOf 42 = .ok (.iload 4, 2) := by decide +kernel
theorem dX4_favouriteOf_44 : decode cX4_favouriteOf 44 = .ok (.istore_n 2, 1) := by decide +kernel
theorem dX4_favouriteOf_45 : decode cX4_favouriteOf 45 = .ok (.iinc 4 1, 3) := by decide +kernel
theorem dX4_favouriteOf_48 : decode cX4_favouriteOf 48 = .ok (.goto (-36), 3) := by decide +kernel
theorem dX4_favouriteOf_51 : decode cX4_favouriteOf 51 = .ok (.iload_n 2, 1) := by decide +kernel
theorem dX4_favouriteOf_52 : decode cX4_favouriteOf 52 = .ok (.ireturn, 1) := by decide +kernel
theorem dX4_kindest_0 : decode cX4_kindest 0 = .ok (.iconst (-1), 1) := by decide +kernel
theorem dX4_kindest_1 : decode cX4_kindest 1 = .ok (.istore_n 1, 1) := by decide +kernel
theorem dX4_kindest_2 : decode cX4_kindest 2 = .ok (.iconst (-1), 1) := by decide +kernel
theorem dX4_kindest_3 : decode cX4_kindest 3 = .ok (.istore_n 2, 1) := by decide +kernel
theorem dX4_kindest_4 : decode cX4_kindest 4 = .ok (.iconst 0, 1) := by decide +kernel
theorem dX4_kindest_5 : decode cX4_kindest 5 = .ok (.istore_n 3, 1) := by decide +kernel
theorem dX4_kindest_6 : decode cX4_kindest 6 = .ok (.iload_n 3, 1) := by decide +kernel
theorem dX4_kindest_7 : decode cX4_kindest 7 = .ok (.aload_n 0, 1) := by decide +kernel
theorem dX4_kindest_8 : decode cX4_kindest 8 = .ok (.getfield 38, 3) := by decide +kernel
theorem dX4_kindest_11 : decode cX4_kindest 11 = .ok (.getfield 116, 3) := by decide +kernel
theorem dX4_kindest_14 : decode cX4_kindest 14 = .ok (.if_icmp .ge 27, 3) := by decide +kernel
theorem dX4_kindest_17 : decode cX4_kindest 17 = .ok (.aload_n 0, 1) := by decide +kernel
theorem dX4_kindest_18 : decode cX4_kindest 18 = .ok (.iload_n 3, 1) := by decide +kernel
theorem dX4_kindest_19 : decode cX4_kindest 19 = .ok (.invokevirtual 215, 3) := by decide +kernel
theorem dX4_kindest_22 : decode cX4_kindest 22 = .ok (.istore 4, 2) := by decide +kernel
theorem dX4_kindest_24 : decode cX4_kindest 24 = .ok (.iload 4, 2) := by decide +kernel
theorem dX4_kindest_26 : decode cX4_kindest 26 = .ok (.iload_n 2, 1) := by decide +kernel
theorem dX4_kindest_27 : decode cX4_kindest 27 = .ok (.if_icmp .le 8, 3) := by decide +kernel
theorem dX4_kindest_30 : decode cX4_kindest 30 = .ok (.iload 4, 2) := by decide +kernel
theorem dX4_kindest_32 : decode cX4_kindest 32 = .ok (.istore_n 2, 1) := by decide +kernel
theorem dX4_kindest_33 : decode cX4_kindest 33 = .ok (.iload_n 3, 1) := by decide +kernel
theorem dX4_kindest_34 : decode cX4_kindest 34 = .ok (.istore_n 1, 1) := by decide +kernel
theorem dX4_kindest_35 : decode cX4_kindest 35 = .ok (.iinc 3 1, 3) := by decide +kernel
theorem dX4_kindest_38 : decode cX4_kindest 38 = .ok (.goto (-32), 3) := by decide +kernel
theorem dX4_kindest_41 : decode cX4_kindest 41 = .ok (.iload_n 1, 1) := by decide +kernel
theorem dX4_kindest_42 : decode cX4_kindest 42 = .ok (.ireturn, 1) := by decide +kernel
theorem dX4_hoursUntilStop_0 : decode cX4_hoursUntilStop 0 = .ok (.aload_n 0, 1) := by decide +kernel
theorem dX4_hoursUntilStop_1 : decode cX4_hoursUntilStop 1 = .ok (.iload_n 1, 1) := by decide +kernel
theorem dX4_hoursUntilStop_2 : decode cX4_hoursUntilStop 2 = .ok (.invokevirtual 64, 3) := by decide +kernel
theorem dX4_hoursUntilStop_5 : decode cX4_hoursUntilStop 5 = .ok (.aload_n 0, 1) := by decide +kernel
theorem dX4_hoursUntilStop_6 : decode cX4_hoursUntilStop 6 = .ok (.getfield 21, 3) := by decide +kernel
theorem dX4_hoursUntilStop_9 : decode cX4_hoursUntilStop 9 = .ok (.getfield 122, 3) := by decide +kernel
theorem dX4_hoursUntilStop_12 : decode cX4_hoursUntilStop 12 = .ok (.iload_n 1, 1) := by decide +kernel
theorem dX4_hoursUntilStop_13 : decode cX4_hoursUntilStop 13 = .ok (.baload, 1) := by decide +kernel
theorem dX4_hoursUntilStop_14 : decode cX4_hoursUntilStop 14 = .ok (.ifCond .ne 5, 3) := by decide +kernel
theorem dX4_hoursUntilStop_17 : decode cX4_hoursUntilStop 17 = .ok (.iconst (-1), 1) := by decide +kernel
theorem dX4_hoursUntilStop_18 : decode cX4_hoursUntilStop 18 = .ok (.ireturn, 1) := by decide +kernel
theorem dX4_hoursUntilStop_19 : decode cX4_hoursUntilStop 19 = .ok (.aload_n 0, 1) := by decide +kernel
theorem dX4_hoursUntilStop_20 : decode cX4_hoursUntilStop 20 = .ok (.getfield 25, 3) := by decide +kernel
theorem dX4_hoursUntilStop_23 : decode cX4_hoursUntilStop 23 = .ok (.aload_n 0, 1) := by decide +kernel
theorem dX4_hoursUntilStop_24 : decode cX4_hoursUntilStop 24 = .ok (.getfield 21, 3) := by decide +kernel
theorem dX4_hoursUntilStop_27 : decode cX4_hoursUntilStop 27 = .ok (.invokevirtual 218, 3) := by decide +kernel
theorem dX4_hoursUntilStop_30 : decode cX4_hoursUntilStop 30 = .ok (.iconst 1, 1) := by decide +kernel
theorem dX4_hoursUntilStop_31 : decode cX4_hoursUntilStop 31 = .ok (.istore_n 2, 1) := by decide +kernel
theorem dX4_hoursUntilStop_32 : decode cX4_hoursUntilStop 32 = .ok (.iload_n 2, 1) := by decide +kernel
theorem dX4_hoursUntilStop_33 : decode cX4_hoursUntilStop 33 = .ok (.bipush 80, 2) := by decide +kernel
theorem dX4_hoursUntilStop_35 : decode cX4_hoursUntilStop 35 = .ok (.if_icmp .gt 31, 3) := by decide +kernel
theorem dX4_hoursUntilStop_38 : decode cX4_hoursUntilStop 38 = .ok (.aload_n 0, 1) := by decide +kernel
theorem dX4_hoursUntilStop_39 : decode cX4_hoursUntilStop 39 = .ok (.getfield 25, 3) := by decide +kernel
theorem dX4_hoursUntilStop_42 : decode cX4_hoursUntilStop 42 = .ok (.invokevirtual 136, 3) := by decide +kernel
theorem dX4_hoursUntilStop_45 : decode cX4_hoursUntilStop 45 = .ok (.pop, 1) := by decide +kernel
theorem dX4_hoursUntilStop_46 : decode cX4_hoursUntilStop 46 = .ok (.aload_n 0, 1) := by decide +kernel
theorem dX4_hoursUntilStop_47 : decode cX4_hoursUntilStop 47 = .ok (.getfield 25, 3) := by decide +kernel
theorem dX4_hoursUntilStop_50 : decode cX4_hoursUntilStop 50 = .ok (.getfield 122, 3) := by decide +kernel
theorem dX4_hoursUntilStop_53 : decode cX4_hoursUntilStop 53 = .ok (.iload_n 1, 1) := by decide +kernel
theorem dX4_hoursUntilStop_54 : decode cX4_hoursUntilStop 54 = .ok (.baload, 1) := by decide +kernel
theorem dX4_hoursUntilStop_55 : decode cX4_hoursUntilStop 55 = .ok (.ifCond .ne 5, 3) := by decide +kernel
theorem dX4_hoursUntilStop_58 : decode cX4_hoursUntilStop 58 = .ok (.iload_n 2, 1) := by decide +kernel
theorem dX4_hoursUntilStop_59 : decode cX4_hoursUntilStop 59 = .ok (.ireturn, 1) := by decide +kernel
theorem dX4_hoursUntilStop_60 : decode cX4_hoursUntilStop 60 = .ok (.iinc 2 1, 3) := by decide +kernel
theorem dX4_hoursUntilStop_63 : decode cX4_hoursUntilStop 63 = .ok (.goto (-31), 3) := by decide +kernel
theorem dX4_hoursUntilStop_66 : decode cX4_hoursUntilStop 66 = .ok (.iconst (-1), 1) := by decide +kernel
theorem dX4_hoursUntilStop_67 : decode cX4_hoursUntilStop 67 = .ok (.ireturn, 1) := by decide +kernel
theorem dX4_hoursUntilStuck_0 : decode cX4_hoursUntilStuck 0 = .ok (.aload_n 0, 1) := by decide +kernel
theorem dX4_hoursUntilStuck_1 : decode cX4_hoursUntilStuck 1 = .ok (.getfield 25, 3) := by decide +kernel
theorem dX4_hoursUntilStuck_4 : decode cX4_hoursUntilStuck 4 = .ok (.aload_n 0, 1) := by decide +kernel
theorem dX4_hoursUntilStuck_5 : decode cX4_hoursUntilStuck 5 = .ok (.getfield 21, 3) := by decide +kernel
theorem dX4_hoursUntilStuck_8 : decode cX4_hoursUntilStuck 8 = .ok (.invokevirtual 218, 3) := by decide +kernel
theorem dX4_hoursUntilStuck_11 : decode cX4_hoursUntilStuck 11 = .ok (.iconst 0, 1) := by decide +kernel
theorem dX4_hoursUntilStuck_12 : decode cX4_hoursUntilStuck 12 = .ok (.istore_n 1, 1) := by decide +kernel
theorem dX4_hoursUntilStuck_13 : decode cX4_hoursUntilStuck 13 = .ok (.iload_n 1, 1) := by decide +kernel
theorem dX4_hoursUntilStuck_14 : decode cX4_hoursUntilStuck 14 = .ok (.bipush 80, 2) := by decide +kernel
theorem dX4_hoursUntilStuck_16 : decode cX4_hoursUntilStuck 16 = .ok (.if_icmp .ge 29, 3) := by decide +kernel
theorem dX4_hoursUntilStuck_19 : decode cX4_hoursUntilStuck 19 = .ok (.aload_n 0, 1) := by decide +kernel
theorem dX4_hoursUntilStuck_20 : decode cX4_hoursUntilStuck 20 = .ok (.getfield 25, 3) := by decide +kernel
theorem dX4_hoursUntilStuck_23 : decode cX4_hoursUntilStuck 23 = .ok (.getfield 125, 3) := by decide +kernel
theorem dX4_hoursUntilStuck_26 : decode cX4_hoursUntilStuck 26 = .ok (.ifCond .le 5, 3) := by decide +kernel
theorem dX4_hoursUntilStuck_29 : decode cX4_hoursUntilStuck 29 = .ok (.iload_n 1, 1) := by decide +kernel
theorem dX4_hoursUntilStuck_30 : decode cX4_hoursUntilStuck 30 = .ok (.ireturn, 1) := by decide +kernel
theorem dX4_hoursUntilStuck_31 : decode cX4_hoursUntilStuck 31 = .ok (.aload_n 0, 1) := by decide +kernel
theorem dX4_hoursUntilStuck_32 : decode cX4_hoursUntilStuck 32 = .ok (.getfield 25, 3) := by decide +kernel
theorem dX4_hoursUntilStuck_35 : decode cX4_hoursUntilStuck 35 = .ok (.invokevirtual 136, 3) := by decide +kernel
theorem dX4_hoursUntilStuck_38 : decode cX4_hoursUntilStuck 38 = .ok (.pop, 1) := by decide +kernel
theorem dX4_hoursUntilStuck_39 : decode cX4_hoursUntilStuck 39 = .ok (.iinc 1 1, 3) := by decide +kernel
theorem dX4_hoursUntilStuck_42 : decode cX4_hoursUntilStuck 42 = .ok (.goto (-29), 3) := by decide +kernel
theorem dX4_hoursUntilStuck_45 : decode cX4_hoursUntilStuck 45 = .ok (.aload_n 0, 1) := by decide +kernel
theorem dX4_hoursUntilStuck_46 : decode cX4_hoursUntilStuck 46 = .ok (.getfield 25, 3) := by decide +kernel
theorem dX4_hoursUntilStuck_49 : decode cX4_hoursUntilStuck 49 = .ok (.getfield 125, 3) := by decide +kernel
theorem dX4_hoursUntilStuck_52 : decode cX4_hoursUntilStuck 52 = .ok (.ifCond .le 8, 3) := by decide +kernel
theorem dX4_hoursUntilStuck_55 : decode cX4_hoursUntilStuck 55 = .ok (.bipush 80, 2) := by decide +kernel
theorem dX4_hoursUntilStuck_57 : decode cX4_hoursUntilStuck 57 = .ok (.goto 4, 3) := by decide +kernel
theorem dX4_hoursUntilStuck_60 : decode cX4_hoursUntilStuck 60 = .ok (.iconst (-1), 1) := by decide +kernel
theorem dX4_hoursUntilStuck_61 : decode cX4_hoursUntilStuck 61 = .ok (.ireturn, 1) := by decide +kernel
theorem dX4_printedIn_0 : decode cX4_printedIn 0 = .ok (.iload_n 1, 1) := by decide +kernel
theorem dX4_printedIn_1 : decode cX4_printedIn 1 = .ok (.invokestatic 222, 3) := by decide +kernel
theorem dX4_printedIn_4 : decode cX4_printedIn 4 = .ok (.aload_n 0, 1) := by decide +kernel
theorem dX4_printedIn_5 : decode cX4_printedIn 5 = .ok (.getfield 25, 3) := by decide +kernel
theorem dX4_printedIn_8 : decode cX4_printedIn 8 = .ok (.aload_n 0, 1) := by decide +kernel
theorem dX4_printedIn_9 : decode cX4_printedIn 9 = .ok (.getfield 21, 3) := by decide +kernel
theorem dX4_printedIn_12 : decode cX4_printedIn 12 = .ok (.invokevirtual 218, 3) := by decide +kernel
theorem dX4_printedIn_15 : decode cX4_printedIn 15 = .ok (.aload_n 0, 1) := by decide +kernel
theorem dX4_printedIn_16 : decode cX4_printedIn 16 = .ok (.getfield 25, 3) := by decide +kernel
theorem dX4_printedIn_19 : decode cX4_printedIn 19 = .ok (.iload_n 1, 1) := by decide +kernel
theorem dX4_printedIn_20 : decode cX4_printedIn 20 = .ok (.invokevirtual 225, 3) := by decide +kernel
theorem dX4_printedIn_23 : decode cX4_printedIn 23 = .ok (.ireturn, 1) := by decide +kernel
theorem dX4_subscribersIn_0 : decode cX4_subscribersIn 0 = .ok (.iload_n 1, 1) := by decide +kernel
theorem dX4_subscribersIn_1 : decode cX4_subscribersIn 1 = .ok (.invokestatic 222, 3) := by decide +kernel
theorem dX4_subscribersIn_4 : decode cX4_subscribersIn 4 = .ok (.aload_n 0, 1) := by decide +kernel
theorem dX4_subscribersIn_5 : decode cX4_subscribersIn 5 = .ok (.getfield 25, 3) := by decide +kernel
theorem dX4_subscribersIn_8 : decode cX4_subscribersIn 8 = .ok (.aload_n 0, 1) := by decide +kernel
theorem dX4_subscribersIn_9 : decode cX4_subscribersIn 9 = .ok (.getfield 21, 3) := by decide +kernel
theorem dX4_subscribersIn_12 : decode cX4_subscribersIn 12 = .ok (.invokevirtual 218, 3) := by decide +kernel
theorem dX4_subscribersIn_15 : decode cX4_subscribersIn 15 = .ok (.aload_n 0, 1) := by decide +kernel
theorem dX4_subscribersIn_16 : decode cX4_subscribersIn 16 = .ok (.getfield 25, 3) := by decide +kernel
theorem dX4_subscribersIn_19 : decode cX4_subscribersIn 19 = .ok (.iload_n 1, 1) := by decide +kernel
theorem dX4_subscribersIn_20 : decode cX4_subscribersIn 20 = .ok (.invokevirtual 225, 3) := by decide +kernel
theorem dX4_subscribersIn_23 : decode cX4_subscribersIn 23 = .ok (.pop, 1) := by decide +kernel
theorem dX4_subscribersIn_24 : decode cX4_subscribersIn 24 = .ok (.aload_n 0, 1) := by decide +kernel
theorem dX4_subscribersIn_25 : decode cX4_subscribersIn 25 = .ok (.getfield 25, 3) := by decide +kernel
theorem dX4_subscribersIn_28 : decode cX4_subscribersIn 28 = .ok (.invokevirtual 60, 3) := by decide +kernel
theorem dX4_subscribersIn_31 : decode cX4_subscribersIn 31 = .ok (.ireturn, 1) := by decide +kernel
theorem dX4_bestToCall_0 : decode cX4_bestToCall 0 = .ok (.iload_n 1, 1) := by decide +kernel
theorem dX4_bestToCall_1 : decode cX4_bestToCall 1 = .ok (.invokestatic 222, 3) := by decide +kernel
theorem dX4_bestToCall_4 : decode cX4_bestToCall 4 = .ok (.iconst (-1), 1) := by decide +kernel
theorem dX4_bestToCall_5 : decode cX4_bestToCall 5 = .ok (.istore_n 2, 1) := by decide +kernel
theorem dX4_bestToCall_6 : decode cX4_bestToCall 6 = .ok (.iconst (-1), 1) := by decide +kernel
theorem dX4_bestToCall_7 : decode cX4_bestToCall 7 = .ok (.istore_n 3, 1) := by decide +kernel
theorem dX4_bestToCall_8 : decode cX4_bestToCall 8 = .ok (.iconst 0, 1) := by decide +kernel
theorem dX4_bestToCall_9 : decode cX4_bestToCall 9 = .ok (.istore 4, 2) := by decide +kernel
theorem dX4_bestToCall_11 : decode cX4_bestToCall 11 = .ok (.iload 4, 2) := by decide +kernel
theorem dX4_bestToCall_13 : decode cX4_bestToCall 13 = .ok (.aload_n 0, 1) := by decide +kernel
theorem dX4_bestToCall_14 : decode cX4_bestToCall 14 = .ok (.getfield 12, 3) := by decide +kernel
theorem dX4_bestToCall_17 : decode cX4_bestToCall 17 = .ok (.getfield 148, 3) := by decide +kernel
theorem dX4_bestToCall_20 : decode cX4_bestToCall 20 = .ok (.if_icmp .ge 61, 3) := by decide +kernel
theorem dX4_bestToCall_23 : decode cX4_bestToCall 23 = .ok (.aload_n 0, 1) := by decide +kernel
theorem dX4_bestToCall_24 : decode cX4_bestToCall 24 = .ok (.getfield 25, 3) := by decide +kernel
theorem dX4_bestToCall_27 : decode cX4_bestToCall 27 = .ok (.aload_n 0, 1) := by decide +kernel
theorem dX4_bestToCall_28 : decode cX4_bestToCall 28 = .ok (.getfield 21, 3) := by decide +kernel
theorem dX4_bestToCall_31 : decode cX4_bestToCall 31 = .ok (.invokevirtual 218, 3) := by decide +kernel
theorem dX4_bestToCall_34 : decode cX4_bestToCall 34 = .ok (.aload_n 0, 1) := by decide +kernel
theorem dX4_bestToCall_35 : decode cX4_bestToCall 35 = .ok (.getfield 25, 3) := by decide +kernel
theorem dX4_bestToCall_38 : decode cX4_bestToCall 38 = .ok (.getfield 122, 3) := by decide +kernel
theorem dX4_bestToCall_41 : decode cX4_bestToCall 41 = .ok (.iload 4, 2) := by decide +kernel
theorem dX4_bestToCall_43 : decode cX4_bestToCall 43 = .ok (.iconst 1, 1) := by decide +kernel
theorem dX4_bestToCall_44 : decode cX4_bestToCall 44 = .ok (.bastore, 1) := by decide +kernel
theorem dX4_bestToCall_45 : decode cX4_bestToCall 45 = .ok (.aload_n 0, 1) := by decide +kernel
theorem dX4_bestToCall_46 : decode cX4_bestToCall 46 = .ok (.getfield 25, 3) := by decide +kernel
theorem dX4_bestToCall_49 : decode cX4_bestToCall 49 = .ok (.iload_n 1, 1) := by decide +kernel
theorem dX4_bestToCall_50 : decode cX4_bestToCall 50 = .ok (.invokevirtual 225, 3) := by decide +kernel
theorem dX4_bestToCall_53 : decode cX4_bestToCall 53 = .ok (.pop, 1) := by decide +kernel
theorem dX4_bestToCall_54 : decode cX4_bestToCall 54 = .ok (.aload_n 0, 1) := by decide +kernel
theorem dX4_bestToCall_55 : decode cX4_bestToCall 55 = .ok (.getfield 25, 3) := by decide +kernel
theorem dX4_bestToCall_58 : decode cX4_bestToCall 58 = .ok (.invokevirtual 228, 3) := by decide +kernel
theorem dX4_bestToCall_61 : decode cX4_bestToCall 61 = .ok (.istore 5, 2) := by decide +kernel
theorem dX4_bestToCall_63 : decode cX4_bestToCall 63 = .ok (.iload 5, 2) := by decide +kernel
theorem dX4_bestToCall_65 : decode cX4_bestToCall 65 = .ok (.iload_n 3, 1) := by decide +kernel
theorem dX4_bestToCall_66 : decode cX4_bestToCall 66 = .ok (.if_icmp .le 9, 3) := by decide +kernel
theorem dX4_bestToCall_69 : decode cX4_bestToCall 69 = .ok (.iload 5, 2) := by decide +kernel
theorem dX4_bestToCall_71 : decode cX4_bestToCall 71 = .ok (.istore_n 3, 1) := by decide +kernel
theorem dX4_bestToCall_72 : decode cX4_bestToCall 72 = .ok (.iload 4, 2) := by decide +kernel
theorem dX4_bestToCall_74 : decode cX4_bestToCall 74 = .ok (.istore_n 2, 1) := by decide +kernel
theorem dX4_bestToCall_75 : decode cX4_bestToCall 75 = .ok (.iinc 4 1, 3) := by decide +kernel
theorem dX4_bestToCall_78 : decode cX4_bestToCall 78 = .ok (.goto (-67), 3) := by decide +kernel
theorem dX4_bestToCall_81 : decode cX4_bestToCall 81 = .ok (.iload_n 2, 1) := by decide +kernel
theorem dX4_bestToCall_82 : decode cX4_bestToCall 82 = .ok (.ireturn, 1) := by decide +kernel
theorem dX4_bestToAllow_0 : decode cX4_bestToAllow 0 = .ok (.iload_n 1, 1) := by decide +kernel
theorem dX4_bestToAllow_1 : decode cX4_bestToAllow 1 = .ok (.invokestatic 222, 3) := by decide +kernel
theorem dX4_bestToAllow_4 : decode cX4_bestToAllow 4 = .ok (.aload_n 0, 1) := by decide +kernel
theorem dX4_bestToAllow_5 : decode cX4_bestToAllow 5 = .ok (.getfield 25, 3) := by decide +kernel
theorem dX4_bestToAllow_8 : decode cX4_bestToAllow 8 = .ok (.aload_n 0, 1) := by decide +kernel
theorem dX4_bestToAllow_9 : decode cX4_bestToAllow 9 = .ok (.getfield 21, 3) := by decide +kernel
theorem dX4_bestToAllow_12 : decode cX4_bestToAllow 12 = .ok (.invokevirtual 218, 3) := by decide +kernel
theorem dX4_bestToAllow_15 : decode cX4_bestToAllow 15 = .ok (.aload_n 0, 1) := by decide +kernel
theorem dX4_bestToAllow_16 : decode cX4_bestToAllow 16 = .ok (.getfield 25, 3) := by decide +kernel
theorem dX4_bestToAllow_19 : decode cX4_bestToAllow 19 = .ok (.iload_n 1, 1) := by decide +kernel
theorem dX4_bestToAllow_20 : decode cX4_bestToAllow 20 = .ok (.invokevirtual 225, 3) := by decide +kernel
theorem dX4_bestToAllow_23 : decode cX4_bestToAllow 23 = .ok (.pop, 1) := by decide +kernel
theorem dX4_bestToAllow_24 : decode cX4_bestToAllow 24 = .ok (.iconst (-1), 1) := by decide +kernel
theorem dX4_bestToAllow_25 : decode cX4_bestToAllow 25 = .ok (.istore_n 2, 1) := by decide +kernel
theorem dX4_bestToAllow_26 : decode cX4_bestToAllow 26 = .ok (.aload_n 0, 1) := by decide +kernel
theorem dX4_bestToAllow_27 : decode cX4_bestToAllow 27 = .ok (.getfield 25, 3) := by decide +kernel
theorem dX4_bestToAllow_30 : decode cX4_bestToAllow 30 = .ok (.invokevirtual 173, 3) := by decide +kernel
theorem dX4_bestToAllow_33 : decode cX4_bestToAllow 33 = .ok (.istore_n 3, 1) := by decide +kernel
theorem dX4_bestToAllow_34 : decode cX4_bestToAllow 34 = .ok (.iconst 0, 1) := by decide +kernel
theorem dX4_bestToAllow_35 : decode cX4_bestToAllow 35 = .ok (.istore 4, 2) := by decide +kernel
theorem dX4_bestToAllow_37 : decode cX4_bestToAllow 37 = .ok (.iload 4, 2) := by decide +kernel
theorem dX4_bestToAllow_39 : decode cX4_bestToAllow 39 = .ok (.bipush 8, 2) := by decide +kernel
theorem dX4_bestToAllow_41 : decode cX4_bestToAllow 41 = .ok (.if_icmp .ge 77, 3) := by decide +kernel
theorem dX4_bestToAllow_44 : decode cX4_bestToAllow 44 = .ok (.aload_n 0, 1) := by decide +kernel
theorem dX4_bestToAllow_45 : decode cX4_bestToAllow 45 = .ok (.getfield 21, 3) := by decide +kernel
theorem dX4_bestToAllow_48 : decode cX4_bestToAllow 48 = .ok (.getfield 89, 3) := by decide +kernel
theorem dX4_bestToAllow_51 : decode cX4_bestToAllow 51 = .ok (.iload 4, 2) := by decide +kernel
theorem dX4_bestToAllow_53 : decode cX4_bestToAllow 53 = .ok (.baload, 1) := by decide +kernel
theorem dX4_bestToAllow_54 : decode cX4_bestToAllow 54 = .ok (.ifCond .ne 6, 3) := by decide +kernel
theorem dX4_bestToAllow_57 : decode cX4_bestToAllow 57 = .ok (.goto 55, 3) := by decide +kernel
theorem dX4_bestToAllow_60 : decode cX4_bestToAllow 60 = .ok (.aload_n 0, 1) := by decide +kernel
theorem dX4_bestToAllow_61 : decode cX4_bestToAllow 61 = .ok (.getfield 25, 3) := by decide +kernel
theorem dX4_bestToAllow_64 : decode cX4_bestToAllow 64 = .ok (.aload_n 0, 1) := by decide +kernel
theorem dX4_bestToAllow_65 : decode cX4_bestToAllow 65 = .ok (.getfield 21, 3) := by decide +kernel
theorem dX4_bestToAllow_68 : decode cX4_bestToAllow 68 = .ok (.invokevirtual 218, 3) := by decide +kernel
theorem dX4_bestToAllow_71 : decode cX4_bestToAllow 71 = .ok (.aload_n 0, 1) := by decide +kernel
theorem dX4_bestToAllow_72 : decode cX4_bestToAllow 72 = .ok (.getfield 25, 3) := by decide +kernel
theorem dX4_bestToAllow_75 : decode cX4_bestToAllow 75 = .ok (.getfield 89, 3) := by decide +kernel
theorem dX4_bestToAllow_78 : decode cX4_bestToAllow 78 = .ok (.iload 4, 2) := by decide +kernel
theorem dX4_bestToAllow_80 : decode cX4_bestToAllow 80 = .ok (.iconst 0, 1) := by decide +kernel
theorem dX4_bestToAllow_81 : decode cX4_bestToAllow 81 = .ok (.bastore, 1) := by decide +kernel
theorem dX4_bestToAllow_82 : decode cX4_bestToAllow 82 = .ok (.aload_n 0, 1) := by decide +kernel
theorem dX4_bestToAllow_83 : decode cX4_bestToAllow 83 = .ok (.getfield 25, 3) := by decide +kernel
theorem dX4_bestToAllow_86 : decode cX4_bestToAllow 86 = .ok (.iload_n 1, 1) := by decide +kernel
theorem dX4_bestToAllow_87 : decode cX4_bestToAllow 87 = .ok (.invokevirtual 225, 3) := by decide +kernel
theorem dX4_bestToAllow_90 : decode cX4_bestToAllow 90 = .ok (.pop, 1) := by decide +kernel
theorem dX4_bestToAllow_91 : decode cX4_bestToAllow 91 = .ok (.aload_n 0, 1) := by decide +kernel
theorem dX4_bestToAllow_92 : decode cX4_bestToAllow 92 = .ok (.getfield 25, 3) := by decide +kernel
theorem dX4_bestToAllow_95 : decode cX4_bestToAllow 95 = .ok (.invokevirtual 173, 3) := by decide +kernel
theorem dX4_bestToAllow_98 : decode cX4_bestToAllow 98 = .ok (.istore 5, 2) := by decide +kernel
theorem dX4_bestToAllow_100 : decode cX4_bestToAllow 100 = .ok (.iload 5, 2) := by decide +kernel
theorem dX4_bestToAllow_102 : decode cX4_bestToAllow 102 = .ok (.iload_n 3, 1) := by decide +kernel
theorem dX4_bestToAllow_103 : decode cX4_bestToAllow 103 = .ok (.if_icmp .ge 9, 3) := by decide +kernel
theorem dX4_bestToAllow_106 : decode cX4_bestToAllow 106 = .ok (.iload 5, 2) := by decide +kernel
theorem dX4_bestToAllow_108 : decode cX4_bestToAllow 108 = .ok (.istore_n 3, 1) := by decide +kernel
theorem dX4_bestToAllow_109 : decode cX4_bestToAllow 109 = .ok (.iload 4, 2) := by decide +kernel
theorem dX4_bestToAllow_111 : decode cX4_bestToAllow 111 = .ok (.istore_n 2, 1) := by decide +kernel
theorem dX4_bestToAllow_112 : decode cX4_bestToAllow 112 = .ok (.iinc 4 1, 3) := by decide +kernel
theorem dX4_bestToAllow_115 : decode cX4_bestToAllow 115 = .ok (.goto (-78), 3) := by decide +kernel
theorem dX4_bestToAllow_118 : decode cX4_bestToAllow 118 = .ok (.iload_n 2, 1) := by decide +kernel
theorem dX4_bestToAllow_119 : decode cX4_bestToAllow 119 = .ok (.ireturn, 1) := by decide +kernel
theorem dX4_meanWarmth_0 : decode cX4_meanWarmth 0 = .ok (.aload_n 0, 1) := by decide +kernel
theorem dX4_meanWarmth_1 : decode cX4_meanWarmth 1 = .ok (.getfield 21, 3) := by decide +kernel
theorem dX4_meanWarmth_4 : decode cX4_meanWarmth 4 = .ok (.invokevirtual 60, 3) := by decide +kernel
theorem dX4_meanWarmth_7 : decode cX4_meanWarmth 7 = .ok (.istore_n 1, 1) := by decide +kernel
theorem dX4_meanWarmth_8 : decode cX4_meanWarmth 8 = .ok (.iload_n 1, 1) := by decide +kernel
theorem dX4_meanWarmth_9 : decode cX4_meanWarmth 9 = .ok (.ifCond .ne 7, 3) := by decide +kernel
theorem dX4_meanWarmth_12 : decode cX4_meanWarmth 12 = .ok (.dconst 0, 1) := by decide +kernel
theorem dX4_meanWarmth_13 : decode cX4_meanWarmth 13 = .ok (.goto 14, 3) := by decide +kernel
theorem dX4_meanWarmth_16 : decode cX4_meanWarmth 16 = .ok (.aload_n 0, 1) := by decide +kernel
theorem dX4_meanWarmth_17 : decode cX4_meanWarmth 17 = .ok (.getfield 21, 3) := by decide +kernel
theorem dX4_meanWarmth_20 : decode cX4_meanWarmth 20 = .ok (.invokevirtual 228, 3) := by decide +kernel
theorem dX4_meanWarmth_23 : decode cX4_meanWarmth 23 = .ok (.i2d, 1) := by decide +kernel
theorem dX4_meanWarmth_24 : decode cX4_meanWarmth 24 = .ok (.iload_n 1, 1) := by decide +kernel
theorem dX4_meanWarmth_25 : decode cX4_meanWarmth 25 = .ok (.i2d, 1) := by decide +kernel
theorem dX4_meanWarmth_26 : decode cX4_meanWarmth 26 = .ok (.ddiv, 1) := by decide +kernel
theorem dX4_meanWarmth_27 : decode cX4_meanWarmth 27 = .ok (.dreturn, 1) := by decide +kernel
theorem dX4_digest_0 : decode cX4_digest 0 = .ok (.ldc2_w 231, 3) := by decide +kernel
theorem dX4_digest_3 : decode cX4_digest 3 = .ok (.lstore_n 1, 1) := by decide +kernel
theorem dX4_digest_4 : decode cX4_digest 4 = .ok (.aload_n 0, 1) := by decide +kernel
theorem dX4_digest_5 : decode cX4_digest 5 = .ok (.lload_n 1, 1) := by decide +kernel
theorem dX4_digest_6 : decode cX4_digest 6 = .ok (.invokevirtual 233, 3) := by decide +kernel
theorem dX4_digest_9 : decode cX4_digest 9 = .ok (.lstore_n 1, 1) := by decide +kernel
theorem dX4_digest_10 : decode cX4_digest 10 = .ok (.aload_n 0, 1) := by decide +kernel
theorem dX4_digest_11 : decode cX4_digest 11 = .ok (.lload_n 1, 1) := by decide +kernel
theorem dX4_digest_12 : decode cX4_digest 12 = .ok (.invokevirtual 237, 3) := by decide +kernel
theorem dX4_digest_15 : decode cX4_digest 15 = .ok (.lstore_n 1, 1) := by decide +kernel
theorem dX4_digest_16 : decode cX4_digest 16 = .ok (.aload_n 0, 1) := by decide +kernel
theorem dX4_digest_17 : decode cX4_digest 17 = .ok (.lload_n 1, 1) := by decide +kernel
theorem dX4_digest_18 : decode cX4_digest 18 = .ok (.invokevirtual 240, 3) := by decide +kernel
theorem dX4_digest_21 : decode cX4_digest 21 = .ok (.lstore_n 1, 1) := by decide +kernel
theorem dX4_digest_22 : decode cX4_digest 22 = .ok (.aload_n 0, 1) := by decide +kernel
theorem dX4_digest_23 : decode cX4_digest 23 = .ok (.lload_n 1, 1) := by decide +kernel
theorem dX4_digest_24 : decode cX4_digest 24 = .ok (.invokevirtual 243, 3) := by decide +kernel
theorem dX4_digest_27 : decode cX4_digest 27 = .ok (.lstore_n 1, 1) := by decide +kernel
theorem dX4_digest_28 : decode cX4_digest 28 = .ok (.aload_n 0, 1) := by decide +kernel
theorem dX4_digest_29 : decode cX4_digest 29 = .ok (.lload_n 1, 1) := by decide +kernel
theorem dX4_digest_30 : decode cX4_digest 30 = .ok (.invokevirtual 246, 3) := by decide +kernel
theorem dX4_digest_33 : decode cX4_digest 33 = .ok (.lstore_n 1, 1) := by decide +kernel
theorem dX4_digest_34 : decode cX4_digest 34 = .ok (.aload_n 0, 1) := by decide +kernel
theorem dX4_digest_35 : decode cX4_digest 35 = .ok (.lload_n 1, 1) := by decide +kernel
theorem dX4_digest_36 : decode cX4_digest 36 = .ok (.invokevirtual 249, 3) := by decide +kernel
theorem dX4_digest_39 : decode cX4_digest 39 = .ok (.lstore_n 1, 1) := by decide +kernel
theorem dX4_digest_40 : decode cX4_digest 40 = .ok (.aload_n 0, 1) := by decide +kernel
theorem dX4_digest_41 : decode cX4_digest 41 = .ok (.lload_n 1, 1) := by decide +kernel
theorem dX4_digest_42 : decode cX4_digest 42 = .ok (.invokevirtual 252, 3) := by decide +kernel
theorem dX4_digest_45 : decode cX4_digest 45 = .ok (.lreturn, 1) := by decide +kernel
theorem dX4_foldLift_0 : decode cX4_foldLift 0 = .ok (.lload_n 1, 1) := by decide +kernel
theorem dX4_foldLift_1 : decode cX4_foldLift 1 = .ok (.lstore_n 3, 1) := by decide +kernel
theorem dX4_foldLift_2 : decode cX4_foldLift 2 = .ok (.lload_n 3, 1) := by decide +kernel
theorem dX4_foldLift_3 : decode cX4_foldLift 3 = .ok (.aload_n 0, 1) := by decide +kernel
theorem dX4_foldLift_4 : decode cX4_foldLift 4 = .ok (.invokevirtual 255, 3) := by decide +kernel
theorem dX4_foldLift_7 : decode cX4_foldLift 7 = .ok (.invokestatic 257, 3) := by decide +kernel
theorem dX4_foldLift_10 : decode cX4_foldLift 10 = .ok (.lstore_n 3, 1) := by decide +kernel
theorem dX4_foldLift_11 : decode cX4_foldLift 11 = .ok (.lload_n 3, 1) := by decide +kernel
theorem dX4_foldLift_12 : decode cX4_foldLift 12 = .ok (.aload_n 0, 1) := by decide +kernel
theorem dX4_foldLift_13 : decode cX4_foldLift 13 = .ok (.invokevirtual 261, 3) := by decide +kernel
theorem dX4_foldLift_16 : decode cX4_foldLift 16 = .ok (.invokestatic 257, 3) := by decide +kernel
theorem dX4_foldLift_19 : decode cX4_foldLift 19 = .ok (.lstore_n 3, 1) := by decide +kernel
theorem dX4_foldLift_20 : decode cX4_foldLift 20 = .ok (.lload_n 3, 1) := by decide +kernel
theorem dX4_foldLift_21 : decode cX4_foldLift 21 = .ok (.aload_n 0, 1) := by decide +kernel
theorem dX4_foldLift_22 : decode cX4_foldLift 22 = .ok (.invokevirtual 263, 3) := by decide +kernel
theorem dX4_foldLift_25 : decode cX4_foldLift 25 = .ok (.invokestatic 257, 3) := by decide +kernel
theorem dX4_foldLift_28 : decode cX4_foldLift 28 = .ok (.lstore_n 3, 1) := by decide +kernel
theorem dX4_foldLift_29 : decode cX4_foldLift 29 = .ok (.lload_n 3, 1) := by decide +kernel
theorem dX4_foldLift_30 : decode cX4_foldLift 30 = .ok (.aload_n 0, 1) := by decide +kernel
theorem dX4_foldLift_31 : decode cX4_foldLift 31 = .ok (.invokevirtual 266, 3) := by decide +kernel
theorem dX4_foldLift_34 : decode cX4_foldLift 34 = .ok (.invokestatic 257, 3) := by decide +kernel
theorem dX4_foldLift_37 : decode cX4_foldLift 37 = .ok (.lstore_n 3, 1) := by decide +kernel
theorem dX4_foldLift_38 : decode cX4_foldLift 38 = .ok (.lload_n 3, 1) := by decide +kernel
theorem dX4_foldLift_39 : decode cX4_foldLift 39 = .ok (.aload_n 0, 1) := by decide +kernel
theorem dX4_foldLift_40 : decode cX4_foldLift 40 = .ok (.invokevirtual 269, 3) := by decide +kernel
theorem dX4_foldLift_43 : decode cX4_foldLift 43 = .ok (.invokestatic 257, 3) := by decide +kernel
theorem dX4_foldLift_46 : decode cX4_foldLift 46 = .ok (.lstore_n 3, 1) := by decide +kernel
theorem dX4_foldLift_47 : decode cX4_foldLift 47 = .ok (.lload_n 3, 1) := by decide +kernel
theorem dX4_foldLift_48 : decode cX4_foldLift 48 = .ok (.aload_n 0, 1) := by decide +kernel
theorem dX4_foldLift_49 : decode cX4_foldLift 49 = .ok (.invokevirtual 272, 3) := by decide +kernel
theorem dX4_foldLift_52 : decode cX4_foldLift 52 = .ok (.invokestatic 257, 3) := by decide +kernel
theorem dX4_foldLift_55 : decode cX4_foldLift 55 = .ok (.lstore_n 3, 1) := by decide +kernel
theorem dX4_foldLift_56 : decode cX4_foldLift 56 = .ok (.lload_n 3, 1) := by decide +kernel
theorem dX4_foldLift_57 : decode cX4_foldLift 57 = .ok (.aload_n 0, 1) := by decide +kernel
theorem dX4_foldLift_58 : decode cX4_foldLift 58 = .ok (.invokevirtual 275, 3) := by decide +kernel
theorem dX4_foldLift_61 : decode cX4_foldLift 61 = .ok (.invokestatic 257, 3) := by decide +kernel
theorem dX4_foldLift_64 : decode cX4_foldLift 64 = .ok (.lstore_n 3, 1) := by decide +kernel
theorem dX4_foldLift_65 : decode cX4_foldLift 65 = .ok (.lload_n 3, 1) := by decide +kernel
theorem dX4_foldLift_66 : decode cX4_foldLift 66 = .ok (.aload_n 0, 1) := by decide +kernel
theorem dX4_foldLift_67 : decode cX4_foldLift 67 = .ok (.invokevirtual 277, 3) := by decide +kernel
theorem dX4_foldLift_70 : decode cX4_foldLift 70 = .ok (.invokestatic 257, 3) := by decide +kernel
theorem dX4_foldLift_73 : decode cX4_foldLift 73 = .ok (.lstore_n 3, 1) := by decide +kernel
theorem dX4_foldLift_74 : decode cX4_foldLift 74 = .ok (.lload_n 3, 1) := by decide +kernel
theorem dX4_foldLift_75 : decode cX4_foldLift 75 = .ok (.aload_n 0, 1) := by decide +kernel
theorem dX4_foldLift_76 : decode cX4_foldLift 76 = .ok (.invokevirtual 279, 3) := by decide +kernel
theorem dX4_foldLift_79 : decode cX4_foldLift 79 = .ok (.invokestatic 257, 3) := by decide +kernel
theorem dX4_foldLift_82 : decode cX4_foldLift 82 = .ok (.lstore_n 3, 1) := by decide +kernel
theorem dX4_foldLift_83 : decode cX4_foldLift 83 = .ok (.lload_n 3, 1) := by decide +kernel
theorem dX4_foldLift_84 : decode cX4_foldLift 84 = .ok (.aload_n 0, 1) := by decide +kernel
theorem dX4_foldLift_85 : decode cX4_foldLift 85 = .ok (.invokevirtual 281, 3) := by decide +kernel
theorem dX4_foldLift_88 : decode cX4_foldLift 88 = .ok (.invokestatic 257, 3) := by decide +kernel
theorem dX4_foldLift_91 : decode cX4_foldLift 91 = .ok (.lstore_n 3, 1) := by decide +kernel
theorem dX4_foldLift_92 : decode cX4_foldLift 92 = .ok (.lload_n 3, 1) := by decide +kernel
theorem dX4_foldLift_93 : decode cX4_foldLift 93 = .ok (.aload_n 0, 1) := by decide +kernel
theorem dX4_foldLift_94 : decode cX4_foldLift 94 = .ok (.invokevirtual 284, 3) := by decide +kernel
theorem dX4_foldLift_97 : decode cX4_foldLift 97 = .ok (.invokestatic 257, 3) := by decide +kernel
theorem dX4_foldLift_100 : decode cX4_foldLift 100 = .ok (.lstore_n 3, 1) := by decide +kernel
theorem dX4_foldLift_101 : decode cX4_foldLift 101 = .ok (.lload_n 3, 1) := by decide +kernel
theorem dX4_foldLift_102 : decode cX4_foldLift 102 = .ok (.aload_n 0, 1) := by decide +kernel
theorem dX4_foldLift_103 : decode cX4_foldLift 103 = .ok (.invokevirtual 287, 3) := by decide +kernel
theorem dX4_foldLift_106 : decode cX4_foldLift 106 = .ok (.invokestatic 257, 3) := by decide +kernel
theorem dX4_foldLift_109 : decode cX4_foldLift 109 = .ok (.lstore_n 3, 1) := by decide +kernel
theorem dX4_foldLift_110 : decode cX4_foldLift 110 = .ok (.lload_n 3, 1) := by decide +kernel
theorem dX4_foldLift_111 : decode cX4_foldLift 111 = .ok (.aload_n 0, 1) := by decide +kernel
theorem dX4_foldLift_112 : decode cX4_foldLift 112 = .ok (.invokevirtual 290, 3) := by decide +kernel
theorem dX4_foldLift_115 : decode cX4_foldLift 115 = .ok (.invokestatic 257, 3) := by decide +kernel
theorem dX4_foldLift_118 : decode cX4_foldLift 118 = .ok (.lstore_n 3, 1) := by decide +kernel
theorem dX4_foldLift_119 : decode cX4_foldLift 119 = .ok (.lload_n 3, 1) := by decide +kernel
theorem dX4_foldLift_120 : decode cX4_foldLift 120 = .ok (.aload_n 0, 1) := by decide +kernel
theorem dX4_foldLift_121 : decode cX4_foldLift 121 = .ok (.invokevirtual 293, 3) := by decide +kernel
theorem dX4_foldLift_124 : decode cX4_foldLift 124 = .ok (.invokestatic 257, 3) := by decide +kernel
theorem dX4_foldLift_127 : decode cX4_foldLift 127 = .ok (.lstore_n 3, 1) := by decide +kernel
theorem dX4_foldLift_128 : decode cX4_foldLift 128 = .ok (.lload_n 3, 1) := by decide +kernel
theorem dX4_foldLift_129 : decode cX4_foldLift 129 = .ok (.aload_n 0, 1) := by decide +kernel
theorem dX4_foldLift_130 : decode cX4_foldLift 130 = .ok (.invokevirtual 296, 3) := by decide +kernel
theorem dX4_foldLift_133 : decode cX4_foldLift 133 = .ok (.invokestatic 257, 3) := by decide +kernel
theorem dX4_foldLift_136 : decode cX4_foldLift 136 = .ok (.lstore_n 3, 1) := by decide +kernel
theorem dX4_foldLift_137 : decode cX4_foldLift 137 = .ok (.lload_n 3, 1) := by decide +kernel
theorem dX4_foldLift_138 : decode cX4_foldLift 138 = .ok (.aload_n 0, 1) := by decide +kernel
theorem dX4_foldLift_139 : decode cX4_foldLift 139 = .ok (.invokevirtual 299, 3) := by decide +kernel
theorem dX4_foldLift_142 : decode cX4_foldLift 142 = .ok (.invokestatic 257, 3) := by decide +kernel
theorem dX4_foldLift_145 : decode cX4_foldLift 145 = .ok (.lstore_n 3, 1) := by decide +kernel
theorem dX4_foldLift_146 : decode cX4_foldLift 146 = .ok (.lload_n 3, 1) := by decide +kernel
theorem dX4_foldLift_147 : decode cX4_foldLift 147 = .ok (.aload_n 0, 1) := by decide +kernel
theorem dX4_foldLift_148 : decode cX4_foldLift 148 = .ok (.invokevirtual 302, 3) := by decide +kernel
theorem dX4_foldLift_151 : decode cX4_foldLift 151 = .ok (.invokestatic 257, 3) := by decide +kernel
theorem dX4_foldLift_154 : decode cX4_foldLift 154 = .ok (.lreturn, 1) := by decide +kernel
theorem dX4_foldForesight_0 : decode cX4_foldForesight 0 = .ok (.lload_n 1, 1) := by decide +kernel
theorem dX4_foldForesight_1 : decode cX4_foldForesight 1 = .ok (.lstore_n 3, 1) := by decide +kernel
theorem dX4_foldForesight_2 : decode cX4_foldForesight 2 = .ok (.lload_n 3, 1) := by decide +kernel
theorem dX4_foldForesight_3 : decode cX4_foldForesight 3 = .ok (.aload_n 0, 1) := by decide +kernel
theorem dX4_foldForesight_4 : decode cX4_foldForesight 4 = .ok (.invokevirtual 305, 3) := by decide +kernel
theorem dX4_foldForesight_7 : decode cX4_foldForesight 7 = .ok (.invokestatic 257, 3) := by decide +kernel
theorem dX4_foldForesight_10 : decode cX4_foldForesight 10 = .ok (.lstore_n 3, 1) := by decide +kernel
theorem dX4_foldForesight_11 : decode cX4_foldForesight 11 = .ok (.lload_n 3, 1) := by decide +kernel
theorem dX4_foldForesight_12 : decode cX4_foldForesight 12 = .ok (.aload_n 0, 1) := by decide +kernel
theorem dX4_foldForesight_13 : decode cX4_foldForesight 13 = .ok (.bipush 20, 2) := by decide +kernel
theorem dX4_foldForesight_15 : decode cX4_foldForesight 15 = .ok (.invokevirtual 308, 3) := by decide +kernel
theorem dX4_foldForesight_18 : decode cX4_foldForesight 18 = .ok (.invokestatic 257, 3) := by decide +kernel
theorem dX4_foldForesight_21 : decode cX4_foldForesight 21 = .ok (.lstore_n 3, 1) := by decide +kernel
theorem dX4_foldForesight_22 : decode cX4_foldForesight 22 = .ok (.lload_n 3, 1) := by decide +kernel
theorem dX4_foldForesight_23 : decode cX4_foldForesight 23 = .ok (.aload_n 0, 1) := by decide +kernel
theorem dX4_foldForesight_24 : decode cX4_foldForesight 24 = .ok (.bipush 20, 2) := by decide +kernel
theorem dX4_foldForesight_26 : decode cX4_foldForesight 26 = .ok (.invokevirtual 311, 3) := by decide +kernel
theorem dX4_foldForesight_29 : decode cX4_foldForesight 29 = .ok (.invokestatic 257, 3) := by decide +kernel
theorem dX4_foldForesight_32 : decode cX4_foldForesight 32 = .ok (.lstore_n 3, 1) := by decide +kernel
theorem dX4_foldForesight_33 : decode cX4_foldForesight 33 = .ok (.lload_n 3, 1) := by decide +kernel
theorem dX4_foldForesight_34 : decode cX4_foldForesight 34 = .ok (.aload_n 0, 1) := by decide +kernel
theorem dX4_foldForesight_35 : decode cX4_foldForesight 35 = .ok (.bipush 10, 2) := by decide +kernel
theorem dX4_foldForesight_37 : decode cX4_foldForesight 37 = .ok (.invokevirtual 314, 3) := by decide +kernel
theorem dX4_foldForesight_40 : decode cX4_foldForesight 40 = .ok (.invokestatic 257, 3) := by decide +kernel
theorem dX4_foldForesight_43 : decode cX4_foldForesight 43 = .ok (.lstore_n 3, 1) := by decide +kernel
theorem dX4_foldForesight_44 : decode cX4_foldForesight 44 = .ok (.lload_n 3, 1) := by decide +kernel
theorem dX4_foldForesight_45 : decode cX4_foldForesight 45 = .ok (.aload_n 0, 1) := by decide +kernel
theorem dX4_foldForesight_46 : decode cX4_foldForesight 46 = .ok (.bipush 10, 2) := by decide +kernel
theorem dX4_foldForesight_48 : decode cX4_foldForesight 48 = .ok (.invokevirtual 317, 3) := by decide +kernel
theorem dX4_foldForesight_51 : decode cX4_foldForesight 51 = .ok (.invokestatic 257, 3) := by decide +kernel
theorem dX4_foldForesight_54 : decode cX4_foldForesight 54 = .ok (.lreturn, 1) := by decide +kernel
theorem dX4_foldFloors_0 : decode cX4_foldFloors 0 = .ok (.lload_n 1, 1) := by decide +kernel
theorem dX4_foldFloors_1 : decode cX4_foldFloors 1 = .ok (.lstore_n 3, 1) := by decide +kernel
theorem dX4_foldFloors_2 : decode cX4_foldFloors 2 = .ok (.iconst 0, 1) := by decide +kernel
theorem dX4_foldFloors_3 : decode cX4_foldFloors 3 = .ok (.istore 5, 2) := by decide +kernel
theorem dX4_foldFloors_5 : decode cX4_foldFloors 5 = .ok (.iload 5, 2) := by decide +kernel
theorem dX4_foldFloors_7 : decode cX4_foldFloors 7 = .ok (.aload_n 0, 1) := by decide +kernel
theorem dX4_foldFloors_8 : decode cX4_foldFloors 8 = .ok (.getfield 12, 3) := by decide +kernel
theorem dX4_foldFloors_11 : decode cX4_foldFloors 11 = .ok (.getfield 148, 3) := by decide +kernel
theorem dX4_foldFloors_14 : decode cX4_foldFloors 14 = .ok (.if_icmp .ge 67, 3) := by decide +kernel
theorem dX4_foldFloors_17 : decode cX4_foldFloors 17 = .ok (.lload_n 3, 1) := by decide +kernel
theorem dX4_foldFloors_18 : decode cX4_foldFloors 18 = .ok (.aload_n 0, 1) := by decide +kernel
theorem dX4_foldFloors_19 : decode cX4_foldFloors 19 = .ok (.iload 5, 2) := by decide +kernel
theorem dX4_foldFloors_21 : decode cX4_foldFloors 21 = .ok (.invokevirtual 320, 3) := by decide +kernel
theorem dX4_foldFloors_24 : decode cX4_foldFloors 24 = .ok (.invokestatic 323, 3) := by decide +kernel
theorem dX4_foldFloors_27 : decode cX4_foldFloors 27 = .ok (.invokestatic 257, 3) := by decide +kernel
theorem dX4_foldFloors_30 : decode cX4_foldFloors 30 = .ok (.lstore_n 3, 1) := by decide +kernel
theorem dX4_foldFloors_31 : decode cX4_foldFloors 31 = .ok (.lload_n 3, 1) := by decide +kernel
theorem dX4_foldFloors_32 : decode cX4_foldFloors 32 = .ok (.aload_n 0, 1) := by decide +kernel
theorem dX4_foldFloors_33 : decode cX4_foldFloors 33 = .ok (.iload 5, 2) := by decide +kernel
theorem dX4_foldFloors_35 : decode cX4_foldFloors 35 = .ok (.invokevirtual 327, 3) := by decide +kernel
theorem dX4_foldFloors_38 : decode cX4_foldFloors 38 = .ok (.invokestatic 257, 3) := by decide +kernel
theorem dX4_foldFloors_41 : decode cX4_foldFloors 41 = .ok (.lstore_n 3, 1) := by decide +kernel
theorem dX4_foldFloors_42 : decode cX4_foldFloors 42 = .ok (.lload_n 3, 1) := by decide +kernel
theorem dX4_foldFloors_43 : decode cX4_foldFloors 43 = .ok (.aload_n 0, 1) := by decide +kernel
theorem dX4_foldFloors_44 : decode cX4_foldFloors 44 = .ok (.iload 5, 2) := by decide +kernel
theorem dX4_foldFloors_46 : decode cX4_foldFloors 46 = .ok (.invokevirtual 329, 3) := by decide +kernel
theorem dX4_foldFloors_49 : decode cX4_foldFloors 49 = .ok (.invokestatic 257, 3) := by decide +kernel
theorem dX4_foldFloors_52 : decode cX4_foldFloors 52 = .ok (.lstore_n 3, 1) := by decide +kernel
theorem dX4_foldFloors_53 : decode cX4_foldFloors 53 = .ok (.lload_n 3, 1) := by decide +kernel
theorem dX4_foldFloors_54 : decode cX4_foldFloors 54 = .ok (.aload_n 0, 1) := by decide +kernel
theorem dX4_foldFloors_55 : decode cX4_foldFloors 55 = .ok (.iload 5, 2) := by decide +kernel
theorem dX4_foldFloors_57 : decode cX4_foldFloors 57 = .ok (.invokevirtual 332, 3) := by decide +kernel
theorem dX4_foldFloors_60 : decode cX4_foldFloors 60 = .ok (.invokestatic 257, 3) := by decide +kernel
theorem dX4_foldFloors_63 : decode cX4_foldFloors 63 = .ok (.lstore_n 3, 1) := by decide +kernel
theorem dX4_foldFloors_64 : decode cX4_foldFloors 64 = .ok (.lload_n 3, 1) := by decide +kernel
theorem dX4_foldFloors_65 : decode cX4_foldFloors 65 = .ok (.aload_n 0, 1) := by decide +kernel
theorem dX4_foldFloors_66 : decode cX4_foldFloors 66 = .ok (.iload 5, 2) := by decide +kernel
theorem dX4_foldFloors_68 : decode cX4_foldFloors 68 = .ok (.invokevirtual 335, 3) := by decide +kernel
theorem dX4_foldFloors_71 : decode cX4_foldFloors 71 = .ok (.invokestatic 257, 3) := by decide +kernel
theorem dX4_foldFloors_74 : decode cX4_foldFloors 74 = .ok (.lstore_n 3, 1) := by decide +kernel
theorem dX4_foldFloors_75 : decode cX4_foldFloors 75 = .ok (.iinc 5 1, 3) := by decide +kernel
theorem dX4_foldFloors_78 : decode cX4_foldFloors 78 = .ok (.goto (-73), 3) := by decide +kernel
theorem dX4_foldFloors_81 : decode cX4_foldFloors 81 = .ok (.lload_n 3, 1) := by decide +kernel
theorem dX4_foldFloors_82 : decode cX4_foldFloors 82 = .ok (.lreturn, 1) := by decide +kernel
theorem dX4_foldTopics_0 : decode cX4_foldTopics 0 = .ok (.lload_n 1, 1) := by decide +kernel
theorem dX4_foldTopics_1 : decode cX4_foldTopics 1 = .ok (.lstore_n 3, 1) := by decide +kernel
theorem dX4_foldTopics_2 : decode cX4_foldTopics 2 = .ok (.iconst 0, 1) := by decide +kernel
theorem dX4_foldTopics_3 : decode cX4_foldTopics 3 = .ok (.istore 5, 2) := by decide +kernel
theorem dX4_foldTopics_5 : decode cX4_foldTopics 5 = .ok (.iload 5, 2) := by decide +kernel
theorem dX4_foldTopics_7 : decode cX4_foldTopics 7 = .ok (.bipush 8, 2) := by decide +kernel
theorem dX4_foldTopics_9 : decode cX4_foldTopics 9 = .ok (.if_icmp .ge 34, 3) := by decide +kernel
theorem dX4_foldTopics_12 : decode cX4_foldTopics 12 = .ok (.lload_n 3, 1) := by decide +kernel
theorem dX4_foldTopics_13 : decode cX4_foldTopics 13 = .ok (.aload_n 0, 1) := by decide +kernel
theorem dX4_foldTopics_14 : decode cX4_foldTopics 14 = .ok (.iload 5, 2) := by decide +kernel
theorem dX4_foldTopics_16 : decode cX4_foldTopics 16 = .ok (.invokevirtual 338, 3) := by decide +kernel
theorem dX4_foldTopics_19 : decode cX4_foldTopics 19 = .ok (.invokestatic 323, 3) := by decide +kernel
theorem dX4_foldTopics_22 : decode cX4_foldTopics 22 = .ok (.invokestatic 257, 3) := by decide +kernel
theorem dX4_foldTopics_25 : decode cX4_foldTopics 25 = .ok (.lstore_n 3, 1) := by decide +kernel
theorem dX4_foldTopics_26 : decode cX4_foldTopics 26 = .ok (.lload_n 3, 1) := by decide +kernel
theorem dX4_foldTopics_27 : decode cX4_foldTopics 27 = .ok (.aload_n 0, 1) := by decide +kernel
theorem dX4_foldTopics_28 : decode cX4_foldTopics 28 = .ok (.iload 5, 2) := by decide +kernel
theorem dX4_foldTopics_30 : decode cX4_foldTopics 30 = .ok (.invokevirtual 341, 3) := by decide +kernel
theorem dX4_foldTopics_33 : decode cX4_foldTopics 33 = .ok (.invokestatic 257, 3) := by decide +kernel
theorem dX4_foldTopics_36 : decode cX4_foldTopics 36 = .ok (.lstore_n 3, 1) := by decide +kernel
theorem dX4_foldTopics_37 : decode cX4_foldTopics 37 = .ok (.iinc 5 1, 3) := by decide +kernel
theorem dX4_foldTopics_40 : decode cX4_foldTopics 40 = .ok (.goto (-35), 3) := by decide +kernel
theorem dX4_foldTopics_43 : decode cX4_foldTopics 43 = .ok (.lload_n 3, 1) := by decide +kernel
theorem dX4_foldTopics_44 : decode cX4_foldTopics 44 = .ok (.lreturn, 1) := by decide +kernel
theorem dX4_foldInstalments_0 : decode cX4_foldInstalments 0 = .ok (.lload_n 1, 1) := by decide +kernel
theorem dX4_foldInstalments_1 : decode cX4_foldInstalments 1 = .ok (.lstore_n 3, 1) := by decide +kernel
theorem dX4_foldInstalments_2 : decode cX4_foldInstalments 2 = .ok (.iconst 0, 1) := by decide +kernel
theorem dX4_foldInstalments_3 : decode cX4_foldInstalments 3 = .ok (.istore 5, 2) := by decide +kernel
theorem dX4_foldInstalments_5 : decode cX4_foldInstalments 5 = .ok (.iload 5, 2) := by decide +kernel
theorem dX4_foldInstalments_7 : decode cX4_foldInstalments 7 = .ok (.aload_n 0, 1) := by decide +kernel
theorem dX4_foldInstalments_8 : decode cX4_foldInstalments 8 = .ok (.getfield 31, 3) := by decide +kernel
theorem dX4_foldInstalments_11 : decode cX4_foldInstalments 11 = .ok (.getfield 56, 3) := by decide +kernel
theorem dX4_foldInstalments_14 : decode cX4_foldInstalments 14 = .ok (.if_icmp .ge 53, 3) := by decide +kernel
theorem dX4_foldInstalments_17 : decode cX4_foldInstalments 17 = .ok (.lload_n 3, 1) := by decide +kernel
theorem dX4_foldInstalments_18 : decode cX4_foldInstalments 18 = .ok (.aload_n 0, 1) := by decide +kernel
theorem dX4_foldInstalments_19 : decode cX4_foldInstalments 19 = .ok (.iload 5, 2) := by decide +kernel
theorem dX4_foldInstalments_21 : decode cX4_foldInstalments 21 = .ok (.invokevirtual 344, 3) := by decide +kernel
theorem dX4_foldInstalments_24 : decode cX4_foldInstalments 24 = .ok (.invokestatic 257, 3) := by decide +kernel
theorem dX4_foldInstalments_27 : decode cX4_foldInstalments 27 = .ok (.lstore_n 3, 1) := by decide +kernel
theorem dX4_foldInstalments_28 : decode cX4_foldInstalments 28 = .ok (.lload_n 3, 1) := by decide +kernel
theorem dX4_foldInstalments_29 : decode cX4_foldInstalments 29 = .ok (.aload_n 0, 1) := by decide +kernel
theorem dX4_foldInstalments_30 : decode cX4_foldInstalments 30 = .ok (.iload 5, 2) := by decide +kernel
theorem dX4_foldInstalments_32 : decode cX4_foldInstalments 32 = .ok (.invokevirtual 347, 3) := by decide +kernel
theorem dX4_foldInstalments_35 : decode cX4_foldInstalments 35 = .ok (.invokestatic 257, 3) := by decide +kernel
theorem dX4_foldInstalments_38 : decode cX4_foldInstalments 38 = .ok (.lstore_n 3, 1) := by decide +kernel
theorem dX4_foldInstalments_39 : decode cX4_foldInstalments 39 = .ok (.lload_n 3, 1) := by decide +kernel
theorem dX4_foldInstalments_40 : decode cX4_foldInstalments 40 = .ok (.aload_n 0, 1) := by decide +kernel
theorem dX4_foldInstalments_41 : decode cX4_foldInstalments 41 = .ok (.iload 5, 2) := by decide +kernel
theorem dX4_foldInstalments_43 : decode cX4_foldInstalments 43 = .ok (.invokevirtual 350, 3) := by decide +kernel
theorem dX4_foldInstalments_46 : decode cX4_foldInstalments 46 = .ok (.invokestatic 257, 3) := by decide +kernel
theorem dX4_foldInstalments_49 : decode cX4_foldInstalments 49 = .ok (.lstore_n 3, 1) := by decide +kernel
theorem dX4_foldInstalments_50 : decode cX4_foldInstalments 50 = .ok (.lload_n 3, 1) := by decide +kernel
theorem dX4_foldInstalments_51 : decode cX4_foldInstalments 51 = .ok (.aload_n 0, 1) := by decide +kernel
theorem dX4_foldInstalments_52 : decode cX4_foldInstalments 52 = .ok (.iload 5, 2) := by decide +kernel
theorem dX4_foldInstalments_54 : decode cX4_foldInstalments 54 = .ok (.invokevirtual 353, 3) := by decide +kernel
theorem dX4_foldInstalments_57 : decode cX4_foldInstalments 57 = .ok (.invokestatic 257, 3) := by decide +kernel
theorem dX4_foldInstalments_60 : decode cX4_foldInstalments 60 = .ok (.lstore_n 3, 1) := by decide +kernel
theorem dX4_foldInstalments_61 : decode cX4_foldInstalments 61 = .ok (.iinc 5 1, 3) := by decide +kernel
theorem dX4_foldInstalments_64 : decode cX4_foldInstalments 64 = .ok (.goto (-59), 3) := by decide +kernel
theorem dX4_foldInstalments_67 : decode cX4_foldInstalments 67 = .ok (.lload_n 3, 1) := by decide +kernel
theorem dX4_foldInstalments_68 : decode cX4_foldInstalments 68 = .ok (.lreturn, 1) := by decide +kernel
theorem dX4_foldReaders_0 : decode cX4_foldReaders 0 = .ok (.lload_n 1, 1) := by decide +kernel
theorem dX4_foldReaders_1 : decode cX4_foldReaders 1 = .ok (.lstore_n 3, 1) := by decide +kernel
theorem dX4_foldReaders_2 : decode cX4_foldReaders 2 = .ok (.iconst 0, 1) := by decide +kernel
theorem dX4_foldReaders_3 : decode cX4_foldReaders 3 = .ok (.istore 5, 2) := by decide +kernel
theorem dX4_foldReaders_5 : decode cX4_foldReaders 5 = .ok (.iload 5, 2) := by decide +kernel
theorem dX4_foldReaders_7 : decode cX4_foldReaders 7 = .ok (.aload_n 0, 1) := by decide +kernel
theorem dX4_foldReaders_8 : decode cX4_foldReaders 8 = .ok (.getfield 12, 3) := by decide +kernel
theorem dX4_foldReaders_11 : decode cX4_foldReaders 11 = .ok (.getfield 100, 3) := by decide +kernel
theorem dX4_foldReaders_14 : decode cX4_foldReaders 14 = .ok (.if_icmp .ge 34, 3) := by decide +kernel
theorem dX4_foldReaders_17 : decode cX4_foldReaders 17 = .ok (.lload_n 3, 1) := by decide +kernel
theorem dX4_foldReaders_18 : decode cX4_foldReaders 18 = .ok (.aload_n 0, 1) := by decide +kernel
theorem dX4_foldReaders_19 : decode cX4_foldReaders 19 = .ok (.iload 5, 2) := by decide +kernel
theorem dX4_foldReaders_21 : decode cX4_foldReaders 21 = .ok (.invokevirtual 356, 3) := by decide +kernel
theorem dX4_foldReaders_24 : decode cX4_foldReaders 24 = .ok (.invokestatic 257, 3) := by decide +kernel
theorem dX4_foldReaders_27 : decode cX4_foldReaders 27 = .ok (.lstore_n 3, 1) := by decide +kernel
theorem dX4_foldReaders_28 : decode cX4_foldReaders 28 = .ok (.lload_n 3, 1) := by decide +kernel
theorem dX4_foldReaders_29 : decode cX4_foldReaders 29 = .ok (.aload_n 0, 1) := by decide +kernel
theorem dX4_foldReaders_30 : decode cX4_foldReaders 30 = .ok (.iload 5, 2) := by decide +kernel
theorem dX4_foldReaders_32 : decode cX4_foldReaders 32 = .ok (.invokevirtual 359, 3) := by decide +kernel
theorem dX4_foldReaders_35 : decode cX4_foldReaders 35 = .ok (.invokestatic 323, 3) := by decide +kernel
theorem dX4_foldReaders_38 : decode cX4_foldReaders 38 = .ok (.invokestatic 257, 3) := by decide +kernel
theorem dX4_foldReaders_41 : decode cX4_foldReaders 41 = .ok (.lstore_n 3, 1) := by decide +kernel
theorem dX4_foldReaders_42 : decode cX4_foldReaders 42 = .ok (.iinc 5 1, 3) := by decide +kernel
theorem dX4_foldReaders_45 : decode cX4_foldReaders 45 = .ok (.goto (-40), 3) := by decide +kernel
theorem dX4_foldReaders_48 : decode cX4_foldReaders 48 = .ok (.lload_n 3, 1) := by decide +kernel
theorem dX4_foldReaders_49 : decode cX4_foldReaders 49 = .ok (.lreturn, 1) := by decide +kernel
theorem dX4_foldMirrors_0 : decode cX4_foldMirrors 0 = .ok (.lload_n 1, 1) := by decide +kernel
theorem dX4_foldMirrors_1 : decode cX4_foldMirrors 1 = .ok (.lstore_n 3, 1) := by decide +kernel
theorem dX4_foldMirrors_2 : decode cX4_foldMirrors 2 = .ok (.iconst 0, 1) := by decide +kernel
theorem dX4_foldMirrors_3 : decode cX4_foldMirrors 3 = .ok (.istore 5, 2) := by decide +kernel
theorem dX4_foldMirrors_5 : decode cX4_foldMirrors 5 = .ok (.iload 5, 2) := by decide +kernel
theorem dX4_foldMirrors_7 : decode cX4_foldMirrors 7 = .ok (.aload_n 0, 1) := by decide +kernel
theorem dX4_foldMirrors_8 : decode cX4_foldMirrors 8 = .ok (.getfield 38, 3) := by decide +kernel
theorem dX4_foldMirrors_11 : decode cX4_foldMirrors 11 = .ok (.getfield 116, 3) := by decide +kernel
theorem dX4_foldMirrors_14 : decode cX4_foldMirrors 14 = .ok (.if_icmp .ge 31, 3) := by decide +kernel
theorem dX4_foldMirrors_17 : decode cX4_foldMirrors 17 = .ok (.lload_n 3, 1) := by decide +kernel
theorem dX4_foldMirrors_18 : decode cX4_foldMirrors 18 = .ok (.aload_n 0, 1) := by decide +kernel
theorem dX4_foldMirrors_19 : decode cX4_foldMirrors 19 = .ok (.iload 5, 2) := by decide +kernel
theorem dX4_foldMirrors_21 : decode cX4_foldMirrors 21 = .ok (.invokevirtual 362, 3) := by decide +kernel
theorem dX4_foldMirrors_24 : decode cX4_foldMirrors 24 = .ok (.invokestatic 257, 3) := by decide +kernel
theorem dX4_foldMirrors_27 : decode cX4_foldMirrors 27 = .ok (.lstore_n 3, 1) := by decide +kernel
theorem dX4_foldMirrors_28 : decode cX4_foldMirrors 28 = .ok (.lload_n 3, 1) := by decide +kernel
theorem dX4_foldMirrors_29 : decode cX4_foldMirrors 29 = .ok (.aload_n 0, 1) := by decide +kernel
theorem dX4_foldMirrors_30 : decode cX4_foldMirrors 30 = .ok (.iload 5, 2) := by decide +kernel
theorem dX4_foldMirrors_32 : decode cX4_foldMirrors 32 = .ok (.invokevirtual 365, 3) := by decide +kernel
theorem dX4_foldMirrors_35 : decode cX4_foldMirrors 35 = .ok (.invokestatic 257, 3) := by decide +kernel
theorem dX4_foldMirrors_38 : decode cX4_foldMirrors 38 = .ok (.lstore_n 3, 1) := by decide +kernel
theorem dX4_foldMirrors_39 : decode cX4_foldMirrors 39 = .ok (.iinc 5 1, 3) := by decide +kernel
theorem dX4_foldMirrors_42 : decode cX4_foldMirrors 42 = .ok (.goto (-37), 3) := by decide +kernel
theorem dX4_foldMirrors_45 : decode cX4_foldMirrors 45 = .ok (.lload_n 3, 1) := by decide +kernel
theorem dX4_foldMirrors_46 : decode cX4_foldMirrors 46 = .ok (.lreturn, 1) := by decide +kernel
theorem dX4_fold_0 : decode cX4_fold 0 = .ok (.lload_n 0, 1) := by decide +kernel
theorem dX4_fold_1 : decode cX4_fold 1 = .ok (.ldc2_w 368, 3) := by decide +kernel
theorem dX4_fold_4 : decode cX4_fold 4 = .ok (.lmul, 1) := by decide +kernel
theorem dX4_fold_5 : decode cX4_fold 5 = .ok (.iload_n 2, 1) := by decide +kernel
theorem dX4_fold_6 : decode cX4_fold 6 = .ok (.i2l, 1) := by decide +kernel
theorem dX4_fold_7 : decode cX4_fold 7 = .ok (.ladd, 1) := by decide +kernel
theorem dX4_fold_8 : decode cX4_fold 8 = .ok (.lreturn, 1) := by decide +kernel
theorem dX4_bit_0 : decode cX4_bit 0 = .ok (.iload_n 0, 1) := by decide +kernel
theorem dX4_bit_1 : decode cX4_bit 1 = .ok (.ifCond .eq 7, 3) := by decide +kernel
theorem dX4_bit_4 : decode cX4_bit 4 = .ok (.iconst 1, 1) := by decide +kernel
theorem dX4_bit_5 : decode cX4_bit 5 = .ok (.goto 4, 3) := by decide +kernel
theorem dX4_bit_8 : decode cX4_bit 8 = .ok (.iconst 0, 1) := by decide +kernel
theorem dX4_bit_9 : decode cX4_bit 9 = .ok (.ireturn, 1) := by decide +kernel
theorem dX4_judge_0 : decode cX4_judge 0 = .ok (.aload_n 0, 1) := by decide +kernel
theorem dX4_judge_1 : decode cX4_judge 1 = .ok (.getfield 12, 3) := by decide +kernel
theorem dX4_judge_4 : decode cX4_judge 4 = .ok (.aload_n 0, 1) := by decide +kernel
theorem dX4_judge_5 : decode cX4_judge 5 = .ok (.getfield 31, 3) := by decide +kernel
theorem dX4_judge_8 : decode cX4_judge 8 = .ok (.getfield 183, 3) := by decide +kernel
theorem dX4_judge_11 : decode cX4_judge 11 = .ok (.iload_n 2, 1) := by decide +kernel
theorem dX4_judge_12 : decode cX4_judge 12 = .ok (.iaload, 1) := by decide +kernel
theorem dX4_judge_13 : decode cX4_judge 13 = .ok (.aload_n 0, 1) := by decide +kernel
theorem dX4_judge_14 : decode cX4_judge 14 = .ok (.getfield 31, 3) := by decide +kernel
theorem dX4_judge_17 : decode cX4_judge 17 = .ok (.getfield 185, 3) := by decide +kernel
theorem dX4_judge_20 : decode cX4_judge 20 = .ok (.iload_n 2, 1) := by decide +kernel
theorem dX4_judge_21 : decode cX4_judge 21 = .ok (.iaload, 1) := by decide +kernel
theorem dX4_judge_22 : decode cX4_judge 22 = .ok (.invokevirtual 164, 3) := by decide +kernel
theorem dX4_judge_25 : decode cX4_judge 25 = .ok (.istore_n 3, 1) := by decide +kernel
theorem dX4_judge_26 : decode cX4_judge 26 = .ok (.aload_n 0, 1) := by decide +kernel
theorem dX4_judge_27 : decode cX4_judge 27 = .ok (.getfield 38, 3) := by decide +kernel
theorem dX4_judge_30 : decode cX4_judge 30 = .ok (.iload_n 1, 1) := by decide +kernel
theorem dX4_judge_31 : decode cX4_judge 31 = .ok (.iload_n 3, 1) := by decide +kernel
theorem dX4_judge_32 : decode cX4_judge 32 = .ok (.aload_n 0, 1) := by decide +kernel
theorem dX4_judge_33 : decode cX4_judge 33 = .ok (.getfield 31, 3) := by decide +kernel
theorem dX4_judge_36 : decode cX4_judge 36 = .ok (.getfield 188, 3) := by decide +kernel
theorem dX4_judge_39 : decode cX4_judge 39 = .ok (.iload_n 2, 1) := by decide +kernel
theorem dX4_judge_40 : decode cX4_judge 40 = .ok (.iaload, 1) := by decide +kernel
theorem dX4_judge_41 : decode cX4_judge 41 = .ok (.invokevirtual 370, 3) := by decide +kernel
theorem dX4_judge_44 : decode cX4_judge 44 = .ok (.ireturn, 1) := by decide +kernel
theorem dX4_sumOfGrades_0 : decode cX4_sumOfGrades 0 = .ok (.iconst 0, 1) := by decide +kernel
theorem dX4_sumOfGrades_1 : decode cX4_sumOfGrades 1 = .ok (.istore_n 2, 1) := by decide +kernel
theorem dX4_sumOfGrades_2 : decode cX4_sumOfGrades 2 = .ok (.iconst 0, 1) := by decide +kernel
theorem dX4_sumOfGrades_3 : decode cX4_sumOfGrades 3 = .ok (.istore_n 3, 1) := by decide +kernel
theorem dX4_sumOfGrades_4 : decode cX4_sumOfGrades 4 = .ok (.iload_n 3, 1) := by decide +kernel
theorem dX4_sumOfGrades_5 : decode cX4_sumOfGrades 5 = .ok (.aload_n 0, 1) := by decide +kernel
theorem dX4_sumOfGrades_6 : decode cX4_sumOfGrades 6 = .ok (.getfield 31, 3) := by decide +kernel
theorem dX4_sumOfGrades_9 : decode cX4_sumOfGrades 9 = .ok (.getfield 56, 3) := by decide +kernel
theorem dX4_sumOfGrades_12 : decode cX4_sumOfGrades 12 = .ok (.if_icmp .ge 18, 3) := by decide +kernel
theorem dX4_sumOfGrades_15 : decode cX4_sumOfGrades 15 = .ok (.iload_n 2, 1) := by decide +kernel
theorem dX4_sumOfGrades_16 : decode cX4_sumOfGrades 16 = .ok (.aload_n 0, 1) := by decide +kernel
theorem dX4_sumOfGrades_17 : decode cX4_sumOfGrades 17 = .ok (.iload_n 1, 1) := by decide +kernel
theorem dX4_sumOfGrades_18 : decode cX4_sumOfGrades 18 = .ok (.iload_n 3, 1) := by decide +kernel
theorem dX4_sumOfGrades_19 : decode cX4_sumOfGrades 19 = .ok (.invokevirtual 212, 3) := by decide +kernel
theorem dX4_sumOfGrades_22 : decode cX4_sumOfGrades 22 = .ok (.iadd, 1) := by decide +kernel
theorem dX4_sumOfGrades_23 : decode cX4_sumOfGrades 23 = .ok (.istore_n 2, 1) := by decide +kernel
theorem dX4_sumOfGrades_24 : decode cX4_sumOfGrades 24 = .ok (.iinc 3 1, 3) := by decide +kernel
theorem dX4_sumOfGrades_27 : decode cX4_sumOfGrades 27 = .ok (.goto (-23), 3) := by decide +kernel
theorem dX4_sumOfGrades_30 : decode cX4_sumOfGrades 30 = .ok (.iload_n 2, 1) := by decide +kernel
theorem dX4_sumOfGrades_31 : decode cX4_sumOfGrades 31 = .ok (.ireturn, 1) := by decide +kernel
theorem dX4_isTopic_0 : decode cX4_isTopic 0 = .ok (.iload_n 0, 1) := by decide +kernel
theorem dX4_isTopic_1 : decode cX4_isTopic 1 = .ok (.ifCond .lt 13, 3) := by decide +kernel
theorem dX4_isTopic_4 : decode cX4_isTopic 4 = .ok (.iload_n 0, 1) := by decide +kernel
theorem dX4_isTopic_5 : decode cX4_isTopic 5 = .ok (.bipush 8, 2) := by decide +kernel
theorem dX4_isTopic_7 : decode cX4_isTopic 7 = .ok (.if_icmp .ge 7, 3) := by decide +kernel
theorem dX4_isTopic_10 : decode cX4_isTopic 10 = .ok (.iconst 1, 1) := by decide +kernel
theorem dX4_isTopic_11 : decode cX4_isTopic 11 = .ok (.goto 4, 3) := by decide +kernel
theorem dX4_isTopic_14 : decode cX4_isTopic 14 = .ok (.iconst 0, 1) := by decide +kernel
theorem dX4_isTopic_15 : decode cX4_isTopic 15 = .ok (.ireturn, 1) := by decide +kernel
theorem dX4_needFloor_0 : decode cX4_needFloor 0 = .ok (.iload_n 1, 1) := by decide +kernel
theorem dX4_needFloor_1 : decode cX4_needFloor 1 = .ok (.ifCond .lt 14, 3) := by decide +kernel
theorem dX4_needFloor_4 : decode cX4_needFloor 4 = .ok (.iload_n 1, 1) := by decide +kernel
theorem dX4_needFloor_5 : decode cX4_needFloor 5 = .ok (.aload_n 0, 1) := by decide +kernel
theorem dX4_needFloor_6 : decode cX4_needFloor 6 = .ok (.getfield 12, 3) := by decide +kernel
theorem dX4_needFloor_9 : decode cX4_needFloor 9 = .ok (.getfield 148, 3) := by decide +kernel
theorem dX4_needFloor_12 : decode cX4_needFloor 12 = .ok (.if_icmp .lt 14, 3) := by decide +kernel
theorem dX4_needFloor_15 : decode cX4_needFloor 15 = .ok (.new 372, 3) := by decide +kernel
theorem dX4_needFloor_18 : decode cX4_needFloor 18 = .ok (.dup, 1) := by decide +kernel
theorem dX4_needFloor_19 : decode cX4_needFloor 19 = .ok (.ldc_w 374, 3) := by decide +kernel
theorem dX4_needFloor_22 : decode cX4_needFloor 22 = .ok (.invokespecial 376, 3) := by decide +kernel
theorem dX4_needFloor_25 : decode cX4_needFloor 25 = .ok (.athrow, 1) := by decide +kernel
theorem dX4_needFloor_26 : decode cX4_needFloor 26 = .ok (.return_, 1) := by decide +kernel
theorem dX4_needParagraph_0 : decode cX4_needParagraph 0 = .ok (.aload_n 0, 1) := by decide +kernel
theorem dX4_needParagraph_1 : decode cX4_needParagraph 1 = .ok (.iload_n 1, 1) := by decide +kernel
theorem dX4_needParagraph_2 : decode cX4_needParagraph 2 = .ok (.invokevirtual 64, 3) := by decide +kernel
theorem dX4_needParagraph_5 : decode cX4_needParagraph 5 = .ok (.iload_n 2, 1) := by decide +kernel
theorem dX4_needParagraph_6 : decode cX4_needParagraph 6 = .ok (.ifCond .lt 16, 3) := by decide +kernel
theorem dX4_needParagraph_9 : decode cX4_needParagraph 9 = .ok (.iload_n 2, 1) := by decide +kernel
theorem dX4_needParagraph_10 : decode cX4_needParagraph 10 = .ok (.aload_n 0, 1) := by decide +kernel
theorem dX4_needParagraph_11 : decode cX4_needParagraph 11 = .ok (.getfield 12, 3) := by decide +kernel
theorem dX4_needParagraph_14 : decode cX4_needParagraph 14 = .ok (.getfield 73, 3) := by decide +kernel
theorem dX4_needParagraph_17 : decode cX4_needParagraph 17 = .ok (.iload_n 1, 1) := by decide +kernel
theorem dX4_needParagraph_18 : decode cX4_needParagraph 18 = .ok (.iaload, 1) := by decide +kernel
theorem dX4_needParagraph_19 : decode cX4_needParagraph 19 = .ok (.if_icmp .lt 14, 3) := by decide +kernel
theorem dX4_needParagraph_22 : decode cX4_needParagraph 22 = .ok (.new 372, 3) := by decide +kernel
theorem dX4_needParagraph_25 : decode cX4_needParagraph 25 = .ok (.dup, 1) := by decide +kernel
theorem dX4_needParagraph_26 : decode cX4_needParagraph 26 = .ok (.ldc_w 377, 3) := by decide +kernel
theorem dX4_needParagraph_29 : decode cX4_needParagraph 29 = .ok (.invokespecial 376, 3) := by decide +kernel
theorem dX4_needParagraph_32 : decode cX4_needParagraph 32 = .ok (.athrow, 1) := by decide +kernel
theorem dX4_needParagraph_33 : decode cX4_needParagraph 33 = .ok (.return_, 1) := by decide +kernel
theorem dX4_needTopic_0 : decode cX4_needTopic 0 = .ok (.iload_n 0, 1) := by decide +kernel
theorem dX4_needTopic_1 : decode cX4_needTopic 1 = .ok (.invokestatic 67, 3) := by decide +kernel
theorem dX4_needTopic_4 : decode cX4_needTopic 4 = .ok (.ifCond .ne 14, 3) := by decide +kernel
theorem dX4_needTopic_7 : decode cX4_needTopic 7 = .ok (.new 372, 3) := by decide +kernel
theorem dX4_needTopic_10 : decode cX4_needTopic 10 = .ok (.dup, 1) := by decide +kernel
theorem dX4_needTopic_11 : decode cX4_needTopic 11 = .ok (.ldc_w 379, 3) := by decide +kernel
theorem dX4_needTopic_14 : decode cX4_needTopic 14 = .ok (.invokespecial 376, 3) := by decide +kernel
theorem dX4_needTopic_17 : decode cX4_needTopic 17 = .ok (.athrow, 1) := by decide +kernel
theorem dX4_needTopic_18 : decode cX4_needTopic 18 = .ok (.return_, 1) := by decide +kernel
theorem dX4_needInstalment_0 : decode cX4_needInstalment 0 = .ok (.iload_n 1, 1) := by decide +kernel
theorem dX4_needInstalment_1 : decode cX4_needInstalment 1 = .ok (.ifCond .lt 14, 3) := by decide +kernel
theorem dX4_needInstalment_4 : decode cX4_needInstalment 4 = .ok (.iload_n 1, 1) := by decide +kernel
theorem dX4_needInstalment_5 : decode cX4_needInstalment 5 = .ok (.aload_n 0, 1) := by decide +kernel
theorem dX4_needInstalment_6 : decode cX4_needInstalment 6 = .ok (.getfield 31, 3) := by decide +kernel
theorem dX4_needInstalment_9 : decode cX4_needInstalment 9 = .ok (.getfield 56, 3) := by decide +kernel
theorem dX4_needInstalment_12 : decode cX4_needInstalment 12 = .ok (.if_icmp .lt 14, 3) := by decide +kernel
theorem dX4_needInstalment_15 : decode cX4_needInstalment 15 = .ok (.new 372, 3) := by decide +kernel
theorem dX4_needInstalment_18 : decode cX4_needInstalment 18 = .ok (.dup, 1) := by decide +kernel
theorem dX4_needInstalment_19 : decode cX4_needInstalment 19 = .ok (.ldc_w 381, 3) := by decide +kernel
theorem dX4_needInstalment_22 : decode cX4_needInstalment 22 = .ok (.invokespecial 376, 3) := by decide +kernel
theorem dX4_needInstalment_25 : decode cX4_needInstalment 25 = .ok (.athrow, 1) := by decide +kernel
theorem dX4_needInstalment_26 : decode cX4_needInstalment 26 = .ok (.return_, 1) := by decide +kernel
theorem dX4_needReader_0 : decode cX4_needReader 0 = .ok (.iload_n 1, 1) := by decide +kernel
theorem dX4_needReader_1 : decode cX4_needReader 1 = .ok (.ifCond .lt 14, 3) := by decide +kernel
theorem dX4_needReader_4 : decode cX4_needReader 4 = .ok (.iload_n 1, 1) := by decide +kernel
theorem dX4_needReader_5 : decode cX4_needReader 5 = .ok (.aload_n 0, 1) := by decide +kernel
theorem dX4_needReader_6 : decode cX4_needReader 6 = .ok (.getfield 12, 3) := by decide +kernel
theorem dX4_needReader_9 : decode cX4_needReader 9 = .ok (.getfield 100, 3) := by decide +kernel
theorem dX4_needReader_12 : decode cX4_needReader 12 = .ok (.if_icmp .lt 14, 3) := by decide +kernel
theorem dX4_needReader_15 : decode cX4_needReader 15 = .ok (.new 372, 3) := by decide +kernel
theorem dX4_needReader_18 : decode cX4_needReader 18 = .ok (.dup, 1) := by decide +kernel
theorem dX4_needReader_19 : decode cX4_needReader 19 = .ok (.ldc_w 383, 3) := by decide +kernel
theorem dX4_needReader_22 : decode cX4_needReader 22 = .ok (.invokespecial 376, 3) := by decide +kernel
theorem dX4_needReader_25 : decode cX4_needReader 25 = .ok (.athrow, 1) := by decide +kernel
theorem dX4_needReader_26 : decode cX4_needReader 26 = .ok (.return_, 1) := by decide +kernel
theorem dX4_needMirror_0 : decode cX4_needMirror 0 = .ok (.iload_n 1, 1) := by decide +kernel
theorem dX4_needMirror_1 : decode cX4_needMirror 1 = .ok (.ifCond .lt 14, 3) := by decide +kernel
theorem dX4_needMirror_4 : decode cX4_needMirror 4 = .ok (.iload_n 1, 1) := by decide +kernel
theorem dX4_needMirror_5 : decode cX4_needMirror 5 = .ok (.aload_n 0, 1) := by decide +kernel
theorem dX4_needMirror_6 : decode cX4_needMirror 6 = .ok (.getfield 38, 3) := by decide +kernel
theorem dX4_needMirror_9 : decode cX4_needMirror 9 = .ok (.getfield 116, 3) := by decide +kernel
theorem dX4_needMirror_12 : decode cX4_needMirror 12 = .ok (.if_icmp .lt 14, 3) := by decide +kernel
theorem dX4_needMirror_15 : decode cX4_needMirror 15 = .ok (.new 372, 3) := by decide +kernel
theorem dX4_needMirror_18 : decode cX4_needMirror 18 = .ok (.dup, 1) := by decide +kernel
theorem dX4_needMirror_19 : decode cX4_needMirror 19 = .ok (.ldc_w 385, 3) := by decide +kernel
theorem dX4_needMirror_22 : decode cX4_needMirror 22 = .ok (.invokespecial 376, 3) := by decide +kernel
theorem dX4_needMirror_25 : decode cX4_needMirror 25 = .ok (.athrow, 1) := by decide +kernel
theorem dX4_needMirror_26 : decode cX4_needMirror 26 = .ok (.return_, 1) := by decide +kernel
theorem dX4_needForeseeable_0 : decode cX4_needForeseeable 0 = .ok (.iload_n 0, 1) := by decide +kernel
theorem dX4_needForeseeable_1 : decode cX4_needForeseeable 1 = .ok (.iconst 1, 1) := by decide +kernel
theorem dX4_needForeseeable_2 : decode cX4_needForeseeable 2 = .ok (.if_icmp .lt 9, 3) := by decide +kernel
theorem dX4_needForeseeable_5 : decode cX4_needForeseeable 5 = .ok (.iload_n 0, 1) := by decide +kernel
theorem dX4_needForeseeable_6 : decode cX4_needForeseeable 6 = .ok (.bipush 40, 2) := by decide +kernel
theorem dX4_needForeseeable_8 : decode cX4_needForeseeable 8 = .ok (.if_icmp .le 14, 3) := by decide +kernel
theorem dX4_needForeseeable_11 : decode cX4_needForeseeable 11 = .ok (.new 42, 3) := by decide +kernel
theorem dX4_needForeseeable_14 : decode cX4_needForeseeable 14 = .ok (.dup, 1) := by decide +kernel
theorem dX4_needForeseeable_15 : decode cX4_needForeseeable 15 = .ok (.ldc_w 387, 3) := by decide +kernel
theorem dX4_needForeseeable_18 : decode cX4_needForeseeable 18 = .ok (.invokespecial 46, 3) := by decide +kernel
theorem dX4_needForeseeable_21 : decode cX4_needForeseeable 21 = .ok (.athrow, 1) := by decide +kernel
theorem dX4_needForeseeable_22 : decode cX4_needForeseeable 22 = .ok (.return_, 1) := by decide +kernel
theorem dX5_init_0 : decode cX5_init 0 = .ok (.aload_n 0, 1) := by decide +kernel
theorem dX5_init_1 : decode cX5_init 1 = .ok (.invokespecial 1, 3) := by decide +kernel
theorem dX5_init_4 : decode cX5_init 4 = .ok (.aload_n 0, 1) := by decide +kernel
theorem dX5_init_5 : decode cX5_init 5 = .ok (.bipush 6, 2) := by decide +kernel
theorem dX5_init_7 : decode cX5_init 7 = .ok (.putfield 7, 3) := by decide +kernel
theorem dX5_init_10 : decode cX5_init 10 = .ok (.aload_n 0, 1) := by decide +kernel
theorem dX5_init_11 : decode cX5_init 11 = .ok (.bipush 20, 2) := by decide +kernel
theorem dX5_init_13 : decode cX5_init 13 = .ok (.putfield 13, 3) := by decide +kernel
theorem dX5_init_16 : decode cX5_init 16 = .ok (.aload_n 0, 1) := by decide +kernel
theorem dX5_init_17 : decode cX5_init 17 = .ok (.bipush 12, 2) := by decide +kernel
theorem dX5_init_19 : decode cX5_init 19 = .ok (.newarray .int, 2) := by decide +kernel
theorem dX5_init_21 : decode cX5_init 21 = .ok (.putfield 16, 3) := by decide +kernel
theorem dX5_init_24 : decode cX5_init 24 = .ok (.aload_n 0, 1) := by decide +kernel
theorem dX5_init_25 : decode cX5_init 25 = .ok (.bipush 108, 2) := by decide +kernel
theorem dX5_init_27 : decode cX5_init 27 = .ok (.newarray .int, 2) := by decide +kernel
theorem dX5_init_29 : decode cX5_init 29 = .ok (.putfield 20, 3) := by decide +kernel
theorem dX5_init_32 : decode cX5_init 32 = .ok (.aload_n 0, 1) := by decide +kernel
theorem dX5_init_33 : decode cX5_init 33 = .ok (.bipush 108, 2) := by decide +kernel
theorem dX5_init_35 : decode cX5_init 35 = .ok (.newarray .int, 2) := by decide +kernel
theorem dX5_init_37 : decode cX5_init 37 = .ok (.putfield 23, 3) := by decide +kernel
theorem dX5_init_40 : decode cX5_init 40 = .ok (.aload_n 0, 1) := by decide +kernel
theorem dX5_init_41 : decode cX5_init 41 = .ok (.bipush 8, 2) := by decide +kernel
theorem dX5_init_43 : decode cX5_init 43 = .ok (.newarray .int, 2) := by decide +kernel
theorem dX5_init_45 : decode cX5_init 45 = .ok (.putfield 26, 3) := by decide +kernel
theorem dX5_init_48 : decode cX5_init 48 = .ok (.aload_n 0, 1) := by decide +kernel
theorem dX5_init_49 : decode cX5_init 49 = .ok (.iconst 4, 1) := by decide +kernel
theorem dX5_init_50 : decode cX5_init 50 = .ok (.newarray .int, 2) := by decide +kernel
theorem dX5_init_52 : decode cX5_init 52 = .ok (.putfield 29, 3) := by decide +kernel
theorem dX5_init_55 : decode cX5_init 55 = .ok (.aload_n 0, 1) := by decide +kernel
theorem dX5_init_56 : decode cX5_init 56 = .ok (.iconst 4, 1) := by decide +kernel
theorem dX5_init_57 : decode cX5_init 57 = .ok (.newarray .int, 2) := by decide +kernel
theorem dX5_init_59 : decode cX5_init 59 = .ok (.putfield 32, 3) := by decide +kernel
theorem dX5_init_62 : decode cX5_init 62 = .ok (.aload_n 0, 1) := by decide +kernel
theorem dX5_init_63 : decode cX5_init 63 = .ok (.bipush 108, 2) := by decide +kernel
theorem dX5_init_65 : decode cX5_init 65 = .ok (.newarray .int, 2) := by decide +kernel
theorem dX5_init_67 : decode cX5_init 67 = .ok (.putfield 35, 3) := by decide +kernel
theorem dX5_init_70 : decode cX5_init 70 = .ok (.aload_n 0, 1) := by decide +kernel
theorem dX5_init_71 : decode cX5_init 71 = .ok (.bipush 108, 2) := by decide +kernel
theorem dX5_init_73 : decode cX5_init 73 = .ok (.newarray .int, 2) := by decide +kernel
theorem dX5_init_75 : decode cX5_init 75 = .ok (.putfield 38, 3) := by decide +kernel
theorem dX5_init_78 : decode cX5_init 78 = .ok (.aload_n 0, 1) := by decide +kernel
theorem dX5_init_79 : decode cX5_init 79 = .ok (.bipush 108, 2) := by decide +kernel
theorem dX5_init_81 : decode cX5_init 81 = .ok (.newarray .int, 2) := by decide +kernel
theorem dX5_init_83 : decode cX5_init 83 = .ok (.putfield 41, 3) := by decide +kernel
theorem dX5_init_86 : decode cX5_init 86 = .ok (.aload_n 0, 1) := by decide +kernel
theorem dX5_init_87 : decode cX5_init 87 = .ok (.bipush 41, 2) := by decide +kernel
theorem dX5_init_89 : decode cX5_init 89 = .ok (.newarray .int, 2) := by decide +kernel
theorem dX5_init_91 : decode cX5_init 91 = .ok (.putfield 44, 3) := by decide +kernel
theorem dX5_init_94 : decode cX5_init 94 = .ok (.aload_n 0, 1) := by decide +kernel
theorem dX5_init_95 : decode cX5_init 95 = .ok (.bipush 41, 2) := by decide +kernel
theorem dX5_init_97 : decode cX5_init 97 = .ok (.newarray .int, 2) := by decide +kernel
theorem dX5_init_99 : decode cX5_init 99 = .ok (.putfield 47, 3) := by decide +kernel
theorem dX5_init_102 : decode cX5_init 102 = .ok (.return_, 1) := by decide +kernel
theorem dX5_thrown_0 : decode cX5_thrown 0 = .ok (.aload_n 0, 1) := by decide +kernel
theorem dX5_thrown_1 : decode cX5_thrown 1 = .ok (.getfield 50, 3) := by decide +kernel
theorem dX5_thrown_4 : decode cX5_thrown 4 = .ok (.ireturn, 1) := by decide +kernel
theorem dX5_fail_0 : decode cX5_fail 0 = .ok (.aload_n 0, 1) := by decide +kernel
theorem dX5_fail_1 : decode cX5_fail 1 = .ok (.iload_n 1, 1) := by decide +kernel
theorem dX5_fail_2 : decode cX5_fail 2 = .ok (.putfield 50, 3) := by decide +kernel
theorem dX5_fail_5 : decode cX5_fail 5 = .ok (.iconst 0, 1) := by decide +kernel
theorem dX5_fail_6 : decode cX5_fail 6 = .ok (.ireturn, 1) := by decide +kernel
theorem dX5_told_0 : decode cX5_told 0 = .ok (.aload_n 0, 1) := by decide +kernel
theorem dX5_told_1 : decode cX5_told 1 = .ok (.iconst 0, 1) := by decide +kernel
theorem dX5_told_2 : decode cX5_told 2 = .ok (.putfield 50, 3) := by decide +kernel
theorem dX5_told_5 : decode cX5_told 5 = .ok (.iload_n 1, 1) := by decide +kernel
theorem dX5_told_6 : decode cX5_told 6 = .ok (.ireturn, 1) := by decide +kernel
theorem dX5_isIn_0 : decode cX5_isIn 0 = .ok (.iload_n 0, 1) := by decide +kernel
theorem dX5_isIn_1 : decode cX5_isIn 1 = .ok (.iload_n 1, 1) := by decide +kernel
theorem dX5_isIn_2 : decode cX5_isIn 2 = .ok (.if_icmp .lt 12, 3) := by decide +kernel
theorem dX5_isIn_5 : decode cX5_isIn 5 = .ok (.iload_n 0, 1) := by decide +kernel
theorem dX5_isIn_6 : decode cX5_isIn 6 = .ok (.iload_n 2, 1) := by decide +kernel
theorem dX5_isIn_7 : decode cX5_isIn 7 = .ok (.if_icmp .gt 7, 3) := by decide +kernel
theorem dX5_isIn_10 : decode cX5_isIn 10 = .ok (.iconst 1, 1) := by decide +kernel
theorem dX5_isIn_11 : decode cX5_isIn 11 = .ok (.goto 4, 3) := by decide +kernel
theorem dX5_isIn_14 : decode cX5_isIn 14 = .ok (.iconst 0, 1) := by decide +kernel
theorem dX5_isIn_15 : decode cX5_isIn 15 = .ok (.ireturn, 1) := by decide +kernel
theorem dX5_isFloor_0 : decode cX5_isFloor 0 = .ok (.iload_n 1, 1) := by decide +kernel
theorem dX5_isFloor_1 : decode cX5_isFloor 1 = .ok (.iconst 0, 1) := by decide +kernel
theorem dX5_isFloor_2 : decode cX5_isFloor 2 = .ok (.aload_n 0, 1) := by decide +kernel
theorem dX5_isFloor_3 : decode cX5_isFloor 3 = .ok (.getfield 7, 3) := by decide +kernel
theorem dX5_isFloor_6 : decode cX5_isFloor 6 = .ok (.iconst 1, 1) := by decide +kernel
theorem dX5_isFloor_7 : decode cX5_isFloor 7 = .ok (.isub, 1) := by decide +kernel
theorem dX5_isFloor_8 : decode cX5_isFloor 8 = .ok (.invokestatic 53, 3) := by decide +kernel
theorem dX5_isFloor_11 : decode cX5_isFloor 11 = .ok (.ireturn, 1) := by decide +kernel
theorem dX5_isTopic_0 : decode cX5_isTopic 0 = .ok (.iload_n 0, 1) := by decide +kernel
theorem dX5_isTopic_1 : decode cX5_isTopic 1 = .ok (.iconst 0, 1) := by decide +kernel
theorem dX5_isTopic_2 : decode cX5_isTopic 2 = .ok (.bipush 7, 2) := by decide +kernel
theorem dX5_isTopic_4 : decode cX5_isTopic 4 = .ok (.invokestatic 53, 3) := by decide +kernel
theorem dX5_isTopic_7 : decode cX5_isTopic 7 = .ok (.ireturn, 1) := by decide +kernel
theorem dX5_isReader_0 : decode cX5_isReader 0 = .ok (.iload_n 1, 1) := by decide +kernel
theorem dX5_isReader_1 : decode cX5_isReader 1 = .ok (.iconst 0, 1) := by decide +kernel
theorem dX5_isReader_2 : decode cX5_isReader 2 = .ok (.aload_n 0, 1) := by decide +kernel
theorem dX5_isReader_3 : decode cX5_isReader 3 = .ok (.getfield 57, 3) := by decide +kernel
theorem dX5_isReader_6 : decode cX5_isReader 6 = .ok (.iconst 1, 1) := by decide +kernel
theorem dX5_isReader_7 : decode cX5_isReader 7 = .ok (.isub, 1) := by decide +kernel
theorem dX5_isReader_8 : decode cX5_isReader 8 = .ok (.invokestatic 53, 3) := by decide +kernel
theorem dX5_isReader_11 : decode cX5_isReader 11 = .ok (.ireturn, 1) := by decide +kernel
theorem dX5_isMirror_0 : decode cX5_isMirror 0 = .ok (.iload_n 1, 1) := by decide +kernel
theorem dX5_isMirror_1 : decode cX5_isMirror 1 = .ok (.iconst 0, 1) := by decide +kernel
theorem dX5_isMirror_2 : decode cX5_isMirror 2 = .ok (.aload_n 0, 1) := by decide +kernel
theorem dX5_isMirror_3 : decode cX5_isMirror 3 = .ok (.getfield 60, 3) := by decide +kernel
theorem dX5_isMirror_6 : decode cX5_isMirror 6 = .ok (.iconst 1, 1) := by decide +kernel
theorem dX5_isMirror_7 : decode cX5_isMirror 7 = .ok (.isub, 1) := by decide +kernel
theorem dX5_isMirror_8 : decode cX5_isMirror 8 = .ok (.invokestatic 53, 3) := by decide +kernel
theorem dX5_isMirror_11 : decode cX5_isMirror 11 = .ok (.ireturn, 1) := by decide +kernel
theorem dX5_isInstalment_0 : decode cX5_isInstalment 0 = .ok (.iload_n 1, 1) := by decide +kernel
theorem dX5_isInstalment_1 : decode cX5_isInstalment 1 = .ok (.iconst 0, 1) := by decide +kernel
theorem dX5_isInstalment_2 : decode cX5_isInstalment 2 = .ok (.aload_n 0, 1) := by decide +kernel
theorem dX5_isInstalment_3 : decode cX5_isInstalment 3 = .ok (.getfield 44, 3) := by decide +kernel
theorem dX5_isInstalment_6 : decode cX5_isInstalment 6 = .ok (.bipush 8, 2) := by decide +kernel
theorem dX5_isInstalment_8 : decode cX5_isInstalment 8 = .ok (.iaload, 1) := by decide +kernel
theorem dX5_isInstalment_9 : decode cX5_isInstalment 9 = .ok (.iconst 1, 1) := by decide +kernel
theorem dX5_isInstalment_10 : decode cX5_isInstalment 10 = .ok (.isub, 1) := by decide +kernel
theorem dX5_isInstalment_11 : decode cX5_isInstalment 11 = .ok (.invokestatic 53, 3) := by decide +kernel
theorem dX5_isInstalment_14 : decode cX5_isInstalment 14 = .ok (.ireturn, 1) := by decide +kernel
theorem dX5_has_0 : decode cX5_has 0 = .ok (.iload_n 0, 1) := by decide +kernel
theorem dX5_has_1 : decode cX5_has 1 = .ok (.iload_n 1, 1) := by decide +kernel
theorem dX5_has_2 : decode cX5_has 2 = .ok (.ishr, 1) := by decide +kernel
theorem dX5_has_3 : decode cX5_has 3 = .ok (.iconst 1, 1) := by decide +kernel
theorem dX5_has_4 : decode cX5_has 4 = .ok (.iand, 1) := by decide +kernel
theorem dX5_has_5 : decode cX5_has 5 = .ok (.iconst 1, 1) := by decide +kernel
theorem dX5_has_6 : decode cX5_has 6 = .ok (.if_icmp .ne 7, 3) := by decide +kernel
theorem dX5_has_9 : decode cX5_has 9 = .ok (.iconst 1, 1) := by decide +kernel
theorem dX5_has_10 : decode cX5_has 10 = .ok (.goto 4, 3) := by decide +kernel
theorem dX5_has_13 : decode cX5_has 13 = .ok (.iconst 0, 1) := by decide +kernel
theorem dX5_has_14 : decode cX5_has 14 = .ok (.ireturn, 1) := by decide +kernel
theorem dX5_keep_0 : decode cX5_keep 0 = .ok (.aload_n 0, 1) := by decide +kernel
theorem dX5_keep_1 : decode cX5_keep 1 = .ok (.getfield 44, 3) := by decide +kernel
theorem dX5_keep_4 : decode cX5_keep 4 = .ok (.iconst 0, 1) := by decide +kernel
theorem dX5_keep_5 : decode cX5_keep 5 = .ok (.aload_n 0, 1) := by decide +kernel
theorem dX5_keep_6 : decode cX5_keep 6 = .ok (.getfield 47, 3) := by decide +kernel
theorem dX5_keep_9 : decode cX5_keep 9 = .ok (.iconst 0, 1) := by decide +kernel
theorem dX5_keep_10 : decode cX5_keep 10 = .ok (.bipush 41, 2) := by decide +kernel
theorem dX5_keep_12 : decode cX5_keep 12 = .ok (.invokestatic 63, 3) := by decide +kernel
theorem dX5_keep_15 : decode cX5_keep 15 = .ok (.return_, 1) := by decide +kernel
theorem dX5_bringBack_0 : decode cX5_bringBack 0 = .ok (.aload_n 0, 1) := by decide +kernel
theorem dX5_bringBack_1 : decode cX5_bringBack 1 = .ok (.getfield 47, 3) := by decide +kernel
theorem dX5_bringBack_4 : decode cX5_bringBack 4 = .ok (.iconst 0, 1) := by decide +kernel
theorem dX5_bringBack_5 : decode cX5_bringBack 5 = .ok (.aload_n 0, 1) := by decide +kernel
theorem dX5_bringBack_6 : decode cX5_bringBack 6 = .ok (.getfield 44, 3) := by decide +kernel
theorem dX5_bringBack_9 : decode cX5_bringBack 9 = .ok (.iconst 0, 1) := by decide +kernel
theorem dX5_bringBack_10 : decode cX5_bringBack 10 = .ok (.bipush 41, 2) := by decide +kernel
theorem dX5_bringBack_12 : decode cX5_bringBack 12 = .ok (.invokestatic 63, 3) := by decide +kernel
theorem dX5_bringBack_15 : decode cX5_bringBack 15 = .ok (.return_, 1) := by decide +kernel
theorem dX5_reads_0 : decode cX5_reads 0 = .ok (.aload_n 0, 1) := by decide +kernel
theorem dX5_reads_1 : decode cX5_reads 1 = .ok (.getfield 44, 3) := by decide +kernel
theorem dX5_reads_4 : decode cX5_reads 4 = .ok (.bipush 7, 2) := by decide +kernel
theorem dX5_reads_6 : decode cX5_reads 6 = .ok (.iaload, 1) := by decide +kernel
theorem dX5_reads_7 : decode cX5_reads 7 = .ok (.iload_n 1, 1) := by decide +kernel
theorem dX5_reads_8 : decode cX5_reads 8 = .ok (.invokestatic 69, 3) := by decide +kernel
theorem dX5_reads_11 : decode cX5_reads 11 = .ok (.ireturn, 1) := by decide +kernel
theorem dX5_print_0 : decode cX5_print 0 = .ok (.aload_n 0, 1) := by decide +kernel
theorem dX5_print_1 : decode cX5_print 1 = .ok (.getfield 23, 3) := by decide +kernel
theorem dX5_print_4 : decode cX5_print 4 = .ok (.iload_n 1, 1) := by decide +kernel
theorem dX5_print_5 : decode cX5_print 5 = .ok (.iaload, 1) := by decide +kernel
theorem dX5_print_6 : decode cX5_print 6 = .ok (.aload_n 0, 1) := by decide +kernel
theorem dX5_print_7 : decode cX5_print 7 = .ok (.getfield 44, 3) := by decide +kernel
theorem dX5_print_10 : decode cX5_print 10 = .ok (.iconst 5, 1) := by decide +kernel
theorem dX5_print_11 : decode cX5_print 11 = .ok (.iaload, 1) := by decide +kernel
theorem dX5_print_12 : decode cX5_print 12 = .ok (.iadd, 1) := by decide +kernel
theorem dX5_print_13 : decode cX5_print 13 = .ok (.istore_n 2, 1) := by decide +kernel
theorem dX5_print_14 : decode cX5_print 14 = .ok (.aload_n 0, 1) := by decide +kernel
theorem dX5_print_15 : decode cX5_print 15 = .ok (.getfield 44, 3) := by decide +kernel
theorem dX5_print_18 : decode cX5_print 18 = .ok (.iconst 5, 1) := by decide +kernel
theorem dX5_print_19 : decode cX5_print 19 = .ok (.iconst 0, 1) := by decide +kernel
theorem dX5_print_20 : decode cX5_print 20 = .ok (.iastore, 1) := by decide +kernel
theorem dX5_print_21 : decode cX5_print 21 = .ok (.aload_n 0, 1) := by decide +kernel
theorem dX5_print_22 : decode cX5_print 22 = .ok (.getfield 35, 3) := by decide +kernel
theorem dX5_print_25 : decode cX5_print 25 = .ok (.aload_n 0, 1) := by decide +kernel
theorem dX5_print_26 : decode cX5_print 26 = .ok (.getfield 44, 3) := by decide +kernel
theorem dX5_print_29 : decode cX5_print 29 = .ok (.bipush 8, 2) := by decide +kernel
theorem dX5_print_31 : decode cX5_print 31 = .ok (.iaload, 1) := by decide +kernel
theorem dX5_print_32 : decode cX5_print 32 = .ok (.iload_n 1, 1) := by decide +kernel
theorem dX5_print_33 : decode cX5_print 33 = .ok (.iastore, 1) := by decide +kernel
theorem dX5_print_34 : decode cX5_print 34 = .ok (.aload_n 0, 1) := by decide +kernel
theorem dX5_print_35 : decode cX5_print 35 = .ok (.getfield 38, 3) := by decide +kernel
theorem dX5_print_38 : decode cX5_print 38 = .ok (.aload_n 0, 1) := by decide +kernel
theorem dX5_print_39 : decode cX5_print 39 = .ok (.getfield 44, 3) := by decide +kernel
theorem dX5_print_42 : decode cX5_print 42 = .ok (.bipush 8, 2) := by decide +kernel
theorem dX5_print_44 : decode cX5_print 44 = .ok (.iaload, 1) := by decide +kernel
theorem dX5_print_45 : decode cX5_print 45 = .ok (.iload_n 2, 1) := by decide +kernel
theorem dX5_print_46 : decode cX5_print 46 = .ok (.iastore, 1) := by decide +kernel
theorem dX5_print_47 : decode cX5_print 47 = .ok (.aload_n 0, 1) := by decide +kernel
theorem dX5_print_48 : decode cX5_print 48 = .ok (.getfield 41, 3) := by decide +kernel
theorem dX5_print_51 : decode cX5_print 51 = .ok (.aload_n 0, 1) := by decide +kernel
theorem dX5_print_52 : decode cX5_print 52 = .ok (.getfield 44, 3) := by decide +kernel
theorem dX5_print_55 : decode cX5_print 55 = .ok (.bipush 8, 2) := by decide +kernel
theorem dX5_print_57 : decode cX5_print 57 = .ok (.iaload, 1) := by decide +kernel
theorem dX5_print_58 : decode cX5_print 58 = .ok (.aload_n 0, 1) := by decide +kernel
theorem dX5_print_59 : decode cX5_print 59 = .ok (.getfield 44, 3) := by decide +kernel
theorem dX5_print_62 : decode cX5_print 62 = .ok (.iconst 0, 1) := by decide +kernel
theorem dX5_print_63 : decode cX5_print 63 = .ok (.iaload, 1) := by decide +kernel
theorem dX5_print_64 : decode cX5_print 64 = .ok (.iastore, 1) := by decide +kernel
theorem dX5_print_65 : decode cX5_print 65 = .ok (.aload_n 0, 1) := by decide +kernel
theorem dX5_print_66 : decode cX5_print 66 = .ok (.getfield 44, 3) := by decide +kernel
theorem dX5_print_69 : decode cX5_print 69 = .ok (.bipush 8, 2) := by decide +kernel
theorem dX5_print_71 : decode cX5_print 71 = .ok (.dup2, 1) := by decide +kernel
theorem dX5_print_72 : decode cX5_print 72 = .ok (.iaload, 1) := by decide +kernel
theorem dX5_print_73 : decode cX5_print 73 = .ok (.iconst 1, 1) := by decide +kernel
theorem dX5_print_74 : decode cX5_print 74 = .ok (.iadd, 1) := by decide +kernel
theorem dX5_print_75 : decode cX5_print 75 = .ok (.iastore, 1) := by decide +kernel
theorem dX5_print_76 : decode cX5_print 76 = .ok (.iconst 0, 1) := by decide +kernel
theorem dX5_print_77 : decode cX5_print 77 = .ok (.istore_n 3, 1) := by decide +kernel
theorem dX5_print_78 : decode cX5_print 78 = .ok (.iload_n 3, 1) := by decide +kernel
theorem dX5_print_79 : decode cX5_print 79 = .ok (.aload_n 0, 1) := by decide +kernel
theorem dX5_print_80 : decode cX5_print 80 = .ok (.getfield 57, 3) := by decide +kernel
theorem dX5_print_83 : decode cX5_print 83 = .ok (.if_icmp .ge 63, 3) := by decide +kernel
theorem dX5_print_86 : decode cX5_print 86 = .ok (.aload_n 0, 1) := by decide +kernel
theorem dX5_print_87 : decode cX5_print 87 = .ok (.iload_n 3, 1) := by decide +kernel
theorem dX5_print_88 : decode cX5_print 88 = .ok (.invokevirtual 73, 3) := by decide +kernel
theorem dX5_print_91 : decode cX5_print 91 = .ok (.ifCond .eq 49, 3) := by decide +kernel
theorem dX5_print_94 : decode cX5_print 94 = .ok (.aload_n 0, 1) := by decide +kernel
theorem dX5_print_95 : decode cX5_print 95 = .ok (.getfield 44, 3) := by decide +kernel
theorem dX5_print_98 : decode cX5_print 98 = .ok (.bipush 33, 2) := by decide +kernel
theorem dX5_print_100 : decode cX5_print 100 = .ok (.iload_n 3, 1) := by decide +kernel
theorem dX5_print_101 : decode cX5_print 101 = .ok (.iadd, 1) := by decide +kernel
theorem dX5_print_102 : decode cX5_print 102 = .ok (.bipush 99, 2) := by decide +kernel
theorem dX5_print_104 : decode cX5_print 104 = .ok (.aload_n 0, 1) := by decide +kernel
theorem dX5_print_105 : decode cX5_print 105 = .ok (.getfield 44, 3) := by decide +kernel
theorem dX5_print_108 : decode cX5_print 108 = .ok (.bipush 33, 2) := by decide +kernel
theorem dX5_print_110 : decode cX5_print 110 = .ok (.iload_n 3, 1) := by decide +kernel
theorem dX5_print_111 : decode cX5_print 111 = .ok (.iadd, 1) := by decide +kernel
theorem dX5_print_112 : decode cX5_print 112 = .ok (.iaload, 1) := by decide +kernel
theorem dX5_print_113 : decode cX5_print 113 = .ok (.aload_n 0, 1) := by decide +kernel
theorem dX5_print_114 : decode cX5_print 114 = .ok (.getfield 20, 3) := by decide +kernel
theorem dX5_print_117 : decode cX5_print 117 = .ok (.iload_n 1, 1) := by decide +kernel
theorem dX5_print_118 : decode cX5_print 118 = .ok (.iaload, 1) := by decide +kernel
theorem dX5_print_119 : decode cX5_print 119 = .ok (.aload_n 0, 1) := by decide +kernel
theorem dX5_print_120 : decode cX5_print 120 = .ok (.getfield 26, 3) := by decide +kernel
theorem dX5_print_123 : decode cX5_print 123 = .ok (.iload_n 3, 1) := by decide +kernel
theorem dX5_print_124 : decode cX5_print 124 = .ok (.iaload, 1) := by decide +kernel
theorem dX5_print_125 : decode cX5_print 125 = .ok (.if_icmp .ne 7, 3) := by decide +kernel
theorem dX5_print_128 : decode cX5_print 128 = .ok (.iload_n 2, 1) := by decide +kernel
theorem dX5_print_129 : decode cX5_print 129 = .ok (.goto 6, 3) := by decide +kernel
theorem dX5_print_132 : decode cX5_print 132 = .ok (.iload_n 2, 1) := by decide +kernel
theorem dX5_print_133 : decode cX5_print 133 = .ok (.iconst 3, 1) := by decide +kernel
theorem dX5_print_134 : decode cX5_print 134 = .ok (.idiv, 1) := by decide +kernel
theorem dX5_print_135 : decode cX5_print 135 = .ok (.iadd, 1) := by decide +kernel
theorem dX5_print_136 : decode cX5_print 136 = .ok (.invokestatic 77, 3) := by decide +kernel
theorem dX5_print_139 : decode cX5_print 139 = .ok (.iastore, 1) := by decide +kernel
theorem dX5_print_140 : decode cX5_print 140 = .ok (.iinc 3 1, 3) := by decide +kernel
theorem dX5_print_143 : decode cX5_print 143 = .ok (.goto (-65), 3) := by decide +kernel
theorem dX5_print_146 : decode cX5_print 146 = .ok (.return_, 1) := by decide +kernel
theorem dX5_stop_0 : decode cX5_stop 0 = .ok (.aload_n 0, 1) := by decide +kernel
theorem dX5_stop_1 : decode cX5_stop 1 = .ok (.getfield 44, 3) := by decide +kernel
theorem dX5_stop_4 : decode cX5_stop 4 = .ok (.iconst 1, 1) := by decide +kernel
theorem dX5_stop_5 : decode cX5_stop 5 = .ok (.iaload, 1) := by decide +kernel
theorem dX5_stop_6 : decode cX5_stop 6 = .ok (.istore_n 1, 1) := by decide +kernel
theorem dX5_stop_7 : decode cX5_stop 7 = .ok (.aload_n 0, 1) := by decide +kernel
theorem dX5_stop_8 : decode cX5_stop 8 = .ok (.iload_n 1, 1) := by decide +kernel
theorem dX5_stop_9 : decode cX5_stop 9 = .ok (.putfield 83, 3) := by decide +kernel
theorem dX5_stop_12 : decode cX5_stop 12 = .ok (.aload_n 0, 1) := by decide +kernel
theorem dX5_stop_13 : decode cX5_stop 13 = .ok (.getfield 44, 3) := by decide +kernel
theorem dX5_stop_16 : decode cX5_stop 16 = .ok (.bipush 6, 2) := by decide +kernel
theorem dX5_stop_18 : decode cX5_stop 18 = .ok (.dup2, 1) := by decide +kernel
theorem dX5_stop_19 : decode cX5_stop 19 = .ok (.iaload, 1) := by decide +kernel
theorem dX5_stop_20 : decode cX5_stop 20 = .ok (.iconst 1, 1) := by decide +kernel
theorem dX5_stop_21 : decode cX5_stop 21 = .ok (.iload_n 1, 1) := by decide +kernel
theorem dX5_stop_22 : decode cX5_stop 22 = .ok (.ishl, 1) := by decide +kernel
theorem dX5_stop_23 : decode cX5_stop 23 = .ok (.iconst (-1), 1) := by decide +kernel
theorem dX5_stop_24 : decode cX5_stop 24 = .ok (.ixor, 1) := by decide +kernel
theorem dX5_stop_25 : decode cX5_stop 25 = .ok (.iand, 1) := by decide +kernel
theorem dX5_stop_26 : decode cX5_stop 26 = .ok (.iastore, 1) := by decide +kernel
theorem dX5_stop_27 : decode cX5_stop 27 = .ok (.aload_n 0, 1) := by decide +kernel
theorem dX5_stop_28 : decode cX5_stop 28 = .ok (.getfield 44, 3) := by decide +kernel
theorem dX5_stop_31 : decode cX5_stop 31 = .ok (.bipush 9, 2) := by decide +kernel
theorem dX5_stop_33 : decode cX5_stop 33 = .ok (.iload_n 1, 1) := by decide +kernel
theorem dX5_stop_34 : decode cX5_stop 34 = .ok (.iadd, 1) := by decide +kernel
theorem dX5_stop_35 : decode cX5_stop 35 = .ok (.iaload, 1) := by decide +kernel
theorem dX5_stop_36 : decode cX5_stop 36 = .ok (.aload_n 0, 1) := by decide +kernel
theorem dX5_stop_37 : decode cX5_stop 37 = .ok (.getfield 16, 3) := by decide +kernel
theorem dX5_stop_40 : decode cX5_stop 40 = .ok (.iload_n 1, 1) := by decide +kernel
theorem dX5_stop_41 : decode cX5_stop 41 = .ok (.iaload, 1) := by decide +kernel
theorem dX5_stop_42 : decode cX5_stop 42 = .ok (.if_icmp .ne 4, 3) := by decide +kernel
theorem dX5_stop_45 : decode cX5_stop 45 = .ok (.return_, 1) := by decide +kernel
theorem dX5_stop_46 : decode cX5_stop 46 = .ok (.bipush 9, 2) := by decide +kernel
theorem dX5_stop_48 : decode cX5_stop 48 = .ok (.iload_n 1, 1) := by decide +kernel
theorem dX5_stop_49 : decode cX5_stop 49 = .ok (.imul, 1) := by decide +kernel
theorem dX5_stop_50 : decode cX5_stop 50 = .ok (.aload_n 0, 1) := by decide +kernel
theorem dX5_stop_51 : decode cX5_stop 51 = .ok (.getfield 44, 3) := by decide +kernel
theorem dX5_stop_54 : decode cX5_stop 54 = .ok (.bipush 9, 2) := by decide +kernel
theorem dX5_stop_56 : decode cX5_stop 56 = .ok (.iload_n 1, 1) := by decide +kernel
theorem dX5_stop_57 : decode cX5_stop 57 = .ok (.iadd, 1) := by decide +kernel
theorem dX5_stop_58 : decode cX5_stop 58 = .ok (.iaload, 1) := by decide +kernel
theorem dX5_stop_59 : decode cX5_stop 59 = .ok (.iadd, 1) := by decide +kernel
theorem dX5_stop_60 : decode cX5_stop 60 = .ok (.istore_n 2, 1) := by decide +kernel
theorem dX5_stop_61 : decode cX5_stop 61 = .ok (.aload_n 0, 1) := by decide +kernel
theorem dX5_stop_62 : decode cX5_stop 62 = .ok (.getfield 44, 3) := by decide +kernel
theorem dX5_stop_65 : decode cX5_stop 65 = .ok (.bipush 9, 2) := by decide +kernel
theorem dX5_stop_67 : decode cX5_stop 67 = .ok (.iload_n 1, 1) := by decide +kernel
theorem dX5_stop_68 : decode cX5_stop 68 = .ok (.iadd, 1) := by decide +kernel
theorem dX5_stop_69 : decode cX5_stop 69 = .ok (.dup2, 1) := by decide +kernel
theorem dX5_stop_70 : decode cX5_stop 70 = .ok (.iaload, 1) := by decide +kernel
theorem dX5_stop_71 : decode cX5_stop 71 = .ok (.iconst 1, 1) := by decide +kernel
theorem dX5_stop_72 : decode cX5_stop 72 = .ok (.iadd, 1) := by decide +kernel
theorem dX5_stop_73 : decode cX5_stop 73 = .ok (.iastore, 1) := by decide +kernel
theorem dX5_stop_74 : decode cX5_stop 74 = .ok (.aload_n 0, 1) := by decide +kernel
theorem dX5_stop_75 : decode cX5_stop 75 = .ok (.getfield 86, 3) := by decide +kernel
theorem dX5_stop_78 : decode cX5_stop 78 = .ok (.aload_n 0, 1) := by decide +kernel
theorem dX5_stop_79 : decode cX5_stop 79 = .ok (.getfield 20, 3) := by decide +kernel
theorem dX5_stop_82 : decode cX5_stop 82 = .ok (.iload_n 2, 1) := by decide +kernel
theorem dX5_stop_83 : decode cX5_stop 83 = .ok (.iaload, 1) := by decide +kernel
theorem dX5_stop_84 : decode cX5_stop 84 = .ok (.invokestatic 69, 3) := by decide +kernel
theorem dX5_stop_87 : decode cX5_stop 87 = .ok (.ifCond .eq 19, 3) := by decide +kernel
theorem dX5_stop_90 : decode cX5_stop 90 = .ok (.aload_n 0, 1) := by decide +kernel
theorem dX5_stop_91 : decode cX5_stop 91 = .ok (.getfield 44, 3) := by decide +kernel
theorem dX5_stop_94 : decode cX5_stop 94 = .ok (.bipush 21, 2) := by decide +kernel
theorem dX5_stop_96 : decode cX5_stop 96 = .ok (.iload_n 1, 1) := by decide +kernel
theorem dX5_stop_97 : decode cX5_stop 97 = .ok (.iadd, 1) := by decide +kernel
theorem dX5_stop_98 : decode cX5_stop 98 = .ok (.dup2, 1) := by decide +kernel
theorem dX5_stop_99 : decode cX5_stop 99 = .ok (.iaload, 1) := by decide +kernel
theorem dX5_stop_100 : decode cX5_stop 100 = .ok (.iconst 1, 1) := by decide +kernel
theorem dX5_stop_101 : decode cX5_stop 101 = .ok (.iadd, 1) := by decide +kernel
theorem dX5_stop_102 : decode cX5_stop 102 = .ok (.iastore, 1) := by decide +kernel
theorem dX5_stop_103 : decode cX5_stop 103 = .ok (.goto 8, 3) := by decide +kernel
theorem dX5_stop_106 : decode cX5_stop 106 = .ok (.aload_n 0, 1) := by decide +kernel
theorem dX5_stop_107 : decode cX5_stop 107 = .ok (.iload_n 2, 1) := by decide +kernel
theorem dX5_stop_108 : decode cX5_stop 108 = .ok (.invokevirtual 89, 3) := by decide +kernel
theorem dX5_stop_111 : decode cX5_stop 111 = .ok (.return_, 1) := by decide +kernel
theorem dX5_isWay_0 : decode cX5_isWay 0 = .ok (.aload_n 0, 1) := by decide +kernel
theorem dX5_isWay_1 : decode cX5_isWay 1 = .ok (.getfield 44, 3) := by decide +kernel
theorem dX5_isWay_4 : decode cX5_isWay 4 = .ok (.iconst 1, 1) := by decide +kernel
theorem dX5_isWay_5 : decode cX5_isWay 5 = .ok (.iaload, 1) := by decide +kernel
theorem dX5_isWay_6 : decode cX5_isWay 6 = .ok (.iload_n 1, 1) := by decide +kernel
theorem dX5_isWay_7 : decode cX5_isWay 7 = .ok (.iadd, 1) := by decide +kernel
theorem dX5_isWay_8 : decode cX5_isWay 8 = .ok (.istore_n 2, 1) := by decide +kernel
theorem dX5_isWay_9 : decode cX5_isWay 9 = .ok (.aload_n 0, 1) := by decide +kernel
theorem dX5_isWay_10 : decode cX5_isWay 10 = .ok (.iload_n 2, 1) := by decide +kernel
theorem dX5_isWay_11 : decode cX5_isWay 11 = .ok (.invokevirtual 93, 3) := by decide +kernel
theorem dX5_isWay_14 : decode cX5_isWay 14 = .ok (.ifCond .eq 30, 3) := by decide +kernel
theorem dX5_isWay_17 : decode cX5_isWay 17 = .ok (.iload_n 1, 1) := by decide +kernel
theorem dX5_isWay_18 : decode cX5_isWay 18 = .ok (.ifCond .eq 26, 3) := by decide +kernel
theorem dX5_isWay_21 : decode cX5_isWay 21 = .ok (.aload_n 0, 1) := by decide +kernel
theorem dX5_isWay_22 : decode cX5_isWay 22 = .ok (.getfield 44, 3) := by decide +kernel
theorem dX5_isWay_25 : decode cX5_isWay 25 = .ok (.bipush 6, 2) := by decide +kernel
theorem dX5_isWay_27 : decode cX5_isWay 27 = .ok (.iaload, 1) := by decide +kernel
theorem dX5_isWay_28 : decode cX5_isWay 28 = .ok (.iload_n 2, 1) := by decide +kernel
theorem dX5_isWay_29 : decode cX5_isWay 29 = .ok (.invokestatic 69, 3) := by decide +kernel
theorem dX5_isWay_32 : decode cX5_isWay 32 = .ok (.ifCond .eq 5, 3) := by decide +kernel
theorem dX5_isWay_35 : decode cX5_isWay 35 = .ok (.iconst 1, 1) := by decide +kernel
theorem dX5_isWay_36 : decode cX5_isWay 36 = .ok (.ireturn, 1) := by decide +kernel
theorem dX5_isWay_37 : decode cX5_isWay 37 = .ok (.iload_n 2, 1) := by decide +kernel
theorem dX5_isWay_38 : decode cX5_isWay 38 = .ok (.iload_n 1, 1) := by decide +kernel
theorem dX5_isWay_39 : decode cX5_isWay 39 = .ok (.iadd, 1) := by decide +kernel
theorem dX5_isWay_40 : decode cX5_isWay 40 = .ok (.istore_n 2, 1) := by decide +kernel
theorem dX5_isWay_41 : decode cX5_isWay 41 = .ok (.goto (-32), 3) := by decide +kernel
theorem dX5_isWay_44 : decode cX5_isWay 44 = .ok (.iconst 0, 1) := by decide +kernel
theorem dX5_isWay_45 : decode cX5_isWay 45 = .ok (.ireturn, 1) := by decide +kernel
theorem dX5_wayToNearest_0 : decode cX5_wayToNearest 0 = .ok (.iconst 1, 1) := by decide +kernel
theorem dX5_wayToNearest_1 : decode cX5_wayToNearest 1 = .ok (.istore_n 1, 1) := by decide +kernel
theorem dX5_wayToNearest_2 : decode cX5_wayToNearest 2 = .ok (.iload_n 1, 1) := by decide +kernel
theorem dX5_wayToNearest_3 : decode cX5_wayToNearest 3 = .ok (.aload_n 0, 1) := by decide +kernel
theorem dX5_wayToNearest_4 : decode cX5_wayToNearest 4 = .ok (.getfield 7, 3) := by decide +kernel
theorem dX5_wayToNearest_7 : decode cX5_wayToNearest 7 = .ok (.if_icmp .ge 85, 3) := by decide +kernel
theorem dX5_wayToNearest_10 : decode cX5_wayToNearest 10 = .ok (.aload_n 0, 1) := by decide +kernel
theorem dX5_wayToNearest_11 : decode cX5_wayToNearest 11 = .ok (.aload_n 0, 1) := by decide +kernel
theorem dX5_wayToNearest_12 : decode cX5_wayToNearest 12 = .ok (.getfield 44, 3) := by decide +kernel
theorem dX5_wayToNearest_15 : decode cX5_wayToNearest 15 = .ok (.iconst 1, 1) := by decide +kernel
theorem dX5_wayToNearest_16 : decode cX5_wayToNearest 16 = .ok (.iaload, 1) := by decide +kernel
theorem dX5_wayToNearest_17 : decode cX5_wayToNearest 17 = .ok (.iload_n 1, 1) := by decide +kernel
theorem dX5_wayToNearest_18 : decode cX5_wayToNearest 18 = .ok (.iadd, 1) := by decide +kernel
theorem dX5_wayToNearest_19 : decode cX5_wayToNearest 19 = .ok (.invokevirtual 93, 3) := by decide +kernel
theorem dX5_wayToNearest_22 : decode cX5_wayToNearest 22 = .ok (.ifCond .eq 26, 3) := by decide +kernel
theorem dX5_wayToNearest_25 : decode cX5_wayToNearest 25 = .ok (.aload_n 0, 1) := by decide +kernel
theorem dX5_wayToNearest_26 : decode cX5_wayToNearest 26 = .ok (.getfield 44, 3) := by decide +kernel
theorem dX5_wayToNearest_29 : decode cX5_wayToNearest 29 = .ok (.bipush 6, 2) := by decide +kernel
theorem dX5_wayToNearest_31 : decode cX5_wayToNearest 31 = .ok (.iaload, 1) := by decide +kernel
theorem dX5_wayToNearest_32 : decode cX5_wayToNearest 32 = .ok (.aload_n 0, 1) := by decide +kernel
theorem dX5_wayToNearest_33 : decode cX5_wayToNearest 33 = .ok (.getfield 44, 3) := by decide +kernel
theorem dX5_wayToNearest_36 : decode cX5_wayToNearest 36 = .ok (.iconst 1, 1) := by decide +kernel
theorem dX5_wayToNearest_37 : decode cX5_wayToNearest 37 = .ok (.iaload, 1) := by decide +kernel
theorem dX5_wayToNearest_38 : decode cX5_wayToNearest 38 = .ok (.iload_n 1, 1) := by decide +kernel
theorem dX5_wayToNearest_39 : decode cX5_wayToNearest 39 = .ok (.iadd, 1) := by decide +kernel
theorem dX5_wayToNearest_40 : decode cX5_wayToNearest 40 = .ok (.invokestatic 69, 3) := by decide +kernel
theorem dX5_wayToNearest_43 : decode cX5_wayToNearest 43 = .ok (.ifCond .eq 5, 3) := by decide +kernel
theorem dX5_wayToNearest_46 : decode cX5_wayToNearest 46 = .ok (.iconst 1, 1) := by decide +kernel
theorem dX5_wayToNearest_47 : decode cX5_wayToNearest 47 = .ok (.ireturn, 1) := by decide +kernel
theorem dX5_wayToNearest_48 : decode cX5_wayToNearest 48 = .ok (.aload_n 0, 1) := by decide +kernel
theorem dX5_wayToNearest_49 : decode cX5_wayToNearest 49 = .ok (.aload_n 0, 1) := by decide +kernel
theorem dX5_wayToNearest_50 : decode cX5_wayToNearest 50 = .ok (.getfield 44, 3) := by decide +kernel
theorem dX5_wayToNearest_53 : decode cX5_wayToNearest 53 = .ok (.iconst 1, 1) := by decide +kernel
theorem dX5_wayToNearest_54 : decode cX5_wayToNearest 54 = .ok (.iaload, 1) := by decide +kernel
theorem dX5_wayToNearest_55 : decode cX5_wayToNearest 55 = .ok (.iload_n 1, 1) := by decide +kernel
theorem dX5_wayToNearest_56 : decode cX5_wayToNearest 56 = .ok (.isub, 1) := by decide +kernel
theorem dX5_wayToNearest_57 : decode cX5_wayToNearest 57 = .ok (.invokevirtual 93, 3) := by decide +kernel
theorem dX5_wayToNearest_60 : decode cX5_wayToNearest 60 = .ok (.ifCond .eq 26, 3) := by decide +kernel
theorem dX5_wayToNearest_63 : decode cX5_wayToNearest 63 = .ok (.aload_n 0, 1) := by decide +kernel
theorem dX5_wayToNearest_64 : decode cX5_wayToNearest 64 = .ok (.getfield 44, 3) := by decide +kernel
theorem dX5_wayToNearest_67 : decode cX5_wayToNearest 67 = .ok (.bipush 6, 2) := by decide +kernel
theorem dX5_wayToNearest_69 : decode cX5_wayToNearest 69 = .ok (.iaload, 1) := by decide +kernel
theorem dX5_wayToNearest_70 : decode cX5_wayToNearest 70 = .ok (.aload_n 0, 1) := by decide +kernel
theorem dX5_wayToNearest_71 : decode cX5_wayToNearest 71 = .ok (.getfield 44, 3) := by decide +kernel
theorem dX5_wayToNearest_74 : decode cX5_wayToNearest 74 = .ok (.iconst 1, 1) := by decide +kernel
theorem dX5_wayToNearest_75 : decode cX5_wayToNearest 75 = .ok (.iaload, 1) := by decide +kernel
theorem dX5_wayToNearest_76 : decode cX5_wayToNearest 76 = .ok (.iload_n 1, 1) := by decide +kernel
theorem dX5_wayToNearest_77 : decode cX5_wayToNearest 77 = .ok (.isub, 1) := by decide +kernel
theorem dX5_wayToNearest_78 : decode cX5_wayToNearest 78 = .ok (.invokestatic 69, 3) := by decide +kernel
theorem dX5_wayToNearest_81 : decode cX5_wayToNearest 81 = .ok (.ifCond .eq 5, 3) := by decide +kernel
theorem dX5_wayToNearest_84 : decode cX5_wayToNearest 84 = .ok (.iconst (-1), 1) := by decide +kernel
theorem dX5_wayToNearest_85 : decode cX5_wayToNearest 85 = .ok (.ireturn, 1) := by decide +kernel
theorem dX5_wayToNearest_86 : decode cX5_wayToNearest 86 = .ok (.iinc 1 1, 3) := by decide +kernel
theorem dX5_wayToNearest_89 : decode cX5_wayToNearest 89 = .ok (.goto (-87), 3) := by decide +kernel
theorem dX5_wayToNearest_92 : decode cX5_wayToNearest 92 = .ok (.iconst 0, 1) := by decide +kernel
theorem dX5_wayToNearest_93 : decode cX5_wayToNearest 93 = .ok (.ireturn, 1) := by decide +kernel
theorem dX5_ride_0 : decode cX5_ride 0 = .ok (.aload_n 0, 1) := by decide +kernel
theorem dX5_ride_1 : decode cX5_ride 1 = .ok (.getfield 44, 3) := by decide +kernel
theorem dX5_ride_4 : decode cX5_ride 4 = .ok (.bipush 6, 2) := by decide +kernel
theorem dX5_ride_6 : decode cX5_ride 6 = .ok (.iaload, 1) := by decide +kernel
theorem dX5_ride_7 : decode cX5_ride 7 = .ok (.ifCond .ne 4, 3) := by decide +kernel
theorem dX5_ride_10 : decode cX5_ride 10 = .ok (.return_, 1) := by decide +kernel
theorem dX5_ride_11 : decode cX5_ride 11 = .ok (.aload_n 0, 1) := by decide +kernel
theorem dX5_ride_12 : decode cX5_ride 12 = .ok (.getfield 44, 3) := by decide +kernel
theorem dX5_ride_15 : decode cX5_ride 15 = .ok (.bipush 6, 2) := by decide +kernel
theorem dX5_ride_17 : decode cX5_ride 17 = .ok (.iaload, 1) := by decide +kernel
theorem dX5_ride_18 : decode cX5_ride 18 = .ok (.aload_n 0, 1) := by decide +kernel
theorem dX5_ride_19 : decode cX5_ride 19 = .ok (.getfield 44, 3) := by decide +kernel
theorem dX5_ride_22 : decode cX5_ride 22 = .ok (.iconst 1, 1) := by decide +kernel
theorem dX5_ride_23 : decode cX5_ride 23 = .ok (.iaload, 1) := by decide +kernel
theorem dX5_ride_24 : decode cX5_ride 24 = .ok (.invokestatic 69, 3) := by decide +kernel
theorem dX5_ride_27 : decode cX5_ride 27 = .ok (.ifCond .ne 51, 3) := by decide +kernel
theorem dX5_ride_30 : decode cX5_ride 30 = .ok (.aload_n 0, 1) := by decide +kernel
theorem dX5_ride_31 : decode cX5_ride 31 = .ok (.aload_n 0, 1) := by decide +kernel
theorem dX5_ride_32 : decode cX5_ride 32 = .ok (.getfield 44, 3) := by decide +kernel
theorem dX5_ride_35 : decode cX5_ride 35 = .ok (.iconst 2, 1) := by decide +kernel
theorem dX5_ride_36 : decode cX5_ride 36 = .ok (.iaload, 1) := by decide +kernel
theorem dX5_ride_37 : decode cX5_ride 37 = .ok (.invokevirtual 96, 3) := by decide +kernel
theorem dX5_ride_40 : decode cX5_ride 40 = .ok (.ifCond .ne 13, 3) := by decide +kernel
theorem dX5_ride_43 : decode cX5_ride 43 = .ok (.aload_n 0, 1) := by decide +kernel
theorem dX5_ride_44 : decode cX5_ride 44 = .ok (.getfield 44, 3) := by decide +kernel
theorem dX5_ride_47 : decode cX5_ride 47 = .ok (.iconst 2, 1) := by decide +kernel
theorem dX5_ride_48 : decode cX5_ride 48 = .ok (.aload_n 0, 1) := by decide +kernel
theorem dX5_ride_49 : decode cX5_ride 49 = .ok (.invokevirtual 99, 3) := by decide +kernel
theorem dX5_ride_52 : decode cX5_ride 52 = .ok (.iastore, 1) := by decide +kernel
theorem dX5_ride_53 : decode cX5_ride 53 = .ok (.aload_n 0, 1) := by decide +kernel
theorem dX5_ride_54 : decode cX5_ride 54 = .ok (.getfield 44, 3) := by decide +kernel
theorem dX5_ride_57 : decode cX5_ride 57 = .ok (.iconst 1, 1) := by decide +kernel
theorem dX5_ride_58 : decode cX5_ride 58 = .ok (.dup2, 1) := by decide +kernel
theorem dX5_ride_59 : decode cX5_ride 59 = .ok (.iaload, 1) := by decide +kernel
theorem dX5_ride_60 : decode cX5_ride 60 = .ok (.aload_n 0, 1) := by decide +kernel
theorem dX5_ride_61 : decode cX5_ride 61 = .ok (.getfield 44, 3) := by decide +kernel
theorem dX5_ride_64 : decode cX5_ride 64 = .ok (.iconst 2, 1) := by decide +kernel
theorem dX5_ride_65 : decode cX5_ride 65 = .ok (.iaload, 1) := by decide +kernel
theorem dX5_ride_66 : decode cX5_ride 66 = .ok (.iadd, 1) := by decide +kernel
theorem dX5_ride_67 : decode cX5_ride 67 = .ok (.iastore, 1) := by decide +kernel
theorem dX5_ride_68 : decode cX5_ride 68 = .ok (.aload_n 0, 1) := by decide +kernel
theorem dX5_ride_69 : decode cX5_ride 69 = .ok (.getfield 44, 3) := by decide +kernel
theorem dX5_ride_72 : decode cX5_ride 72 = .ok (.iconst 4, 1) := by decide +kernel
theorem dX5_ride_73 : decode cX5_ride 73 = .ok (.dup2, 1) := by decide +kernel
theorem dX5_ride_74 : decode cX5_ride 74 = .ok (.iaload, 1) := by decide +kernel
theorem dX5_ride_75 : decode cX5_ride 75 = .ok (.iconst 1, 1) := by decide +kernel
theorem dX5_ride_76 : decode cX5_ride 76 = .ok (.iadd, 1) := by decide +kernel
theorem dX5_ride_77 : decode cX5_ride 77 = .ok (.iastore, 1) := by decide +kernel
theorem dX5_ride_78 : decode cX5_ride 78 = .ok (.aload_n 0, 1) := by decide +kernel
theorem dX5_ride_79 : decode cX5_ride 79 = .ok (.getfield 44, 3) := by decide +kernel
theorem dX5_ride_82 : decode cX5_ride 82 = .ok (.bipush 6, 2) := by decide +kernel
theorem dX5_ride_84 : decode cX5_ride 84 = .ok (.iaload, 1) := by decide +kernel
theorem dX5_ride_85 : decode cX5_ride 85 = .ok (.aload_n 0, 1) := by decide +kernel
theorem dX5_ride_86 : decode cX5_ride 86 = .ok (.getfield 44, 3) := by decide +kernel
theorem dX5_ride_89 : decode cX5_ride 89 = .ok (.iconst 1, 1) := by decide +kernel
theorem dX5_ride_90 : decode cX5_ride 90 = .ok (.iaload, 1) := by decide +kernel
theorem dX5_ride_91 : decode cX5_ride 91 = .ok (.invokestatic 69, 3) := by decide +kernel
theorem dX5_ride_94 : decode cX5_ride 94 = .ok (.ifCond .eq 7, 3) := by decide +kernel
theorem dX5_ride_97 : decode cX5_ride 97 = .ok (.aload_n 0, 1) := by decide +kernel
theorem dX5_ride_98 : decode cX5_ride 98 = .ok (.invokevirtual 103, 3) := by decide +kernel
theorem dX5_ride_101 : decode cX5_ride 101 = .ok (.return_, 1) := by decide +kernel
theorem dX5_hourOn_0 : decode cX5_hourOn 0 = .ok (.aload_n 0, 1) := by decide +kernel
theorem dX5_hourOn_1 : decode cX5_hourOn 1 = .ok (.iconst (-1), 1) := by decide +kernel
theorem dX5_hourOn_2 : decode cX5_hourOn 2 = .ok (.putfield 83, 3) := by decide +kernel
theorem dX5_hourOn_5 : decode cX5_hourOn 5 = .ok (.aload_n 0, 1) := by decide +kernel
theorem dX5_hourOn_6 : decode cX5_hourOn 6 = .ok (.getfield 44, 3) := by decide +kernel
theorem dX5_hourOn_9 : decode cX5_hourOn 9 = .ok (.bipush 8, 2) := by decide +kernel
theorem dX5_hourOn_11 : decode cX5_hourOn 11 = .ok (.iaload, 1) := by decide +kernel
theorem dX5_hourOn_12 : decode cX5_hourOn 12 = .ok (.istore_n 1, 1) := by decide +kernel
theorem dX5_hourOn_13 : decode cX5_hourOn 13 = .ok (.aload_n 0, 1) := by decide +kernel
theorem dX5_hourOn_14 : decode cX5_hourOn 14 = .ok (.getfield 44, 3) := by decide +kernel
theorem dX5_hourOn_17 : decode cX5_hourOn 17 = .ok (.iconst 3, 1) := by decide +kernel
theorem dX5_hourOn_18 : decode cX5_hourOn 18 = .ok (.iaload, 1) := by decide +kernel
theorem dX5_hourOn_19 : decode cX5_hourOn 19 = .ok (.ifCond .le 48, 3) := by decide +kernel
theorem dX5_hourOn_22 : decode cX5_hourOn 22 = .ok (.aload_n 0, 1) := by decide +kernel
theorem dX5_hourOn_23 : decode cX5_hourOn 23 = .ok (.getfield 44, 3) := by decide +kernel
theorem dX5_hourOn_26 : decode cX5_hourOn 26 = .ok (.iconst 3, 1) := by decide +kernel
theorem dX5_hourOn_27 : decode cX5_hourOn 27 = .ok (.dup2, 1) := by decide +kernel
theorem dX5_hourOn_28 : decode cX5_hourOn 28 = .ok (.iaload, 1) := by decide +kernel
theorem dX5_hourOn_29 : decode cX5_hourOn 29 = .ok (.iconst 1, 1) := by decide +kernel
theorem dX5_hourOn_30 : decode cX5_hourOn 30 = .ok (.isub, 1) := by decide +kernel
theorem dX5_hourOn_31 : decode cX5_hourOn 31 = .ok (.iastore, 1) := by decide +kernel
theorem dX5_hourOn_32 : decode cX5_hourOn 32 = .ok (.aload_n 0, 1) := by decide +kernel
theorem dX5_hourOn_33 : decode cX5_hourOn 33 = .ok (.getfield 44, 3) := by decide +kernel
theorem dX5_hourOn_36 : decode cX5_hourOn 36 = .ok (.iconst 5, 1) := by decide +kernel
theorem dX5_hourOn_37 : decode cX5_hourOn 37 = .ok (.dup2, 1) := by decide +kernel
theorem dX5_hourOn_38 : decode cX5_hourOn 38 = .ok (.iaload, 1) := by decide +kernel
theorem dX5_hourOn_39 : decode cX5_hourOn 39 = .ok (.iconst 1, 1) := by decide +kernel
theorem dX5_hourOn_40 : decode cX5_hourOn 40 = .ok (.iload_n 1, 1) := by decide +kernel
theorem dX5_hourOn_41 : decode cX5_hourOn 41 = .ok (.ifCond .ne 7, 3) := by decide +kernel
theorem dX5_hourOn_44 : decode cX5_hourOn 44 = .ok (.iconst 0, 1) := by decide +kernel
theorem dX5_hourOn_45 : decode cX5_hourOn 45 = .ok (.goto 16, 3) := by decide +kernel
theorem dX5_hourOn_48 : decode cX5_hourOn 48 = .ok (.aload_n 0, 1) := by decide +kernel
theorem dX5_hourOn_49 : decode cX5_hourOn 49 = .ok (.getfield 23, 3) := by decide +kernel
theorem dX5_hourOn_52 : decode cX5_hourOn 52 = .ok (.aload_n 0, 1) := by decide +kernel
theorem dX5_hourOn_53 : decode cX5_hourOn 53 = .ok (.getfield 35, 3) := by decide +kernel
theorem dX5_hourOn_56 : decode cX5_hourOn 56 = .ok (.iload_n 1, 1) := by decide +kernel
theorem dX5_hourOn_57 : decode cX5_hourOn 57 = .ok (.iconst 1, 1) := by decide +kernel
theorem dX5_hourOn_58 : decode cX5_hourOn 58 = .ok (.isub, 1) := by decide +kernel
theorem dX5_hourOn_59 : decode cX5_hourOn 59 = .ok (.iaload, 1) := by decide +kernel
theorem dX5_hourOn_60 : decode cX5_hourOn 60 = .ok (.iaload, 1) := by decide +kernel
theorem dX5_hourOn_61 : decode cX5_hourOn 61 = .ok (.iadd, 1) := by decide +kernel
theorem dX5_hourOn_62 : decode cX5_hourOn 62 = .ok (.iadd, 1) := by decide +kernel
theorem dX5_hourOn_63 : decode cX5_hourOn 63 = .ok (.iastore, 1) := by decide +kernel
theorem dX5_hourOn_64 : decode cX5_hourOn 64 = .ok (.goto 7, 3) := by decide +kernel
theorem dX5_hourOn_67 : decode cX5_hourOn 67 = .ok (.aload_n 0, 1) := by decide +kernel
theorem dX5_hourOn_68 : decode cX5_hourOn 68 = .ok (.invokevirtual 106, 3) := by decide +kernel
theorem dX5_hourOn_71 : decode cX5_hourOn 71 = .ok (.iconst 0, 1) := by decide +kernel
theorem dX5_hourOn_72 : decode cX5_hourOn 72 = .ok (.istore_n 2, 1) := by decide +kernel
theorem dX5_hourOn_73 : decode cX5_hourOn 73 = .ok (.iload_n 2, 1) := by decide +kernel
theorem dX5_hourOn_74 : decode cX5_hourOn 74 = .ok (.aload_n 0, 1) := by decide +kernel
theorem dX5_hourOn_75 : decode cX5_hourOn 75 = .ok (.getfield 57, 3) := by decide +kernel
theorem dX5_hourOn_78 : decode cX5_hourOn 78 = .ok (.if_icmp .ge 74, 3) := by decide +kernel
theorem dX5_hourOn_81 : decode cX5_hourOn 81 = .ok (.aload_n 0, 1) := by decide +kernel
theorem dX5_hourOn_82 : decode cX5_hourOn 82 = .ok (.getfield 44, 3) := by decide +kernel
theorem dX5_hourOn_85 : decode cX5_hourOn 85 = .ok (.bipush 8, 2) := by decide +kernel
theorem dX5_hourOn_87 : decode cX5_hourOn 87 = .ok (.iaload, 1) := by decide +kernel
theorem dX5_hourOn_88 : decode cX5_hourOn 88 = .ok (.iload_n 1, 1) := by decide +kernel
theorem dX5_hourOn_89 : decode cX5_hourOn 89 = .ok (.if_icmp .ne 63, 3) := by decide +kernel
theorem dX5_hourOn_92 : decode cX5_hourOn 92 = .ok (.aload_n 0, 1) := by decide +kernel
theorem dX5_hourOn_93 : decode cX5_hourOn 93 = .ok (.iload_n 2, 1) := by decide +kernel
theorem dX5_hourOn_94 : decode cX5_hourOn 94 = .ok (.invokevirtual 73, 3) := by decide +kernel
theorem dX5_hourOn_97 : decode cX5_hourOn 97 = .ok (.ifCond .ne 6, 3) := by decide +kernel
theorem dX5_hourOn_100 : decode cX5_hourOn 100 = .ok (.goto 46, 3) := by decide +kernel
theorem dX5_hourOn_103 : decode cX5_hourOn 103 = .ok (.aload_n 0, 1) := by decide +kernel
theorem dX5_hourOn_104 : decode cX5_hourOn 104 = .ok (.getfield 44, 3) := by decide +kernel
theorem dX5_hourOn_107 : decode cX5_hourOn 107 = .ok (.bipush 33, 2) := by decide +kernel
theorem dX5_hourOn_109 : decode cX5_hourOn 109 = .ok (.iload_n 2, 1) := by decide +kernel
theorem dX5_hourOn_110 : decode cX5_hourOn 110 = .ok (.iadd, 1) := by decide +kernel
theorem dX5_hourOn_111 : decode cX5_hourOn 111 = .ok (.iaload, 1) := by decide +kernel
theorem dX5_hourOn_112 : decode cX5_hourOn 112 = .ok (.ifCond .ne 21, 3) := by decide +kernel
theorem dX5_hourOn_115 : decode cX5_hourOn 115 = .ok (.aload_n 0, 1) := by decide +kernel
theorem dX5_hourOn_116 : decode cX5_hourOn 116 = .ok (.getfield 44, 3) := by decide +kernel
theorem dX5_hourOn_119 : decode cX5_hourOn 119 = .ok (.bipush 7, 2) := by decide +kernel
theorem dX5_hourOn_121 : decode cX5_hourOn 121 = .ok (.dup2, 1) := by decide +kernel
theorem dX5_hourOn_122 : decode cX5_hourOn 122 = .ok (.iaload, 1) := by decide +kernel
theorem dX5_hourOn_123 : decode cX5_hourOn 123 = .ok (.iconst 1, 1) := by decide +kernel
theorem dX5_hourOn_124 : decode cX5_hourOn 124 = .ok (.iload_n 2, 1) := by decide +kernel
theorem dX5_hourOn_125 : decode cX5_hourOn 125 = .ok (.ishl, 1) := by decide +kernel
theorem dX5_hourOn_126 : decode cX5_hourOn 126 = .ok (.iconst (-1), 1) := by decide +kernel
theorem dX5_hourOn_127 : decode cX5_hourOn 127 = .ok (.ixor, 1) := by decide +kernel
theorem dX5_hourOn_128 : decode cX5_hourOn 128 = .ok (.iand, 1) := by decide +kernel
theorem dX5_hourOn_129 : decode cX5_hourOn 129 = .ok (.iastore, 1) := by decide +kernel
theorem dX5_hourOn_130 : decode cX5_hourOn 130 = .ok (.goto 16, 3) := by decide +kernel
theorem dX5_hourOn_133 : decode cX5_hourOn 133 = .ok (.aload_n 0, 1) := by decide +kernel
theorem dX5_hourOn_134 : decode cX5_hourOn 134 = .ok (.getfield 44, 3) := by decide +kernel
theorem dX5_hourOn_137 : decode cX5_hourOn 137 = .ok (.bipush 33, 2) := by decide +kernel
theorem dX5_hourOn_139 : decode cX5_hourOn 139 = .ok (.iload_n 2, 1) := by decide +kernel
theorem dX5_hourOn_140 : decode cX5_hourOn 140 = .ok (.iadd, 1) := by decide +kernel
theorem dX5_hourOn_141 : decode cX5_hourOn 141 = .ok (.dup2, 1) := by decide +kernel
theorem dX5_hourOn_142 : decode cX5_hourOn 142 = .ok (.iaload, 1) := by decide +kernel
theorem dX5_hourOn_143 : decode cX5_hourOn 143 = .ok (.iconst 1, 1) := by decide +kernel
theorem dX5_hourOn_144 : decode cX5_hourOn 144 = .ok (.isub, 1) := by decide +kernel
theorem dX5_hourOn_145 : decode cX5_hourOn 145 = .ok (.iastore, 1) := by decide +kernel
theorem dX5_hourOn_146 : decode cX5_hourOn 146 = .ok (.iinc 2 1, 3) := by decide +kernel
theorem dX5_hourOn_149 : decode cX5_hourOn 149 = .ok (.goto (-76), 3) := by decide +kernel
theorem dX5_hourOn_152 : decode cX5_hourOn 152 = .ok (.aload_n 0, 1) := by decide +kernel
theorem dX5_hourOn_153 : decode cX5_hourOn 153 = .ok (.getfield 44, 3) := by decide +kernel
theorem dX5_hourOn_156 : decode cX5_hourOn 156 = .ok (.bipush 6, 2) := by decide +kernel
theorem dX5_hourOn_158 : decode cX5_hourOn 158 = .ok (.iaload, 1) := by decide +kernel
theorem dX5_hourOn_159 : decode cX5_hourOn 159 = .ok (.ifCond .ne 10, 3) := by decide +kernel
theorem dX5_hourOn_162 : decode cX5_hourOn 162 = .ok (.aload_n 0, 1) := by decide +kernel
theorem dX5_hourOn_163 : decode cX5_hourOn 163 = .ok (.getfield 44, 3) := by decide +kernel
theorem dX5_hourOn_166 : decode cX5_hourOn 166 = .ok (.iconst 2, 1) := by decide +kernel
theorem dX5_hourOn_167 : decode cX5_hourOn 167 = .ok (.iconst 0, 1) := by decide +kernel
theorem dX5_hourOn_168 : decode cX5_hourOn 168 = .ok (.iastore, 1) := by decide +kernel
theorem dX5_hourOn_169 : decode cX5_hourOn 169 = .ok (.aload_n 0, 1) := by decide +kernel
theorem dX5_hourOn_170 : decode cX5_hourOn 170 = .ok (.getfield 44, 3) := by decide +kernel
theorem dX5_hourOn_173 : decode cX5_hourOn 173 = .ok (.iconst 3, 1) := by decide +kernel
theorem dX5_hourOn_174 : decode cX5_hourOn 174 = .ok (.iaload, 1) := by decide +kernel
theorem dX5_hourOn_175 : decode cX5_hourOn 175 = .ok (.ifCond .ne 37, 3) := by decide +kernel
theorem dX5_hourOn_178 : decode cX5_hourOn 178 = .ok (.aload_n 0, 1) := by decide +kernel
theorem dX5_hourOn_179 : decode cX5_hourOn 179 = .ok (.getfield 44, 3) := by decide +kernel
theorem dX5_hourOn_182 : decode cX5_hourOn 182 = .ok (.iconst 4, 1) := by decide +kernel
theorem dX5_hourOn_183 : decode cX5_hourOn 183 = .ok (.iaload, 1) := by decide +kernel
theorem dX5_hourOn_184 : decode cX5_hourOn 184 = .ok (.aload_n 0, 1) := by decide +kernel
theorem dX5_hourOn_185 : decode cX5_hourOn 185 = .ok (.getfield 13, 3) := by decide +kernel
theorem dX5_hourOn_188 : decode cX5_hourOn 188 = .ok (.if_icmp .lt 24, 3) := by decide +kernel
theorem dX5_hourOn_191 : decode cX5_hourOn 191 = .ok (.aload_n 0, 1) := by decide +kernel
theorem dX5_hourOn_192 : decode cX5_hourOn 192 = .ok (.getfield 44, 3) := by decide +kernel
theorem dX5_hourOn_195 : decode cX5_hourOn 195 = .ok (.iconst 3, 1) := by decide +kernel
theorem dX5_hourOn_196 : decode cX5_hourOn 196 = .ok (.aload_n 0, 1) := by decide +kernel
theorem dX5_hourOn_197 : decode cX5_hourOn 197 = .ok (.getfield 13, 3) := by decide +kernel
theorem dX5_hourOn_200 : decode cX5_hourOn 200 = .ok (.iconst 4, 1) := by decide +kernel
theorem dX5_hourOn_201 : decode cX5_hourOn 201 = .ok (.idiv, 1) := by decide +kernel
theorem dX5_hourOn_202 : decode cX5_hourOn 202 = .ok (.iconst 1, 1) := by decide +kernel
theorem dX5_hourOn_203 : decode cX5_hourOn 203 = .ok (.iadd, 1) := by decide +kernel
theorem dX5_hourOn_204 : decode cX5_hourOn 204 = .ok (.iastore, 1) := by decide +kernel
theorem dX5_hourOn_205 : decode cX5_hourOn 205 = .ok (.aload_n 0, 1) := by decide +kernel
theorem dX5_hourOn_206 : decode cX5_hourOn 206 = .ok (.getfield 44, 3) := by decide +kernel
theorem dX5_hourOn_209 : decode cX5_hourOn 209 = .ok (.iconst 4, 1) := by decide +kernel
theorem dX5_hourOn_210 : decode cX5_hourOn 210 = .ok (.iconst 0, 1) := by decide +kernel
theorem dX5_hourOn_211 : decode cX5_hourOn 211 = .ok (.iastore, 1) := by decide +kernel
theorem dX5_hourOn_212 : decode cX5_hourOn 212 = .ok (.aload_n 0, 1) := by decide +kernel
theorem dX5_hourOn_213 : decode cX5_hourOn 213 = .ok (.getfield 44, 3) := by decide +kernel
theorem dX5_hourOn_216 : decode cX5_hourOn 216 = .ok (.iconst 0, 1) := by decide +kernel
theorem dX5_hourOn_217 : decode cX5_hourOn 217 = .ok (.dup2, 1) := by decide +kernel
theorem dX5_hourOn_218 : decode cX5_hourOn 218 = .ok (.iaload, 1) := by decide +kernel
theorem dX5_hourOn_219 : decode cX5_hourOn 219 = .ok (.iconst 1, 1) := by decide +kernel
theorem dX5_hourOn_220 : decode cX5_hourOn 220 = .ok (.iadd, 1) := by decide +kernel
theorem dX5_hourOn_221 : decode cX5_hourOn 221 = .ok (.iastore, 1) := by decide +kernel
theorem dX5_hourOn_222 : decode cX5_hourOn 222 = .ok (.return_, 1) := by decide +kernel
theorem dX5_hoursOn_0 : decode cX5_hoursOn 0 = .ok (.iconst 0, 1) := by decide +kernel
theorem dX5_hoursOn_1 : decode cX5_hoursOn 1 = .ok (.istore_n 2, 1) := by decide +kernel
theorem dX5_hoursOn_2 : decode cX5_hoursOn 2 = .ok (.iload_n 2, 1) := by decide +kernel
theorem dX5_hoursOn_3 : decode cX5_hoursOn 3 = .ok (.iload_n 1, 1) := by decide +kernel
theorem dX5_hoursOn_4 : decode cX5_hoursOn 4 = .ok (.if_icmp .ge 13, 3) := by decide +kernel
theorem dX5_hoursOn_7 : decode cX5_hoursOn 7 = .ok (.aload_n 0, 1) := by decide +kernel
theorem dX5_hoursOn_8 : decode cX5_hoursOn 8 = .ok (.invokevirtual 109, 3) := by decide +kernel
theorem dX5_hoursOn_11 : decode cX5_hoursOn 11 = .ok (.iinc 2 1, 3) := by decide +kernel
theorem dX5_hoursOn_14 : decode cX5_hoursOn 14 = .ok (.goto (-12), 3) := by decide +kernel
theorem dX5_hoursOn_17 : decode cX5_hoursOn 17 = .ok (.return_, 1) := by decide +kernel
theorem dX5_ones_0 : decode cX5_ones 0 = .ok (.iconst 0, 1) := by decide +kernel
theorem dX5_ones_1 : decode cX5_ones 1 = .ok (.istore_n 1, 1) := by decide +kernel
theorem dX5_ones_2 : decode cX5_ones 2 = .ok (.iload_n 0, 1) := by decide +kernel
theorem dX5_ones_3 : decode cX5_ones 3 = .ok (.istore_n 2, 1) := by decide +kernel
theorem dX5_ones_4 : decode cX5_ones 4 = .ok (.iload_n 2, 1) := by decide +kernel
theorem dX5_ones_5 : decode cX5_ones 5 = .ok (.ifCond .le 16, 3) := by decide +kernel
theorem dX5_ones_8 : decode cX5_ones 8 = .ok (.iload_n 1, 1) := by decide +kernel
theorem dX5_ones_9 : decode cX5_ones 9 = .ok (.iload_n 2, 1) := by decide +kernel
theorem dX5_ones_10 : decode cX5_ones 10 = .ok (.iconst 1, 1) := by decide +kernel
theorem dX5_ones_11 : decode cX5_ones 11 = .ok (.iand, 1) := by decide +kernel
theorem dX5_ones_12 : decode cX5_ones 12 = .ok (.iadd, 1) := by decide +kernel
theorem dX5_ones_13 : decode cX5_ones 13 = .ok (.istore_n 1, 1) := by decide +kernel
theorem dX5_ones_14 : decode cX5_ones 14 = .ok (.iload_n 2, 1) := by decide +kernel
theorem dX5_ones_15 : decode cX5_ones 15 = .ok (.iconst 1, 1) := by decide +kernel
theorem dX5_ones_16 : decode cX5_ones 16 = .ok (.ishr, 1) := by decide +kernel
theorem dX5_ones_17 : decode cX5_ones 17 = .ok (.istore_n 2, 1) := by decide +kernel
theorem dX5_ones_18 : decode cX5_ones 18 = .ok (.goto (-14), 3) := by decide +kernel
theorem dX5_ones_21 : decode cX5_ones 21 = .ok (.iload_n 1, 1) := by decide +kernel
theorem dX5_ones_22 : decode cX5_ones 22 = .ok (.ireturn, 1) := by decide +kernel
theorem dX5_cut_0 : decode cX5_cut 0 = .ok (.iconst 0, 1) := by decide +kernel
theorem dX5_cut_1 : decode cX5_cut 1 = .ok (.istore_n 1, 1) := by decide +kernel
theorem dX5_cut_2 : decode cX5_cut 2 = .ok (.iconst 0, 1) := by decide +kernel
theorem dX5_cut_3 : decode cX5_cut 3 = .ok (.istore_n 2, 1) := by decide +kernel
theorem dX5_cut_4 : decode cX5_cut 4 = .ok (.iload_n 2, 1) := by decide +kernel
theorem dX5_cut_5 : decode cX5_cut 5 = .ok (.aload_n 0, 1) := by decide +kernel
theorem dX5_cut_6 : decode cX5_cut 6 = .ok (.getfield 7, 3) := by decide +kernel
theorem dX5_cut_9 : decode cX5_cut 9 = .ok (.if_icmp .ge 21, 3) := by decide +kernel
theorem dX5_cut_12 : decode cX5_cut 12 = .ok (.iload_n 1, 1) := by decide +kernel
theorem dX5_cut_13 : decode cX5_cut 13 = .ok (.aload_n 0, 1) := by decide +kernel
theorem dX5_cut_14 : decode cX5_cut 14 = .ok (.getfield 44, 3) := by decide +kernel
theorem dX5_cut_17 : decode cX5_cut 17 = .ok (.bipush 21, 2) := by decide +kernel
theorem dX5_cut_19 : decode cX5_cut 19 = .ok (.iload_n 2, 1) := by decide +kernel
theorem dX5_cut_20 : decode cX5_cut 20 = .ok (.iadd, 1) := by decide +kernel
theorem dX5_cut_21 : decode cX5_cut 21 = .ok (.iaload, 1) := by decide +kernel
theorem dX5_cut_22 : decode cX5_cut 22 = .ok (.iadd, 1) := by decide +kernel
theorem dX5_cut_23 : decode cX5_cut 23 = .ok (.istore_n 1, 1) := by decide +kernel
theorem dX5_cut_24 : decode cX5_cut 24 = .ok (.iinc 2 1, 3) := by decide +kernel
theorem dX5_cut_27 : decode cX5_cut 27 = .ok (.goto (-23), 3) := by decide +kernel
theorem dX5_cut_30 : decode cX5_cut 30 = .ok (.iload_n 1, 1) := by decide +kernel
theorem dX5_cut_31 : decode cX5_cut 31 = .ok (.ireturn, 1) := by decide +kernel
theorem dX5_warmth_0 : decode cX5_warmth 0 = .ok (.iconst 0, 1) := by decide +kernel
theorem dX5_warmth_1 : decode cX5_warmth 1 = .ok (.istore_n 1, 1) := by decide +kernel
theorem dX5_warmth_2 : decode cX5_warmth 2 = .ok (.iconst 0, 1) := by decide +kernel
theorem dX5_warmth_3 : decode cX5_warmth 3 = .ok (.istore_n 2, 1) := by decide +kernel
theorem dX5_warmth_4 : decode cX5_warmth 4 = .ok (.iload_n 2, 1) := by decide +kernel
theorem dX5_warmth_5 : decode cX5_warmth 5 = .ok (.aload_n 0, 1) := by decide +kernel
theorem dX5_warmth_6 : decode cX5_warmth 6 = .ok (.getfield 57, 3) := by decide +kernel
theorem dX5_warmth_9 : decode cX5_warmth 9 = .ok (.if_icmp .ge 33, 3) := by decide +kernel
theorem dX5_warmth_12 : decode cX5_warmth 12 = .ok (.iload_n 1, 1) := by decide +kernel
theorem dX5_warmth_13 : decode cX5_warmth 13 = .ok (.aload_n 0, 1) := by decide +kernel
theorem dX5_warmth_14 : decode cX5_warmth 14 = .ok (.iload_n 2, 1) := by decide +kernel
theorem dX5_warmth_15 : decode cX5_warmth 15 = .ok (.invokevirtual 73, 3) := by decide +kernel
theorem dX5_warmth_18 : decode cX5_warmth 18 = .ok (.ifCond .eq 15, 3) := by decide +kernel
theorem dX5_warmth_21 : decode cX5_warmth 21 = .ok (.aload_n 0, 1) := by decide +kernel
theorem dX5_warmth_22 : decode cX5_warmth 22 = .ok (.getfield 44, 3) := by decide +kernel
theorem dX5_warmth_25 : decode cX5_warmth 25 = .ok (.bipush 33, 2) := by decide +kernel
theorem dX5_warmth_27 : decode cX5_warmth 27 = .ok (.iload_n 2, 1) := by decide +kernel
theorem dX5_warmth_28 : decode cX5_warmth 28 = .ok (.iadd, 1) := by decide +kernel
theorem dX5_warmth_29 : decode cX5_warmth 29 = .ok (.iaload, 1) := by decide +kernel
theorem dX5_warmth_30 : decode cX5_warmth 30 = .ok (.goto 4, 3) := by decide +kernel
theorem dX5_warmth_33 : decode cX5_warmth 33 = .ok (.iconst 0, 1) := by decide +kernel
theorem dX5_warmth_34 : decode cX5_warmth 34 = .ok (.iadd, 1) := by decide +kernel
theorem dX5_warmth_35 : decode cX5_warmth 35 = .ok (.istore_n 1, 1) := by decide +kernel
theorem dX5_warmth_36 : decode cX5_warmth 36 = .ok (.iinc 2 1, 3) := by decide +kernel
theorem dX5_warmth_39 : decode cX5_warmth 39 = .ok (.goto (-35), 3) := by decide +kernel
theorem dX5_warmth_42 : decode cX5_warmth 42 = .ok (.iload_n 1, 1) := by decide +kernel
theorem dX5_warmth_43 : decode cX5_warmth 43 = .ok (.ireturn, 1) := by decide +kernel
theorem dX5_begin_0 : decode cX5_begin 0 = .ok (.aload_n 0, 1) := by decide +kernel
theorem dX5_begin_1 : decode cX5_begin 1 = .ok (.iconst 0, 1) := by decide +kernel
theorem dX5_begin_2 : decode cX5_begin 2 = .ok (.putfield 50, 3) := by decide +kernel
theorem dX5_begin_5 : decode cX5_begin 5 = .ok (.iload_n 1, 1) := by decide +kernel
theorem dX5_begin_6 : decode cX5_begin 6 = .ok (.iconst 2, 1) := by decide +kernel
theorem dX5_begin_7 : decode cX5_begin 7 = .ok (.bipush 12, 2) := by decide +kernel
theorem dX5_begin_9 : decode cX5_begin 9 = .ok (.invokestatic 53, 3) := by decide +kernel
theorem dX5_begin_12 : decode cX5_begin 12 = .ok (.ifCond .ne 9, 3) := by decide +kernel
theorem dX5_begin_15 : decode cX5_begin 15 = .ok (.aload_n 0, 1) := by decide +kernel
theorem dX5_begin_16 : decode cX5_begin 16 = .ok (.iconst 1, 1) := by decide +kernel
theorem dX5_begin_17 : decode cX5_begin 17 = .ok (.invokevirtual 112, 3) := by decide +kernel
theorem dX5_begin_20 : decode cX5_begin 20 = .ok (.ireturn, 1) := by decide +kernel
theorem dX5_begin_21 : decode cX5_begin 21 = .ok (.aload_n 0, 1) := by decide +kernel
theorem dX5_begin_22 : decode cX5_begin 22 = .ok (.iload_n 1, 1) := by decide +kernel
theorem dX5_begin_23 : decode cX5_begin 23 = .ok (.putfield 7, 3) := by decide +kernel
theorem dX5_begin_26 : decode cX5_begin 26 = .ok (.iconst 0, 1) := by decide +kernel
theorem dX5_begin_27 : decode cX5_begin 27 = .ok (.istore_n 2, 1) := by decide +kernel
theorem dX5_begin_28 : decode cX5_begin 28 = .ok (.iload_n 2, 1) := by decide +kernel
theorem dX5_begin_29 : decode cX5_begin 29 = .ok (.bipush 12, 2) := by decide +kernel
theorem dX5_begin_31 : decode cX5_begin 31 = .ok (.if_icmp .ge 36, 3) := by decide +kernel
theorem dX5_begin_34 : decode cX5_begin 34 = .ok (.aload_n 0, 1) := by decide +kernel
theorem dX5_begin_35 : decode cX5_begin 35 = .ok (.getfield 16, 3) := by decide +kernel
theorem dX5_begin_38 : decode cX5_begin 38 = .ok (.iload_n 2, 1) := by decide +kernel
theorem dX5_begin_39 : decode cX5_begin 39 = .ok (.iconst 0, 1) := by decide +kernel
theorem dX5_begin_40 : decode cX5_begin 40 = .ok (.iastore, 1) := by decide +kernel
theorem dX5_begin_41 : decode cX5_begin 41 = .ok (.aload_n 0, 1) := by decide +kernel
theorem dX5_begin_42 : decode cX5_begin 42 = .ok (.getfield 44, 3) := by decide +kernel
theorem dX5_begin_45 : decode cX5_begin 45 = .ok (.bipush 9, 2) := by decide +kernel
theorem dX5_begin_47 : decode cX5_begin 47 = .ok (.iload_n 2, 1) := by decide +kernel
theorem dX5_begin_48 : decode cX5_begin 48 = .ok (.iadd, 1) := by decide +kernel
theorem dX5_begin_49 : decode cX5_begin 49 = .ok (.iconst 0, 1) := by decide +kernel
theorem dX5_begin_50 : decode cX5_begin 50 = .ok (.iastore, 1) := by decide +kernel
theorem dX5_begin_51 : decode cX5_begin 51 = .ok (.aload_n 0, 1) := by decide +kernel
theorem dX5_begin_52 : decode cX5_begin 52 = .ok (.getfield 44, 3) := by decide +kernel
theorem dX5_begin_55 : decode cX5_begin 55 = .ok (.bipush 21, 2) := by decide +kernel
theorem dX5_begin_57 : decode cX5_begin 57 = .ok (.iload_n 2, 1) := by decide +kernel
theorem dX5_begin_58 : decode cX5_begin 58 = .ok (.iadd, 1) := by decide +kernel
theorem dX5_begin_59 : decode cX5_begin 59 = .ok (.iconst 0, 1) := by decide +kernel
theorem dX5_begin_60 : decode cX5_begin 60 = .ok (.iastore, 1) := by decide +kernel
theorem dX5_begin_61 : decode cX5_begin 61 = .ok (.iinc 2 1, 3) := by decide +kernel
theorem dX5_begin_64 : decode cX5_begin 64 = .ok (.goto (-36), 3) := by decide +kernel
theorem dX5_begin_67 : decode cX5_begin 67 = .ok (.iconst 1, 1) := by decide +kernel
theorem dX5_begin_68 : decode cX5_begin 68 = .ok (.istore_n 2, 1) := by decide +kernel
theorem dX5_begin_69 : decode cX5_begin 69 = .ok (.iload_n 2, 1) := by decide +kernel
theorem dX5_begin_70 : decode cX5_begin 70 = .ok (.bipush 6, 2) := by decide +kernel
theorem dX5_begin_72 : decode cX5_begin 72 = .ok (.if_icmp .gt 16, 3) := by decide +kernel
theorem dX5_begin_75 : decode cX5_begin 75 = .ok (.aload_n 0, 1) := by decide +kernel
theorem dX5_begin_76 : decode cX5_begin 76 = .ok (.getfield 44, 3) := by decide +kernel
theorem dX5_begin_79 : decode cX5_begin 79 = .ok (.iload_n 2, 1) := by decide +kernel
theorem dX5_begin_80 : decode cX5_begin 80 = .ok (.iconst 0, 1) := by decide +kernel
theorem dX5_begin_81 : decode cX5_begin 81 = .ok (.iastore, 1) := by decide +kernel
theorem dX5_begin_82 : decode cX5_begin 82 = .ok (.iinc 2 1, 3) := by decide +kernel
theorem dX5_begin_85 : decode cX5_begin 85 = .ok (.goto (-16), 3) := by decide +kernel
theorem dX5_begin_88 : decode cX5_begin 88 = .ok (.aload_n 0, 1) := by decide +kernel
theorem dX5_begin_89 : decode cX5_begin 89 = .ok (.getfield 44, 3) := by decide +kernel
theorem dX5_begin_92 : decode cX5_begin 92 = .ok (.bipush 8, 2) := by decide +kernel
theorem dX5_begin_94 : decode cX5_begin 94 = .ok (.iconst 0, 1) := by decide +kernel
theorem dX5_begin_95 : decode cX5_begin 95 = .ok (.iastore, 1) := by decide +kernel
theorem dX5_begin_96 : decode cX5_begin 96 = .ok (.aload_n 0, 1) := by decide +kernel
theorem dX5_begin_97 : decode cX5_begin 97 = .ok (.getfield 44, 3) := by decide +kernel
theorem dX5_begin_100 : decode cX5_begin 100 = .ok (.bipush 7, 2) := by decide +kernel
theorem dX5_begin_102 : decode cX5_begin 102 = .ok (.iaload, 1) := by decide +kernel
theorem dX5_begin_103 : decode cX5_begin 103 = .ok (.invokestatic 116, 3) := by decide +kernel
theorem dX5_begin_106 : decode cX5_begin 106 = .ok (.ireturn, 1) := by decide +kernel
theorem dX5_addParagraph_0 : decode cX5_addParagraph 0 = .ok (.aload_n 0, 1) := by decide +kernel
theorem dX5_addParagraph_1 : decode cX5_addParagraph 1 = .ok (.iconst 0, 1) := by decide +kernel
theorem dX5_addParagraph_2 : decode cX5_addParagraph 2 = .ok (.putfield 50, 3) := by decide +kernel
theorem dX5_addParagraph_5 : decode cX5_addParagraph 5 = .ok (.aload_n 0, 1) := by decide +kernel
theorem dX5_addParagraph_6 : decode cX5_addParagraph 6 = .ok (.iload_n 1, 1) := by decide +kernel
theorem dX5_addParagraph_7 : decode cX5_addParagraph 7 = .ok (.invokevirtual 93, 3) := by decide +kernel
theorem dX5_addParagraph_10 : decode cX5_addParagraph 10 = .ok (.ifCond .ne 9, 3) := by decide +kernel
theorem dX5_addParagraph_13 : decode cX5_addParagraph 13 = .ok (.aload_n 0, 1) := by decide +kernel
theorem dX5_addParagraph_14 : decode cX5_addParagraph 14 = .ok (.iconst 1, 1) := by decide +kernel
theorem dX5_addParagraph_15 : decode cX5_addParagraph 15 = .ok (.invokevirtual 112, 3) := by decide +kernel
theorem dX5_addParagraph_18 : decode cX5_addParagraph 18 = .ok (.ireturn, 1) := by decide +kernel
theorem dX5_addParagraph_19 : decode cX5_addParagraph 19 = .ok (.iload_n 2, 1) := by decide +kernel
theorem dX5_addParagraph_20 : decode cX5_addParagraph 20 = .ok (.invokestatic 119, 3) := by decide +kernel
theorem dX5_addParagraph_23 : decode cX5_addParagraph 23 = .ok (.ifCond .eq 13, 3) := by decide +kernel
theorem dX5_addParagraph_26 : decode cX5_addParagraph 26 = .ok (.iload_n 3, 1) := by decide +kernel
theorem dX5_addParagraph_27 : decode cX5_addParagraph 27 = .ok (.iconst 0, 1) := by decide +kernel
theorem dX5_addParagraph_28 : decode cX5_addParagraph 28 = .ok (.bipush 9, 2) := by decide +kernel
theorem dX5_addParagraph_30 : decode cX5_addParagraph 30 = .ok (.invokestatic 53, 3) := by decide +kernel
theorem dX5_addParagraph_33 : decode cX5_addParagraph 33 = .ok (.ifCond .ne 9, 3) := by decide +kernel
theorem dX5_addParagraph_36 : decode cX5_addParagraph 36 = .ok (.aload_n 0, 1) := by decide +kernel
theorem dX5_addParagraph_37 : decode cX5_addParagraph 37 = .ok (.iconst 2, 1) := by decide +kernel
theorem dX5_addParagraph_38 : decode cX5_addParagraph 38 = .ok (.invokevirtual 112, 3) := by decide +kernel
theorem dX5_addParagraph_41 : decode cX5_addParagraph 41 = .ok (.ireturn, 1) := by decide +kernel
theorem dX5_addParagraph_42 : decode cX5_addParagraph 42 = .ok (.aload_n 0, 1) := by decide +kernel
theorem dX5_addParagraph_43 : decode cX5_addParagraph 43 = .ok (.getfield 16, 3) := by decide +kernel
theorem dX5_addParagraph_46 : decode cX5_addParagraph 46 = .ok (.iload_n 1, 1) := by decide +kernel
theorem dX5_addParagraph_47 : decode cX5_addParagraph 47 = .ok (.iaload, 1) := by decide +kernel
theorem dX5_addParagraph_48 : decode cX5_addParagraph 48 = .ok (.bipush 9, 2) := by decide +kernel
theorem dX5_addParagraph_50 : decode cX5_addParagraph 50 = .ok (.if_icmp .ne 9, 3) := by decide +kernel
theorem dX5_addParagraph_53 : decode cX5_addParagraph 53 = .ok (.aload_n 0, 1) := by decide +kernel
theorem dX5_addParagraph_54 : decode cX5_addParagraph 54 = .ok (.iconst 3, 1) := by decide +kernel
theorem dX5_addParagraph_55 : decode cX5_addParagraph 55 = .ok (.invokevirtual 112, 3) := by decide +kernel
theorem dX5_addParagraph_58 : decode cX5_addParagraph 58 = .ok (.ireturn, 1) := by decide +kernel
theorem dX5_addParagraph_59 : decode cX5_addParagraph 59 = .ok (.bipush 9, 2) := by decide +kernel
theorem dX5_addParagraph_61 : decode cX5_addParagraph 61 = .ok (.iload_n 1, 1) := by decide +kernel
theorem dX5_addParagraph_62 : decode cX5_addParagraph 62 = .ok (.imul, 1) := by decide +kernel
theorem dX5_addParagraph_63 : decode cX5_addParagraph 63 = .ok (.aload_n 0, 1) := by decide +kernel
theorem dX5_addParagraph_64 : decode cX5_addParagraph 64 = .ok (.getfield 16, 3) := by decide +kernel
theorem dX5_addParagraph_67 : decode cX5_addParagraph 67 = .ok (.iload_n 1, 1) := by decide +kernel
theorem dX5_addParagraph_68 : decode cX5_addParagraph 68 = .ok (.iaload, 1) := by decide +kernel
theorem dX5_addParagraph_69 : decode cX5_addParagraph 69 = .ok (.iadd, 1) := by decide +kernel
theorem dX5_addParagraph_70 : decode cX5_addParagraph 70 = .ok (.istore 4, 2) := by decide +kernel
theorem dX5_addParagraph_72 : decode cX5_addParagraph 72 = .ok (.aload_n 0, 1) := by decide +kernel
theorem dX5_addParagraph_73 : decode cX5_addParagraph 73 = .ok (.getfield 20, 3) := by decide +kernel
theorem dX5_addParagraph_76 : decode cX5_addParagraph 76 = .ok (.iload 4, 2) := by decide +kernel
theorem dX5_addParagraph_78 : decode cX5_addParagraph 78 = .ok (.iload_n 2, 1) := by decide +kernel
theorem dX5_addParagraph_79 : decode cX5_addParagraph 79 = .ok (.iastore, 1) := by decide +kernel
theorem dX5_addParagraph_80 : decode cX5_addParagraph 80 = .ok (.aload_n 0, 1) := by decide +kernel
theorem dX5_addParagraph_81 : decode cX5_addParagraph 81 = .ok (.getfield 23, 3) := by decide +kernel
theorem dX5_addParagraph_84 : decode cX5_addParagraph 84 = .ok (.iload 4, 2) := by decide +kernel
theorem dX5_addParagraph_86 : decode cX5_addParagraph 86 = .ok (.iload_n 3, 1) := by decide +kernel
theorem dX5_addParagraph_87 : decode cX5_addParagraph 87 = .ok (.iastore, 1) := by decide +kernel
theorem dX5_addParagraph_88 : decode cX5_addParagraph 88 = .ok (.aload_n 0, 1) := by decide +kernel
theorem dX5_addParagraph_89 : decode cX5_addParagraph 89 = .ok (.getfield 16, 3) := by decide +kernel
theorem dX5_addParagraph_92 : decode cX5_addParagraph 92 = .ok (.iload_n 1, 1) := by decide +kernel
theorem dX5_addParagraph_93 : decode cX5_addParagraph 93 = .ok (.dup2, 1) := by decide +kernel
theorem dX5_addParagraph_94 : decode cX5_addParagraph 94 = .ok (.iaload, 1) := by decide +kernel
theorem dX5_addParagraph_95 : decode cX5_addParagraph 95 = .ok (.iconst 1, 1) := by decide +kernel
theorem dX5_addParagraph_96 : decode cX5_addParagraph 96 = .ok (.iadd, 1) := by decide +kernel
theorem dX5_addParagraph_97 : decode cX5_addParagraph 97 = .ok (.iastore, 1) := by decide +kernel
theorem dX5_addParagraph_98 : decode cX5_addParagraph 98 = .ok (.aload_n 0, 1) := by decide +kernel
theorem dX5_addParagraph_99 : decode cX5_addParagraph 99 = .ok (.getfield 16, 3) := by decide +kernel
theorem dX5_addParagraph_102 : decode cX5_addParagraph 102 = .ok (.iload_n 1, 1) := by decide +kernel
theorem dX5_addParagraph_103 : decode cX5_addParagraph 103 = .ok (.iaload, 1) := by decide +kernel
theorem dX5_addParagraph_104 : decode cX5_addParagraph 104 = .ok (.iconst 1, 1) := by decide +kernel
theorem dX5_addParagraph_105 : decode cX5_addParagraph 105 = .ok (.isub, 1) := by decide +kernel
theorem dX5_addParagraph_106 : decode cX5_addParagraph 106 = .ok (.ireturn, 1) := by decide +kernel
theorem dX5_turnTopic_0 : decode cX5_turnTopic 0 = .ok (.aload_n 0, 1) := by decide +kernel
theorem dX5_turnTopic_1 : decode cX5_turnTopic 1 = .ok (.iload_n 1, 1) := by decide +kernel
theorem dX5_turnTopic_2 : decode cX5_turnTopic 2 = .ok (.invokestatic 119, 3) := by decide +kernel
theorem dX5_turnTopic_5 : decode cX5_turnTopic 5 = .ok (.ifCond .eq 7, 3) := by decide +kernel
theorem dX5_turnTopic_8 : decode cX5_turnTopic 8 = .ok (.iconst 0, 1) := by decide +kernel
theorem dX5_turnTopic_9 : decode cX5_turnTopic 9 = .ok (.goto 4, 3) := by decide +kernel
theorem dX5_turnTopic_12 : decode cX5_turnTopic 12 = .ok (.iconst 1, 1) := by decide +kernel
theorem dX5_turnTopic_13 : decode cX5_turnTopic 13 = .ok (.putfield 50, 3) := by decide +kernel
theorem dX5_turnTopic_16 : decode cX5_turnTopic 16 = .ok (.aload_n 0, 1) := by decide +kernel
theorem dX5_turnTopic_17 : decode cX5_turnTopic 17 = .ok (.getfield 50, 3) := by decide +kernel
theorem dX5_turnTopic_20 : decode cX5_turnTopic 20 = .ok (.ifCond .le 5, 3) := by decide +kernel
theorem dX5_turnTopic_23 : decode cX5_turnTopic 23 = .ok (.iconst 0, 1) := by decide +kernel
theorem dX5_turnTopic_24 : decode cX5_turnTopic 24 = .ok (.ireturn, 1) := by decide +kernel
theorem dX5_turnTopic_25 : decode cX5_turnTopic 25 = .ok (.aload_n 0, 1) := by decide +kernel
theorem dX5_turnTopic_26 : decode cX5_turnTopic 26 = .ok (.dup, 1) := by decide +kernel
theorem dX5_turnTopic_27 : decode cX5_turnTopic 27 = .ok (.getfield 86, 3) := by decide +kernel
theorem dX5_turnTopic_30 : decode cX5_turnTopic 30 = .ok (.iconst 1, 1) := by decide +kernel
theorem dX5_turnTopic_31 : decode cX5_turnTopic 31 = .ok (.iload_n 1, 1) := by decide +kernel
theorem dX5_turnTopic_32 : decode cX5_turnTopic 32 = .ok (.ishl, 1) := by decide +kernel
theorem dX5_turnTopic_33 : decode cX5_turnTopic 33 = .ok (.ixor, 1) := by decide +kernel
theorem dX5_turnTopic_34 : decode cX5_turnTopic 34 = .ok (.putfield 86, 3) := by decide +kernel
theorem dX5_turnTopic_37 : decode cX5_turnTopic 37 = .ok (.aload_n 0, 1) := by decide +kernel
theorem dX5_turnTopic_38 : decode cX5_turnTopic 38 = .ok (.getfield 86, 3) := by decide +kernel
theorem dX5_turnTopic_41 : decode cX5_turnTopic 41 = .ok (.iload_n 1, 1) := by decide +kernel
theorem dX5_turnTopic_42 : decode cX5_turnTopic 42 = .ok (.invokestatic 69, 3) := by decide +kernel
theorem dX5_turnTopic_45 : decode cX5_turnTopic 45 = .ok (.ireturn, 1) := by decide +kernel
theorem dX5_setLimit_0 : decode cX5_setLimit 0 = .ok (.aload_n 0, 1) := by decide +kernel
theorem dX5_setLimit_1 : decode cX5_setLimit 1 = .ok (.iconst 0, 1) := by decide +kernel
theorem dX5_setLimit_2 : decode cX5_setLimit 2 = .ok (.putfield 50, 3) := by decide +kernel
theorem dX5_setLimit_5 : decode cX5_setLimit 5 = .ok (.iload_n 1, 1) := by decide +kernel
theorem dX5_setLimit_6 : decode cX5_setLimit 6 = .ok (.iconst 1, 1) := by decide +kernel
theorem dX5_setLimit_7 : decode cX5_setLimit 7 = .ok (.bipush 99, 2) := by decide +kernel
theorem dX5_setLimit_9 : decode cX5_setLimit 9 = .ok (.invokestatic 53, 3) := by decide +kernel
theorem dX5_setLimit_12 : decode cX5_setLimit 12 = .ok (.ifCond .ne 9, 3) := by decide +kernel
theorem dX5_setLimit_15 : decode cX5_setLimit 15 = .ok (.aload_n 0, 1) := by decide +kernel
theorem dX5_setLimit_16 : decode cX5_setLimit 16 = .ok (.iconst 1, 1) := by decide +kernel
theorem dX5_setLimit_17 : decode cX5_setLimit 17 = .ok (.invokevirtual 112, 3) := by decide +kernel
theorem dX5_setLimit_20 : decode cX5_setLimit 20 = .ok (.ireturn, 1) := by decide +kernel
theorem dX5_setLimit_21 : decode cX5_setLimit 21 = .ok (.aload_n 0, 1) := by decide +kernel
theorem dX5_setLimit_22 : decode cX5_setLimit 22 = .ok (.getfield 13, 3) := by decide +kernel
theorem dX5_setLimit_25 : decode cX5_setLimit 25 = .ok (.istore_n 2, 1) := by decide +kernel
theorem dX5_setLimit_26 : decode cX5_setLimit 26 = .ok (.aload_n 0, 1) := by decide +kernel
theorem dX5_setLimit_27 : decode cX5_setLimit 27 = .ok (.iload_n 1, 1) := by decide +kernel
theorem dX5_setLimit_28 : decode cX5_setLimit 28 = .ok (.putfield 13, 3) := by decide +kernel
theorem dX5_setLimit_31 : decode cX5_setLimit 31 = .ok (.iload_n 2, 1) := by decide +kernel
theorem dX5_setLimit_32 : decode cX5_setLimit 32 = .ok (.ireturn, 1) := by decide +kernel
theorem dX5_addReader_0 : decode cX5_addReader 0 = .ok (.aload_n 0, 1) := by decide +kernel
theorem dX5_addReader_1 : decode cX5_addReader 1 = .ok (.iconst 0, 1) := by decide +kernel
theorem dX5_addReader_2 : decode cX5_addReader 2 = .ok (.putfield 50, 3) := by decide +kernel
theorem dX5_addReader_5 : decode cX5_addReader 5 = .ok (.iload_n 1, 1) := by decide +kernel
theorem dX5_addReader_6 : decode cX5_addReader 6 = .ok (.invokestatic 119, 3) := by decide +kernel
theorem dX5_addReader_9 : decode cX5_addReader 9 = .ok (.ifCond .eq 13, 3) := by decide +kernel
theorem dX5_addReader_12 : decode cX5_addReader 12 = .ok (.iload_n 2, 1) := by decide +kernel
theorem dX5_addReader_13 : decode cX5_addReader 13 = .ok (.iconst 1, 1) := by decide +kernel
theorem dX5_addReader_14 : decode cX5_addReader 14 = .ok (.bipush 20, 2) := by decide +kernel
theorem dX5_addReader_16 : decode cX5_addReader 16 = .ok (.invokestatic 53, 3) := by decide +kernel
theorem dX5_addReader_19 : decode cX5_addReader 19 = .ok (.ifCond .ne 9, 3) := by decide +kernel
theorem dX5_addReader_22 : decode cX5_addReader 22 = .ok (.aload_n 0, 1) := by decide +kernel
theorem dX5_addReader_23 : decode cX5_addReader 23 = .ok (.iconst 1, 1) := by decide +kernel
theorem dX5_addReader_24 : decode cX5_addReader 24 = .ok (.invokevirtual 112, 3) := by decide +kernel
theorem dX5_addReader_27 : decode cX5_addReader 27 = .ok (.ireturn, 1) := by decide +kernel
theorem dX5_addReader_28 : decode cX5_addReader 28 = .ok (.aload_n 0, 1) := by decide +kernel
theorem dX5_addReader_29 : decode cX5_addReader 29 = .ok (.getfield 57, 3) := by decide +kernel
theorem dX5_addReader_32 : decode cX5_addReader 32 = .ok (.bipush 8, 2) := by decide +kernel
theorem dX5_addReader_34 : decode cX5_addReader 34 = .ok (.if_icmp .ne 9, 3) := by decide +kernel
theorem dX5_addReader_37 : decode cX5_addReader 37 = .ok (.aload_n 0, 1) := by decide +kernel
theorem dX5_addReader_38 : decode cX5_addReader 38 = .ok (.iconst 2, 1) := by decide +kernel
theorem dX5_addReader_39 : decode cX5_addReader 39 = .ok (.invokevirtual 112, 3) := by decide +kernel
theorem dX5_addReader_42 : decode cX5_addReader 42 = .ok (.ireturn, 1) := by decide +kernel
theorem dX5_addReader_43 : decode cX5_addReader 43 = .ok (.aload_n 0, 1) := by decide +kernel
theorem dX5_addReader_44 : decode cX5_addReader 44 = .ok (.getfield 26, 3) := by decide +kernel
theorem dX5_addReader_47 : decode cX5_addReader 47 = .ok (.aload_n 0, 1) := by decide +kernel
theorem dX5_addReader_48 : decode cX5_addReader 48 = .ok (.getfield 57, 3) := by decide +kernel
theorem dX5_addReader_51 : decode cX5_addReader 51 = .ok (.iload_n 1, 1) := by decide +kernel
theorem dX5_addReader_52 : decode cX5_addReader 52 = .ok (.iastore, 1) := by decide +kernel
theorem dX5_addReader_53 : decode cX5_addReader 53 = .ok (.aload_n 0, 1) := by decide +kernel
theorem dX5_addReader_54 : decode cX5_addReader 54 = .ok (.getfield 44, 3) := by decide +kernel
theorem dX5_addReader_57 : decode cX5_addReader 57 = .ok (.bipush 33, 2) := by decide +kernel
theorem dX5_addReader_59 : decode cX5_addReader 59 = .ok (.aload_n 0, 1) := by decide +kernel
theorem dX5_addReader_60 : decode cX5_addReader 60 = .ok (.getfield 57, 3) := by decide +kernel
theorem dX5_addReader_63 : decode cX5_addReader 63 = .ok (.iadd, 1) := by decide +kernel
theorem dX5_addReader_64 : decode cX5_addReader 64 = .ok (.iload_n 2, 1) := by decide +kernel
theorem dX5_addReader_65 : decode cX5_addReader 65 = .ok (.iastore, 1) := by decide +kernel
theorem dX5_addReader_66 : decode cX5_addReader 66 = .ok (.aload_n 0, 1) := by decide +kernel
theorem dX5_addReader_67 : decode cX5_addReader 67 = .ok (.getfield 44, 3) := by decide +kernel
theorem dX5_addReader_70 : decode cX5_addReader 70 = .ok (.bipush 7, 2) := by decide +kernel
theorem dX5_addReader_72 : decode cX5_addReader 72 = .ok (.dup2, 1) := by decide +kernel
theorem dX5_addReader_73 : decode cX5_addReader 73 = .ok (.iaload, 1) := by decide +kernel
theorem dX5_addReader_74 : decode cX5_addReader 74 = .ok (.iconst 1, 1) := by decide +kernel
theorem dX5_addReader_75 : decode cX5_addReader 75 = .ok (.aload_n 0, 1) := by decide +kernel
theorem dX5_addReader_76 : decode cX5_addReader 76 = .ok (.getfield 57, 3) := by decide +kernel
theorem dX5_addReader_79 : decode cX5_addReader 79 = .ok (.ishl, 1) := by decide +kernel
theorem dX5_addReader_80 : decode cX5_addReader 80 = .ok (.ior, 1) := by decide +kernel
theorem dX5_addReader_81 : decode cX5_addReader 81 = .ok (.iastore, 1) := by decide +kernel
theorem dX5_addReader_82 : decode cX5_addReader 82 = .ok (.aload_n 0, 1) := by decide +kernel
theorem dX5_addReader_83 : decode cX5_addReader 83 = .ok (.dup, 1) := by decide +kernel
theorem dX5_addReader_84 : decode cX5_addReader 84 = .ok (.getfield 57, 3) := by decide +kernel
theorem dX5_addReader_87 : decode cX5_addReader 87 = .ok (.iconst 1, 1) := by decide +kernel
theorem dX5_addReader_88 : decode cX5_addReader 88 = .ok (.iadd, 1) := by decide +kernel
theorem dX5_addReader_89 : decode cX5_addReader 89 = .ok (.putfield 57, 3) := by decide +kernel
theorem dX5_addReader_92 : decode cX5_addReader 92 = .ok (.aload_n 0, 1) := by decide +kernel
theorem dX5_addReader_93 : decode cX5_addReader 93 = .ok (.getfield 57, 3) := by decide +kernel
theorem dX5_addReader_96 : decode cX5_addReader 96 = .ok (.iconst 1, 1) := by decide +kernel
theorem dX5_addReader_97 : decode cX5_addReader 97 = .ok (.isub, 1) := by decide +kernel
theorem dX5_addReader_98 : decode cX5_addReader 98 = .ok (.ireturn, 1) := by decide +kernel
theorem dX5_addMirror_0 : decode cX5_addMirror 0 = .ok (.aload_n 0, 1) := by decide +kernel
theorem dX5_addMirror_1 : decode cX5_addMirror 1 = .ok (.iconst 0, 1) := by decide +kernel
theorem dX5_addMirror_2 : decode cX5_addMirror 2 = .ok (.putfield 50, 3) := by decide +kernel
theorem dX5_addMirror_5 : decode cX5_addMirror 5 = .ok (.iload_n 1, 1) := by decide +kernel
theorem dX5_addMirror_6 : decode cX5_addMirror 6 = .ok (.invokestatic 119, 3) := by decide +kernel
theorem dX5_addMirror_9 : decode cX5_addMirror 9 = .ok (.ifCond .eq 15, 3) := by decide +kernel
theorem dX5_addMirror_12 : decode cX5_addMirror 12 = .ok (.iload_n 2, 1) := by decide +kernel
theorem dX5_addMirror_13 : decode cX5_addMirror 13 = .ok (.invokestatic 119, 3) := by decide +kernel
theorem dX5_addMirror_16 : decode cX5_addMirror 16 = .ok (.ifCond .eq 8, 3) := by decide +kernel
theorem dX5_addMirror_19 : decode cX5_addMirror 19 = .ok (.iload_n 1, 1) := by decide +kernel
theorem dX5_addMirror_20 : decode cX5_addMirror 20 = .ok (.iload_n 2, 1) := by decide +kernel
theorem dX5_addMirror_21 : decode cX5_addMirror 21 = .ok (.if_icmp .ne 9, 3) := by decide +kernel
theorem dX5_addMirror_24 : decode cX5_addMirror 24 = .ok (.aload_n 0, 1) := by decide +kernel
theorem dX5_addMirror_25 : decode cX5_addMirror 25 = .ok (.iconst 1, 1) := by decide +kernel
theorem dX5_addMirror_26 : decode cX5_addMirror 26 = .ok (.invokevirtual 112, 3) := by decide +kernel
theorem dX5_addMirror_29 : decode cX5_addMirror 29 = .ok (.ireturn, 1) := by decide +kernel
theorem dX5_addMirror_30 : decode cX5_addMirror 30 = .ok (.aload_n 0, 1) := by decide +kernel
theorem dX5_addMirror_31 : decode cX5_addMirror 31 = .ok (.getfield 60, 3) := by decide +kernel
theorem dX5_addMirror_34 : decode cX5_addMirror 34 = .ok (.iconst 4, 1) := by decide +kernel
theorem dX5_addMirror_35 : decode cX5_addMirror 35 = .ok (.if_icmp .ne 9, 3) := by decide +kernel
theorem dX5_addMirror_38 : decode cX5_addMirror 38 = .ok (.aload_n 0, 1) := by decide +kernel
theorem dX5_addMirror_39 : decode cX5_addMirror 39 = .ok (.iconst 2, 1) := by decide +kernel
theorem dX5_addMirror_40 : decode cX5_addMirror 40 = .ok (.invokevirtual 112, 3) := by decide +kernel
theorem dX5_addMirror_43 : decode cX5_addMirror 43 = .ok (.ireturn, 1) := by decide +kernel
theorem dX5_addMirror_44 : decode cX5_addMirror 44 = .ok (.aload_n 0, 1) := by decide +kernel
theorem dX5_addMirror_45 : decode cX5_addMirror 45 = .ok (.getfield 29, 3) := by decide +kernel
theorem dX5_addMirror_48 : decode cX5_addMirror 48 = .ok (.aload_n 0, 1) := by decide +kernel
theorem dX5_addMirror_49 : decode cX5_addMirror 49 = .ok (.getfield 60, 3) := by decide +kernel
theorem dX5_addMirror_52 : decode cX5_addMirror 52 = .ok (.iload_n 1, 1) := by decide +kernel
theorem dX5_addMirror_53 : decode cX5_addMirror 53 = .ok (.iastore, 1) := by decide +kernel
theorem dX5_addMirror_54 : decode cX5_addMirror 54 = .ok (.aload_n 0, 1) := by decide +kernel
theorem dX5_addMirror_55 : decode cX5_addMirror 55 = .ok (.getfield 32, 3) := by decide +kernel
theorem dX5_addMirror_58 : decode cX5_addMirror 58 = .ok (.aload_n 0, 1) := by decide +kernel
theorem dX5_addMirror_59 : decode cX5_addMirror 59 = .ok (.getfield 60, 3) := by decide +kernel
theorem dX5_addMirror_62 : decode cX5_addMirror 62 = .ok (.iload_n 2, 1) := by decide +kernel
theorem dX5_addMirror_63 : decode cX5_addMirror 63 = .ok (.iastore, 1) := by decide +kernel
theorem dX5_addMirror_64 : decode cX5_addMirror 64 = .ok (.aload_n 0, 1) := by decide +kernel
theorem dX5_addMirror_65 : decode cX5_addMirror 65 = .ok (.dup, 1) := by decide +kernel
theorem dX5_addMirror_66 : decode cX5_addMirror 66 = .ok (.getfield 60, 3) := by decide +kernel
theorem dX5_addMirror_69 : decode cX5_addMirror 69 = .ok (.iconst 1, 1) := by decide +kernel
theorem dX5_addMirror_70 : decode cX5_addMirror 70 = .ok (.iadd, 1) := by decide +kernel
theorem dX5_addMirror_71 : decode cX5_addMirror 71 = .ok (.putfield 60, 3) := by decide +kernel
theorem dX5_addMirror_74 : decode cX5_addMirror 74 = .ok (.aload_n 0, 1) := by decide +kernel
theorem dX5_addMirror_75 : decode cX5_addMirror 75 = .ok (.getfield 60, 3) := by decide +kernel
theorem dX5_addMirror_78 : decode cX5_addMirror 78 = .ok (.iconst 1, 1) := by decide +kernel
theorem dX5_addMirror_79 : decode cX5_addMirror 79 = .ok (.isub, 1) := by decide +kernel
theorem dX5_addMirror_80 : decode cX5_addMirror 80 = .ok (.ireturn, 1) := by decide +kernel
theorem dX5_call_0 : decode cX5_call 0 = .ok (.aload_n 0, 1) := by decide +kernel
theorem dX5_call_1 : decode cX5_call 1 = .ok (.aload_n 0, 1) := by decide +kernel
theorem dX5_call_2 : decode cX5_call 2 = .ok (.iload_n 1, 1) := by decide +kernel
theorem dX5_call_3 : decode cX5_call 3 = .ok (.invokevirtual 93, 3) := by decide +kernel
theorem dX5_call_6 : decode cX5_call 6 = .ok (.ifCond .eq 7, 3) := by decide +kernel
theorem dX5_call_9 : decode cX5_call 9 = .ok (.iconst 0, 1) := by decide +kernel
theorem dX5_call_10 : decode cX5_call 10 = .ok (.goto 4, 3) := by decide +kernel
theorem dX5_call_13 : decode cX5_call 13 = .ok (.iconst 1, 1) := by decide +kernel
theorem dX5_call_14 : decode cX5_call 14 = .ok (.putfield 50, 3) := by decide +kernel
theorem dX5_call_17 : decode cX5_call 17 = .ok (.aload_n 0, 1) := by decide +kernel
theorem dX5_call_18 : decode cX5_call 18 = .ok (.getfield 50, 3) := by decide +kernel
theorem dX5_call_21 : decode cX5_call 21 = .ok (.ifCond .le 5, 3) := by decide +kernel
theorem dX5_call_24 : decode cX5_call 24 = .ok (.iconst 0, 1) := by decide +kernel
theorem dX5_call_25 : decode cX5_call 25 = .ok (.ireturn, 1) := by decide +kernel
theorem dX5_call_26 : decode cX5_call 26 = .ok (.aload_n 0, 1) := by decide +kernel
theorem dX5_call_27 : decode cX5_call 27 = .ok (.getfield 44, 3) := by decide +kernel
theorem dX5_call_30 : decode cX5_call 30 = .ok (.bipush 6, 2) := by decide +kernel
theorem dX5_call_32 : decode cX5_call 32 = .ok (.iaload, 1) := by decide +kernel
theorem dX5_call_33 : decode cX5_call 33 = .ok (.iload_n 1, 1) := by decide +kernel
theorem dX5_call_34 : decode cX5_call 34 = .ok (.invokestatic 69, 3) := by decide +kernel
theorem dX5_call_37 : decode cX5_call 37 = .ok (.ifCond .ne 7, 3) := by decide +kernel
theorem dX5_call_40 : decode cX5_call 40 = .ok (.iconst 1, 1) := by decide +kernel
theorem dX5_call_41 : decode cX5_call 41 = .ok (.goto 4, 3) := by decide +kernel
theorem dX5_call_44 : decode cX5_call 44 = .ok (.iconst 0, 1) := by decide +kernel
theorem dX5_call_45 : decode cX5_call 45 = .ok (.istore_n 2, 1) := by decide +kernel
theorem dX5_call_46 : decode cX5_call 46 = .ok (.aload_n 0, 1) := by decide +kernel
theorem dX5_call_47 : decode cX5_call 47 = .ok (.getfield 44, 3) := by decide +kernel
theorem dX5_call_50 : decode cX5_call 50 = .ok (.bipush 6, 2) := by decide +kernel
theorem dX5_call_52 : decode cX5_call 52 = .ok (.dup2, 1) := by decide +kernel
theorem dX5_call_53 : decode cX5_call 53 = .ok (.iaload, 1) := by decide +kernel
theorem dX5_call_54 : decode cX5_call 54 = .ok (.iconst 1, 1) := by decide +kernel
theorem dX5_call_55 : decode cX5_call 55 = .ok (.iload_n 1, 1) := by decide +kernel
theorem dX5_call_56 : decode cX5_call 56 = .ok (.ishl, 1) := by decide +kernel
theorem dX5_call_57 : decode cX5_call 57 = .ok (.ior, 1) := by decide +kernel
theorem dX5_call_58 : decode cX5_call 58 = .ok (.iastore, 1) := by decide +kernel
theorem dX5_call_59 : decode cX5_call 59 = .ok (.iload_n 2, 1) := by decide +kernel
theorem dX5_call_60 : decode cX5_call 60 = .ok (.ireturn, 1) := by decide +kernel
theorem dX5_repair_0 : decode cX5_repair 0 = .ok (.aload_n 0, 1) := by decide +kernel
theorem dX5_repair_1 : decode cX5_repair 1 = .ok (.iconst 0, 1) := by decide +kernel
theorem dX5_repair_2 : decode cX5_repair 2 = .ok (.putfield 50, 3) := by decide +kernel
theorem dX5_repair_5 : decode cX5_repair 5 = .ok (.aload_n 0, 1) := by decide +kernel
theorem dX5_repair_6 : decode cX5_repair 6 = .ok (.getfield 44, 3) := by decide +kernel
theorem dX5_repair_9 : decode cX5_repair 9 = .ok (.iconst 3, 1) := by decide +kernel
theorem dX5_repair_10 : decode cX5_repair 10 = .ok (.iaload, 1) := by decide +kernel
theorem dX5_repair_11 : decode cX5_repair 11 = .ok (.istore_n 1, 1) := by decide +kernel
theorem dX5_repair_12 : decode cX5_repair 12 = .ok (.aload_n 0, 1) := by decide +kernel
theorem dX5_repair_13 : decode cX5_repair 13 = .ok (.getfield 44, 3) := by decide +kernel
theorem dX5_repair_16 : decode cX5_repair 16 = .ok (.iconst 3, 1) := by decide +kernel
theorem dX5_repair_17 : decode cX5_repair 17 = .ok (.iconst 0, 1) := by decide +kernel
theorem dX5_repair_18 : decode cX5_repair 18 = .ok (.iastore, 1) := by decide +kernel
theorem dX5_repair_19 : decode cX5_repair 19 = .ok (.aload_n 0, 1) := by decide +kernel
theorem dX5_repair_20 : decode cX5_repair 20 = .ok (.getfield 44, 3) := by decide +kernel
theorem dX5_repair_23 : decode cX5_repair 23 = .ok (.iconst 4, 1) := by decide +kernel
theorem dX5_repair_24 : decode cX5_repair 24 = .ok (.iconst 0, 1) := by decide +kernel
theorem dX5_repair_25 : decode cX5_repair 25 = .ok (.iastore, 1) := by decide +kernel
theorem dX5_repair_26 : decode cX5_repair 26 = .ok (.iload_n 1, 1) := by decide +kernel
theorem dX5_repair_27 : decode cX5_repair 27 = .ok (.ireturn, 1) := by decide +kernel
theorem dX5_passHours_0 : decode cX5_passHours 0 = .ok (.aload_n 0, 1) := by decide +kernel
theorem dX5_passHours_1 : decode cX5_passHours 1 = .ok (.iconst 0, 1) := by decide +kernel
theorem dX5_passHours_2 : decode cX5_passHours 2 = .ok (.putfield 50, 3) := by decide +kernel
theorem dX5_passHours_5 : decode cX5_passHours 5 = .ok (.iload_n 1, 1) := by decide +kernel
theorem dX5_passHours_6 : decode cX5_passHours 6 = .ok (.iconst 1, 1) := by decide +kernel
theorem dX5_passHours_7 : decode cX5_passHours 7 = .ok (.bipush 60, 2) := by decide +kernel
theorem dX5_passHours_9 : decode cX5_passHours 9 = .ok (.invokestatic 53, 3) := by decide +kernel
theorem dX5_passHours_12 : decode cX5_passHours 12 = .ok (.ifCond .ne 9, 3) := by decide +kernel
theorem dX5_passHours_15 : decode cX5_passHours 15 = .ok (.aload_n 0, 1) := by decide +kernel
theorem dX5_passHours_16 : decode cX5_passHours 16 = .ok (.iconst 1, 1) := by decide +kernel
theorem dX5_passHours_17 : decode cX5_passHours 17 = .ok (.invokevirtual 112, 3) := by decide +kernel
theorem dX5_passHours_20 : decode cX5_passHours 20 = .ok (.ireturn, 1) := by decide +kernel
theorem dX5_passHours_21 : decode cX5_passHours 21 = .ok (.aload_n 0, 1) := by decide +kernel
theorem dX5_passHours_22 : decode cX5_passHours 22 = .ok (.getfield 44, 3) := by decide +kernel
theorem dX5_passHours_25 : decode cX5_passHours 25 = .ok (.bipush 8, 2) := by decide +kernel
theorem dX5_passHours_27 : decode cX5_passHours 27 = .ok (.iaload, 1) := by decide +kernel
theorem dX5_passHours_28 : decode cX5_passHours 28 = .ok (.istore_n 2, 1) := by decide +kernel
theorem dX5_passHours_29 : decode cX5_passHours 29 = .ok (.aload_n 0, 1) := by decide +kernel
theorem dX5_passHours_30 : decode cX5_passHours 30 = .ok (.iload_n 1, 1) := by decide +kernel
theorem dX5_passHours_31 : decode cX5_passHours 31 = .ok (.invokevirtual 122, 3) := by decide +kernel
theorem dX5_passHours_34 : decode cX5_passHours 34 = .ok (.aload_n 0, 1) := by decide +kernel
theorem dX5_passHours_35 : decode cX5_passHours 35 = .ok (.getfield 44, 3) := by decide +kernel
theorem dX5_passHours_38 : decode cX5_passHours 38 = .ok (.bipush 8, 2) := by decide +kernel
theorem dX5_passHours_40 : decode cX5_passHours 40 = .ok (.iaload, 1) := by decide +kernel
theorem dX5_passHours_41 : decode cX5_passHours 41 = .ok (.iload_n 2, 1) := by decide +kernel
theorem dX5_passHours_42 : decode cX5_passHours 42 = .ok (.isub, 1) := by decide +kernel
theorem dX5_passHours_43 : decode cX5_passHours 43 = .ok (.ireturn, 1) := by decide +kernel
theorem dX5_floors_0 : decode cX5_floors 0 = .ok (.aload_n 0, 1) := by decide +kernel
theorem dX5_floors_1 : decode cX5_floors 1 = .ok (.aload_n 0, 1) := by decide +kernel
theorem dX5_floors_2 : decode cX5_floors 2 = .ok (.getfield 7, 3) := by decide +kernel
theorem dX5_floors_5 : decode cX5_floors 5 = .ok (.invokevirtual 125, 3) := by decide +kernel
theorem dX5_floors_8 : decode cX5_floors 8 = .ok (.ireturn, 1) := by decide +kernel
theorem dX5_hours_0 : decode cX5_hours 0 = .ok (.aload_n 0, 1) := by decide +kernel
theorem dX5_hours_1 : decode cX5_hours 1 = .ok (.aload_n 0, 1) := by decide +kernel
theorem dX5_hours_2 : decode cX5_hours 2 = .ok (.getfield 44, 3) := by decide +kernel
theorem dX5_hours_5 : decode cX5_hours 5 = .ok (.iconst 0, 1) := by decide +kernel
theorem dX5_hours_6 : decode cX5_hours 6 = .ok (.iaload, 1) := by decide +kernel
theorem dX5_hours_7 : decode cX5_hours 7 = .ok (.invokevirtual 125, 3) := by decide +kernel
theorem dX5_hours_10 : decode cX5_hours 10 = .ok (.ireturn, 1) := by decide +kernel
theorem dX5_liftAt_0 : decode cX5_liftAt 0 = .ok (.aload_n 0, 1) := by decide +kernel
theorem dX5_liftAt_1 : decode cX5_liftAt 1 = .ok (.aload_n 0, 1) := by decide +kernel
theorem dX5_liftAt_2 : decode cX5_liftAt 2 = .ok (.getfield 44, 3) := by decide +kernel
theorem dX5_liftAt_5 : decode cX5_liftAt 5 = .ok (.iconst 1, 1) := by decide +kernel
theorem dX5_liftAt_6 : decode cX5_liftAt 6 = .ok (.iaload, 1) := by decide +kernel
theorem dX5_liftAt_7 : decode cX5_liftAt 7 = .ok (.invokevirtual 125, 3) := by decide +kernel
theorem dX5_liftAt_10 : decode cX5_liftAt 10 = .ok (.ireturn, 1) := by decide +kernel
theorem dX5_goes_0 : decode cX5_goes 0 = .ok (.aload_n 0, 1) := by decide +kernel
theorem dX5_goes_1 : decode cX5_goes 1 = .ok (.aload_n 0, 1) := by decide +kernel
theorem dX5_goes_2 : decode cX5_goes 2 = .ok (.getfield 44, 3) := by decide +kernel
theorem dX5_goes_5 : decode cX5_goes 5 = .ok (.iconst 2, 1) := by decide +kernel
theorem dX5_goes_6 : decode cX5_goes 6 = .ok (.iaload, 1) := by decide +kernel
theorem dX5_goes_7 : decode cX5_goes 7 = .ok (.invokevirtual 125, 3) := by decide +kernel
theorem dX5_goes_10 : decode cX5_goes 10 = .ok (.ireturn, 1) := by decide +kernel
theorem dX5_isCalled_0 : decode cX5_isCalled 0 = .ok (.aload_n 0, 1) := by decide +kernel
theorem dX5_isCalled_1 : decode cX5_isCalled 1 = .ok (.aload_n 0, 1) := by decide +kernel
theorem dX5_isCalled_2 : decode cX5_isCalled 2 = .ok (.iload_n 1, 1) := by decide +kernel
theorem dX5_isCalled_3 : decode cX5_isCalled 3 = .ok (.invokevirtual 93, 3) := by decide +kernel
theorem dX5_isCalled_6 : decode cX5_isCalled 6 = .ok (.ifCond .eq 7, 3) := by decide +kernel
theorem dX5_isCalled_9 : decode cX5_isCalled 9 = .ok (.iconst 0, 1) := by decide +kernel
theorem dX5_isCalled_10 : decode cX5_isCalled 10 = .ok (.goto 4, 3) := by decide +kernel
theorem dX5_isCalled_13 : decode cX5_isCalled 13 = .ok (.iconst 1, 1) := by decide +kernel
theorem dX5_isCalled_14 : decode cX5_isCalled 14 = .ok (.putfield 50, 3) := by decide +kernel
theorem dX5_isCalled_17 : decode cX5_isCalled 17 = .ok (.aload_n 0, 1) := by decide +kernel
theorem dX5_isCalled_18 : decode cX5_isCalled 18 = .ok (.getfield 50, 3) := by decide +kernel
theorem dX5_isCalled_21 : decode cX5_isCalled 21 = .ok (.ifCond .ne 21, 3) := by decide +kernel
theorem dX5_isCalled_24 : decode cX5_isCalled 24 = .ok (.aload_n 0, 1) := by decide +kernel
theorem dX5_isCalled_25 : decode cX5_isCalled 25 = .ok (.getfield 44, 3) := by decide +kernel
theorem dX5_isCalled_28 : decode cX5_isCalled 28 = .ok (.bipush 6, 2) := by decide +kernel
theorem dX5_isCalled_30 : decode cX5_isCalled 30 = .ok (.iaload, 1) := by decide +kernel
theorem dX5_isCalled_31 : decode cX5_isCalled 31 = .ok (.iload_n 1, 1) := by decide +kernel
theorem dX5_isCalled_32 : decode cX5_isCalled 32 = .ok (.invokestatic 69, 3) := by decide +kernel
theorem dX5_isCalled_35 : decode cX5_isCalled 35 = .ok (.ifCond .eq 7, 3) := by decide +kernel
theorem dX5_isCalled_38 : decode cX5_isCalled 38 = .ok (.iconst 1, 1) := by decide +kernel
theorem dX5_isCalled_39 : decode cX5_isCalled 39 = .ok (.goto 4, 3) := by decide +kernel
theorem dX5_isCalled_42 : decode cX5_isCalled 42 = .ok (.iconst 0, 1) := by decide +kernel
theorem dX5_isCalled_43 : decode cX5_isCalled 43 = .ok (.ireturn, 1) := by decide +kernel
theorem dX5_calls_0 : decode cX5_calls 0 = .ok (.aload_n 0, 1) := by decide +kernel
theorem dX5_calls_1 : decode cX5_calls 1 = .ok (.aload_n 0, 1) := by decide +kernel
theorem dX5_calls_2 : decode cX5_calls 2 = .ok (.getfield 44, 3) := by decide +kernel
theorem dX5_calls_5 : decode cX5_calls 5 = .ok (.bipush 6, 2) := by decide +kernel
theorem dX5_calls_7 : decode cX5_calls 7 = .ok (.iaload, 1) := by decide +kernel
theorem dX5_calls_8 : decode cX5_calls 8 = .ok (.invokestatic 116, 3) := by decide +kernel
theorem dX5_calls_11 : decode cX5_calls 11 = .ok (.invokevirtual 125, 3) := by decide +kernel
theorem dX5_calls_14 : decode cX5_calls 14 = .ok (.ireturn, 1) := by decide +kernel
theorem dX5_stuckFor_0 : decode cX5_stuckFor 0 = .ok (.aload_n 0, 1) := by decide +kernel
theorem dX5_stuckFor_1 : decode cX5_stuckFor 1 = .ok (.aload_n 0, 1) := by decide +kernel
theorem dX5_stuckFor_2 : decode cX5_stuckFor 2 = .ok (.getfield 44, 3) := by decide +kernel
theorem dX5_stuckFor_5 : decode cX5_stuckFor 5 = .ok (.iconst 3, 1) := by decide +kernel
theorem dX5_stuckFor_6 : decode cX5_stuckFor 6 = .ok (.iaload, 1) := by decide +kernel
theorem dX5_stuckFor_7 : decode cX5_stuckFor 7 = .ok (.invokevirtual 125, 3) := by decide +kernel
theorem dX5_stuckFor_10 : decode cX5_stuckFor 10 = .ok (.ireturn, 1) := by decide +kernel
theorem dX5_wear_0 : decode cX5_wear 0 = .ok (.aload_n 0, 1) := by decide +kernel
theorem dX5_wear_1 : decode cX5_wear 1 = .ok (.aload_n 0, 1) := by decide +kernel
theorem dX5_wear_2 : decode cX5_wear 2 = .ok (.getfield 44, 3) := by decide +kernel
theorem dX5_wear_5 : decode cX5_wear 5 = .ok (.iconst 4, 1) := by decide +kernel
theorem dX5_wear_6 : decode cX5_wear 6 = .ok (.iaload, 1) := by decide +kernel
theorem dX5_wear_7 : decode cX5_wear 7 = .ok (.invokevirtual 125, 3) := by decide +kernel
theorem dX5_wear_10 : decode cX5_wear 10 = .ok (.ireturn, 1) := by decide +kernel
theorem dX5_limit_0 : decode cX5_limit 0 = .ok (.aload_n 0, 1) := by decide +kernel
theorem dX5_limit_1 : decode cX5_limit 1 = .ok (.aload_n 0, 1) := by decide +kernel
theorem dX5_limit_2 : decode cX5_limit 2 = .ok (.getfield 13, 3) := by decide +kernel
theorem dX5_limit_5 : decode cX5_limit 5 = .ok (.invokevirtual 125, 3) := by decide +kernel
theorem dX5_limit_8 : decode cX5_limit 8 = .ok (.ireturn, 1) := by decide +kernel
theorem dX5_suspense_0 : decode cX5_suspense 0 = .ok (.aload_n 0, 1) := by decide +kernel
theorem dX5_suspense_1 : decode cX5_suspense 1 = .ok (.aload_n 0, 1) := by decide +kernel
theorem dX5_suspense_2 : decode cX5_suspense 2 = .ok (.getfield 44, 3) := by decide +kernel
theorem dX5_suspense_5 : decode cX5_suspense 5 = .ok (.iconst 5, 1) := by decide +kernel
theorem dX5_suspense_6 : decode cX5_suspense 6 = .ok (.iaload, 1) := by decide +kernel
theorem dX5_suspense_7 : decode cX5_suspense 7 = .ok (.invokevirtual 125, 3) := by decide +kernel
theorem dX5_suspense_10 : decode cX5_suspense 10 = .ok (.ireturn, 1) := by decide +kernel
theorem dX5_paragraphs_0 : decode cX5_paragraphs 0 = .ok (.aload_n 0, 1) := by decide +kernel
theorem dX5_paragraphs_1 : decode cX5_paragraphs 1 = .ok (.iconst 0, 1) := by decide +kernel
theorem dX5_paragraphs_2 : decode cX5_paragraphs 2 = .ok (.putfield 50, 3) := by decide +kernel
theorem dX5_paragraphs_5 : decode cX5_paragraphs 5 = .ok (.aload_n 0, 1) := by decide +kernel
theorem dX5_paragraphs_6 : decode cX5_paragraphs 6 = .ok (.iload_n 1, 1) := by decide +kernel
theorem dX5_paragraphs_7 : decode cX5_paragraphs 7 = .ok (.invokevirtual 93, 3) := by decide +kernel
theorem dX5_paragraphs_10 : decode cX5_paragraphs 10 = .ok (.ifCond .eq 12, 3) := by decide +kernel
theorem dX5_paragraphs_13 : decode cX5_paragraphs 13 = .ok (.aload_n 0, 1) := by decide +kernel
theorem dX5_paragraphs_14 : decode cX5_paragraphs 14 = .ok (.getfield 16, 3) := by decide +kernel
theorem dX5_paragraphs_17 : decode cX5_paragraphs 17 = .ok (.iload_n 1, 1) := by decide +kernel
theorem dX5_paragraphs_18 : decode cX5_paragraphs 18 = .ok (.iaload, 1) := by decide +kernel
theorem dX5_paragraphs_19 : decode cX5_paragraphs 19 = .ok (.goto 8, 3) := by decide +kernel
theorem dX5_paragraphs_22 : decode cX5_paragraphs 22 = .ok (.aload_n 0, 1) := by decide +kernel
theorem dX5_paragraphs_23 : decode cX5_paragraphs 23 = .ok (.iconst 1, 1) := by decide +kernel
theorem dX5_paragraphs_24 : decode cX5_paragraphs 24 = .ok (.invokevirtual 112, 3) := by decide +kernel
theorem dX5_paragraphs_27 : decode cX5_paragraphs 27 = .ok (.ireturn, 1) := by decide +kernel
theorem dX5_next_0 : decode cX5_next 0 = .ok (.aload_n 0, 1) := by decide +kernel
theorem dX5_next_1 : decode cX5_next 1 = .ok (.getfield 44, 3) := by decide +kernel
theorem dX5_next_4 : decode cX5_next 4 = .ok (.bipush 9, 2) := by decide +kernel
theorem dX5_next_6 : decode cX5_next 6 = .ok (.iload_n 1, 1) := by decide +kernel
theorem dX5_next_7 : decode cX5_next 7 = .ok (.iadd, 1) := by decide +kernel
theorem dX5_next_8 : decode cX5_next 8 = .ok (.iaload, 1) := by decide +kernel
theorem dX5_next_9 : decode cX5_next 9 = .ok (.aload_n 0, 1) := by decide +kernel
theorem dX5_next_10 : decode cX5_next 10 = .ok (.getfield 16, 3) := by decide +kernel
theorem dX5_next_13 : decode cX5_next 13 = .ok (.iload_n 1, 1) := by decide +kernel
theorem dX5_next_14 : decode cX5_next 14 = .ok (.iaload, 1) := by decide +kernel
theorem dX5_next_15 : decode cX5_next 15 = .ok (.if_icmp .ne 7, 3) := by decide +kernel
theorem dX5_next_18 : decode cX5_next 18 = .ok (.iconst (-1), 1) := by decide +kernel
theorem dX5_next_19 : decode cX5_next 19 = .ok (.goto 12, 3) := by decide +kernel
theorem dX5_next_22 : decode cX5_next 22 = .ok (.aload_n 0, 1) := by decide +kernel
theorem dX5_next_23 : decode cX5_next 23 = .ok (.getfield 44, 3) := by decide +kernel
theorem dX5_next_26 : decode cX5_next 26 = .ok (.bipush 9, 2) := by decide +kernel
theorem dX5_next_28 : decode cX5_next 28 = .ok (.iload_n 1, 1) := by decide +kernel
theorem dX5_next_29 : decode cX5_next 29 = .ok (.iadd, 1) := by decide +kernel
theorem dX5_next_30 : decode cX5_next 30 = .ok (.iaload, 1) := by decide +kernel
theorem dX5_next_31 : decode cX5_next 31 = .ok (.ireturn, 1) := by decide +kernel
theorem dX5_nextParagraph_0 : decode cX5_nextParagraph 0 = .ok (.aload_n 0, 1) := by decide +kernel
theorem dX5_nextParagraph_1 : decode cX5_nextParagraph 1 = .ok (.iconst 0, 1) := by decide +kernel
theorem dX5_nextParagraph_2 : decode cX5_nextParagraph 2 = .ok (.putfield 50, 3) := by decide +kernel
theorem dX5_nextParagraph_5 : decode cX5_nextParagraph 5 = .ok (.aload_n 0, 1) := by decide +kernel
theorem dX5_nextParagraph_6 : decode cX5_nextParagraph 6 = .ok (.iload_n 1, 1) := by decide +kernel
theorem dX5_nextParagraph_7 : decode cX5_nextParagraph 7 = .ok (.invokevirtual 93, 3) := by decide +kernel
theorem dX5_nextParagraph_10 : decode cX5_nextParagraph 10 = .ok (.ifCond .eq 11, 3) := by decide +kernel
theorem dX5_nextParagraph_13 : decode cX5_nextParagraph 13 = .ok (.aload_n 0, 1) := by decide +kernel
theorem dX5_nextParagraph_14 : decode cX5_nextParagraph 14 = .ok (.iload_n 1, 1) := by decide +kernel
theorem dX5_nextParagraph_15 : decode cX5_nextParagraph 15 = .ok (.invokevirtual 127, 3) := by decide +kernel
theorem dX5_nextParagraph_18 : decode cX5_nextParagraph 18 = .ok (.goto 8, 3) := by decide +kernel
theorem dX5_nextParagraph_21 : decode cX5_nextParagraph 21 = .ok (.aload_n 0, 1) := by decide +kernel
theorem dX5_nextParagraph_22 : decode cX5_nextParagraph 22 = .ok (.iconst 1, 1) := by decide +kernel
theorem dX5_nextParagraph_23 : decode cX5_nextParagraph 23 = .ok (.invokevirtual 112, 3) := by decide +kernel
theorem dX5_nextParagraph_26 : decode cX5_nextParagraph 26 = .ok (.ireturn, 1) := by decide +kernel
theorem dX5_of_0 : decode cX5_of 0 = .ok (.aload_n 0, 1) := by decide +kernel
theorem dX5_of_1 : decode cX5_of 1 = .ok (.iconst 0, 1) := by decide +kernel
theorem dX5_of_2 : decode cX5_of 2 = .ok (.putfield 50, 3) := by decide +kernel
theorem dX5_of_5 : decode cX5_of 5 = .ok (.aload_n 0, 1) := by decide +kernel
theorem dX5_of_6 : decode cX5_of 6 = .ok (.iload_n 1, 1) := by decide +kernel
theorem dX5_of_7 : decode cX5_of 7 = .ok (.invokevirtual 93, 3) := by decide +kernel
theorem dX5_of_10 : decode cX5_of 10 = .ok (.ifCond .eq 30, 3) := by decide +kernel
theorem dX5_of_13 : decode cX5_of 13 = .ok (.iload_n 2, 1) := by decide +kernel
theorem dX5_of_14 : decode cX5_of 14 = .ok (.iconst 0, 1) := by decide +kernel
theorem dX5_of_15 : decode cX5_of 15 = .ok (.aload_n 0, 1) := by decide +kernel
theorem dX5_of_16 : decode cX5_of 16 = .ok (.getfield 16, 3) := by decide +kernel
theorem dX5_of_19 : decode cX5_of 19 = .ok (.iload_n 1, 1) := by decide +kernel
theorem dX5_of_20 : decode cX5_of 20 = .ok (.iaload, 1) := by decide +kernel
theorem dX5_of_21 : decode cX5_of 21 = .ok (.iconst 1, 1) := by decide +kernel
theorem dX5_of_22 : decode cX5_of 22 = .ok (.isub, 1) := by decide +kernel
theorem dX5_of_23 : decode cX5_of 23 = .ok (.invokestatic 53, 3) := by decide +kernel
theorem dX5_of_26 : decode cX5_of 26 = .ok (.ifCond .eq 14, 3) := by decide +kernel
theorem dX5_of_29 : decode cX5_of 29 = .ok (.aload_n 3, 1) := by decide +kernel
theorem dX5_of_30 : decode cX5_of 30 = .ok (.bipush 9, 2) := by decide +kernel
theorem dX5_of_32 : decode cX5_of 32 = .ok (.iload_n 1, 1) := by decide +kernel
theorem dX5_of_33 : decode cX5_of 33 = .ok (.imul, 1) := by decide +kernel
theorem dX5_of_34 : decode cX5_of 34 = .ok (.iload_n 2, 1) := by decide +kernel
theorem dX5_of_35 : decode cX5_of 35 = .ok (.iadd, 1) := by decide +kernel
theorem dX5_of_36 : decode cX5_of 36 = .ok (.iaload, 1) := by decide +kernel
theorem dX5_of_37 : decode cX5_of 37 = .ok (.goto 8, 3) := by decide +kernel
theorem dX5_of_40 : decode cX5_of 40 = .ok (.aload_n 0, 1) := by decide +kernel
theorem dX5_of_41 : decode cX5_of 41 = .ok (.iconst 1, 1) := by decide +kernel
theorem dX5_of_42 : decode cX5_of 42 = .ok (.invokevirtual 112, 3) := by decide +kernel
theorem dX5_of_45 : decode cX5_of 45 = .ok (.ireturn, 1) := by decide +kernel
theorem dX5_topicOf_0 : decode cX5_topicOf 0 = .ok (.aload_n 0, 1) := by decide +kernel
theorem dX5_topicOf_1 : decode cX5_topicOf 1 = .ok (.iload_n 1, 1) := by decide +kernel
theorem dX5_topicOf_2 : decode cX5_topicOf 2 = .ok (.iload_n 2, 1) := by decide +kernel
theorem dX5_topicOf_3 : decode cX5_topicOf 3 = .ok (.aload_n 0, 1) := by decide +kernel
theorem dX5_topicOf_4 : decode cX5_topicOf 4 = .ok (.getfield 20, 3) := by decide +kernel
theorem dX5_topicOf_7 : decode cX5_topicOf 7 = .ok (.invokevirtual 130, 3) := by decide +kernel
theorem dX5_topicOf_10 : decode cX5_topicOf 10 = .ok (.ireturn, 1) := by decide +kernel
theorem dX5_thrillOf_0 : decode cX5_thrillOf 0 = .ok (.aload_n 0, 1) := by decide +kernel
theorem dX5_thrillOf_1 : decode cX5_thrillOf 1 = .ok (.iload_n 1, 1) := by decide +kernel
theorem dX5_thrillOf_2 : decode cX5_thrillOf 2 = .ok (.iload_n 2, 1) := by decide +kernel
theorem dX5_thrillOf_3 : decode cX5_thrillOf 3 = .ok (.aload_n 0, 1) := by decide +kernel
theorem dX5_thrillOf_4 : decode cX5_thrillOf 4 = .ok (.getfield 23, 3) := by decide +kernel
theorem dX5_thrillOf_7 : decode cX5_thrillOf 7 = .ok (.invokevirtual 130, 3) := by decide +kernel
theorem dX5_thrillOf_10 : decode cX5_thrillOf 10 = .ok (.ireturn, 1) := by decide +kernel
theorem dX5_cutOn_0 : decode cX5_cutOn 0 = .ok (.aload_n 0, 1) := by decide +kernel
theorem dX5_cutOn_1 : decode cX5_cutOn 1 = .ok (.iconst 0, 1) := by decide +kernel
theorem dX5_cutOn_2 : decode cX5_cutOn 2 = .ok (.putfield 50, 3) := by decide +kernel
theorem dX5_cutOn_5 : decode cX5_cutOn 5 = .ok (.aload_n 0, 1) := by decide +kernel
theorem dX5_cutOn_6 : decode cX5_cutOn 6 = .ok (.iload_n 1, 1) := by decide +kernel
theorem dX5_cutOn_7 : decode cX5_cutOn 7 = .ok (.invokevirtual 93, 3) := by decide +kernel
theorem dX5_cutOn_10 : decode cX5_cutOn 10 = .ok (.ifCond .eq 15, 3) := by decide +kernel
theorem dX5_cutOn_13 : decode cX5_cutOn 13 = .ok (.aload_n 0, 1) := by decide +kernel
theorem dX5_cutOn_14 : decode cX5_cutOn 14 = .ok (.getfield 44, 3) := by decide +kernel
theorem dX5_cutOn_17 : decode cX5_cutOn 17 = .ok (.bipush 21, 2) := by decide +kernel
theorem dX5_cutOn_19 : decode cX5_cutOn 19 = .ok (.iload_n 1, 1) := by decide +kernel
theorem dX5_cutOn_20 : decode cX5_cutOn 20 = .ok (.iadd, 1) := by decide +kernel
theorem dX5_cutOn_21 : decode cX5_cutOn 21 = .ok (.iaload, 1) := by decide +kernel
theorem dX5_cutOn_22 : decode cX5_cutOn 22 = .ok (.goto 8, 3) := by decide +kernel
theorem dX5_cutOn_25 : decode cX5_cutOn 25 = .ok (.aload_n 0, 1) := by decide +kernel
theorem dX5_cutOn_26 : decode cX5_cutOn 26 = .ok (.iconst 1, 1) := by decide +kernel
theorem dX5_cutOn_27 : decode cX5_cutOn 27 = .ok (.invokevirtual 112, 3) := by decide +kernel
theorem dX5_cutOn_30 : decode cX5_cutOn 30 = .ok (.ireturn, 1) := by decide +kernel
theorem dX5_isForbidden_0 : decode cX5_isForbidden 0 = .ok (.aload_n 0, 1) := by decide +kernel
theorem dX5_isForbidden_1 : decode cX5_isForbidden 1 = .ok (.iload_n 1, 1) := by decide +kernel
theorem dX5_isForbidden_2 : decode cX5_isForbidden 2 = .ok (.invokestatic 119, 3) := by decide +kernel
theorem dX5_isForbidden_5 : decode cX5_isForbidden 5 = .ok (.ifCond .eq 7, 3) := by decide +kernel
theorem dX5_isForbidden_8 : decode cX5_isForbidden 8 = .ok (.iconst 0, 1) := by decide +kernel
theorem dX5_isForbidden_9 : decode cX5_isForbidden 9 = .ok (.goto 4, 3) := by decide +kernel
theorem dX5_isForbidden_12 : decode cX5_isForbidden 12 = .ok (.iconst 1, 1) := by decide +kernel
theorem dX5_isForbidden_13 : decode cX5_isForbidden 13 = .ok (.putfield 50, 3) := by decide +kernel
theorem dX5_isForbidden_16 : decode cX5_isForbidden 16 = .ok (.aload_n 0, 1) := by decide +kernel
theorem dX5_isForbidden_17 : decode cX5_isForbidden 17 = .ok (.getfield 50, 3) := by decide +kernel
theorem dX5_isForbidden_20 : decode cX5_isForbidden 20 = .ok (.ifCond .ne 18, 3) := by decide +kernel
theorem dX5_isForbidden_23 : decode cX5_isForbidden 23 = .ok (.aload_n 0, 1) := by decide +kernel
theorem dX5_isForbidden_24 : decode cX5_isForbidden 24 = .ok (.getfield 86, 3) := by decide +kernel
theorem dX5_isForbidden_27 : decode cX5_isForbidden 27 = .ok (.iload_n 1, 1) := by decide +kernel
theorem dX5_isForbidden_28 : decode cX5_isForbidden 28 = .ok (.invokestatic 69, 3) := by decide +kernel
theorem dX5_isForbidden_31 : decode cX5_isForbidden 31 = .ok (.ifCond .eq 7, 3) := by decide +kernel
theorem dX5_isForbidden_34 : decode cX5_isForbidden 34 = .ok (.iconst 1, 1) := by decide +kernel
theorem dX5_isForbidden_35 : decode cX5_isForbidden 35 = .ok (.goto 4, 3) := by decide +kernel
theorem dX5_isForbidden_38 : decode cX5_isForbidden 38 = .ok (.iconst 0, 1) := by decide +kernel
theorem dX5_isForbidden_39 : decode cX5_isForbidden 39 = .ok (.ireturn, 1) := by decide +kernel
theorem dX5_cuts_0 : decode cX5_cuts 0 = .ok (.aload_n 0, 1) := by decide +kernel
theorem dX5_cuts_1 : decode cX5_cuts 1 = .ok (.aload_n 0, 1) := by decide +kernel
theorem dX5_cuts_2 : decode cX5_cuts 2 = .ok (.invokevirtual 134, 3) := by decide +kernel
theorem dX5_cuts_5 : decode cX5_cuts 5 = .ok (.invokevirtual 125, 3) := by decide +kernel
theorem dX5_cuts_8 : decode cX5_cuts 8 = .ok (.ireturn, 1) := by decide +kernel
theorem dX5_comes_0 : decode cX5_comes 0 = .ok (.iconst 0, 1) := by decide +kernel
theorem dX5_comes_1 : decode cX5_comes 1 = .ok (.istore_n 2, 1) := by decide +kernel
theorem dX5_comes_2 : decode cX5_comes 2 = .ok (.iconst 0, 1) := by decide +kernel
theorem dX5_comes_3 : decode cX5_comes 3 = .ok (.istore_n 3, 1) := by decide +kernel
theorem dX5_comes_4 : decode cX5_comes 4 = .ok (.iload_n 3, 1) := by decide +kernel
theorem dX5_comes_5 : decode cX5_comes 5 = .ok (.aload_n 0, 1) := by decide +kernel
theorem dX5_comes_6 : decode cX5_comes 6 = .ok (.getfield 7, 3) := by decide +kernel
theorem dX5_comes_9 : decode cX5_comes 9 = .ok (.if_icmp .ge 61, 3) := by decide +kernel
theorem dX5_comes_12 : decode cX5_comes 12 = .ok (.aload_n 0, 1) := by decide +kernel
theorem dX5_comes_13 : decode cX5_comes 13 = .ok (.getfield 44, 3) := by decide +kernel
theorem dX5_comes_16 : decode cX5_comes 16 = .ok (.bipush 9, 2) := by decide +kernel
theorem dX5_comes_18 : decode cX5_comes 18 = .ok (.iload_n 3, 1) := by decide +kernel
theorem dX5_comes_19 : decode cX5_comes 19 = .ok (.iadd, 1) := by decide +kernel
theorem dX5_comes_20 : decode cX5_comes 20 = .ok (.iaload, 1) := by decide +kernel
theorem dX5_comes_21 : decode cX5_comes 21 = .ok (.istore 4, 2) := by decide +kernel
theorem dX5_comes_23 : decode cX5_comes 23 = .ok (.iload 4, 2) := by decide +kernel
theorem dX5_comes_25 : decode cX5_comes 25 = .ok (.aload_n 0, 1) := by decide +kernel
theorem dX5_comes_26 : decode cX5_comes 26 = .ok (.getfield 16, 3) := by decide +kernel
theorem dX5_comes_29 : decode cX5_comes 29 = .ok (.iload_n 3, 1) := by decide +kernel
theorem dX5_comes_30 : decode cX5_comes 30 = .ok (.iaload, 1) := by decide +kernel
theorem dX5_comes_31 : decode cX5_comes 31 = .ok (.if_icmp .ge 33, 3) := by decide +kernel
theorem dX5_comes_34 : decode cX5_comes 34 = .ok (.iload_n 2, 1) := by decide +kernel
theorem dX5_comes_35 : decode cX5_comes 35 = .ok (.aload_n 0, 1) := by decide +kernel
theorem dX5_comes_36 : decode cX5_comes 36 = .ok (.getfield 20, 3) := by decide +kernel
theorem dX5_comes_39 : decode cX5_comes 39 = .ok (.bipush 9, 2) := by decide +kernel
theorem dX5_comes_41 : decode cX5_comes 41 = .ok (.iload_n 3, 1) := by decide +kernel
theorem dX5_comes_42 : decode cX5_comes 42 = .ok (.imul, 1) := by decide +kernel
theorem dX5_comes_43 : decode cX5_comes 43 = .ok (.iload 4, 2) := by decide +kernel
theorem dX5_comes_45 : decode cX5_comes 45 = .ok (.iadd, 1) := by decide +kernel
theorem dX5_comes_46 : decode cX5_comes 46 = .ok (.iaload, 1) := by decide +kernel
theorem dX5_comes_47 : decode cX5_comes 47 = .ok (.iload_n 1, 1) := by decide +kernel
theorem dX5_comes_48 : decode cX5_comes 48 = .ok (.if_icmp .ne 7, 3) := by decide +kernel
theorem dX5_comes_51 : decode cX5_comes 51 = .ok (.iconst 1, 1) := by decide +kernel
theorem dX5_comes_52 : decode cX5_comes 52 = .ok (.goto 4, 3) := by decide +kernel
theorem dX5_comes_55 : decode cX5_comes 55 = .ok (.iconst 0, 1) := by decide +kernel
theorem dX5_comes_56 : decode cX5_comes 56 = .ok (.iadd, 1) := by decide +kernel
theorem dX5_comes_57 : decode cX5_comes 57 = .ok (.istore_n 2, 1) := by decide +kernel
theorem dX5_comes_58 : decode cX5_comes 58 = .ok (.iinc 4 1, 3) := by decide +kernel
theorem dX5_comes_61 : decode cX5_comes 61 = .ok (.goto (-38), 3) := by decide +kernel
theorem dX5_comes_64 : decode cX5_comes 64 = .ok (.iinc 3 1, 3) := by decide +kernel
theorem dX5_comes_67 : decode cX5_comes 67 = .ok (.goto (-63), 3) := by decide +kernel
theorem dX5_comes_70 : decode cX5_comes 70 = .ok (.iload_n 2, 1) := by decide +kernel
theorem dX5_comes_71 : decode cX5_comes 71 = .ok (.ireturn, 1) := by decide +kernel
theorem dX5_toCome_0 : decode cX5_toCome 0 = .ok (.aload_n 0, 1) := by decide +kernel
theorem dX5_toCome_1 : decode cX5_toCome 1 = .ok (.iconst 0, 1) := by decide +kernel
theorem dX5_toCome_2 : decode cX5_toCome 2 = .ok (.putfield 50, 3) := by decide +kernel
theorem dX5_toCome_5 : decode cX5_toCome 5 = .ok (.iload_n 1, 1) := by decide +kernel
theorem dX5_toCome_6 : decode cX5_toCome 6 = .ok (.invokestatic 119, 3) := by decide +kernel
theorem dX5_toCome_9 : decode cX5_toCome 9 = .ok (.ifCond .eq 11, 3) := by decide +kernel
theorem dX5_toCome_12 : decode cX5_toCome 12 = .ok (.aload_n 0, 1) := by decide +kernel
theorem dX5_toCome_13 : decode cX5_toCome 13 = .ok (.iload_n 1, 1) := by decide +kernel
theorem dX5_toCome_14 : decode cX5_toCome 14 = .ok (.invokevirtual 137, 3) := by decide +kernel
theorem dX5_toCome_17 : decode cX5_toCome 17 = .ok (.goto 8, 3) := by decide +kernel
theorem dX5_toCome_20 : decode cX5_toCome 20 = .ok (.aload_n 0, 1) := by decide +kernel
theorem dX5_toCome_21 : decode cX5_toCome 21 = .ok (.iconst 1, 1) := by decide +kernel
theorem dX5_toCome_22 : decode cX5_toCome 22 = .ok (.invokevirtual 112, 3) := by decide +kernel
theorem dX5_toCome_25 : decode cX5_toCome 25 = .ok (.ireturn, 1) := by decide +kernel
theorem dX5_instalments_0 : decode cX5_instalments 0 = .ok (.aload_n 0, 1) := by decide +kernel
theorem dX5_instalments_1 : decode cX5_instalments 1 = .ok (.aload_n 0, 1) := by decide +kernel
theorem dX5_instalments_2 : decode cX5_instalments 2 = .ok (.getfield 44, 3) := by decide +kernel
theorem dX5_instalments_5 : decode cX5_instalments 5 = .ok (.bipush 8, 2) := by decide +kernel
theorem dX5_instalments_7 : decode cX5_instalments 7 = .ok (.iaload, 1) := by decide +kernel
theorem dX5_instalments_8 : decode cX5_instalments 8 = .ok (.invokevirtual 125, 3) := by decide +kernel
theorem dX5_instalments_11 : decode cX5_instalments 11 = .ok (.ireturn, 1) := by decide +kernel
theorem dX5_floorIn_0 : decode cX5_floorIn 0 = .ok (.aload_n 0, 1) := by decide +kernel
theorem dX5_floorIn_1 : decode cX5_floorIn 1 = .ok (.iconst 0, 1) := by decide +kernel
theorem dX5_floorIn_2 : decode cX5_floorIn 2 = .ok (.putfield 50, 3) := by decide +kernel
theorem dX5_floorIn_5 : decode cX5_floorIn 5 = .ok (.aload_n 0, 1) := by decide +kernel
theorem dX5_floorIn_6 : decode cX5_floorIn 6 = .ok (.iload_n 1, 1) := by decide +kernel
theorem dX5_floorIn_7 : decode cX5_floorIn 7 = .ok (.invokevirtual 140, 3) := by decide +kernel
theorem dX5_floorIn_10 : decode cX5_floorIn 10 = .ok (.ifCond .eq 15, 3) := by decide +kernel
theorem dX5_floorIn_13 : decode cX5_floorIn 13 = .ok (.aload_n 0, 1) := by decide +kernel
theorem dX5_floorIn_14 : decode cX5_floorIn 14 = .ok (.getfield 35, 3) := by decide +kernel
theorem dX5_floorIn_17 : decode cX5_floorIn 17 = .ok (.iload_n 1, 1) := by decide +kernel
theorem dX5_floorIn_18 : decode cX5_floorIn 18 = .ok (.iaload, 1) := by decide +kernel
theorem dX5_floorIn_19 : decode cX5_floorIn 19 = .ok (.bipush 9, 2) := by decide +kernel
theorem dX5_floorIn_21 : decode cX5_floorIn 21 = .ok (.idiv, 1) := by decide +kernel
theorem dX5_floorIn_22 : decode cX5_floorIn 22 = .ok (.goto 8, 3) := by decide +kernel
theorem dX5_floorIn_25 : decode cX5_floorIn 25 = .ok (.aload_n 0, 1) := by decide +kernel
theorem dX5_floorIn_26 : decode cX5_floorIn 26 = .ok (.iconst 1, 1) := by decide +kernel
theorem dX5_floorIn_27 : decode cX5_floorIn 27 = .ok (.invokevirtual 112, 3) := by decide +kernel
theorem dX5_floorIn_30 : decode cX5_floorIn 30 = .ok (.ireturn, 1) := by decide +kernel
theorem dX5_paragraphIn_0 : decode cX5_paragraphIn 0 = .ok (.aload_n 0, 1) := by decide +kernel
theorem dX5_paragraphIn_1 : decode cX5_paragraphIn 1 = .ok (.iconst 0, 1) := by decide +kernel
theorem dX5_paragraphIn_2 : decode cX5_paragraphIn 2 = .ok (.putfield 50, 3) := by decide +kernel
theorem dX5_paragraphIn_5 : decode cX5_paragraphIn 5 = .ok (.aload_n 0, 1) := by decide +kernel
theorem dX5_paragraphIn_6 : decode cX5_paragraphIn 6 = .ok (.iload_n 1, 1) := by decide +kernel
theorem dX5_paragraphIn_7 : decode cX5_paragraphIn 7 = .ok (.invokevirtual 140, 3) := by decide +kernel
theorem dX5_paragraphIn_10 : decode cX5_paragraphIn 10 = .ok (.ifCond .eq 15, 3) := by decide +kernel
theorem dX5_paragraphIn_13 : decode cX5_paragraphIn 13 = .ok (.aload_n 0, 1) := by decide +kernel
theorem dX5_paragraphIn_14 : decode cX5_paragraphIn 14 = .ok (.getfield 35, 3) := by decide +kernel
theorem dX5_paragraphIn_17 : decode cX5_paragraphIn 17 = .ok (.iload_n 1, 1) := by decide +kernel
theorem dX5_paragraphIn_18 : decode cX5_paragraphIn 18 = .ok (.iaload, 1) := by decide +kernel
theorem dX5_paragraphIn_19 : decode cX5_paragraphIn 19 = .ok (.bipush 9, 2) := by decide +kernel
theorem dX5_paragraphIn_21 : decode cX5_paragraphIn 21 = .ok (.irem, 1) := by decide +kernel
theorem dX5_paragraphIn_22 : decode cX5_paragraphIn 22 = .ok (.goto 8, 3) := by decide +kernel
theorem dX5_paragraphIn_25 : decode cX5_paragraphIn 25 = .ok (.aload_n 0, 1) := by decide +kernel
theorem dX5_paragraphIn_26 : decode cX5_paragraphIn 26 = .ok (.iconst 1, 1) := by decide +kernel
theorem dX5_paragraphIn_27 : decode cX5_paragraphIn 27 = .ok (.invokevirtual 112, 3) := by decide +kernel
theorem dX5_paragraphIn_30 : decode cX5_paragraphIn 30 = .ok (.ireturn, 1) := by decide +kernel
theorem dX5_thrillIn_0 : decode cX5_thrillIn 0 = .ok (.aload_n 0, 1) := by decide +kernel
theorem dX5_thrillIn_1 : decode cX5_thrillIn 1 = .ok (.iconst 0, 1) := by decide +kernel
theorem dX5_thrillIn_2 : decode cX5_thrillIn 2 = .ok (.putfield 50, 3) := by decide +kernel
theorem dX5_thrillIn_5 : decode cX5_thrillIn 5 = .ok (.aload_n 0, 1) := by decide +kernel
theorem dX5_thrillIn_6 : decode cX5_thrillIn 6 = .ok (.iload_n 1, 1) := by decide +kernel
theorem dX5_thrillIn_7 : decode cX5_thrillIn 7 = .ok (.invokevirtual 140, 3) := by decide +kernel
theorem dX5_thrillIn_10 : decode cX5_thrillIn 10 = .ok (.ifCond .eq 12, 3) := by decide +kernel
theorem dX5_thrillIn_13 : decode cX5_thrillIn 13 = .ok (.aload_n 0, 1) := by decide +kernel
theorem dX5_thrillIn_14 : decode cX5_thrillIn 14 = .ok (.getfield 38, 3) := by decide +kernel
theorem dX5_thrillIn_17 : decode cX5_thrillIn 17 = .ok (.iload_n 1, 1) := by decide +kernel
theorem dX5_thrillIn_18 : decode cX5_thrillIn 18 = .ok (.iaload, 1) := by decide +kernel
theorem dX5_thrillIn_19 : decode cX5_thrillIn 19 = .ok (.goto 8, 3) := by decide +kernel
theorem dX5_thrillIn_22 : decode cX5_thrillIn 22 = .ok (.aload_n 0, 1) := by decide +kernel
theorem dX5_thrillIn_23 : decode cX5_thrillIn 23 = .ok (.iconst 1, 1) := by decide +kernel
theorem dX5_thrillIn_24 : decode cX5_thrillIn 24 = .ok (.invokevirtual 112, 3) := by decide +kernel
theorem dX5_thrillIn_27 : decode cX5_thrillIn 27 = .ok (.ireturn, 1) := by decide +kernel
theorem dX5_hourIn_0 : decode cX5_hourIn 0 = .ok (.aload_n 0, 1) := by decide +kernel
theorem dX5_hourIn_1 : decode cX5_hourIn 1 = .ok (.iconst 0, 1) := by decide +kernel
theorem dX5_hourIn_2 : decode cX5_hourIn 2 = .ok (.putfield 50, 3) := by decide +kernel
theorem dX5_hourIn_5 : decode cX5_hourIn 5 = .ok (.aload_n 0, 1) := by decide +kernel
theorem dX5_hourIn_6 : decode cX5_hourIn 6 = .ok (.iload_n 1, 1) := by decide +kernel
theorem dX5_hourIn_7 : decode cX5_hourIn 7 = .ok (.invokevirtual 140, 3) := by decide +kernel
theorem dX5_hourIn_10 : decode cX5_hourIn 10 = .ok (.ifCond .eq 12, 3) := by decide +kernel
theorem dX5_hourIn_13 : decode cX5_hourIn 13 = .ok (.aload_n 0, 1) := by decide +kernel
theorem dX5_hourIn_14 : decode cX5_hourIn 14 = .ok (.getfield 41, 3) := by decide +kernel
theorem dX5_hourIn_17 : decode cX5_hourIn 17 = .ok (.iload_n 1, 1) := by decide +kernel
theorem dX5_hourIn_18 : decode cX5_hourIn 18 = .ok (.iaload, 1) := by decide +kernel
theorem dX5_hourIn_19 : decode cX5_hourIn 19 = .ok (.goto 8, 3) := by decide +kernel
theorem dX5_hourIn_22 : decode cX5_hourIn 22 = .ok (.aload_n 0, 1) := by decide +kernel
theorem dX5_hourIn_23 : decode cX5_hourIn 23 = .ok (.iconst 1, 1) := by decide +kernel
theorem dX5_hourIn_24 : decode cX5_hourIn 24 = .ok (.invokevirtual 112, 3) := by decide +kernel
theorem dX5_hourIn_27 : decode cX5_hourIn 27 = .ok (.ireturn, 1) := by decide +kernel
theorem dX5_thrilling_0 : decode cX5_thrilling 0 = .ok (.iconst (-1), 1) := by decide +kernel
theorem dX5_thrilling_1 : decode cX5_thrilling 1 = .ok (.istore_n 1, 1) := by decide +kernel
theorem dX5_thrilling_2 : decode cX5_thrilling 2 = .ok (.iconst 0, 1) := by decide +kernel
theorem dX5_thrilling_3 : decode cX5_thrilling 3 = .ok (.istore_n 2, 1) := by decide +kernel
theorem dX5_thrilling_4 : decode cX5_thrilling 4 = .ok (.iload_n 2, 1) := by decide +kernel
theorem dX5_thrilling_5 : decode cX5_thrilling 5 = .ok (.aload_n 0, 1) := by decide +kernel
theorem dX5_thrilling_6 : decode cX5_thrilling 6 = .ok (.getfield 44, 3) := by decide +kernel
theorem dX5_thrilling_9 : decode cX5_thrilling 9 = .ok (.bipush 8, 2) := by decide +kernel
theorem dX5_thrilling_11 : decode cX5_thrilling 11 = .ok (.iaload, 1) := by decide +kernel
theorem dX5_thrilling_12 : decode cX5_thrilling 12 = .ok (.if_icmp .ge 31, 3) := by decide +kernel
theorem dX5_thrilling_15 : decode cX5_thrilling 15 = .ok (.iload_n 1, 1) := by decide +kernel
theorem dX5_thrilling_16 : decode cX5_thrilling 16 = .ok (.iconst (-1), 1) := by decide +kernel
theorem dX5_thrilling_17 : decode cX5_thrilling 17 = .ok (.if_icmp .eq 18, 3) := by decide +kernel
theorem dX5_thrilling_20 : decode cX5_thrilling 20 = .ok (.aload_n 0, 1) := by decide +kernel
theorem dX5_thrilling_21 : decode cX5_thrilling 21 = .ok (.getfield 38, 3) := by decide +kernel
theorem dX5_thrilling_24 : decode cX5_thrilling 24 = .ok (.iload_n 2, 1) := by decide +kernel
theorem dX5_thrilling_25 : decode cX5_thrilling 25 = .ok (.iaload, 1) := by decide +kernel
theorem dX5_thrilling_26 : decode cX5_thrilling 26 = .ok (.aload_n 0, 1) := by decide +kernel
theorem dX5_thrilling_27 : decode cX5_thrilling 27 = .ok (.getfield 38, 3) := by decide +kernel
theorem dX5_thrilling_30 : decode cX5_thrilling 30 = .ok (.iload_n 1, 1) := by decide +kernel
theorem dX5_thrilling_31 : decode cX5_thrilling 31 = .ok (.iaload, 1) := by decide +kernel
theorem dX5_thrilling_32 : decode cX5_thrilling 32 = .ok (.if_icmp .le 5, 3) := by decide +kernel
theorem dX5_thrilling_35 : decode cX5_thrilling 35 = .ok (.iload_n 2, 1) := by decide +kernel
theorem dX5_thrilling_36 : decode cX5_thrilling 36 = .ok (.istore_n 1, 1) := by decide +kernel
theorem dX5_thrilling_37 : decode cX5_thrilling 37 = .ok (.iinc 2 1, 3) := by decide +kernel
theorem dX5_thrilling_40 : decode cX5_thrilling 40 = .ok (.goto (-36), 3) := by decide +kernel
theorem dX5_thrilling_43 : decode cX5_thrilling 43 = .ok (.iload_n 1, 1) := by decide +kernel
theorem dX5_thrilling_44 : decode cX5_thrilling 44 = .ok (.ireturn, 1) := by decide +kernel
theorem dX5_mostThrilling_0 : decode cX5_mostThrilling 0 = .ok (.aload_n 0, 1) := by decide +kernel
theorem dX5_mostThrilling_1 : decode cX5_mostThrilling 1 = .ok (.aload_n 0, 1) := by decide +kernel
theorem dX5_mostThrilling_2 : decode cX5_mostThrilling 2 = .ok (.invokevirtual 143, 3) := by decide +kernel
theorem dX5_mostThrilling_5 : decode cX5_mostThrilling 5 = .ok (.invokevirtual 125, 3) := by decide +kernel
theorem dX5_mostThrilling_8 : decode cX5_mostThrilling 8 = .ok (.ireturn, 1) := by decide +kernel
theorem dX5_waits_0 : decode cX5_waits 0 = .ok (.iconst 0, 1) := by decide +kernel
theorem dX5_waits_1 : decode cX5_waits 1 = .ok (.istore_n 1, 1) := by decide +kernel
theorem dX5_waits_2 : decode cX5_waits 2 = .ok (.iconst 1, 1) := by decide +kernel
theorem dX5_waits_3 : decode cX5_waits 3 = .ok (.istore_n 2, 1) := by decide +kernel
theorem dX5_waits_4 : decode cX5_waits 4 = .ok (.iload_n 2, 1) := by decide +kernel
theorem dX5_waits_5 : decode cX5_waits 5 = .ok (.aload_n 0, 1) := by decide +kernel
theorem dX5_waits_6 : decode cX5_waits 6 = .ok (.getfield 44, 3) := by decide +kernel
theorem dX5_waits_9 : decode cX5_waits 9 = .ok (.bipush 8, 2) := by decide +kernel
theorem dX5_waits_11 : decode cX5_waits 11 = .ok (.iaload, 1) := by decide +kernel
theorem dX5_waits_12 : decode cX5_waits 12 = .ok (.if_icmp .ge 29, 3) := by decide +kernel
theorem dX5_waits_15 : decode cX5_waits 15 = .ok (.iload_n 1, 1) := by decide +kernel
theorem dX5_waits_16 : decode cX5_waits 16 = .ok (.aload_n 0, 1) := by decide +kernel
theorem dX5_waits_17 : decode cX5_waits 17 = .ok (.getfield 41, 3) := by decide +kernel
theorem dX5_waits_20 : decode cX5_waits 20 = .ok (.iload_n 2, 1) := by decide +kernel
theorem dX5_waits_21 : decode cX5_waits 21 = .ok (.iaload, 1) := by decide +kernel
theorem dX5_waits_22 : decode cX5_waits 22 = .ok (.aload_n 0, 1) := by decide +kernel
theorem dX5_waits_23 : decode cX5_waits 23 = .ok (.getfield 41, 3) := by decide +kernel
theorem dX5_waits_26 : decode cX5_waits 26 = .ok (.iload_n 2, 1) := by decide +kernel
theorem dX5_waits_27 : decode cX5_waits 27 = .ok (.iconst 1, 1) := by decide +kernel
theorem dX5_waits_28 : decode cX5_waits 28 = .ok (.isub, 1) := by decide +kernel
theorem dX5_waits_29 : decode cX5_waits 29 = .ok (.iaload, 1) := by decide +kernel
theorem dX5_waits_30 : decode cX5_waits 30 = .ok (.isub, 1) := by decide +kernel
theorem dX5_waits_31 : decode cX5_waits 31 = .ok (.invokestatic 146, 3) := by decide +kernel
theorem dX5_waits_34 : decode cX5_waits 34 = .ok (.istore_n 1, 1) := by decide +kernel
theorem dX5_waits_35 : decode cX5_waits 35 = .ok (.iinc 2 1, 3) := by decide +kernel
theorem dX5_waits_38 : decode cX5_waits 38 = .ok (.goto (-34), 3) := by decide +kernel
theorem dX5_waits_41 : decode cX5_waits 41 = .ok (.iload_n 1, 1) := by decide +kernel
theorem dX5_waits_42 : decode cX5_waits 42 = .ok (.ireturn, 1) := by decide +kernel
theorem dX5_longestWait_0 : decode cX5_longestWait 0 = .ok (.aload_n 0, 1) := by decide +kernel
theorem dX5_longestWait_1 : decode cX5_longestWait 1 = .ok (.aload_n 0, 1) := by decide +kernel
theorem dX5_longestWait_2 : decode cX5_longestWait 2 = .ok (.invokevirtual 149, 3) := by decide +kernel
theorem dX5_longestWait_5 : decode cX5_longestWait 5 = .ok (.invokevirtual 125, 3) := by decide +kernel
theorem dX5_longestWait_8 : decode cX5_longestWait 8 = .ok (.ireturn, 1) := by decide +kernel
theorem dX5_rises_0 : decode cX5_rises 0 = .ok (.iconst 0, 1) := by decide +kernel
theorem dX5_rises_1 : decode cX5_rises 1 = .ok (.istore_n 1, 1) := by decide +kernel
theorem dX5_rises_2 : decode cX5_rises 2 = .ok (.iconst 1, 1) := by decide +kernel
theorem dX5_rises_3 : decode cX5_rises 3 = .ok (.istore_n 2, 1) := by decide +kernel
theorem dX5_rises_4 : decode cX5_rises 4 = .ok (.iload_n 2, 1) := by decide +kernel
theorem dX5_rises_5 : decode cX5_rises 5 = .ok (.aload_n 0, 1) := by decide +kernel
theorem dX5_rises_6 : decode cX5_rises 6 = .ok (.getfield 44, 3) := by decide +kernel
theorem dX5_rises_9 : decode cX5_rises 9 = .ok (.bipush 8, 2) := by decide +kernel
theorem dX5_rises_11 : decode cX5_rises 11 = .ok (.iaload, 1) := by decide +kernel
theorem dX5_rises_12 : decode cX5_rises 12 = .ok (.if_icmp .ge 40, 3) := by decide +kernel
theorem dX5_rises_15 : decode cX5_rises 15 = .ok (.iload_n 1, 1) := by decide +kernel
theorem dX5_rises_16 : decode cX5_rises 16 = .ok (.aload_n 0, 1) := by decide +kernel
theorem dX5_rises_17 : decode cX5_rises 17 = .ok (.getfield 35, 3) := by decide +kernel
theorem dX5_rises_20 : decode cX5_rises 20 = .ok (.iload_n 2, 1) := by decide +kernel
theorem dX5_rises_21 : decode cX5_rises 21 = .ok (.iaload, 1) := by decide +kernel
theorem dX5_rises_22 : decode cX5_rises 22 = .ok (.bipush 9, 2) := by decide +kernel
theorem dX5_rises_24 : decode cX5_rises 24 = .ok (.idiv, 1) := by decide +kernel
theorem dX5_rises_25 : decode cX5_rises 25 = .ok (.aload_n 0, 1) := by decide +kernel
theorem dX5_rises_26 : decode cX5_rises 26 = .ok (.getfield 35, 3) := by decide +kernel
theorem dX5_rises_29 : decode cX5_rises 29 = .ok (.iload_n 2, 1) := by decide +kernel
theorem dX5_rises_30 : decode cX5_rises 30 = .ok (.iconst 1, 1) := by decide +kernel
theorem dX5_rises_31 : decode cX5_rises 31 = .ok (.isub, 1) := by decide +kernel
theorem dX5_rises_32 : decode cX5_rises 32 = .ok (.iaload, 1) := by decide +kernel
theorem dX5_rises_33 : decode cX5_rises 33 = .ok (.bipush 9, 2) := by decide +kernel
theorem dX5_rises_35 : decode cX5_rises 35 = .ok (.idiv, 1) := by decide +kernel
theorem dX5_rises_36 : decode cX5_rises 36 = .ok (.if_icmp .le 7, 3) := by decide +kernel
theorem dX5_rises_39 : decode cX5_rises 39 = .ok (.iconst 1, 1) := by decide +kernel
theorem dX5_rises_40 : decode cX5_rises 40 = .ok (.goto 4, 3) := by decide +kernel
theorem dX5_rises_43 : decode cX5_rises 43 = .ok (.iconst 0, 1) := by decide +kernel
theorem dX5_rises_44 : decode cX5_rises 44 = .ok (.iadd, 1) := by decide +kernel
theorem dX5_rises_45 : decode cX5_rises 45 = .ok (.istore_n 1, 1) := by decide +kernel
theorem dX5_rises_46 : decode cX5_rises 46 = .ok (.iinc 2 1, 3) := by decide +kernel
theorem dX5_rises_49 : decode cX5_rises 49 = .ok (.goto (-45), 3) := by decide +kernel
theorem dX5_rises_52 : decode cX5_rises 52 = .ok (.iload_n 1, 1) := by decide +kernel
theorem dX5_rises_53 : decode cX5_rises 53 = .ok (.ireturn, 1) := by decide +kernel
theorem dX5_climbs_0 : decode cX5_climbs 0 = .ok (.aload_n 0, 1) := by decide +kernel
theorem dX5_climbs_1 : decode cX5_climbs 1 = .ok (.aload_n 0, 1) := by decide +kernel
theorem dX5_climbs_2 : decode cX5_climbs 2 = .ok (.invokevirtual 152, 3) := by decide +kernel
theorem dX5_climbs_5 : decode cX5_climbs 5 = .ok (.invokevirtual 125, 3) := by decide +kernel
theorem dX5_climbs_8 : decode cX5_climbs 8 = .ok (.ireturn, 1) := by decide +kernel
theorem dX5_readers_0 : decode cX5_readers 0 = .ok (.aload_n 0, 1) := by decide +kernel
theorem dX5_readers_1 : decode cX5_readers 1 = .ok (.aload_n 0, 1) := by decide +kernel
theorem dX5_readers_2 : decode cX5_readers 2 = .ok (.getfield 57, 3) := by decide +kernel
theorem dX5_readers_5 : decode cX5_readers 5 = .ok (.invokevirtual 125, 3) := by decide +kernel
theorem dX5_readers_8 : decode cX5_readers 8 = .ok (.ireturn, 1) := by decide +kernel
theorem dX5_subscribers_0 : decode cX5_subscribers 0 = .ok (.aload_n 0, 1) := by decide +kernel
theorem dX5_subscribers_1 : decode cX5_subscribers 1 = .ok (.aload_n 0, 1) := by decide +kernel
theorem dX5_subscribers_2 : decode cX5_subscribers 2 = .ok (.getfield 44, 3) := by decide +kernel
theorem dX5_subscribers_5 : decode cX5_subscribers 5 = .ok (.bipush 7, 2) := by decide +kernel
theorem dX5_subscribers_7 : decode cX5_subscribers 7 = .ok (.iaload, 1) := by decide +kernel
theorem dX5_subscribers_8 : decode cX5_subscribers 8 = .ok (.invokestatic 116, 3) := by decide +kernel
theorem dX5_subscribers_11 : decode cX5_subscribers 11 = .ok (.invokevirtual 125, 3) := by decide +kernel
theorem dX5_subscribers_14 : decode cX5_subscribers 14 = .ok (.ireturn, 1) := by decide +kernel
theorem dX5_tasteOf_0 : decode cX5_tasteOf 0 = .ok (.aload_n 0, 1) := by decide +kernel
theorem dX5_tasteOf_1 : decode cX5_tasteOf 1 = .ok (.iconst 0, 1) := by decide +kernel
theorem dX5_tasteOf_2 : decode cX5_tasteOf 2 = .ok (.putfield 50, 3) := by decide +kernel
theorem dX5_tasteOf_5 : decode cX5_tasteOf 5 = .ok (.aload_n 0, 1) := by decide +kernel
theorem dX5_tasteOf_6 : decode cX5_tasteOf 6 = .ok (.iload_n 1, 1) := by decide +kernel
theorem dX5_tasteOf_7 : decode cX5_tasteOf 7 = .ok (.invokevirtual 155, 3) := by decide +kernel
theorem dX5_tasteOf_10 : decode cX5_tasteOf 10 = .ok (.ifCond .eq 12, 3) := by decide +kernel
theorem dX5_tasteOf_13 : decode cX5_tasteOf 13 = .ok (.aload_n 0, 1) := by decide +kernel
theorem dX5_tasteOf_14 : decode cX5_tasteOf 14 = .ok (.getfield 26, 3) := by decide +kernel
theorem dX5_tasteOf_17 : decode cX5_tasteOf 17 = .ok (.iload_n 1, 1) := by decide +kernel
theorem dX5_tasteOf_18 : decode cX5_tasteOf 18 = .ok (.iaload, 1) := by decide +kernel
theorem dX5_tasteOf_19 : decode cX5_tasteOf 19 = .ok (.goto 8, 3) := by decide +kernel
theorem dX5_tasteOf_22 : decode cX5_tasteOf 22 = .ok (.aload_n 0, 1) := by decide +kernel
theorem dX5_tasteOf_23 : decode cX5_tasteOf 23 = .ok (.iconst 1, 1) := by decide +kernel
theorem dX5_tasteOf_24 : decode cX5_tasteOf 24 = .ok (.invokevirtual 112, 3) := by decide +kernel
theorem dX5_tasteOf_27 : decode cX5_tasteOf 27 = .ok (.ireturn, 1) := by decide +kernel
theorem dX5_warm_0 : decode cX5_warm 0 = .ok (.aload_n 0, 1) := by decide +kernel
theorem dX5_warm_1 : decode cX5_warm 1 = .ok (.iload_n 1, 1) := by decide +kernel
theorem dX5_warm_2 : decode cX5_warm 2 = .ok (.invokevirtual 73, 3) := by decide +kernel
theorem dX5_warm_5 : decode cX5_warm 5 = .ok (.ifCond .eq 15, 3) := by decide +kernel
theorem dX5_warm_8 : decode cX5_warm 8 = .ok (.aload_n 0, 1) := by decide +kernel
theorem dX5_warm_9 : decode cX5_warm 9 = .ok (.getfield 44, 3) := by decide +kernel
theorem dX5_warm_12 : decode cX5_warm 12 = .ok (.bipush 33, 2) := by decide +kernel
theorem dX5_warm_14 : decode cX5_warm 14 = .ok (.iload_n 1, 1) := by decide +kernel
theorem dX5_warm_15 : decode cX5_warm 15 = .ok (.iadd, 1) := by decide +kernel
theorem dX5_warm_16 : decode cX5_warm 16 = .ok (.iaload, 1) := by decide +kernel
theorem dX5_warm_17 : decode cX5_warm 17 = .ok (.goto 4, 3) := by decide +kernel
theorem dX5_warm_20 : decode cX5_warm 20 = .ok (.iconst 0, 1) := by decide +kernel
theorem dX5_warm_21 : decode cX5_warm 21 = .ok (.ireturn, 1) := by decide +kernel
theorem dX5_warmthOf_0 : decode cX5_warmthOf 0 = .ok (.aload_n 0, 1) := by decide +kernel
theorem dX5_warmthOf_1 : decode cX5_warmthOf 1 = .ok (.iconst 0, 1) := by decide +kernel
theorem dX5_warmthOf_2 : decode cX5_warmthOf 2 = .ok (.putfield 50, 3) := by decide +kernel
theorem dX5_warmthOf_5 : decode cX5_warmthOf 5 = .ok (.aload_n 0, 1) := by decide +kernel
theorem dX5_warmthOf_6 : decode cX5_warmthOf 6 = .ok (.iload_n 1, 1) := by decide +kernel
theorem dX5_warmthOf_7 : decode cX5_warmthOf 7 = .ok (.invokevirtual 155, 3) := by decide +kernel
theorem dX5_warmthOf_10 : decode cX5_warmthOf 10 = .ok (.ifCond .eq 11, 3) := by decide +kernel
theorem dX5_warmthOf_13 : decode cX5_warmthOf 13 = .ok (.aload_n 0, 1) := by decide +kernel
theorem dX5_warmthOf_14 : decode cX5_warmthOf 14 = .ok (.iload_n 1, 1) := by decide +kernel
theorem dX5_warmthOf_15 : decode cX5_warmthOf 15 = .ok (.invokevirtual 158, 3) := by decide +kernel
theorem dX5_warmthOf_18 : decode cX5_warmthOf 18 = .ok (.goto 8, 3) := by decide +kernel
theorem dX5_warmthOf_21 : decode cX5_warmthOf 21 = .ok (.aload_n 0, 1) := by decide +kernel
theorem dX5_warmthOf_22 : decode cX5_warmthOf 22 = .ok (.iconst 1, 1) := by decide +kernel
theorem dX5_warmthOf_23 : decode cX5_warmthOf 23 = .ok (.invokevirtual 112, 3) := by decide +kernel
theorem dX5_warmthOf_26 : decode cX5_warmthOf 26 = .ok (.ireturn, 1) := by decide +kernel
theorem dX5_isSubscriber_0 : decode cX5_isSubscriber 0 = .ok (.aload_n 0, 1) := by decide +kernel
theorem dX5_isSubscriber_1 : decode cX5_isSubscriber 1 = .ok (.aload_n 0, 1) := by decide +kernel
theorem dX5_isSubscriber_2 : decode cX5_isSubscriber 2 = .ok (.iload_n 1, 1) := by decide +kernel
theorem dX5_isSubscriber_3 : decode cX5_isSubscriber 3 = .ok (.invokevirtual 155, 3) := by decide +kernel
theorem dX5_isSubscriber_6 : decode cX5_isSubscriber 6 = .ok (.ifCond .eq 7, 3) := by decide +kernel
theorem dX5_isSubscriber_9 : decode cX5_isSubscriber 9 = .ok (.iconst 0, 1) := by decide +kernel
theorem dX5_isSubscriber_10 : decode cX5_isSubscriber 10 = .ok (.goto 4, 3) := by decide +kernel
theorem dX5_isSubscriber_13 : decode cX5_isSubscriber 13 = .ok (.iconst 1, 1) := by decide +kernel
theorem dX5_isSubscriber_14 : decode cX5_isSubscriber 14 = .ok (.putfield 50, 3) := by decide +kernel
theorem dX5_isSubscriber_17 : decode cX5_isSubscriber 17 = .ok (.aload_n 0, 1) := by decide +kernel
theorem dX5_isSubscriber_18 : decode cX5_isSubscriber 18 = .ok (.getfield 50, 3) := by decide +kernel
theorem dX5_isSubscriber_21 : decode cX5_isSubscriber 21 = .ok (.ifCond .ne 15, 3) := by decide +kernel
theorem dX5_isSubscriber_24 : decode cX5_isSubscriber 24 = .ok (.aload_n 0, 1) := by decide +kernel
theorem dX5_isSubscriber_25 : decode cX5_isSubscriber 25 = .ok (.iload_n 1, 1) := by decide +kernel
theorem dX5_isSubscriber_26 : decode cX5_isSubscriber 26 = .ok (.invokevirtual 73, 3) := by decide +kernel
theorem dX5_isSubscriber_29 : decode cX5_isSubscriber 29 = .ok (.ifCond .eq 7, 3) := by decide +kernel
theorem dX5_isSubscriber_32 : decode cX5_isSubscriber 32 = .ok (.iconst 1, 1) := by decide +kernel
theorem dX5_isSubscriber_33 : decode cX5_isSubscriber 33 = .ok (.goto 4, 3) := by decide +kernel
theorem dX5_isSubscriber_36 : decode cX5_isSubscriber 36 = .ok (.iconst 0, 1) := by decide +kernel
theorem dX5_isSubscriber_37 : decode cX5_isSubscriber 37 = .ok (.ireturn, 1) := by decide +kernel
theorem dX5_hottest_0 : decode cX5_hottest 0 = .ok (.iconst (-1), 1) := by decide +kernel
theorem dX5_hottest_1 : decode cX5_hottest 1 = .ok (.istore_n 1, 1) := by decide +kernel
theorem dX5_hottest_2 : decode cX5_hottest 2 = .ok (.iconst 0, 1) := by decide +kernel
theorem dX5_hottest_3 : decode cX5_hottest 3 = .ok (.istore_n 2, 1) := by decide +kernel
theorem dX5_hottest_4 : decode cX5_hottest 4 = .ok (.iload_n 2, 1) := by decide +kernel
theorem dX5_hottest_5 : decode cX5_hottest 5 = .ok (.aload_n 0, 1) := by decide +kernel
theorem dX5_hottest_6 : decode cX5_hottest 6 = .ok (.getfield 57, 3) := by decide +kernel
theorem dX5_hottest_9 : decode cX5_hottest 9 = .ok (.if_icmp .ge 45, 3) := by decide +kernel
theorem dX5_hottest_12 : decode cX5_hottest 12 = .ok (.aload_n 0, 1) := by decide +kernel
theorem dX5_hottest_13 : decode cX5_hottest 13 = .ok (.iload_n 2, 1) := by decide +kernel
theorem dX5_hottest_14 : decode cX5_hottest 14 = .ok (.invokevirtual 73, 3) := by decide +kernel
theorem dX5_hottest_17 : decode cX5_hottest 17 = .ok (.ifCond .eq 31, 3) := by decide +kernel
theorem dX5_hottest_20 : decode cX5_hottest 20 = .ok (.iload_n 1, 1) := by decide +kernel
theorem dX5_hottest_21 : decode cX5_hottest 21 = .ok (.iconst (-1), 1) := by decide +kernel
theorem dX5_hottest_22 : decode cX5_hottest 22 = .ok (.if_icmp .eq 24, 3) := by decide +kernel
theorem dX5_hottest_25 : decode cX5_hottest 25 = .ok (.aload_n 0, 1) := by decide +kernel
theorem dX5_hottest_26 : decode cX5_hottest 26 = .ok (.getfield 44, 3) := by decide +kernel
theorem dX5_hottest_29 : decode cX5_hottest 29 = .ok (.bipush 33, 2) := by decide +kernel
theorem dX5_hottest_31 : decode cX5_hottest 31 = .ok (.iload_n 2, 1) := by decide +kernel
theorem dX5_hottest_32 : decode cX5_hottest 32 = .ok (.iadd, 1) := by decide +kernel
theorem dX5_hottest_33 : decode cX5_hottest 33 = .ok (.iaload, 1) := by decide +kernel
theorem dX5_hottest_34 : decode cX5_hottest 34 = .ok (.aload_n 0, 1) := by decide +kernel
theorem dX5_hottest_35 : decode cX5_hottest 35 = .ok (.getfield 44, 3) := by decide +kernel
theorem dX5_hottest_38 : decode cX5_hottest 38 = .ok (.bipush 33, 2) := by decide +kernel
theorem dX5_hottest_40 : decode cX5_hottest 40 = .ok (.iload_n 1, 1) := by decide +kernel
theorem dX5_hottest_41 : decode cX5_hottest 41 = .ok (.iadd, 1) := by decide +kernel
theorem dX5_hottest_42 : decode cX5_hottest 42 = .ok (.iaload, 1) := by decide +kernel
theorem dX5_hottest_43 : decode cX5_hottest 43 = .ok (.if_icmp .le 5, 3) := by decide +kernel
theorem dX5_hottest_46 : decode cX5_hottest 46 = .ok (.iload_n 2, 1) := by decide +kernel
theorem dX5_hottest_47 : decode cX5_hottest 47 = .ok (.istore_n 1, 1) := by decide +kernel
theorem dX5_hottest_48 : decode cX5_hottest 48 = .ok (.iinc 2 1, 3) := by decide +kernel
theorem dX5_hottest_51 : decode cX5_hottest 51 = .ok (.goto (-47), 3) := by decide +kernel
theorem dX5_hottest_54 : decode cX5_hottest 54 = .ok (.iload_n 1, 1) := by decide +kernel
theorem dX5_hottest_55 : decode cX5_hottest 55 = .ok (.ireturn, 1) := by decide +kernel
theorem dX5_warmest_0 : decode cX5_warmest 0 = .ok (.aload_n 0, 1) := by decide +kernel
theorem dX5_warmest_1 : decode cX5_warmest 1 = .ok (.aload_n 0, 1) := by decide +kernel
theorem dX5_warmest_2 : decode cX5_warmest 2 = .ok (.invokevirtual 161, 3) := by decide +kernel
theorem dX5_warmest_5 : decode cX5_warmest 5 = .ok (.invokevirtual 125, 3) := by decide +kernel
theorem dX5_warmest_8 : decode cX5_warmest 8 = .ok (.ireturn, 1) := by decide +kernel
theorem dX5_mirrors_0 : decode cX5_mirrors 0 = .ok (.aload_n 0, 1) := by decide +kernel
theorem dX5_mirrors_1 : decode cX5_mirrors 1 = .ok (.aload_n 0, 1) := by decide +kernel
theorem dX5_mirrors_2 : decode cX5_mirrors 2 = .ok (.getfield 60, 3) := by decide +kernel
theorem dX5_mirrors_5 : decode cX5_mirrors 5 = .ok (.invokevirtual 125, 3) := by decide +kernel
theorem dX5_mirrors_8 : decode cX5_mirrors 8 = .ok (.ireturn, 1) := by decide +kernel
theorem dX5_graded_0 : decode cX5_graded 0 = .ok (.iconst 4, 1) := by decide +kernel
theorem dX5_graded_1 : decode cX5_graded 1 = .ok (.aload_n 0, 1) := by decide +kernel
theorem dX5_graded_2 : decode cX5_graded 2 = .ok (.getfield 38, 3) := by decide +kernel
theorem dX5_graded_5 : decode cX5_graded 5 = .ok (.iload_n 2, 1) := by decide +kernel
theorem dX5_graded_6 : decode cX5_graded 6 = .ok (.iaload, 1) := by decide +kernel
theorem dX5_graded_7 : decode cX5_graded 7 = .ok (.iconst 3, 1) := by decide +kernel
theorem dX5_graded_8 : decode cX5_graded 8 = .ok (.idiv, 1) := by decide +kernel
theorem dX5_graded_9 : decode cX5_graded 9 = .ok (.iadd, 1) := by decide +kernel
theorem dX5_graded_10 : decode cX5_graded 10 = .ok (.istore_n 3, 1) := by decide +kernel
theorem dX5_graded_11 : decode cX5_graded 11 = .ok (.aload_n 0, 1) := by decide +kernel
theorem dX5_graded_12 : decode cX5_graded 12 = .ok (.getfield 20, 3) := by decide +kernel
theorem dX5_graded_15 : decode cX5_graded 15 = .ok (.aload_n 0, 1) := by decide +kernel
theorem dX5_graded_16 : decode cX5_graded 16 = .ok (.getfield 35, 3) := by decide +kernel
theorem dX5_graded_19 : decode cX5_graded 19 = .ok (.iload_n 2, 1) := by decide +kernel
theorem dX5_graded_20 : decode cX5_graded 20 = .ok (.iaload, 1) := by decide +kernel
theorem dX5_graded_21 : decode cX5_graded 21 = .ok (.iaload, 1) := by decide +kernel
theorem dX5_graded_22 : decode cX5_graded 22 = .ok (.istore 4, 2) := by decide +kernel
theorem dX5_graded_24 : decode cX5_graded 24 = .ok (.iload_n 3, 1) := by decide +kernel
theorem dX5_graded_25 : decode cX5_graded 25 = .ok (.iload 4, 2) := by decide +kernel
theorem dX5_graded_27 : decode cX5_graded 27 = .ok (.aload_n 0, 1) := by decide +kernel
theorem dX5_graded_28 : decode cX5_graded 28 = .ok (.getfield 29, 3) := by decide +kernel
theorem dX5_graded_31 : decode cX5_graded 31 = .ok (.iload_n 1, 1) := by decide +kernel
theorem dX5_graded_32 : decode cX5_graded 32 = .ok (.iaload, 1) := by decide +kernel
theorem dX5_graded_33 : decode cX5_graded 33 = .ok (.if_icmp .ne 7, 3) := by decide +kernel
theorem dX5_graded_36 : decode cX5_graded 36 = .ok (.iconst 2, 1) := by decide +kernel
theorem dX5_graded_37 : decode cX5_graded 37 = .ok (.goto 20, 3) := by decide +kernel
theorem dX5_graded_40 : decode cX5_graded 40 = .ok (.iload 4, 2) := by decide +kernel
theorem dX5_graded_42 : decode cX5_graded 42 = .ok (.aload_n 0, 1) := by decide +kernel
theorem dX5_graded_43 : decode cX5_graded 43 = .ok (.getfield 32, 3) := by decide +kernel
theorem dX5_graded_46 : decode cX5_graded 46 = .ok (.iload_n 1, 1) := by decide +kernel
theorem dX5_graded_47 : decode cX5_graded 47 = .ok (.iaload, 1) := by decide +kernel
theorem dX5_graded_48 : decode cX5_graded 48 = .ok (.if_icmp .ne 8, 3) := by decide +kernel
theorem dX5_graded_51 : decode cX5_graded 51 = .ok (.bipush (-3), 2) := by decide +kernel
theorem dX5_graded_53 : decode cX5_graded 53 = .ok (.goto 4, 3) := by decide +kernel
theorem dX5_graded_56 : decode cX5_graded 56 = .ok (.iconst 0, 1) := by decide +kernel
theorem dX5_graded_57 : decode cX5_graded 57 = .ok (.iadd, 1) := by decide +kernel
theorem dX5_graded_58 : decode cX5_graded 58 = .ok (.istore_n 3, 1) := by decide +kernel
theorem dX5_graded_59 : decode cX5_graded 59 = .ok (.iconst 0, 1) := by decide +kernel
theorem dX5_graded_60 : decode cX5_graded 60 = .ok (.bipush 10, 2) := by decide +kernel
theorem dX5_graded_62 : decode cX5_graded 62 = .ok (.iload_n 3, 1) := by decide +kernel
theorem dX5_graded_63 : decode cX5_graded 63 = .ok (.invokestatic 77, 3) := by decide +kernel
theorem dX5_graded_66 : decode cX5_graded 66 = .ok (.invokestatic 146, 3) := by decide +kernel
theorem dX5_graded_69 : decode cX5_graded 69 = .ok (.ireturn, 1) := by decide +kernel
theorem dX5_grade_0 : decode cX5_grade 0 = .ok (.aload_n 0, 1) := by decide +kernel
theorem dX5_grade_1 : decode cX5_grade 1 = .ok (.iconst 0, 1) := by decide +kernel
theorem dX5_grade_2 : decode cX5_grade 2 = .ok (.putfield 50, 3) := by decide +kernel
theorem dX5_grade_5 : decode cX5_grade 5 = .ok (.aload_n 0, 1) := by decide +kernel
theorem dX5_grade_6 : decode cX5_grade 6 = .ok (.iload_n 1, 1) := by decide +kernel
theorem dX5_grade_7 : decode cX5_grade 7 = .ok (.invokevirtual 164, 3) := by decide +kernel
theorem dX5_grade_10 : decode cX5_grade 10 = .ok (.ifCond .eq 20, 3) := by decide +kernel
theorem dX5_grade_13 : decode cX5_grade 13 = .ok (.aload_n 0, 1) := by decide +kernel
theorem dX5_grade_14 : decode cX5_grade 14 = .ok (.iload_n 2, 1) := by decide +kernel
theorem dX5_grade_15 : decode cX5_grade 15 = .ok (.invokevirtual 140, 3) := by decide +kernel
theorem dX5_grade_18 : decode cX5_grade 18 = .ok (.ifCond .eq 12, 3) := by decide +kernel
theorem dX5_grade_21 : decode cX5_grade 21 = .ok (.aload_n 0, 1) := by decide +kernel
theorem dX5_grade_22 : decode cX5_grade 22 = .ok (.iload_n 1, 1) := by decide +kernel
theorem dX5_grade_23 : decode cX5_grade 23 = .ok (.iload_n 2, 1) := by decide +kernel
theorem dX5_grade_24 : decode cX5_grade 24 = .ok (.invokevirtual 167, 3) := by decide +kernel
theorem dX5_grade_27 : decode cX5_grade 27 = .ok (.goto 8, 3) := by decide +kernel
theorem dX5_grade_30 : decode cX5_grade 30 = .ok (.aload_n 0, 1) := by decide +kernel
theorem dX5_grade_31 : decode cX5_grade 31 = .ok (.iconst 1, 1) := by decide +kernel
theorem dX5_grade_32 : decode cX5_grade 32 = .ok (.invokevirtual 112, 3) := by decide +kernel
theorem dX5_grade_35 : decode cX5_grade 35 = .ok (.ireturn, 1) := by decide +kernel
theorem dX5_sumBy_0 : decode cX5_sumBy 0 = .ok (.iconst 0, 1) := by decide +kernel
theorem dX5_sumBy_1 : decode cX5_sumBy 1 = .ok (.istore_n 2, 1) := by decide +kernel
theorem dX5_sumBy_2 : decode cX5_sumBy 2 = .ok (.iconst 0, 1) := by decide +kernel
theorem dX5_sumBy_3 : decode cX5_sumBy 3 = .ok (.istore_n 3, 1) := by decide +kernel
theorem dX5_sumBy_4 : decode cX5_sumBy 4 = .ok (.iload_n 3, 1) := by decide +kernel
theorem dX5_sumBy_5 : decode cX5_sumBy 5 = .ok (.aload_n 0, 1) := by decide +kernel
theorem dX5_sumBy_6 : decode cX5_sumBy 6 = .ok (.getfield 44, 3) := by decide +kernel
theorem dX5_sumBy_9 : decode cX5_sumBy 9 = .ok (.bipush 8, 2) := by decide +kernel
theorem dX5_sumBy_11 : decode cX5_sumBy 11 = .ok (.iaload, 1) := by decide +kernel
theorem dX5_sumBy_12 : decode cX5_sumBy 12 = .ok (.if_icmp .ge 18, 3) := by decide +kernel
theorem dX5_sumBy_15 : decode cX5_sumBy 15 = .ok (.iload_n 2, 1) := by decide +kernel
theorem dX5_sumBy_16 : decode cX5_sumBy 16 = .ok (.aload_n 0, 1) := by decide +kernel
theorem dX5_sumBy_17 : decode cX5_sumBy 17 = .ok (.iload_n 1, 1) := by decide +kernel
theorem dX5_sumBy_18 : decode cX5_sumBy 18 = .ok (.iload_n 3, 1) := by decide +kernel
theorem dX5_sumBy_19 : decode cX5_sumBy 19 = .ok (.invokevirtual 167, 3) := by decide +kernel
theorem dX5_sumBy_22 : decode cX5_sumBy 22 = .ok (.iadd, 1) := by decide +kernel
theorem dX5_sumBy_23 : decode cX5_sumBy 23 = .ok (.istore_n 2, 1) := by decide +kernel
theorem dX5_sumBy_24 : decode cX5_sumBy 24 = .ok (.iinc 3 1, 3) := by decide +kernel
theorem dX5_sumBy_27 : decode cX5_sumBy 27 = .ok (.goto (-23), 3) := by decide +kernel
theorem dX5_sumBy_30 : decode cX5_sumBy 30 = .ok (.iload_n 2, 1) := by decide +kernel
theorem dX5_sumBy_31 : decode cX5_sumBy 31 = .ok (.ireturn, 1) := by decide +kernel
theorem dX5_gradesBy_0 : decode cX5_gradesBy 0 = .ok (.aload_n 0, 1) := by decide +kernel
theorem dX5_gradesBy_1 : decode cX5_gradesBy 1 = .ok (.iconst 0, 1) := by decide +kernel
theorem dX5_gradesBy_2 : decode cX5_gradesBy 2 = .ok (.putfield 50, 3) := by decide +kernel
theorem dX5_gradesBy_5 : decode cX5_gradesBy 5 = .ok (.aload_n 0, 1) := by decide +kernel
theorem dX5_gradesBy_6 : decode cX5_gradesBy 6 = .ok (.iload_n 1, 1) := by decide +kernel
theorem dX5_gradesBy_7 : decode cX5_gradesBy 7 = .ok (.invokevirtual 164, 3) := by decide +kernel
theorem dX5_gradesBy_10 : decode cX5_gradesBy 10 = .ok (.ifCond .eq 11, 3) := by decide +kernel
theorem dX5_gradesBy_13 : decode cX5_gradesBy 13 = .ok (.aload_n 0, 1) := by decide +kernel
theorem dX5_gradesBy_14 : decode cX5_gradesBy 14 = .ok (.iload_n 1, 1) := by decide +kernel
theorem dX5_gradesBy_15 : decode cX5_gradesBy 15 = .ok (.invokevirtual 170, 3) := by decide +kernel
theorem dX5_gradesBy_18 : decode cX5_gradesBy 18 = .ok (.goto 8, 3) := by decide +kernel
theorem dX5_gradesBy_21 : decode cX5_gradesBy 21 = .ok (.aload_n 0, 1) := by decide +kernel
theorem dX5_gradesBy_22 : decode cX5_gradesBy 22 = .ok (.iconst 1, 1) := by decide +kernel
theorem dX5_gradesBy_23 : decode cX5_gradesBy 23 = .ok (.invokevirtual 112, 3) := by decide +kernel
theorem dX5_gradesBy_26 : decode cX5_gradesBy 26 = .ok (.ireturn, 1) := by decide +kernel
theorem dX5_liked_0 : decode cX5_liked 0 = .ok (.iconst (-1), 1) := by decide +kernel
theorem dX5_liked_1 : decode cX5_liked 1 = .ok (.istore_n 2, 1) := by decide +kernel
theorem dX5_liked_2 : decode cX5_liked 2 = .ok (.iconst 0, 1) := by decide +kernel
theorem dX5_liked_3 : decode cX5_liked 3 = .ok (.istore_n 3, 1) := by decide +kernel
theorem dX5_liked_4 : decode cX5_liked 4 = .ok (.iload_n 3, 1) := by decide +kernel
theorem dX5_liked_5 : decode cX5_liked 5 = .ok (.aload_n 0, 1) := by decide +kernel
theorem dX5_liked_6 : decode cX5_liked 6 = .ok (.getfield 44, 3) := by decide +kernel
theorem dX5_liked_9 : decode cX5_liked 9 = .ok (.bipush 8, 2) := by decide +kernel
theorem dX5_liked_11 : decode cX5_liked 11 = .ok (.iaload, 1) := by decide +kernel
theorem dX5_liked_12 : decode cX5_liked 12 = .ok (.if_icmp .ge 31, 3) := by decide +kernel
theorem dX5_liked_15 : decode cX5_liked 15 = .ok (.iload_n 2, 1) := by decide +kernel
theorem dX5_liked_16 : decode cX5_liked 16 = .ok (.iconst (-1), 1) := by decide +kernel
theorem dX5_liked_17 : decode cX5_liked 17 = .ok (.if_icmp .eq 18, 3) := by decide +kernel
theorem dX5_liked_20 : decode cX5_liked 20 = .ok (.aload_n 0, 1) := by decide +kernel
theorem dX5_liked_21 : decode cX5_liked 21 = .ok (.iload_n 1, 1) := by decide +kernel
theorem dX5_liked_22 : decode cX5_liked 22 = .ok (.iload_n 3, 1) := by decide +kernel
theorem dX5_liked_23 : decode cX5_liked 23 = .ok (.invokevirtual 167, 3) := by decide +kernel
theorem dX5_liked_26 : decode cX5_liked 26 = .ok (.aload_n 0, 1) := by decide +kernel
theorem dX5_liked_27 : decode cX5_liked 27 = .ok (.iload_n 1, 1) := by decide +kernel
theorem dX5_liked_28 : decode cX5_liked 28 = .ok (.iload_n 2, 1) := by decide +kernel
theorem dX5_liked_29 : decode cX5_liked 29 = .ok (.invokevirtual 167, 3) := by decide +kernel
theorem dX5_liked_32 : decode cX5_liked 32 = .ok (.if_icmp .le 5, 3) := by decide +kernel
theorem dX5_liked_35 : decode cX5_liked 35 = .ok (.iload_n 3, 1) := by decide +kernel
theorem dX5_liked_36 : decode cX5_liked 36 = .ok (.istore_n 2, 1) := by decide +kernel
theorem dX5_liked_37 : decode cX5_liked 37 = .ok (.iinc 3 1, 3) := by decide +kernel
theorem dX5_liked_40 : decode cX5_liked 40 = .ok (.goto (-36), 3) := by decide +kernel
theorem dX5_liked_43 : decode cX5_liked 43 = .ok (.iload_n 2, 1) := by decide +kernel
theorem dX5_liked_44 : decode cX5_liked 44 = .ok (.ireturn, 1) := by decide +kernel
theorem dX5_favouriteOf_0 : decode cX5_favouriteOf 0 = .ok (.aload_n 0, 1) := by decide +kernel
theorem dX5_favouriteOf_1 : decode cX5_favouriteOf 1 = .ok (.iconst 0, 1) := by decide +kernel
theorem dX5_favouriteOf_2 : decode cX5_favouriteOf 2 = .ok (.putfield 50, 3) := by decide +kernel
theorem dX5_favouriteOf_5 : decode cX5_favouriteOf 5 = .ok (.aload_n 0, 1) := by decide +kernel
theorem dX5_favouriteOf_6 : decode cX5_favouriteOf 6 = .ok (.iload_n 1, 1) := by decide +kernel
theorem dX5_favouriteOf_7 : decode cX5_favouriteOf 7 = .ok (.invokevirtual 164, 3) := by decide +kernel
theorem dX5_favouriteOf_10 : decode cX5_favouriteOf 10 = .ok (.ifCond .eq 11, 3) := by decide +kernel
theorem dX5_favouriteOf_13 : decode cX5_favouriteOf 13 = .ok (.aload_n 0, 1) := by decide +kernel
theorem dX5_favouriteOf_14 : decode cX5_favouriteOf 14 = .ok (.iload_n 1, 1) := by decide +kernel
theorem dX5_favouriteOf_15 : decode cX5_favouriteOf 15 = .ok (.invokevirtual 173, 3) := by decide +kernel
theorem dX5_favouriteOf_18 : decode cX5_favouriteOf 18 = .ok (.goto 8, 3) := by decide +kernel
theorem dX5_favouriteOf_21 : decode cX5_favouriteOf 21 = .ok (.aload_n 0, 1) := by decide +kernel
theorem dX5_favouriteOf_22 : decode cX5_favouriteOf 22 = .ok (.iconst 1, 1) := by decide +kernel
theorem dX5_favouriteOf_23 : decode cX5_favouriteOf 23 = .ok (.invokevirtual 112, 3) := by decide +kernel
theorem dX5_favouriteOf_26 : decode cX5_favouriteOf 26 = .ok (.ireturn, 1) := by decide +kernel
theorem dX5_kind_0 : decode cX5_kind 0 = .ok (.iconst (-1), 1) := by decide +kernel
theorem dX5_kind_1 : decode cX5_kind 1 = .ok (.istore_n 1, 1) := by decide +kernel
theorem dX5_kind_2 : decode cX5_kind 2 = .ok (.iconst 0, 1) := by decide +kernel
theorem dX5_kind_3 : decode cX5_kind 3 = .ok (.istore_n 2, 1) := by decide +kernel
theorem dX5_kind_4 : decode cX5_kind 4 = .ok (.iload_n 2, 1) := by decide +kernel
theorem dX5_kind_5 : decode cX5_kind 5 = .ok (.aload_n 0, 1) := by decide +kernel
theorem dX5_kind_6 : decode cX5_kind 6 = .ok (.getfield 60, 3) := by decide +kernel
theorem dX5_kind_9 : decode cX5_kind 9 = .ok (.if_icmp .ge 29, 3) := by decide +kernel
theorem dX5_kind_12 : decode cX5_kind 12 = .ok (.iload_n 1, 1) := by decide +kernel
theorem dX5_kind_13 : decode cX5_kind 13 = .ok (.iconst (-1), 1) := by decide +kernel
theorem dX5_kind_14 : decode cX5_kind 14 = .ok (.if_icmp .eq 16, 3) := by decide +kernel
theorem dX5_kind_17 : decode cX5_kind 17 = .ok (.aload_n 0, 1) := by decide +kernel
theorem dX5_kind_18 : decode cX5_kind 18 = .ok (.iload_n 2, 1) := by decide +kernel
theorem dX5_kind_19 : decode cX5_kind 19 = .ok (.invokevirtual 170, 3) := by decide +kernel
theorem dX5_kind_22 : decode cX5_kind 22 = .ok (.aload_n 0, 1) := by decide +kernel
theorem dX5_kind_23 : decode cX5_kind 23 = .ok (.iload_n 1, 1) := by decide +kernel
theorem dX5_kind_24 : decode cX5_kind 24 = .ok (.invokevirtual 170, 3) := by decide +kernel
theorem dX5_kind_27 : decode cX5_kind 27 = .ok (.if_icmp .le 5, 3) := by decide +kernel
theorem dX5_kind_30 : decode cX5_kind 30 = .ok (.iload_n 2, 1) := by decide +kernel
theorem dX5_kind_31 : decode cX5_kind 31 = .ok (.istore_n 1, 1) := by decide +kernel
theorem dX5_kind_32 : decode cX5_kind 32 = .ok (.iinc 2 1, 3) := by decide +kernel
theorem dX5_kind_35 : decode cX5_kind 35 = .ok (.goto (-31), 3) := by decide +kernel
theorem dX5_kind_38 : decode cX5_kind 38 = .ok (.iload_n 1, 1) := by decide +kernel
theorem dX5_kind_39 : decode cX5_kind 39 = .ok (.ireturn, 1) := by decide +kernel
theorem dX5_kindest_0 : decode cX5_kindest 0 = .ok (.aload_n 0, 1) := by decide +kernel
theorem dX5_kindest_1 : decode cX5_kindest 1 = .ok (.aload_n 0, 1) := by decide +kernel
theorem dX5_kindest_2 : decode cX5_kindest 2 = .ok (.invokevirtual 176, 3) := by decide +kernel
theorem dX5_kindest_5 : decode cX5_kindest 5 = .ok (.invokevirtual 125, 3) := by decide +kernel
theorem dX5_kindest_8 : decode cX5_kindest 8 = .ok (.ireturn, 1) := by decide +kernel
theorem dX5_untilStop_0 : decode cX5_untilStop 0 = .ok (.aload_n 0, 1) := by decide +kernel
theorem dX5_untilStop_1 : decode cX5_untilStop 1 = .ok (.invokevirtual 179, 3) := by decide +kernel
theorem dX5_untilStop_4 : decode cX5_untilStop 4 = .ok (.iconst (-1), 1) := by decide +kernel
theorem dX5_untilStop_5 : decode cX5_untilStop 5 = .ok (.istore_n 2, 1) := by decide +kernel
theorem dX5_untilStop_6 : decode cX5_untilStop 6 = .ok (.iconst 1, 1) := by decide +kernel
theorem dX5_untilStop_7 : decode cX5_untilStop 7 = .ok (.istore_n 3, 1) := by decide +kernel
theorem dX5_untilStop_8 : decode cX5_untilStop 8 = .ok (.iload_n 3, 1) := by decide +kernel
theorem dX5_untilStop_9 : decode cX5_untilStop 9 = .ok (.bipush 80, 2) := by decide +kernel
theorem dX5_untilStop_11 : decode cX5_untilStop 11 = .ok (.if_icmp .gt 28, 3) := by decide +kernel
theorem dX5_untilStop_14 : decode cX5_untilStop 14 = .ok (.iload_n 2, 1) := by decide +kernel
theorem dX5_untilStop_15 : decode cX5_untilStop 15 = .ok (.iconst (-1), 1) := by decide +kernel
theorem dX5_untilStop_16 : decode cX5_untilStop 16 = .ok (.if_icmp .ne 23, 3) := by decide +kernel
theorem dX5_untilStop_19 : decode cX5_untilStop 19 = .ok (.aload_n 0, 1) := by decide +kernel
theorem dX5_untilStop_20 : decode cX5_untilStop 20 = .ok (.invokevirtual 109, 3) := by decide +kernel
theorem dX5_untilStop_23 : decode cX5_untilStop 23 = .ok (.aload_n 0, 1) := by decide +kernel
theorem dX5_untilStop_24 : decode cX5_untilStop 24 = .ok (.getfield 83, 3) := by decide +kernel
theorem dX5_untilStop_27 : decode cX5_untilStop 27 = .ok (.iload_n 1, 1) := by decide +kernel
theorem dX5_untilStop_28 : decode cX5_untilStop 28 = .ok (.if_icmp .ne 5, 3) := by decide +kernel
theorem dX5_untilStop_31 : decode cX5_untilStop 31 = .ok (.iload_n 3, 1) := by decide +kernel
theorem dX5_untilStop_32 : decode cX5_untilStop 32 = .ok (.istore_n 2, 1) := by decide +kernel
theorem dX5_untilStop_33 : decode cX5_untilStop 33 = .ok (.iinc 3 1, 3) := by decide +kernel
theorem dX5_untilStop_36 : decode cX5_untilStop 36 = .ok (.goto (-28), 3) := by decide +kernel
theorem dX5_untilStop_39 : decode cX5_untilStop 39 = .ok (.aload_n 0, 1) := by decide +kernel
theorem dX5_untilStop_40 : decode cX5_untilStop 40 = .ok (.invokevirtual 182, 3) := by decide +kernel
theorem dX5_untilStop_43 : decode cX5_untilStop 43 = .ok (.iload_n 2, 1) := by decide +kernel
theorem dX5_untilStop_44 : decode cX5_untilStop 44 = .ok (.ireturn, 1) := by decide +kernel
theorem dX5_hoursUntilStop_0 : decode cX5_hoursUntilStop 0 = .ok (.aload_n 0, 1) := by decide +kernel
theorem dX5_hoursUntilStop_1 : decode cX5_hoursUntilStop 1 = .ok (.iconst 0, 1) := by decide +kernel
theorem dX5_hoursUntilStop_2 : decode cX5_hoursUntilStop 2 = .ok (.putfield 50, 3) := by decide +kernel
theorem dX5_hoursUntilStop_5 : decode cX5_hoursUntilStop 5 = .ok (.aload_n 0, 1) := by decide +kernel
theorem dX5_hoursUntilStop_6 : decode cX5_hoursUntilStop 6 = .ok (.iload_n 1, 1) := by decide +kernel
theorem dX5_hoursUntilStop_7 : decode cX5_hoursUntilStop 7 = .ok (.invokevirtual 93, 3) := by decide +kernel
theorem dX5_hoursUntilStop_10 : decode cX5_hoursUntilStop 10 = .ok (.ifCond .eq 11, 3) := by decide +kernel
theorem dX5_hoursUntilStop_13 : decode cX5_hoursUntilStop 13 = .ok (.aload_n 0, 1) := by decide +kernel
theorem dX5_hoursUntilStop_14 : decode cX5_hoursUntilStop 14 = .ok (.iload_n 1, 1) := by decide +kernel
theorem dX5_hoursUntilStop_15 : decode cX5_hoursUntilStop 15 = .ok (.invokevirtual 185, 3) := by decide +kernel
theorem dX5_hoursUntilStop_18 : decode cX5_hoursUntilStop 18 = .ok (.goto 8, 3) := by decide +kernel
theorem dX5_hoursUntilStop_21 : decode cX5_hoursUntilStop 21 = .ok (.aload_n 0, 1) := by decide +kernel
theorem dX5_hoursUntilStop_22 : decode cX5_hoursUntilStop 22 = .ok (.iconst 1, 1) := by decide +kernel
theorem dX5_hoursUntilStop_23 : decode cX5_hoursUntilStop 23 = .ok (.invokevirtual 112, 3) := by decide +kernel
theorem dX5_hoursUntilStop_26 : decode cX5_hoursUntilStop 26 = .ok (.ireturn, 1) := by decide +kernel
theorem dX5_untilStuck_0 : decode cX5_untilStuck 0 = .ok (.aload_n 0, 1) := by decide +kernel
theorem dX5_untilStuck_1 : decode cX5_untilStuck 1 = .ok (.invokevirtual 179, 3) := by decide +kernel
theorem dX5_untilStuck_4 : decode cX5_untilStuck 4 = .ok (.iconst 0, 1) := by decide +kernel
theorem dX5_untilStuck_5 : decode cX5_untilStuck 5 = .ok (.istore_n 1, 1) := by decide +kernel
theorem dX5_untilStuck_6 : decode cX5_untilStuck 6 = .ok (.iload_n 1, 1) := by decide +kernel
theorem dX5_untilStuck_7 : decode cX5_untilStuck 7 = .ok (.bipush 80, 2) := by decide +kernel
theorem dX5_untilStuck_9 : decode cX5_untilStuck 9 = .ok (.if_icmp .gt 22, 3) := by decide +kernel
theorem dX5_untilStuck_12 : decode cX5_untilStuck 12 = .ok (.aload_n 0, 1) := by decide +kernel
theorem dX5_untilStuck_13 : decode cX5_untilStuck 13 = .ok (.getfield 44, 3) := by decide +kernel
theorem dX5_untilStuck_16 : decode cX5_untilStuck 16 = .ok (.iconst 3, 1) := by decide +kernel
theorem dX5_untilStuck_17 : decode cX5_untilStuck 17 = .ok (.iaload, 1) := by decide +kernel
theorem dX5_untilStuck_18 : decode cX5_untilStuck 18 = .ok (.ifCond .ne 13, 3) := by decide +kernel
theorem dX5_untilStuck_21 : decode cX5_untilStuck 21 = .ok (.aload_n 0, 1) := by decide +kernel
theorem dX5_untilStuck_22 : decode cX5_untilStuck 22 = .ok (.invokevirtual 109, 3) := by decide +kernel
theorem dX5_untilStuck_25 : decode cX5_untilStuck 25 = .ok (.iinc 1 1, 3) := by decide +kernel
theorem dX5_untilStuck_28 : decode cX5_untilStuck 28 = .ok (.goto (-22), 3) := by decide +kernel
theorem dX5_untilStuck_31 : decode cX5_untilStuck 31 = .ok (.aload_n 0, 1) := by decide +kernel
theorem dX5_untilStuck_32 : decode cX5_untilStuck 32 = .ok (.invokevirtual 182, 3) := by decide +kernel
theorem dX5_untilStuck_35 : decode cX5_untilStuck 35 = .ok (.iload_n 1, 1) := by decide +kernel
theorem dX5_untilStuck_36 : decode cX5_untilStuck 36 = .ok (.bipush 80, 2) := by decide +kernel
theorem dX5_untilStuck_38 : decode cX5_untilStuck 38 = .ok (.if_icmp .le 7, 3) := by decide +kernel
theorem dX5_untilStuck_41 : decode cX5_untilStuck 41 = .ok (.iconst (-1), 1) := by decide +kernel
theorem dX5_untilStuck_42 : decode cX5_untilStuck 42 = .ok (.goto 4, 3) := by decide +kernel
theorem dX5_untilStuck_45 : decode cX5_untilStuck 45 = .ok (.iload_n 1, 1) := by decide +kernel
theorem dX5_untilStuck_46 : decode cX5_untilStuck 46 = .ok (.ireturn, 1) := by decide +kernel
theorem dX5_hoursUntilStuck_0 : decode cX5_hoursUntilStuck 0 = .ok (.aload_n 0, 1) := by decide +kernel
theorem dX5_hoursUntilStuck_1 : decode cX5_hoursUntilStuck 1 = .ok (.aload_n 0, 1) := by decide +kernel
theorem dX5_hoursUntilStuck_2 : decode cX5_hoursUntilStuck 2 = .ok (.invokevirtual 188, 3) := by decide +kernel
theorem dX5_hoursUntilStuck_5 : decode cX5_hoursUntilStuck 5 = .ok (.invokevirtual 125, 3) := by decide +kernel
theorem dX5_hoursUntilStuck_8 : decode cX5_hoursUntilStuck 8 = .ok (.ireturn, 1) := by decide +kernel
theorem dX5_then_0 : decode cX5_then 0 = .ok (.aload_n 0, 1) := by decide +kernel
theorem dX5_then_1 : decode cX5_then 1 = .ok (.invokevirtual 179, 3) := by decide +kernel
theorem dX5_then_4 : decode cX5_then 4 = .ok (.aload_n 0, 1) := by decide +kernel
theorem dX5_then_5 : decode cX5_then 5 = .ok (.iload_n 1, 1) := by decide +kernel
theorem dX5_then_6 : decode cX5_then 6 = .ok (.invokevirtual 122, 3) := by decide +kernel
theorem dX5_then_9 : decode cX5_then 9 = .ok (.iload_n 2, 1) := by decide +kernel
theorem dX5_then_10 : decode cX5_then 10 = .ok (.bipush 8, 2) := by decide +kernel
theorem dX5_then_12 : decode cX5_then 12 = .ok (.if_icmp .ne 13, 3) := by decide +kernel
theorem dX5_then_15 : decode cX5_then 15 = .ok (.aload_n 0, 1) := by decide +kernel
theorem dX5_then_16 : decode cX5_then 16 = .ok (.getfield 44, 3) := by decide +kernel
theorem dX5_then_19 : decode cX5_then 19 = .ok (.bipush 8, 2) := by decide +kernel
theorem dX5_then_21 : decode cX5_then 21 = .ok (.iaload, 1) := by decide +kernel
theorem dX5_then_22 : decode cX5_then 22 = .ok (.goto 39, 3) := by decide +kernel
theorem dX5_then_25 : decode cX5_then 25 = .ok (.iload_n 2, 1) := by decide +kernel
theorem dX5_then_26 : decode cX5_then 26 = .ok (.bipush 7, 2) := by decide +kernel
theorem dX5_then_28 : decode cX5_then 28 = .ok (.if_icmp .ne 16, 3) := by decide +kernel
theorem dX5_then_31 : decode cX5_then 31 = .ok (.aload_n 0, 1) := by decide +kernel
theorem dX5_then_32 : decode cX5_then 32 = .ok (.getfield 44, 3) := by decide +kernel
theorem dX5_then_35 : decode cX5_then 35 = .ok (.bipush 7, 2) := by decide +kernel
theorem dX5_then_37 : decode cX5_then 37 = .ok (.iaload, 1) := by decide +kernel
theorem dX5_then_38 : decode cX5_then 38 = .ok (.invokestatic 116, 3) := by decide +kernel
theorem dX5_then_41 : decode cX5_then 41 = .ok (.goto 20, 3) := by decide +kernel
theorem dX5_then_44 : decode cX5_then 44 = .ok (.iload_n 2, 1) := by decide +kernel
theorem dX5_then_45 : decode cX5_then 45 = .ok (.bipush 33, 2) := by decide +kernel
theorem dX5_then_47 : decode cX5_then 47 = .ok (.if_icmp .ne 10, 3) := by decide +kernel
theorem dX5_then_50 : decode cX5_then 50 = .ok (.aload_n 0, 1) := by decide +kernel
theorem dX5_then_51 : decode cX5_then 51 = .ok (.invokevirtual 191, 3) := by decide +kernel
theorem dX5_then_54 : decode cX5_then 54 = .ok (.goto 7, 3) := by decide +kernel
theorem dX5_then_57 : decode cX5_then 57 = .ok (.aload_n 0, 1) := by decide +kernel
theorem dX5_then_58 : decode cX5_then 58 = .ok (.invokevirtual 134, 3) := by decide +kernel
theorem dX5_then_61 : decode cX5_then 61 = .ok (.istore_n 3, 1) := by decide +kernel
theorem dX5_then_62 : decode cX5_then 62 = .ok (.aload_n 0, 1) := by decide +kernel
theorem dX5_then_63 : decode cX5_then 63 = .ok (.invokevirtual 182, 3) := by decide +kernel
theorem dX5_then_66 : decode cX5_then 66 = .ok (.iload_n 3, 1) := by decide +kernel
theorem dX5_then_67 : decode cX5_then 67 = .ok (.ireturn, 1) := by decide +kernel
theorem dX5_printedIn_0 : decode cX5_printedIn 0 = .ok (.aload_n 0, 1) := by decide +kernel
theorem dX5_printedIn_1 : decode cX5_printedIn 1 = .ok (.iconst 0, 1) := by decide +kernel
theorem dX5_printedIn_2 : decode cX5_printedIn 2 = .ok (.putfield 50, 3) := by decide +kernel
theorem dX5_printedIn_5 : decode cX5_printedIn 5 = .ok (.iload_n 1, 1) := by decide +kernel
theorem dX5_printedIn_6 : decode cX5_printedIn 6 = .ok (.iconst 1, 1) := by decide +kernel
theorem dX5_printedIn_7 : decode cX5_printedIn 7 = .ok (.bipush 40, 2) := by decide +kernel
theorem dX5_printedIn_9 : decode cX5_printedIn 9 = .ok (.invokestatic 53, 3) := by decide +kernel
theorem dX5_printedIn_12 : decode cX5_printedIn 12 = .ok (.ifCond .eq 21, 3) := by decide +kernel
theorem dX5_printedIn_15 : decode cX5_printedIn 15 = .ok (.aload_n 0, 1) := by decide +kernel
theorem dX5_printedIn_16 : decode cX5_printedIn 16 = .ok (.iload_n 1, 1) := by decide +kernel
theorem dX5_printedIn_17 : decode cX5_printedIn 17 = .ok (.bipush 8, 2) := by decide +kernel
theorem dX5_printedIn_19 : decode cX5_printedIn 19 = .ok (.invokevirtual 194, 3) := by decide +kernel
theorem dX5_printedIn_22 : decode cX5_printedIn 22 = .ok (.aload_n 0, 1) := by decide +kernel
theorem dX5_printedIn_23 : decode cX5_printedIn 23 = .ok (.getfield 44, 3) := by decide +kernel
theorem dX5_printedIn_26 : decode cX5_printedIn 26 = .ok (.bipush 8, 2) := by decide +kernel
theorem dX5_printedIn_28 : decode cX5_printedIn 28 = .ok (.iaload, 1) := by decide +kernel
theorem dX5_printedIn_29 : decode cX5_printedIn 29 = .ok (.isub, 1) := by decide +kernel
theorem dX5_printedIn_30 : decode cX5_printedIn 30 = .ok (.goto 8, 3) := by decide +kernel
theorem dX5_printedIn_33 : decode cX5_printedIn 33 = .ok (.aload_n 0, 1) := by decide +kernel
theorem dX5_printedIn_34 : decode cX5_printedIn 34 = .ok (.iconst 1, 1) := by decide +kernel
theorem dX5_printedIn_35 : decode cX5_printedIn 35 = .ok (.invokevirtual 112, 3) := by decide +kernel
theorem dX5_printedIn_38 : decode cX5_printedIn 38 = .ok (.ireturn, 1) := by decide +kernel
theorem dX5_subscribersIn_0 : decode cX5_subscribersIn 0 = .ok (.aload_n 0, 1) := by decide +kernel
theorem dX5_subscribersIn_1 : decode cX5_subscribersIn 1 = .ok (.iconst 0, 1) := by decide +kernel
theorem dX5_subscribersIn_2 : decode cX5_subscribersIn 2 = .ok (.putfield 50, 3) := by decide +kernel
theorem dX5_subscribersIn_5 : decode cX5_subscribersIn 5 = .ok (.iload_n 1, 1) := by decide +kernel
theorem dX5_subscribersIn_6 : decode cX5_subscribersIn 6 = .ok (.iconst 1, 1) := by decide +kernel
theorem dX5_subscribersIn_7 : decode cX5_subscribersIn 7 = .ok (.bipush 40, 2) := by decide +kernel
theorem dX5_subscribersIn_9 : decode cX5_subscribersIn 9 = .ok (.invokestatic 53, 3) := by decide +kernel
theorem dX5_subscribersIn_12 : decode cX5_subscribersIn 12 = .ok (.ifCond .eq 13, 3) := by decide +kernel
theorem dX5_subscribersIn_15 : decode cX5_subscribersIn 15 = .ok (.aload_n 0, 1) := by decide +kernel
theorem dX5_subscribersIn_16 : decode cX5_subscribersIn 16 = .ok (.iload_n 1, 1) := by decide +kernel
theorem dX5_subscribersIn_17 : decode cX5_subscribersIn 17 = .ok (.bipush 7, 2) := by decide +kernel
theorem dX5_subscribersIn_19 : decode cX5_subscribersIn 19 = .ok (.invokevirtual 194, 3) := by decide +kernel
theorem dX5_subscribersIn_22 : decode cX5_subscribersIn 22 = .ok (.goto 8, 3) := by decide +kernel
theorem dX5_subscribersIn_25 : decode cX5_subscribersIn 25 = .ok (.aload_n 0, 1) := by decide +kernel
theorem dX5_subscribersIn_26 : decode cX5_subscribersIn 26 = .ok (.iconst 1, 1) := by decide +kernel
theorem dX5_subscribersIn_27 : decode cX5_subscribersIn 27 = .ok (.invokevirtual 112, 3) := by decide +kernel
theorem dX5_subscribersIn_30 : decode cX5_subscribersIn 30 = .ok (.ireturn, 1) := by decide +kernel
theorem dX5_callBest_0 : decode cX5_callBest 0 = .ok (.iconst (-1), 1) := by decide +kernel
theorem dX5_callBest_1 : decode cX5_callBest 1 = .ok (.istore_n 2, 1) := by decide +kernel
theorem dX5_callBest_2 : decode cX5_callBest 2 = .ok (.iconst (-1), 1) := by decide +kernel
theorem dX5_callBest_3 : decode cX5_callBest 3 = .ok (.istore_n 3, 1) := by decide +kernel
theorem dX5_callBest_4 : decode cX5_callBest 4 = .ok (.aload_n 0, 1) := by decide +kernel
theorem dX5_callBest_5 : decode cX5_callBest 5 = .ok (.getfield 44, 3) := by decide +kernel
theorem dX5_callBest_8 : decode cX5_callBest 8 = .ok (.bipush 6, 2) := by decide +kernel
theorem dX5_callBest_10 : decode cX5_callBest 10 = .ok (.iaload, 1) := by decide +kernel
theorem dX5_callBest_11 : decode cX5_callBest 11 = .ok (.istore 4, 2) := by decide +kernel
theorem dX5_callBest_13 : decode cX5_callBest 13 = .ok (.iconst 0, 1) := by decide +kernel
theorem dX5_callBest_14 : decode cX5_callBest 14 = .ok (.istore 5, 2) := by decide +kernel
theorem dX5_callBest_16 : decode cX5_callBest 16 = .ok (.iload 5, 2) := by decide +kernel
theorem dX5_callBest_18 : decode cX5_callBest 18 = .ok (.aload_n 0, 1) := by decide +kernel
theorem dX5_callBest_19 : decode cX5_callBest 19 = .ok (.getfield 7, 3) := by decide +kernel
theorem dX5_callBest_22 : decode cX5_callBest 22 = .ok (.if_icmp .ge 47, 3) := by decide +kernel
theorem dX5_callBest_25 : decode cX5_callBest 25 = .ok (.aload_n 0, 1) := by decide +kernel
theorem dX5_callBest_26 : decode cX5_callBest 26 = .ok (.getfield 44, 3) := by decide +kernel
theorem dX5_callBest_29 : decode cX5_callBest 29 = .ok (.bipush 6, 2) := by decide +kernel
theorem dX5_callBest_31 : decode cX5_callBest 31 = .ok (.iload 4, 2) := by decide +kernel
theorem dX5_callBest_33 : decode cX5_callBest 33 = .ok (.iconst 1, 1) := by decide +kernel
theorem dX5_callBest_34 : decode cX5_callBest 34 = .ok (.iload 5, 2) := by decide +kernel
theorem dX5_callBest_36 : decode cX5_callBest 36 = .ok (.ishl, 1) := by decide +kernel
theorem dX5_callBest_37 : decode cX5_callBest 37 = .ok (.ior, 1) := by decide +kernel
theorem dX5_callBest_38 : decode cX5_callBest 38 = .ok (.iastore, 1) := by decide +kernel
theorem dX5_callBest_39 : decode cX5_callBest 39 = .ok (.aload_n 0, 1) := by decide +kernel
theorem dX5_callBest_40 : decode cX5_callBest 40 = .ok (.iload_n 1, 1) := by decide +kernel
theorem dX5_callBest_41 : decode cX5_callBest 41 = .ok (.bipush 33, 2) := by decide +kernel
theorem dX5_callBest_43 : decode cX5_callBest 43 = .ok (.invokevirtual 194, 3) := by decide +kernel
theorem dX5_callBest_46 : decode cX5_callBest 46 = .ok (.istore 6, 2) := by decide +kernel
theorem dX5_callBest_48 : decode cX5_callBest 48 = .ok (.iload 6, 2) := by decide +kernel
theorem dX5_callBest_50 : decode cX5_callBest 50 = .ok (.iload_n 3, 1) := by decide +kernel
theorem dX5_callBest_51 : decode cX5_callBest 51 = .ok (.if_icmp .gt 6, 3) := by decide +kernel
theorem dX5_callBest_54 : decode cX5_callBest 54 = .ok (.goto 9, 3) := by decide +kernel
theorem dX5_callBest_57 : decode cX5_callBest 57 = .ok (.iload 5, 2) := by decide +kernel
theorem dX5_callBest_59 : decode cX5_callBest 59 = .ok (.istore_n 2, 1) := by decide +kernel
theorem dX5_callBest_60 : decode cX5_callBest 60 = .ok (.iload 6, 2) := by decide +kernel
theorem dX5_callBest_62 : decode cX5_callBest 62 = .ok (.istore_n 3, 1) := by decide +kernel
theorem dX5_callBest_63 : decode cX5_callBest 63 = .ok (.iinc 5 1, 3) := by decide +kernel
theorem dX5_callBest_66 : decode cX5_callBest 66 = .ok (.goto (-50), 3) := by decide +kernel
theorem dX5_callBest_69 : decode cX5_callBest 69 = .ok (.aload_n 0, 1) := by decide +kernel
theorem dX5_callBest_70 : decode cX5_callBest 70 = .ok (.getfield 44, 3) := by decide +kernel
theorem dX5_callBest_73 : decode cX5_callBest 73 = .ok (.bipush 6, 2) := by decide +kernel
theorem dX5_callBest_75 : decode cX5_callBest 75 = .ok (.iload 4, 2) := by decide +kernel
theorem dX5_callBest_77 : decode cX5_callBest 77 = .ok (.iastore, 1) := by decide +kernel
theorem dX5_callBest_78 : decode cX5_callBest 78 = .ok (.iload_n 2, 1) := by decide +kernel
theorem dX5_callBest_79 : decode cX5_callBest 79 = .ok (.ireturn, 1) := by decide +kernel
theorem dX5_bestToCall_0 : decode cX5_bestToCall 0 = .ok (.aload_n 0, 1) := by decide +kernel
theorem dX5_bestToCall_1 : decode cX5_bestToCall 1 = .ok (.iconst 0, 1) := by decide +kernel
theorem dX5_bestToCall_2 : decode cX5_bestToCall 2 = .ok (.putfield 50, 3) := by decide +kernel
theorem dX5_bestToCall_5 : decode cX5_bestToCall 5 = .ok (.iload_n 1, 1) := by decide +kernel
theorem dX5_bestToCall_6 : decode cX5_bestToCall 6 = .ok (.iconst 1, 1) := by decide +kernel
theorem dX5_bestToCall_7 : decode cX5_bestToCall 7 = .ok (.bipush 40, 2) := by decide +kernel
theorem dX5_bestToCall_9 : decode cX5_bestToCall 9 = .ok (.invokestatic 53, 3) := by decide +kernel
theorem dX5_bestToCall_12 : decode cX5_bestToCall 12 = .ok (.ifCond .eq 11, 3) := by decide +kernel
theorem dX5_bestToCall_15 : decode cX5_bestToCall 15 = .ok (.aload_n 0, 1) := by decide +kernel
theorem dX5_bestToCall_16 : decode cX5_bestToCall 16 = .ok (.iload_n 1, 1) := by decide +kernel
theorem dX5_bestToCall_17 : decode cX5_bestToCall 17 = .ok (.invokevirtual 197, 3) := by decide +kernel
theorem dX5_bestToCall_20 : decode cX5_bestToCall 20 = .ok (.goto 8, 3) := by decide +kernel
theorem dX5_bestToCall_23 : decode cX5_bestToCall 23 = .ok (.aload_n 0, 1) := by decide +kernel
theorem dX5_bestToCall_24 : decode cX5_bestToCall 24 = .ok (.iconst 1, 1) := by decide +kernel
theorem dX5_bestToCall_25 : decode cX5_bestToCall 25 = .ok (.invokevirtual 112, 3) := by decide +kernel
theorem dX5_bestToCall_28 : decode cX5_bestToCall 28 = .ok (.ireturn, 1) := by decide +kernel
theorem dX5_allowBest_0 : decode cX5_allowBest 0 = .ok (.iconst (-1), 1) := by decide +kernel
theorem dX5_allowBest_1 : decode cX5_allowBest 1 = .ok (.istore_n 2, 1) := by decide +kernel
theorem dX5_allowBest_2 : decode cX5_allowBest 2 = .ok (.aload_n 0, 1) := by decide +kernel
theorem dX5_allowBest_3 : decode cX5_allowBest 3 = .ok (.iload_n 1, 1) := by decide +kernel
theorem dX5_allowBest_4 : decode cX5_allowBest 4 = .ok (.bipush 21, 2) := by decide +kernel
theorem dX5_allowBest_6 : decode cX5_allowBest 6 = .ok (.invokevirtual 194, 3) := by decide +kernel
theorem dX5_allowBest_9 : decode cX5_allowBest 9 = .ok (.istore_n 3, 1) := by decide +kernel
theorem dX5_allowBest_10 : decode cX5_allowBest 10 = .ok (.aload_n 0, 1) := by decide +kernel
theorem dX5_allowBest_11 : decode cX5_allowBest 11 = .ok (.getfield 86, 3) := by decide +kernel
theorem dX5_allowBest_14 : decode cX5_allowBest 14 = .ok (.istore 4, 2) := by decide +kernel
theorem dX5_allowBest_16 : decode cX5_allowBest 16 = .ok (.iconst 0, 1) := by decide +kernel
theorem dX5_allowBest_17 : decode cX5_allowBest 17 = .ok (.istore 5, 2) := by decide +kernel
theorem dX5_allowBest_19 : decode cX5_allowBest 19 = .ok (.iload 5, 2) := by decide +kernel
theorem dX5_allowBest_21 : decode cX5_allowBest 21 = .ok (.bipush 8, 2) := by decide +kernel
theorem dX5_allowBest_23 : decode cX5_allowBest 23 = .ok (.if_icmp .ge 59, 3) := by decide +kernel
theorem dX5_allowBest_26 : decode cX5_allowBest 26 = .ok (.iload 4, 2) := by decide +kernel
theorem dX5_allowBest_28 : decode cX5_allowBest 28 = .ok (.iload 5, 2) := by decide +kernel
theorem dX5_allowBest_30 : decode cX5_allowBest 30 = .ok (.invokestatic 69, 3) := by decide +kernel
theorem dX5_allowBest_33 : decode cX5_allowBest 33 = .ok (.ifCond .ne 6, 3) := by decide +kernel
theorem dX5_allowBest_36 : decode cX5_allowBest 36 = .ok (.goto 40, 3) := by decide +kernel
theorem dX5_allowBest_39 : decode cX5_allowBest 39 = .ok (.aload_n 0, 1) := by decide +kernel
theorem dX5_allowBest_40 : decode cX5_allowBest 40 = .ok (.iload 4, 2) := by decide +kernel
theorem dX5_allowBest_42 : decode cX5_allowBest 42 = .ok (.iconst 1, 1) := by decide +kernel
theorem dX5_allowBest_43 : decode cX5_allowBest 43 = .ok (.iload 5, 2) := by decide +kernel
theorem dX5_allowBest_45 : decode cX5_allowBest 45 = .ok (.ishl, 1) := by decide +kernel
theorem dX5_allowBest_46 : decode cX5_allowBest 46 = .ok (.iconst (-1), 1) := by decide +kernel
theorem dX5_allowBest_47 : decode cX5_allowBest 47 = .ok (.ixor, 1) := by decide +kernel
theorem dX5_allowBest_48 : decode cX5_allowBest 48 = .ok (.iand, 1) := by decide +kernel
theorem dX5_allowBest_49 : decode cX5_allowBest 49 = .ok (.putfield 86, 3) := by decide +kernel
theorem dX5_allowBest_52 : decode cX5_allowBest 52 = .ok (.aload_n 0, 1) := by decide +kernel
theorem dX5_allowBest_53 : decode cX5_allowBest 53 = .ok (.iload_n 1, 1) := by decide +kernel
theorem dX5_allowBest_54 : decode cX5_allowBest 54 = .ok (.bipush 21, 2) := by decide +kernel
theorem dX5_allowBest_56 : decode cX5_allowBest 56 = .ok (.invokevirtual 194, 3) := by decide +kernel
theorem dX5_allowBest_59 : decode cX5_allowBest 59 = .ok (.istore 6, 2) := by decide +kernel
theorem dX5_allowBest_61 : decode cX5_allowBest 61 = .ok (.iload 6, 2) := by decide +kernel
theorem dX5_allowBest_63 : decode cX5_allowBest 63 = .ok (.iload_n 3, 1) := by decide +kernel
theorem dX5_allowBest_64 : decode cX5_allowBest 64 = .ok (.if_icmp .lt 6, 3) := by decide +kernel
theorem dX5_allowBest_67 : decode cX5_allowBest 67 = .ok (.goto 9, 3) := by decide +kernel
theorem dX5_allowBest_70 : decode cX5_allowBest 70 = .ok (.iload 5, 2) := by decide +kernel
theorem dX5_allowBest_72 : decode cX5_allowBest 72 = .ok (.istore_n 2, 1) := by decide +kernel
theorem dX5_allowBest_73 : decode cX5_allowBest 73 = .ok (.iload 6, 2) := by decide +kernel
theorem dX5_allowBest_75 : decode cX5_allowBest 75 = .ok (.istore_n 3, 1) := by decide +kernel
theorem dX5_allowBest_76 : decode cX5_allowBest 76 = .ok (.iinc 5 1, 3) := by decide +kernel
theorem dX5_allowBest_79 : decode cX5_allowBest 79 = .ok (.goto (-60), 3) := by decide +kernel
theorem dX5_allowBest_82 : decode cX5_allowBest 82 = .ok (.aload_n 0, 1) := by decide +kernel
theorem dX5_allowBest_83 : decode cX5_allowBest 83 = .ok (.iload 4, 2) := by decide +kernel
theorem dX5_allowBest_85 : decode cX5_allowBest 85 = .ok (.putfield 86, 3) := by decide +kernel
theorem dX5_allowBest_88 : decode cX5_allowBest 88 = .ok (.iload_n 2, 1) := by decide +kernel
theorem dX5_allowBest_89 : decode cX5_allowBest 89 = .ok (.ireturn, 1) := by decide +kernel
theorem dX5_bestToAllow_0 : decode cX5_bestToAllow 0 = .ok (.aload_n 0, 1) := by decide +kernel
theorem dX5_bestToAllow_1 : decode cX5_bestToAllow 1 = .ok (.iconst 0, 1) := by decide +kernel
theorem dX5_bestToAllow_2 : decode cX5_bestToAllow 2 = .ok (.putfield 50, 3) := by decide +kernel
theorem dX5_bestToAllow_5 : decode cX5_bestToAllow 5 = .ok (.iload_n 1, 1) := by decide +kernel
theorem dX5_bestToAllow_6 : decode cX5_bestToAllow 6 = .ok (.iconst 1, 1) := by decide +kernel
theorem dX5_bestToAllow_7 : decode cX5_bestToAllow 7 = .ok (.bipush 40, 2) := by decide +kernel
theorem dX5_bestToAllow_9 : decode cX5_bestToAllow 9 = .ok (.invokestatic 53, 3) := by decide +kernel
theorem dX5_bestToAllow_12 : decode cX5_bestToAllow 12 = .ok (.ifCond .eq 11, 3) := by decide +kernel
theorem dX5_bestToAllow_15 : decode cX5_bestToAllow 15 = .ok (.aload_n 0, 1) := by decide +kernel
theorem dX5_bestToAllow_16 : decode cX5_bestToAllow 16 = .ok (.iload_n 1, 1) := by decide +kernel
theorem dX5_bestToAllow_17 : decode cX5_bestToAllow 17 = .ok (.invokevirtual 200, 3) := by decide +kernel
theorem dX5_bestToAllow_20 : decode cX5_bestToAllow 20 = .ok (.goto 8, 3) := by decide +kernel
theorem dX5_bestToAllow_23 : decode cX5_bestToAllow 23 = .ok (.aload_n 0, 1) := by decide +kernel
theorem dX5_bestToAllow_24 : decode cX5_bestToAllow 24 = .ok (.iconst 1, 1) := by decide +kernel
theorem dX5_bestToAllow_25 : decode cX5_bestToAllow 25 = .ok (.invokevirtual 112, 3) := by decide +kernel
theorem dX5_bestToAllow_28 : decode cX5_bestToAllow 28 = .ok (.ireturn, 1) := by decide +kernel
theorem dX5_meanWarmth_0 : decode cX5_meanWarmth 0 = .ok (.aload_n 0, 1) := by decide +kernel
theorem dX5_meanWarmth_1 : decode cX5_meanWarmth 1 = .ok (.iconst 0, 1) := by decide +kernel
theorem dX5_meanWarmth_2 : decode cX5_meanWarmth 2 = .ok (.putfield 50, 3) := by decide +kernel
theorem dX5_meanWarmth_5 : decode cX5_meanWarmth 5 = .ok (.aload_n 0, 1) := by decide +kernel
theorem dX5_meanWarmth_6 : decode cX5_meanWarmth 6 = .ok (.getfield 44, 3) := by decide +kernel
theorem dX5_meanWarmth_9 : decode cX5_meanWarmth 9 = .ok (.bipush 7, 2) := by decide +kernel
theorem dX5_meanWarmth_11 : decode cX5_meanWarmth 11 = .ok (.iaload, 1) := by decide +kernel
theorem dX5_meanWarmth_12 : decode cX5_meanWarmth 12 = .ok (.invokestatic 116, 3) := by decide +kernel
theorem dX5_meanWarmth_15 : decode cX5_meanWarmth 15 = .ok (.istore_n 1, 1) := by decide +kernel
theorem dX5_meanWarmth_16 : decode cX5_meanWarmth 16 = .ok (.iload_n 1, 1) := by decide +kernel
theorem dX5_meanWarmth_17 : decode cX5_meanWarmth 17 = .ok (.ifCond .ne 7, 3) := by decide +kernel
theorem dX5_meanWarmth_20 : decode cX5_meanWarmth 20 = .ok (.dconst 0, 1) := by decide +kernel
theorem dX5_meanWarmth_21 : decode cX5_meanWarmth 21 = .ok (.goto 11, 3) := by decide +kernel
theorem dX5_meanWarmth_24 : decode cX5_meanWarmth 24 = .ok (.aload_n 0, 1) := by decide +kernel
theorem dX5_meanWarmth_25 : decode cX5_meanWarmth 25 = .ok (.invokevirtual 191, 3) := by decide +kernel
theorem dX5_meanWarmth_28 : decode cX5_meanWarmth 28 = .ok (.i2d, 1) := by decide +kernel
theorem dX5_meanWarmth_29 : decode cX5_meanWarmth 29 = .ok (.iload_n 1, 1) := by decide +kernel
theorem dX5_meanWarmth_30 : decode cX5_meanWarmth 30 = .ok (.i2d, 1) := by decide +kernel
theorem dX5_meanWarmth_31 : decode cX5_meanWarmth 31 = .ok (.ddiv, 1) := by decide +kernel
theorem dX5_meanWarmth_32 : decode cX5_meanWarmth 32 = .ok (.dreturn, 1) := by decide +kernel
theorem dX5_digest_0 : decode cX5_digest 0 = .ok (.aload_n 0, 1) := by decide +kernel
theorem dX5_digest_1 : decode cX5_digest 1 = .ok (.iconst 0, 1) := by decide +kernel
theorem dX5_digest_2 : decode cX5_digest 2 = .ok (.putfield 50, 3) := by decide +kernel
theorem dX5_digest_5 : decode cX5_digest 5 = .ok (.bipush 22, 2) := by decide +kernel
theorem dX5_digest_7 : decode cX5_digest 7 = .ok (.newarray .int, 2) := by decide +kernel
theorem dX5_digest_9 : decode cX5_digest 9 = .ok (.dup, 1) := by decide +kernel
theorem dX5_digest_10 : decode cX5_digest 10 = .ok (.iconst 0, 1) := by decide +kernel
theorem dX5_digest_11 : decode cX5_digest 11 = .ok (.aload_n 0, 1) := by decide +kernel
theorem dX5_digest_12 : decode cX5_digest 12 = .ok (.getfield 7, 3) := by decide +kernel
theorem dX5_digest_15 : decode cX5_digest 15 = .ok (.iastore, 1) := by decide +kernel
theorem dX5_digest_16 : decode cX5_digest 16 = .ok (.dup, 1) := by decide +kernel
theorem dX5_digest_17 : decode cX5_digest 17 = .ok (.iconst 1, 1) := by decide +kernel
theorem dX5_digest_18 : decode cX5_digest 18 = .ok (.aload_n 0, 1) := by decide +kernel
theorem dX5_digest_19 : decode cX5_digest 19 = .ok (.getfield 44, 3) := by decide +kernel
theorem dX5_digest_22 : decode cX5_digest 22 = .ok (.iconst 0, 1) := by decide +kernel
theorem dX5_digest_23 : decode cX5_digest 23 = .ok (.iaload, 1) := by decide +kernel
theorem dX5_digest_24 : decode cX5_digest 24 = .ok (.iastore, 1) := by decide +kernel
theorem dX5_digest_25 : decode cX5_digest 25 = .ok (.dup, 1) := by decide +kernel
theorem dX5_digest_26 : decode cX5_digest 26 = .ok (.iconst 2, 1) := by decide +kernel
theorem dX5_digest_27 : decode cX5_digest 27 = .ok (.aload_n 0, 1) := by decide +kernel
theorem dX5_digest_28 : decode cX5_digest 28 = .ok (.getfield 44, 3) := by decide +kernel
theorem dX5_digest_31 : decode cX5_digest 31 = .ok (.iconst 1, 1) := by decide +kernel
theorem dX5_digest_32 : decode cX5_digest 32 = .ok (.iaload, 1) := by decide +kernel
theorem dX5_digest_33 : decode cX5_digest 33 = .ok (.iastore, 1) := by decide +kernel
theorem dX5_digest_34 : decode cX5_digest 34 = .ok (.dup, 1) := by decide +kernel
theorem dX5_digest_35 : decode cX5_digest 35 = .ok (.iconst 3, 1) := by decide +kernel
theorem dX5_digest_36 : decode cX5_digest 36 = .ok (.aload_n 0, 1) := by decide +kernel
theorem dX5_digest_37 : decode cX5_digest 37 = .ok (.getfield 44, 3) := by decide +kernel
theorem dX5_digest_40 : decode cX5_digest 40 = .ok (.iconst 2, 1) := by decide +kernel
theorem dX5_digest_41 : decode cX5_digest 41 = .ok (.iaload, 1) := by decide +kernel
theorem dX5_digest_42 : decode cX5_digest 42 = .ok (.iastore, 1) := by decide +kernel
theorem dX5_digest_43 : decode cX5_digest 43 = .ok (.dup, 1) := by decide +kernel
theorem dX5_digest_44 : decode cX5_digest 44 = .ok (.iconst 4, 1) := by decide +kernel
theorem dX5_digest_45 : decode cX5_digest 45 = .ok (.aload_n 0, 1) := by decide +kernel
theorem dX5_digest_46 : decode cX5_digest 46 = .ok (.getfield 44, 3) := by decide +kernel
theorem dX5_digest_49 : decode cX5_digest 49 = .ok (.bipush 6, 2) := by decide +kernel
theorem dX5_digest_51 : decode cX5_digest 51 = .ok (.iaload, 1) := by decide +kernel
theorem dX5_digest_52 : decode cX5_digest 52 = .ok (.invokestatic 116, 3) := by decide +kernel
theorem dX5_digest_55 : decode cX5_digest 55 = .ok (.iastore, 1) := by decide +kernel
theorem dX5_digest_56 : decode cX5_digest 56 = .ok (.dup, 1) := by decide +kernel
theorem dX5_digest_57 : decode cX5_digest 57 = .ok (.iconst 5, 1) := by decide +kernel
theorem dX5_digest_58 : decode cX5_digest 58 = .ok (.aload_n 0, 1) := by decide +kernel
theorem dX5_digest_59 : decode cX5_digest 59 = .ok (.getfield 44, 3) := by decide +kernel
theorem dX5_digest_62 : decode cX5_digest 62 = .ok (.iconst 3, 1) := by decide +kernel
theorem dX5_digest_63 : decode cX5_digest 63 = .ok (.iaload, 1) := by decide +kernel
theorem dX5_digest_64 : decode cX5_digest 64 = .ok (.iastore, 1) := by decide +kernel
theorem dX5_digest_65 : decode cX5_digest 65 = .ok (.dup, 1) := by decide +kernel
theorem dX5_digest_66 : decode cX5_digest 66 = .ok (.bipush 6, 2) := by decide +kernel
theorem dX5_digest_68 : decode cX5_digest 68 = .ok (.aload_n 0, 1) := by decide +kernel
theorem dX5_digest_69 : decode cX5_digest 69 = .ok (.getfield 44, 3) := by decide +kernel
theorem dX5_digest_72 : decode cX5_digest 72 = .ok (.iconst 4, 1) := by decide +kernel
theorem dX5_digest_73 : decode cX5_digest 73 = .ok (.iaload, 1) := by decide +kernel
theorem dX5_digest_74 : decode cX5_digest 74 = .ok (.iastore, 1) := by decide +kernel
theorem dX5_digest_75 : decode cX5_digest 75 = .ok (.dup, 1) := by decide +kernel
theorem dX5_digest_76 : decode cX5_digest 76 = .ok (.bipush 7, 2) := by decide +kernel
theorem dX5_digest_78 : decode cX5_digest 78 = .ok (.aload_n 0, 1) := by decide +kernel
theorem dX5_digest_79 : decode cX5_digest 79 = .ok (.getfield 13, 3) := by decide +kernel
theorem dX5_digest_82 : decode cX5_digest 82 = .ok (.iastore, 1) := by decide +kernel
theorem dX5_digest_83 : decode cX5_digest 83 = .ok (.dup, 1) := by decide +kernel
theorem dX5_digest_84 : decode cX5_digest 84 = .ok (.bipush 8, 2) := by decide +kernel
theorem dX5_digest_86 : decode cX5_digest 86 = .ok (.aload_n 0, 1) := by decide +kernel
theorem dX5_digest_87 : decode cX5_digest 87 = .ok (.getfield 44, 3) := by decide +kernel
theorem dX5_digest_90 : decode cX5_digest 90 = .ok (.iconst 5, 1) := by decide +kernel
theorem dX5_digest_91 : decode cX5_digest 91 = .ok (.iaload, 1) := by decide +kernel
theorem dX5_digest_92 : decode cX5_digest 92 = .ok (.iastore, 1) := by decide +kernel
theorem dX5_digest_93 : decode cX5_digest 93 = .ok (.dup, 1) := by decide +kernel
theorem dX5_digest_94 : decode cX5_digest 94 = .ok (.bipush 9, 2) := by decide +kernel
theorem dX5_digest_96 : decode cX5_digest 96 = .ok (.aload_n 0, 1) := by decide +kernel
theorem dX5_digest_97 : decode cX5_digest 97 = .ok (.invokevirtual 134, 3) := by decide +kernel
theorem dX5_digest_100 : decode cX5_digest 100 = .ok (.iastore, 1) := by decide +kernel
theorem dX5_digest_101 : decode cX5_digest 101 = .ok (.dup, 1) := by decide +kernel
theorem dX5_digest_102 : decode cX5_digest 102 = .ok (.bipush 10, 2) := by decide +kernel
theorem dX5_digest_104 : decode cX5_digest 104 = .ok (.aload_n 0, 1) := by decide +kernel
theorem dX5_digest_105 : decode cX5_digest 105 = .ok (.getfield 44, 3) := by decide +kernel
theorem dX5_digest_108 : decode cX5_digest 108 = .ok (.bipush 8, 2) := by decide +kernel
theorem dX5_digest_110 : decode cX5_digest 110 = .ok (.iaload, 1) := by decide +kernel
theorem dX5_digest_111 : decode cX5_digest 111 = .ok (.iastore, 1) := by decide +kernel
theorem dX5_digest_112 : decode cX5_digest 112 = .ok (.dup, 1) := by decide +kernel
theorem dX5_digest_113 : decode cX5_digest 113 = .ok (.bipush 11, 2) := by decide +kernel
theorem dX5_digest_115 : decode cX5_digest 115 = .ok (.aload_n 0, 1) := by decide +kernel
theorem dX5_digest_116 : decode cX5_digest 116 = .ok (.invokevirtual 143, 3) := by decide +kernel
theorem dX5_digest_119 : decode cX5_digest 119 = .ok (.iastore, 1) := by decide +kernel
theorem dX5_digest_120 : decode cX5_digest 120 = .ok (.dup, 1) := by decide +kernel
theorem dX5_digest_121 : decode cX5_digest 121 = .ok (.bipush 12, 2) := by decide +kernel
theorem dX5_digest_123 : decode cX5_digest 123 = .ok (.aload_n 0, 1) := by decide +kernel
theorem dX5_digest_124 : decode cX5_digest 124 = .ok (.invokevirtual 149, 3) := by decide +kernel
theorem dX5_digest_127 : decode cX5_digest 127 = .ok (.iastore, 1) := by decide +kernel
theorem dX5_digest_128 : decode cX5_digest 128 = .ok (.dup, 1) := by decide +kernel
theorem dX5_digest_129 : decode cX5_digest 129 = .ok (.bipush 13, 2) := by decide +kernel
theorem dX5_digest_131 : decode cX5_digest 131 = .ok (.aload_n 0, 1) := by decide +kernel
theorem dX5_digest_132 : decode cX5_digest 132 = .ok (.invokevirtual 152, 3) := by decide +kernel
theorem dX5_digest_135 : decode cX5_digest 135 = .ok (.iastore, 1) := by decide +kernel
theorem dX5_digest_136 : decode cX5_digest 136 = .ok (.dup, 1) := by decide +kernel
theorem dX5_digest_137 : decode cX5_digest 137 = .ok (.bipush 14, 2) := by decide +kernel
theorem dX5_digest_139 : decode cX5_digest 139 = .ok (.aload_n 0, 1) := by decide +kernel
theorem dX5_digest_140 : decode cX5_digest 140 = .ok (.getfield 44, 3) := by decide +kernel
theorem dX5_digest_143 : decode cX5_digest 143 = .ok (.bipush 7, 2) := by decide +kernel
theorem dX5_digest_145 : decode cX5_digest 145 = .ok (.iaload, 1) := by decide +kernel
theorem dX5_digest_146 : decode cX5_digest 146 = .ok (.invokestatic 116, 3) := by decide +kernel
theorem dX5_digest_149 : decode cX5_digest 149 = .ok (.iastore, 1) := by decide +kernel
theorem dX5_digest_150 : decode cX5_digest 150 = .ok (.dup, 1) := by decide +kernel
theorem dX5_digest_151 : decode cX5_digest 151 = .ok (.bipush 15, 2) := by decide +kernel
theorem dX5_digest_153 : decode cX5_digest 153 = .ok (.aload_n 0, 1) := by decide +kernel
theorem dX5_digest_154 : decode cX5_digest 154 = .ok (.invokevirtual 161, 3) := by decide +kernel
theorem dX5_digest_157 : decode cX5_digest 157 = .ok (.iastore, 1) := by decide +kernel
theorem dX5_digest_158 : decode cX5_digest 158 = .ok (.dup, 1) := by decide +kernel
theorem dX5_digest_159 : decode cX5_digest 159 = .ok (.bipush 16, 2) := by decide +kernel
theorem dX5_digest_161 : decode cX5_digest 161 = .ok (.aload_n 0, 1) := by decide +kernel
theorem dX5_digest_162 : decode cX5_digest 162 = .ok (.invokevirtual 176, 3) := by decide +kernel
theorem dX5_digest_165 : decode cX5_digest 165 = .ok (.iastore, 1) := by decide +kernel
theorem dX5_digest_166 : decode cX5_digest 166 = .ok (.dup, 1) := by decide +kernel
theorem dX5_digest_167 : decode cX5_digest 167 = .ok (.bipush 17, 2) := by decide +kernel
theorem dX5_digest_169 : decode cX5_digest 169 = .ok (.aload_n 0, 1) := by decide +kernel
theorem dX5_digest_170 : decode cX5_digest 170 = .ok (.invokevirtual 188, 3) := by decide +kernel
theorem dX5_digest_173 : decode cX5_digest 173 = .ok (.iastore, 1) := by decide +kernel
theorem dX5_digest_174 : decode cX5_digest 174 = .ok (.dup, 1) := by decide +kernel
theorem dX5_digest_175 : decode cX5_digest 175 = .ok (.bipush 18, 2) := by decide +kernel
theorem dX5_digest_177 : decode cX5_digest 177 = .ok (.aload_n 0, 1) := by decide +kernel
theorem dX5_digest_178 : decode cX5_digest 178 = .ok (.bipush 20, 2) := by decide +kernel
theorem dX5_digest_180 : decode cX5_digest 180 = .ok (.bipush 8, 2) := by decide +kernel
theorem dX5_digest_182 : decode cX5_digest 182 = .ok (.invokevirtual 194, 3) := by decide +kernel
theorem dX5_digest_185 : decode cX5_digest 185 = .ok (.aload_n 0, 1) := by decide +kernel
theorem dX5_digest_186 : decode cX5_digest 186 = .ok (.getfield 44, 3) := by decide +kernel
theorem dX5_digest_189 : decode cX5_digest 189 = .ok (.bipush 8, 2) := by decide +kernel
theorem dX5_digest_191 : decode cX5_digest 191 = .ok (.iaload, 1) := by decide +kernel
theorem dX5_digest_192 : decode cX5_digest 192 = .ok (.isub, 1) := by decide +kernel
theorem dX5_digest_193 : decode cX5_digest 193 = .ok (.iastore, 1) := by decide +kernel
theorem dX5_digest_194 : decode cX5_digest 194 = .ok (.dup, 1) := by decide +kernel
theorem dX5_digest_195 : decode cX5_digest 195 = .ok (.bipush 19, 2) := by decide +kernel
theorem dX5_digest_197 : decode cX5_digest 197 = .ok (.aload_n 0, 1) := by decide +kernel
theorem dX5_digest_198 : decode cX5_digest 198 = .ok (.bipush 20, 2) := by decide +kernel
theorem dX5_digest_200 : decode cX5_digest 200 = .ok (.bipush 7, 2) := by decide +kernel
theorem dX5_digest_202 : decode cX5_digest 202 = .ok (.invokevirtual 194, 3) := by decide +kernel
theorem dX5_digest_205 : decode cX5_digest 205 = .ok (.iastore, 1) := by decide +kernel
theorem dX5_digest_206 : decode cX5_digest 206 = .ok (.dup, 1) := by decide +kernel
theorem dX5_digest_207 : decode cX5_digest 207 = .ok (.bipush 20, 2) := by decide +kernel
theorem dX5_digest_209 : decode cX5_digest 209 = .ok (.aload_n 0, 1) := by decide +kernel
theorem dX5_digest_210 : decode cX5_digest 210 = .ok (.bipush 10, 2) := by decide +kernel
theorem dX5_digest_212 : decode cX5_digest 212 = .ok (.invokevirtual 197, 3) := by decide +kernel
theorem dX5_digest_215 : decode cX5_digest 215 = .ok (.iastore, 1) := by decide +kernel
theorem dX5_digest_216 : decode cX5_digest 216 = .ok (.dup, 1) := by decide +kernel
theorem dX5_digest_217 : decode cX5_digest 217 = .ok (.bipush 21, 2) := by decide +kernel
theorem dX5_digest_219 : decode cX5_digest 219 = .ok (.aload_n 0, 1) := by decide +kernel
theorem dX5_digest_220 : decode cX5_digest 220 = .ok (.bipush 10, 2) := by decide +kernel
theorem dX5_digest_222 : decode cX5_digest 222 = .ok (.invokevirtual 200, 3) := by decide +kernel
theorem dX5_digest_225 : decode cX5_digest 225 = .ok (.iastore, 1) := by decide +kernel
theorem dX5_digest_226 : decode cX5_digest 226 = .ok (.astore_n 1, 1) := by decide +kernel
theorem dX5_digest_227 : decode cX5_digest 227 = .ok (.ldc2_w 203, 3) := by decide +kernel
theorem dX5_digest_230 : decode cX5_digest 230 = .ok (.lstore_n 2, 1) := by decide +kernel
theorem dX5_digest_231 : decode cX5_digest 231 = .ok (.aload_n 1, 1) := by decide +kernel
theorem dX5_digest_232 : decode cX5_digest 232 = .ok (.astore 4, 2) := by decide +kernel
theorem dX5_digest_234 : decode cX5_digest 234 = .ok (.aload 4, 2) := by decide +kernel
theorem dX5_digest_236 : decode cX5_digest 236 = .ok (.arraylength, 1) := by decide +kernel
theorem dX5_digest_237 : decode cX5_digest 237 = .ok (.istore 5, 2) := by decide +kernel
theorem dX5_digest_239 : decode cX5_digest 239 = .ok (.iconst 0, 1) := by decide +kernel
theorem dX5_digest_240 : decode cX5_digest 240 = .ok (.istore 6, 2) := by decide +kernel
theorem dX5_digest_242 : decode cX5_digest 242 = .ok (.iload 6, 2) := by decide +kernel
theorem dX5_digest_244 : decode cX5_digest 244 = .ok (.iload 5, 2) := by decide +kernel
theorem dX5_digest_246 : decode cX5_digest 246 = .ok (.if_icmp .ge 26, 3) := by decide +kernel
theorem dX5_digest_249 : decode cX5_digest 249 = .ok (.aload 4, 2) := by decide +kernel
theorem dX5_digest_251 : decode cX5_digest 251 = .ok (.iload 6, 2) := by decide +kernel
theorem dX5_digest_253 : decode cX5_digest 253 = .ok (.iaload, 1) := by decide +kernel
theorem dX5_digest_254 : decode cX5_digest 254 = .ok (.istore 7, 2) := by decide +kernel
theorem dX5_digest_256 : decode cX5_digest 256 = .ok (.lload_n 2, 1) := by decide +kernel
theorem dX5_digest_257 : decode cX5_digest 257 = .ok (.ldc2_w 205, 3) := by decide +kernel
theorem dX5_digest_260 : decode cX5_digest 260 = .ok (.lmul, 1) := by decide +kernel
theorem dX5_digest_261 : decode cX5_digest 261 = .ok (.iload 7, 2) := by decide +kernel
theorem dX5_digest_263 : decode cX5_digest 263 = .ok (.i2l, 1) := by decide +kernel
theorem dX5_digest_264 : decode cX5_digest 264 = .ok (.ladd, 1) := by decide +kernel
theorem dX5_digest_265 : decode cX5_digest 265 = .ok (.lstore_n 2, 1) := by decide +kernel
theorem dX5_digest_266 : decode cX5_digest 266 = .ok (.iinc 6 1, 3) := by decide +kernel
theorem dX5_digest_269 : decode cX5_digest 269 = .ok (.goto (-27), 3) := by decide +kernel
theorem dX5_digest_272 : decode cX5_digest 272 = .ok (.iconst 0, 1) := by decide +kernel
theorem dX5_digest_273 : decode cX5_digest 273 = .ok (.istore 4, 2) := by decide +kernel
theorem dX5_digest_275 : decode cX5_digest 275 = .ok (.iload 4, 2) := by decide +kernel
theorem dX5_digest_277 : decode cX5_digest 277 = .ok (.aload_n 0, 1) := by decide +kernel
theorem dX5_digest_278 : decode cX5_digest 278 = .ok (.getfield 7, 3) := by decide +kernel
theorem dX5_digest_281 : decode cX5_digest 281 = .ok (.if_icmp .ge 120, 3) := by decide +kernel
theorem dX5_digest_284 : decode cX5_digest 284 = .ok (.iconst 5, 1) := by decide +kernel
theorem dX5_digest_285 : decode cX5_digest 285 = .ok (.newarray .int, 2) := by decide +kernel
theorem dX5_digest_287 : decode cX5_digest 287 = .ok (.dup, 1) := by decide +kernel
theorem dX5_digest_288 : decode cX5_digest 288 = .ok (.iconst 0, 1) := by decide +kernel
theorem dX5_digest_289 : decode cX5_digest 289 = .ok (.aload_n 0, 1) := by decide +kernel
theorem dX5_digest_290 : decode cX5_digest 290 = .ok (.getfield 44, 3) := by decide +kernel
theorem dX5_digest_293 : decode cX5_digest 293 = .ok (.bipush 6, 2) := by decide +kernel
theorem dX5_digest_295 : decode cX5_digest 295 = .ok (.iaload, 1) := by decide +kernel
theorem dX5_digest_296 : decode cX5_digest 296 = .ok (.iload 4, 2) := by decide +kernel
theorem dX5_digest_298 : decode cX5_digest 298 = .ok (.invokestatic 69, 3) := by decide +kernel
theorem dX5_digest_301 : decode cX5_digest 301 = .ok (.ifCond .eq 7, 3) := by decide +kernel
theorem dX5_digest_304 : decode cX5_digest 304 = .ok (.iconst 1, 1) := by decide +kernel
theorem dX5_digest_305 : decode cX5_digest 305 = .ok (.goto 4, 3) := by decide +kernel
theorem dX5_digest_308 : decode cX5_digest 308 = .ok (.iconst 0, 1) := by decide +kernel
theorem dX5_digest_309 : decode cX5_digest 309 = .ok (.iastore, 1) := by decide +kernel
theorem dX5_digest_310 : decode cX5_digest 310 = .ok (.dup, 1) := by decide +kernel
theorem dX5_digest_311 : decode cX5_digest 311 = .ok (.iconst 1, 1) := by decide +kernel
theorem dX5_digest_312 : decode cX5_digest 312 = .ok (.aload_n 0, 1) := by decide +kernel
theorem dX5_digest_313 : decode cX5_digest 313 = .ok (.getfield 16, 3) := by decide +kernel
theorem dX5_digest_316 : decode cX5_digest 316 = .ok (.iload 4, 2) := by decide +kernel
theorem dX5_digest_318 : decode cX5_digest 318 = .ok (.iaload, 1) := by decide +kernel
theorem dX5_digest_319 : decode cX5_digest 319 = .ok (.iastore, 1) := by decide +kernel
theorem dX5_digest_320 : decode cX5_digest 320 = .ok (.dup, 1) := by decide +kernel
theorem dX5_digest_321 : decode cX5_digest 321 = .ok (.iconst 2, 1) := by decide +kernel
theorem dX5_digest_322 : decode cX5_digest 322 = .ok (.aload_n 0, 1) := by decide +kernel
theorem dX5_digest_323 : decode cX5_digest 323 = .ok (.iload 4, 2) := by decide +kernel
theorem dX5_digest_325 : decode cX5_digest 325 = .ok (.invokevirtual 127, 3) := by decide +kernel
theorem dX5_digest_328 : decode cX5_digest 328 = .ok (.iastore, 1) := by decide +kernel
theorem dX5_digest_329 : decode cX5_digest 329 = .ok (.dup, 1) := by decide +kernel
theorem dX5_digest_330 : decode cX5_digest 330 = .ok (.iconst 3, 1) := by decide +kernel
theorem dX5_digest_331 : decode cX5_digest 331 = .ok (.aload_n 0, 1) := by decide +kernel
theorem dX5_digest_332 : decode cX5_digest 332 = .ok (.getfield 44, 3) := by decide +kernel
theorem dX5_digest_335 : decode cX5_digest 335 = .ok (.bipush 21, 2) := by decide +kernel
theorem dX5_digest_337 : decode cX5_digest 337 = .ok (.iload 4, 2) := by decide +kernel
theorem dX5_digest_339 : decode cX5_digest 339 = .ok (.iadd, 1) := by decide +kernel
theorem dX5_digest_340 : decode cX5_digest 340 = .ok (.iaload, 1) := by decide +kernel
theorem dX5_digest_341 : decode cX5_digest 341 = .ok (.iastore, 1) := by decide +kernel
theorem dX5_digest_342 : decode cX5_digest 342 = .ok (.dup, 1) := by decide +kernel
theorem dX5_digest_343 : decode cX5_digest 343 = .ok (.iconst 4, 1) := by decide +kernel
theorem dX5_digest_344 : decode cX5_digest 344 = .ok (.aload_n 0, 1) := by decide +kernel
theorem dX5_digest_345 : decode cX5_digest 345 = .ok (.iload 4, 2) := by decide +kernel
theorem dX5_digest_347 : decode cX5_digest 347 = .ok (.invokevirtual 185, 3) := by decide +kernel
theorem dX5_digest_350 : decode cX5_digest 350 = .ok (.iastore, 1) := by decide +kernel
theorem dX5_digest_351 : decode cX5_digest 351 = .ok (.astore 5, 2) := by decide +kernel
theorem dX5_digest_353 : decode cX5_digest 353 = .ok (.aload 5, 2) := by decide +kernel
theorem dX5_digest_355 : decode cX5_digest 355 = .ok (.astore 6, 2) := by decide +kernel
theorem dX5_digest_357 : decode cX5_digest 357 = .ok (.aload 6, 2) := by decide +kernel
theorem dX5_digest_359 : decode cX5_digest 359 = .ok (.arraylength, 1) := by decide +kernel
theorem dX5_digest_360 : decode cX5_digest 360 = .ok (.istore 7, 2) := by decide +kernel
theorem dX5_digest_362 : decode cX5_digest 362 = .ok (.iconst 0, 1) := by decide +kernel
theorem dX5_digest_363 : decode cX5_digest 363 = .ok (.istore 8, 2) := by decide +kernel
theorem dX5_digest_365 : decode cX5_digest 365 = .ok (.iload 8, 2) := by decide +kernel
theorem dX5_digest_367 : decode cX5_digest 367 = .ok (.iload 7, 2) := by decide +kernel
theorem dX5_digest_369 : decode cX5_digest 369 = .ok (.if_icmp .ge 26, 3) := by decide +kernel
theorem dX5_digest_372 : decode cX5_digest 372 = .ok (.aload 6, 2) := by decide +kernel
theorem dX5_digest_374 : decode cX5_digest 374 = .ok (.iload 8, 2) := by decide +kernel
theorem dX5_digest_376 : decode cX5_digest 376 = .ok (.iaload, 1) := by decide +kernel
theorem dX5_digest_377 : decode cX5_digest 377 = .ok (.istore 9, 2) := by decide +kernel
theorem dX5_digest_379 : decode cX5_digest 379 = .ok (.lload_n 2, 1) := by decide +kernel
theorem dX5_digest_380 : decode cX5_digest 380 = .ok (.ldc2_w 205, 3) := by decide +kernel
theorem dX5_digest_383 : decode cX5_digest 383 = .ok (.lmul, 1) := by decide +kernel
theorem dX5_digest_384 : decode cX5_digest 384 = .ok (.iload 9, 2) := by decide +kernel
theorem dX5_digest_386 : decode cX5_digest 386 = .ok (.i2l, 1) := by decide +kernel
theorem dX5_digest_387 : decode cX5_digest 387 = .ok (.ladd, 1) := by decide +kernel
theorem dX5_digest_388 : decode cX5_digest 388 = .ok (.lstore_n 2, 1) := by decide +kernel
theorem dX5_digest_389 : decode cX5_digest 389 = .ok (.iinc 8 1, 3) := by decide +kernel
theorem dX5_digest_392 : decode cX5_digest 392 = .ok (.goto (-27), 3) := by decide +kernel
theorem dX5_digest_395 : decode cX5_digest 395 = .ok (.iinc 4 1, 3) := by decide +kernel
theorem dX5_digest_398 : decode cX5_digest 398 = .ok (.goto (-123), 3) := by decide +kernel
theorem dX5_digest_401 : decode cX5_digest 401 = .ok (.iconst 0, 1) := by decide +kernel
theorem dX5_digest_402 : decode cX5_digest 402 = .ok (.istore 4, 2) := by decide +kernel
theorem dX5_digest_404 : decode cX5_digest 404 = .ok (.iload 4, 2) := by decide +kernel
theorem dX5_digest_406 : decode cX5_digest 406 = .ok (.bipush 8, 2) := by decide +kernel
theorem dX5_digest_408 : decode cX5_digest 408 = .ok (.if_icmp .ge 48, 3) := by decide +kernel
theorem dX5_digest_411 : decode cX5_digest 411 = .ok (.lload_n 2, 1) := by decide +kernel
theorem dX5_digest_412 : decode cX5_digest 412 = .ok (.ldc2_w 205, 3) := by decide +kernel
theorem dX5_digest_415 : decode cX5_digest 415 = .ok (.lmul, 1) := by decide +kernel
theorem dX5_digest_416 : decode cX5_digest 416 = .ok (.aload_n 0, 1) := by decide +kernel
theorem dX5_digest_417 : decode cX5_digest 417 = .ok (.getfield 86, 3) := by decide +kernel
theorem dX5_digest_420 : decode cX5_digest 420 = .ok (.iload 4, 2) := by decide +kernel
theorem dX5_digest_422 : decode cX5_digest 422 = .ok (.invokestatic 69, 3) := by decide +kernel
theorem dX5_digest_425 : decode cX5_digest 425 = .ok (.ifCond .eq 7, 3) := by decide +kernel
theorem dX5_digest_428 : decode cX5_digest 428 = .ok (.iconst 1, 1) := by decide +kernel
theorem dX5_digest_429 : decode cX5_digest 429 = .ok (.goto 4, 3) := by decide +kernel
theorem dX5_digest_432 : decode cX5_digest 432 = .ok (.iconst 0, 1) := by decide +kernel
theorem dX5_digest_433 : decode cX5_digest 433 = .ok (.i2l, 1) := by decide +kernel
theorem dX5_digest_434 : decode cX5_digest 434 = .ok (.ladd, 1) := by decide +kernel
theorem dX5_digest_435 : decode cX5_digest 435 = .ok (.lstore_n 2, 1) := by decide +kernel
theorem dX5_digest_436 : decode cX5_digest 436 = .ok (.lload_n 2, 1) := by decide +kernel
theorem dX5_digest_437 : decode cX5_digest 437 = .ok (.ldc2_w 205, 3) := by decide +kernel
theorem dX5_digest_440 : decode cX5_digest 440 = .ok (.lmul, 1) := by decide +kernel
theorem dX5_digest_441 : decode cX5_digest 441 = .ok (.aload_n 0, 1) := by decide +kernel
theorem dX5_digest_442 : decode cX5_digest 442 = .ok (.iload 4, 2) := by decide +kernel
theorem dX5_digest_444 : decode cX5_digest 444 = .ok (.invokevirtual 137, 3) := by decide +kernel
theorem dX5_digest_447 : decode cX5_digest 447 = .ok (.i2l, 1) := by decide +kernel
theorem dX5_digest_448 : decode cX5_digest 448 = .ok (.ladd, 1) := by decide +kernel
theorem dX5_digest_449 : decode cX5_digest 449 = .ok (.lstore_n 2, 1) := by decide +kernel
theorem dX5_digest_450 : decode cX5_digest 450 = .ok (.iinc 4 1, 3) := by decide +kernel
theorem dX5_digest_453 : decode cX5_digest 453 = .ok (.goto (-49), 3) := by decide +kernel
theorem dX5_digest_456 : decode cX5_digest 456 = .ok (.iconst 0, 1) := by decide +kernel
theorem dX5_digest_457 : decode cX5_digest 457 = .ok (.istore 4, 2) := by decide +kernel
theorem dX5_digest_459 : decode cX5_digest 459 = .ok (.iload 4, 2) := by decide +kernel
theorem dX5_digest_461 : decode cX5_digest 461 = .ok (.aload_n 0, 1) := by decide +kernel
theorem dX5_digest_462 : decode cX5_digest 462 = .ok (.getfield 44, 3) := by decide +kernel
theorem dX5_digest_465 : decode cX5_digest 465 = .ok (.bipush 8, 2) := by decide +kernel
theorem dX5_digest_467 : decode cX5_digest 467 = .ok (.iaload, 1) := by decide +kernel
theorem dX5_digest_468 : decode cX5_digest 468 = .ok (.if_icmp .ge 75, 3) := by decide +kernel
theorem dX5_digest_471 : decode cX5_digest 471 = .ok (.lload_n 2, 1) := by decide +kernel
theorem dX5_digest_472 : decode cX5_digest 472 = .ok (.ldc2_w 205, 3) := by decide +kernel
theorem dX5_digest_475 : decode cX5_digest 475 = .ok (.lmul, 1) := by decide +kernel
theorem dX5_digest_476 : decode cX5_digest 476 = .ok (.aload_n 0, 1) := by decide +kernel
theorem dX5_digest_477 : decode cX5_digest 477 = .ok (.getfield 35, 3) := by decide +kernel
theorem dX5_digest_480 : decode cX5_digest 480 = .ok (.iload 4, 2) := by decide +kernel
theorem dX5_digest_482 : decode cX5_digest 482 = .ok (.iaload, 1) := by decide +kernel
theorem dX5_digest_483 : decode cX5_digest 483 = .ok (.bipush 9, 2) := by decide +kernel
theorem dX5_digest_485 : decode cX5_digest 485 = .ok (.idiv, 1) := by decide +kernel
theorem dX5_digest_486 : decode cX5_digest 486 = .ok (.i2l, 1) := by decide +kernel
theorem dX5_digest_487 : decode cX5_digest 487 = .ok (.ladd, 1) := by decide +kernel
theorem dX5_digest_488 : decode cX5_digest 488 = .ok (.lstore_n 2, 1) := by decide +kernel
theorem dX5_digest_489 : decode cX5_digest 489 = .ok (.lload_n 2, 1) := by decide +kernel
theorem dX5_digest_490 : decode cX5_digest 490 = .ok (.ldc2_w 205, 3) := by decide +kernel
theorem dX5_digest_493 : decode cX5_digest 493 = .ok (.lmul, 1) := by decide +kernel
theorem dX5_digest_494 : decode cX5_digest 494 = .ok (.aload_n 0, 1) := by decide +kernel
theorem dX5_digest_495 : decode cX5_digest 495 = .ok (.getfield 35, 3) := by decide +kernel
theorem dX5_digest_498 : decode cX5_digest 498 = .ok (.iload 4, 2) := by decide +kernel
theorem dX5_digest_500 : decode cX5_digest 500 = .ok (.iaload, 1) := by decide +kernel
theorem dX5_digest_501 : decode cX5_digest 501 = .ok (.bipush 9, 2) := by decide +kernel
theorem dX5_digest_503 : decode cX5_digest 503 = .ok (.irem, 1) := by decide +kernel
theorem dX5_digest_504 : decode cX5_digest 504 = .ok (.i2l, 1) := by decide +kernel
theorem dX5_digest_505 : decode cX5_digest 505 = .ok (.ladd, 1) := by decide +kernel
theorem dX5_digest_506 : decode cX5_digest 506 = .ok (.lstore_n 2, 1) := by decide +kernel
theorem dX5_digest_507 : decode cX5_digest 507 = .ok (.lload_n 2, 1) := by decide +kernel
theorem dX5_digest_508 : decode cX5_digest 508 = .ok (.ldc2_w 205, 3) := by decide +kernel
theorem dX5_digest_511 : decode cX5_digest 511 = .ok (.lmul, 1) := by decide +kernel
theorem dX5_digest_512 : decode cX5_digest 512 = .ok (.aload_n 0, 1) := by decide +kernel
theorem dX5_digest_513 : decode cX5_digest 513 = .ok (.getfield 38, 3) := by decide +kernel
theorem dX5_digest_516 : decode cX5_digest 516 = .ok (.iload 4, 2) := by decide +kernel
theorem dX5_digest_518 : decode cX5_digest 518 = .ok (.iaload, 1) := by decide +kernel
theorem dX5_digest_519 : decode cX5_digest 519 = .ok (.i2l, 1) := by decide +kernel
theorem dX5_digest_520 : decode cX5_digest 520 = .ok (.ladd, 1) := by decide +kernel
theorem dX5_digest_521 : decode cX5_digest 521 = .ok (.lstore_n 2, 1) := by decide +kernel
theorem dX5_digest_522 : decode cX5_digest 522 = .ok (.lload_n 2, 1) := by decide +kernel
theorem dX5_digest_523 : decode cX5_digest 523 = .ok (.ldc2_w 205, 3) := by decide +kernel
theorem dX5_digest_526 : decode cX5_digest 526 = .ok (.lmul, 1) := by decide +kernel
theorem dX5_digest_527 : decode cX5_digest 527 = .ok (.aload_n 0, 1) := by decide +kernel
theorem dX5_digest_528 : decode cX5_digest 528 = .ok (.getfield 41, 3) := by decide +kernel
theorem dX5_digest_531 : decode cX5_digest 531 = .ok (.iload 4, 2) := by decide +kernel
theorem dX5_digest_533 : decode cX5_digest 533 = .ok (.iaload, 1) := by decide +kernel
theorem dX5_digest_534 : decode cX5_digest 534 = .ok (.i2l, 1) := by decide +kernel
theorem dX5_digest_535 : decode cX5_digest 535 = .ok (.ladd, 1) := by decide +kernel
theorem dX5_digest_536 : decode cX5_digest 536 = .ok (.lstore_n 2, 1) := by decide +kernel
theorem dX5_digest_537 : decode cX5_digest 537 = .ok (.iinc 4 1, 3) := by decide +kernel
theorem dX5_digest_540 : decode cX5_digest 540 = .ok (.goto (-81), 3) := by decide +kernel
theorem dX5_digest_543 : decode cX5_digest 543 = .ok (.iconst 0, 1) := by decide +kernel
theorem dX5_digest_544 : decode cX5_digest 544 = .ok (.istore 4, 2) := by decide +kernel
theorem dX5_digest_546 : decode cX5_digest 546 = .ok (.iload 4, 2) := by decide +kernel
theorem dX5_digest_548 : decode cX5_digest 548 = .ok (.aload_n 0, 1) := by decide +kernel
theorem dX5_digest_549 : decode cX5_digest 549 = .ok (.getfield 57, 3) := by decide +kernel
theorem dX5_digest_552 : decode cX5_digest 552 = .ok (.if_icmp .ge 45, 3) := by decide +kernel
theorem dX5_digest_555 : decode cX5_digest 555 = .ok (.lload_n 2, 1) := by decide +kernel
theorem dX5_digest_556 : decode cX5_digest 556 = .ok (.ldc2_w 205, 3) := by decide +kernel
theorem dX5_digest_559 : decode cX5_digest 559 = .ok (.lmul, 1) := by decide +kernel
theorem dX5_digest_560 : decode cX5_digest 560 = .ok (.aload_n 0, 1) := by decide +kernel
theorem dX5_digest_561 : decode cX5_digest 561 = .ok (.iload 4, 2) := by decide +kernel
theorem dX5_digest_563 : decode cX5_digest 563 = .ok (.invokevirtual 158, 3) := by decide +kernel
theorem dX5_digest_566 : decode cX5_digest 566 = .ok (.i2l, 1) := by decide +kernel
theorem dX5_digest_567 : decode cX5_digest 567 = .ok (.ladd, 1) := by decide +kernel
theorem dX5_digest_568 : decode cX5_digest 568 = .ok (.lstore_n 2, 1) := by decide +kernel
theorem dX5_digest_569 : decode cX5_digest 569 = .ok (.lload_n 2, 1) := by decide +kernel
theorem dX5_digest_570 : decode cX5_digest 570 = .ok (.ldc2_w 205, 3) := by decide +kernel
theorem dX5_digest_573 : decode cX5_digest 573 = .ok (.lmul, 1) := by decide +kernel
theorem dX5_digest_574 : decode cX5_digest 574 = .ok (.aload_n 0, 1) := by decide +kernel
theorem dX5_digest_575 : decode cX5_digest 575 = .ok (.iload 4, 2) := by decide +kernel
theorem dX5_digest_577 : decode cX5_digest 577 = .ok (.invokevirtual 73, 3) := by decide +kernel
theorem dX5_digest_580 : decode cX5_digest 580 = .ok (.ifCond .eq 7, 3) := by decide +kernel
theorem dX5_digest_583 : decode cX5_digest 583 = .ok (.iconst 1, 1) := by decide +kernel
theorem dX5_digest_584 : decode cX5_digest 584 = .ok (.goto 4, 3) := by decide +kernel
theorem dX5_digest_587 : decode cX5_digest 587 = .ok (.iconst 0, 1) := by decide +kernel
theorem dX5_digest_588 : decode cX5_digest 588 = .ok (.i2l, 1) := by decide +kernel
theorem dX5_digest_589 : decode cX5_digest 589 = .ok (.ladd, 1) := by decide +kernel
theorem dX5_digest_590 : decode cX5_digest 590 = .ok (.lstore_n 2, 1) := by decide +kernel
theorem dX5_digest_591 : decode cX5_digest 591 = .ok (.iinc 4 1, 3) := by decide +kernel
theorem dX5_digest_594 : decode cX5_digest 594 = .ok (.goto (-48), 3) := by decide +kernel
theorem dX5_digest_597 : decode cX5_digest 597 = .ok (.iconst 0, 1) := by decide +kernel
theorem dX5_digest_598 : decode cX5_digest 598 = .ok (.istore 4, 2) := by decide +kernel
theorem dX5_digest_600 : decode cX5_digest 600 = .ok (.iload 4, 2) := by decide +kernel
theorem dX5_digest_602 : decode cX5_digest 602 = .ok (.aload_n 0, 1) := by decide +kernel
theorem dX5_digest_603 : decode cX5_digest 603 = .ok (.getfield 60, 3) := by decide +kernel
theorem dX5_digest_606 : decode cX5_digest 606 = .ok (.if_icmp .ge 37, 3) := by decide +kernel
theorem dX5_digest_609 : decode cX5_digest 609 = .ok (.lload_n 2, 1) := by decide +kernel
theorem dX5_digest_610 : decode cX5_digest 610 = .ok (.ldc2_w 205, 3) := by decide +kernel
theorem dX5_digest_613 : decode cX5_digest 613 = .ok (.lmul, 1) := by decide +kernel
theorem dX5_digest_614 : decode cX5_digest 614 = .ok (.aload_n 0, 1) := by decide +kernel
theorem dX5_digest_615 : decode cX5_digest 615 = .ok (.iload 4, 2) := by decide +kernel
theorem dX5_digest_617 : decode cX5_digest 617 = .ok (.invokevirtual 170, 3) := by decide +kernel
theorem dX5_digest_620 : decode cX5_digest 620 = .ok (.i2l, 1) := by decide +kernel
theorem dX5_digest_621 : decode cX5_digest 621 = .ok (.ladd, 1) := by decide +kernel
theorem dX5_digest_622 : decode cX5_digest 622 = .ok (.lstore_n 2, 1) := by decide +kernel
theorem dX5_digest_623 : decode cX5_digest 623 = .ok (.lload_n 2, 1) := by decide +kernel
theorem dX5_digest_624 : decode cX5_digest 624 = .ok (.ldc2_w 205, 3) := by decide +kernel
theorem dX5_digest_627 : decode cX5_digest 627 = .ok (.lmul, 1) := by decide +kernel
theorem dX5_digest_628 : decode cX5_digest 628 = .ok (.aload_n 0, 1) := by decide +kernel
theorem dX5_digest_629 : decode cX5_digest 629 = .ok (.iload 4, 2) := by decide +kernel
theorem dX5_digest_631 : decode cX5_digest 631 = .ok (.invokevirtual 173, 3) := by decide +kernel
theorem dX5_digest_634 : decode cX5_digest 634 = .ok (.i2l, 1) := by decide +kernel
theorem dX5_digest_635 : decode cX5_digest 635 = .ok (.ladd, 1) := by decide +kernel
theorem dX5_digest_636 : decode cX5_digest 636 = .ok (.lstore_n 2, 1) := by decide +kernel
theorem dX5_digest_637 : decode cX5_digest 637 = .ok (.iinc 4 1, 3) := by decide +kernel
theorem dX5_digest_640 : decode cX5_digest 640 = .ok (.goto (-40), 3) := by decide +kernel
theorem dX5_digest_643 : decode cX5_digest 643 = .ok (.lload_n 2, 1) := by decide +kernel
theorem dX5_digest_644 : decode cX5_digest 644 = .ok (.lreturn, 1) := by decide +kernel
theorem dJ9_max_7cf53_0 : decode cJ9_max_7cf53 0 = .ok (.iload_n 0, 1) := by decide +kernel
theorem dJ9_max_7cf53_1 : decode cJ9_max_7cf53 1 = .ok (.iload_n 1, 1) := by decide +kernel
theorem dJ9_max_7cf53_2 : decode cJ9_max_7cf53 2 = .ok (.if_icmp .lt 7, 3) := by decide +kernel
theorem dJ9_max_7cf53_5 : decode cJ9_max_7cf53 5 = .ok (.iload_n 0, 1) := by decide +kernel
theorem dJ9_max_7cf53_6 : decode cJ9_max_7cf53 6 = .ok (.goto 4, 3) := by decide +kernel
theorem dJ9_max_7cf53_9 : decode cJ9_max_7cf53 9 = .ok (.iload_n 1, 1) := by decide +kernel
theorem dJ9_max_7cf53_10 : decode cJ9_max_7cf53 10 = .ok (.ireturn, 1) := by decide +kernel
theorem dJ9_min_7cf53_0 : decode cJ9_min_7cf53 0 = .ok (.iload_n 0, 1) := by decide +kernel
theorem dJ9_min_7cf53_1 : decode cJ9_min_7cf53 1 = .ok (.iload_n 1, 1) := by decide +kernel
theorem dJ9_min_7cf53_2 : decode cJ9_min_7cf53 2 = .ok (.if_icmp .gt 7, 3) := by decide +kernel
theorem dJ9_min_7cf53_5 : decode cJ9_min_7cf53 5 = .ok (.iload_n 0, 1) := by decide +kernel
theorem dJ9_min_7cf53_6 : decode cJ9_min_7cf53 6 = .ok (.goto 4, 3) := by decide +kernel
theorem dJ9_min_7cf53_9 : decode cJ9_min_7cf53 9 = .ok (.iload_n 1, 1) := by decide +kernel
theorem dJ9_min_7cf53_10 : decode cJ9_min_7cf53 10 = .ok (.ireturn, 1) := by decide +kernel
theorem dL_begin_0 : decode cL_begin 0 = .ok (.aload_n 2, 1) := by decide +kernel
theorem dL_begin_1 : decode cL_begin 1 = .ok (.iconst 0, 1) := by decide +kernel
theorem dL_begin_2 : decode cL_begin 2 = .ok (.aload_n 0, 1) := by decide +kernel
theorem dL_begin_3 : decode cL_begin 3 = .ok (.iload_n 1, 1) := by decide +kernel
theorem dL_begin_4 : decode cL_begin 4 = .ok (.invokevirtual 7, 3) := by decide +kernel
theorem dL_begin_7 : decode cL_begin 7 = .ok (.i2l, 1) := by decide +kernel
theorem dL_begin_8 : decode cL_begin 8 = .ok (.lastore, 1) := by decide +kernel
theorem dL_begin_9 : decode cL_begin 9 = .ok (.goto 6, 3) := by decide +kernel
theorem dL_begin_12 : decode cL_begin 12 = .ok (.astore_n 3, 1) := by decide +kernel
theorem dL_begin_13 : decode cL_begin 13 = .ok (.iconst 1, 1) := by decide +kernel
theorem dL_begin_14 : decode cL_begin 14 = .ok (.ireturn, 1) := by decide +kernel
theorem dL_begin_15 : decode cL_begin 15 = .ok (.iconst 0, 1) := by decide +kernel
theorem dL_begin_16 : decode cL_begin 16 = .ok (.ireturn, 1) := by decide +kernel
theorem dL_addParagraph_0 : decode cL_addParagraph 0 = .ok (.aload 4, 2) := by decide +kernel
theorem dL_addParagraph_2 : decode cL_addParagraph 2 = .ok (.iconst 0, 1) := by decide +kernel
theorem dL_addParagraph_3 : decode cL_addParagraph 3 = .ok (.aload_n 0, 1) := by decide +kernel
theorem dL_addParagraph_4 : decode cL_addParagraph 4 = .ok (.iload_n 1, 1) := by decide +kernel
theorem dL_addParagraph_5 : decode cL_addParagraph 5 = .ok (.iload_n 2, 1) := by decide +kernel
theorem dL_addParagraph_6 : decode cL_addParagraph 6 = .ok (.iload_n 3, 1) := by decide +kernel
theorem dL_addParagraph_7 : decode cL_addParagraph 7 = .ok (.invokevirtual 15, 3) := by decide +kernel
theorem dL_addParagraph_10 : decode cL_addParagraph 10 = .ok (.i2l, 1) := by decide +kernel
theorem dL_addParagraph_11 : decode cL_addParagraph 11 = .ok (.lastore, 1) := by decide +kernel
theorem dL_addParagraph_12 : decode cL_addParagraph 12 = .ok (.goto 15, 3) := by decide +kernel
theorem dL_addParagraph_15 : decode cL_addParagraph 15 = .ok (.astore 5, 2) := by decide +kernel
theorem dL_addParagraph_17 : decode cL_addParagraph 17 = .ok (.iconst 1, 1) := by decide +kernel
theorem dL_addParagraph_18 : decode cL_addParagraph 18 = .ok (.ireturn, 1) := by decide +kernel
theorem dL_addParagraph_19 : decode cL_addParagraph 19 = .ok (.astore 5, 2) := by decide +kernel
theorem dL_addParagraph_21 : decode cL_addParagraph 21 = .ok (.iconst 2, 1) := by decide +kernel
theorem dL_addParagraph_22 : decode cL_addParagraph 22 = .ok (.ireturn, 1) := by decide +kernel
theorem dL_addParagraph_23 : decode cL_addParagraph 23 = .ok (.astore 5, 2) := by decide +kernel
theorem dL_addParagraph_25 : decode cL_addParagraph 25 = .ok (.iconst 3, 1) := by decide +kernel
theorem dL_addParagraph_26 : decode cL_addParagraph 26 = .ok (.ireturn, 1) := by decide +kernel
theorem dL_addParagraph_27 : decode cL_addParagraph 27 = .ok (.iconst 0, 1) := by decide +kernel
theorem dL_addParagraph_28 : decode cL_addParagraph 28 = .ok (.ireturn, 1) := by decide +kernel
theorem dL_turnTopic_0 : decode cL_turnTopic 0 = .ok (.aload_n 2, 1) := by decide +kernel
theorem dL_turnTopic_1 : decode cL_turnTopic 1 = .ok (.iconst 0, 1) := by decide +kernel
theorem dL_turnTopic_2 : decode cL_turnTopic 2 = .ok (.aload_n 0, 1) := by decide +kernel
theorem dL_turnTopic_3 : decode cL_turnTopic 3 = .ok (.iload_n 1, 1) := by decide +kernel
theorem dL_turnTopic_4 : decode cL_turnTopic 4 = .ok (.invokevirtual 23, 3) := by decide +kernel
theorem dL_turnTopic_7 : decode cL_turnTopic 7 = .ok (.ifCond .eq 7, 3) := by decide +kernel
theorem dL_turnTopic_10 : decode cL_turnTopic 10 = .ok (.lconst 1, 1) := by decide +kernel
theorem dL_turnTopic_11 : decode cL_turnTopic 11 = .ok (.goto 4, 3) := by decide +kernel
theorem dL_turnTopic_14 : decode cL_turnTopic 14 = .ok (.lconst 0, 1) := by decide +kernel
theorem dL_turnTopic_15 : decode cL_turnTopic 15 = .ok (.lastore, 1) := by decide +kernel
theorem dL_turnTopic_16 : decode cL_turnTopic 16 = .ok (.goto 6, 3) := by decide +kernel
theorem dL_turnTopic_19 : decode cL_turnTopic 19 = .ok (.astore_n 3, 1) := by decide +kernel
theorem dL_turnTopic_20 : decode cL_turnTopic 20 = .ok (.iconst 1, 1) := by decide +kernel
theorem dL_turnTopic_21 : decode cL_turnTopic 21 = .ok (.ireturn, 1) := by decide +kernel
theorem dL_turnTopic_22 : decode cL_turnTopic 22 = .ok (.iconst 0, 1) := by decide +kernel
theorem dL_turnTopic_23 : decode cL_turnTopic 23 = .ok (.ireturn, 1) := by decide +kernel
theorem dL_setLimit_0 : decode cL_setLimit 0 = .ok (.aload_n 2, 1) := by decide +kernel
theorem dL_setLimit_1 : decode cL_setLimit 1 = .ok (.iconst 0, 1) := by decide +kernel
theorem dL_setLimit_2 : decode cL_setLimit 2 = .ok (.aload_n 0, 1) := by decide +kernel
theorem dL_setLimit_3 : decode cL_setLimit 3 = .ok (.iload_n 1, 1) := by decide +kernel
theorem dL_setLimit_4 : decode cL_setLimit 4 = .ok (.invokevirtual 27, 3) := by decide +kernel
theorem dL_setLimit_7 : decode cL_setLimit 7 = .ok (.i2l, 1) := by decide +kernel
theorem dL_setLimit_8 : decode cL_setLimit 8 = .ok (.lastore, 1) := by decide +kernel
theorem dL_setLimit_9 : decode cL_setLimit 9 = .ok (.goto 6, 3) := by decide +kernel
theorem dL_setLimit_12 : decode cL_setLimit 12 = .ok (.astore_n 3, 1) := by decide +kernel
theorem dL_setLimit_13 : decode cL_setLimit 13 = .ok (.iconst 1, 1) := by decide +kernel
theorem dL_setLimit_14 : decode cL_setLimit 14 = .ok (.ireturn, 1) := by decide +kernel
theorem dL_setLimit_15 : decode cL_setLimit 15 = .ok (.iconst 0, 1) := by decide +kernel
theorem dL_setLimit_16 : decode cL_setLimit 16 = .ok (.ireturn, 1) := by decide +kernel
theorem dL_addReader_0 : decode cL_addReader 0 = .ok (.aload_n 3, 1) := by decide +kernel
theorem dL_addReader_1 : decode cL_addReader 1 = .ok (.iconst 0, 1) := by decide +kernel
theorem dL_addReader_2 : decode cL_addReader 2 = .ok (.aload_n 0, 1) := by decide +kernel
theorem dL_addReader_3 : decode cL_addReader 3 = .ok (.iload_n 1, 1) := by decide +kernel
theorem dL_addReader_4 : decode cL_addReader 4 = .ok (.iload_n 2, 1) := by decide +kernel
theorem dL_addReader_5 : decode cL_addReader 5 = .ok (.invokevirtual 30, 3) := by decide +kernel
theorem dL_addReader_8 : decode cL_addReader 8 = .ok (.i2l, 1) := by decide +kernel
theorem dL_addReader_9 : decode cL_addReader 9 = .ok (.lastore, 1) := by decide +kernel
theorem dL_addReader_10 : decode cL_addReader 10 = .ok (.goto 11, 3) := by decide +kernel
theorem dL_addReader_13 : decode cL_addReader 13 = .ok (.astore 4, 2) := by decide +kernel
theorem dL_addReader_15 : decode cL_addReader 15 = .ok (.iconst 1, 1) := by decide +kernel
theorem dL_addReader_16 : decode cL_addReader 16 = .ok (.ireturn, 1) := by decide +kernel
theorem dL_addReader_17 : decode cL_addReader 17 = .ok (.astore 4, 2) := by decide +kernel
theorem dL_addReader_19 : decode cL_addReader 19 = .ok (.iconst 2, 1) := by decide +kernel
theorem dL_addReader_20 : decode cL_addReader 20 = .ok (.ireturn, 1) := by decide +kernel
theorem dL_addReader_21 : decode cL_addReader 21 = .ok (.iconst 0, 1) := by decide +kernel
theorem dL_addReader_22 : decode cL_addReader 22 = .ok (.ireturn, 1) := by decide +kernel
theorem dL_addMirror_0 : decode cL_addMirror 0 = .ok (.aload_n 3, 1) := by decide +kernel
theorem dL_addMirror_1 : decode cL_addMirror 1 = .ok (.iconst 0, 1) := by decide +kernel
theorem dL_addMirror_2 : decode cL_addMirror 2 = .ok (.aload_n 0, 1) := by decide +kernel
theorem dL_addMirror_3 : decode cL_addMirror 3 = .ok (.iload_n 1, 1) := by decide +kernel
theorem dL_addMirror_4 : decode cL_addMirror 4 = .ok (.iload_n 2, 1) := by decide +kernel
theorem dL_addMirror_5 : decode cL_addMirror 5 = .ok (.invokevirtual 34, 3) := by decide +kernel
theorem dL_addMirror_8 : decode cL_addMirror 8 = .ok (.i2l, 1) := by decide +kernel
theorem dL_addMirror_9 : decode cL_addMirror 9 = .ok (.lastore, 1) := by decide +kernel
theorem dL_addMirror_10 : decode cL_addMirror 10 = .ok (.goto 11, 3) := by decide +kernel
theorem dL_addMirror_13 : decode cL_addMirror 13 = .ok (.astore 4, 2) := by decide +kernel
theorem dL_addMirror_15 : decode cL_addMirror 15 = .ok (.iconst 1, 1) := by decide +kernel
theorem dL_addMirror_16 : decode cL_addMirror 16 = .ok (.ireturn, 1) := by decide +kernel
theorem dL_addMirror_17 : decode cL_addMirror 17 = .ok (.astore 4, 2) := by decide +kernel
theorem dL_addMirror_19 : decode cL_addMirror 19 = .ok (.iconst 2, 1) := by decide +kernel
theorem dL_addMirror_20 : decode cL_addMirror 20 = .ok (.ireturn, 1) := by decide +kernel
theorem dL_addMirror_21 : decode cL_addMirror 21 = .ok (.iconst 0, 1) := by decide +kernel
theorem dL_addMirror_22 : decode cL_addMirror 22 = .ok (.ireturn, 1) := by decide +kernel
theorem dL_call_0 : decode cL_call 0 = .ok (.aload_n 2, 1) := by decide +kernel
theorem dL_call_1 : decode cL_call 1 = .ok (.iconst 0, 1) := by decide +kernel
theorem dL_call_2 : decode cL_call 2 = .ok (.aload_n 0, 1) := by decide +kernel
theorem dL_call_3 : decode cL_call 3 = .ok (.iload_n 1, 1) := by decide +kernel
theorem dL_call_4 : decode cL_call 4 = .ok (.invokevirtual 37, 3) := by decide +kernel
theorem dL_call_7 : decode cL_call 7 = .ok (.ifCond .eq 7, 3) := by decide +kernel
theorem dL_call_10 : decode cL_call 10 = .ok (.lconst 1, 1) := by decide +kernel
theorem dL_call_11 : decode cL_call 11 = .ok (.goto 4, 3) := by decide +kernel
theorem dL_call_14 : decode cL_call 14 = .ok (.lconst 0, 1) := by decide +kernel
theorem dL_call_15 : decode cL_call 15 = .ok (.lastore, 1) := by decide +kernel
theorem dL_call_16 : decode cL_call 16 = .ok (.goto 6, 3) := by decide +kernel
theorem dL_call_19 : decode cL_call 19 = .ok (.astore_n 3, 1) := by decide +kernel
theorem dL_call_20 : decode cL_call 20 = .ok (.iconst 1, 1) := by decide +kernel
theorem dL_call_21 : decode cL_call 21 = .ok (.ireturn, 1) := by decide +kernel
theorem dL_call_22 : decode cL_call 22 = .ok (.iconst 0, 1) := by decide +kernel
theorem dL_call_23 : decode cL_call 23 = .ok (.ireturn, 1) := by decide +kernel
theorem dL_passHours_0 : decode cL_passHours 0 = .ok (.aload_n 2, 1) := by decide +kernel
theorem dL_passHours_1 : decode cL_passHours 1 = .ok (.iconst 0, 1) := by decide +kernel
theorem dL_passHours_2 : decode cL_passHours 2 = .ok (.aload_n 0, 1) := by decide +kernel
theorem dL_passHours_3 : decode cL_passHours 3 = .ok (.iload_n 1, 1) := by decide +kernel
theorem dL_passHours_4 : decode cL_passHours 4 = .ok (.invokevirtual 40, 3) := by decide +kernel
theorem dL_passHours_7 : decode cL_passHours 7 = .ok (.i2l, 1) := by decide +kernel
theorem dL_passHours_8 : decode cL_passHours 8 = .ok (.lastore, 1) := by decide +kernel
theorem dL_passHours_9 : decode cL_passHours 9 = .ok (.goto 6, 3) := by decide +kernel
theorem dL_passHours_12 : decode cL_passHours 12 = .ok (.astore_n 3, 1) := by decide +kernel
theorem dL_passHours_13 : decode cL_passHours 13 = .ok (.iconst 1, 1) := by decide +kernel
theorem dL_passHours_14 : decode cL_passHours 14 = .ok (.ireturn, 1) := by decide +kernel
theorem dL_passHours_15 : decode cL_passHours 15 = .ok (.iconst 0, 1) := by decide +kernel
theorem dL_passHours_16 : decode cL_passHours 16 = .ok (.ireturn, 1) := by decide +kernel
theorem dL_isCalled_0 : decode cL_isCalled 0 = .ok (.aload_n 2, 1) := by decide +kernel
theorem dL_isCalled_1 : decode cL_isCalled 1 = .ok (.iconst 0, 1) := by decide +kernel
theorem dL_isCalled_2 : decode cL_isCalled 2 = .ok (.aload_n 0, 1) := by decide +kernel
theorem dL_isCalled_3 : decode cL_isCalled 3 = .ok (.iload_n 1, 1) := by decide +kernel
theorem dL_isCalled_4 : decode cL_isCalled 4 = .ok (.invokevirtual 43, 3) := by decide +kernel
theorem dL_isCalled_7 : decode cL_isCalled 7 = .ok (.ifCond .eq 7, 3) := by decide +kernel
theorem dL_isCalled_10 : decode cL_isCalled 10 = .ok (.lconst 1, 1) := by decide +kernel
theorem dL_isCalled_11 : decode cL_isCalled 11 = .ok (.goto 4, 3) := by decide +kernel
theorem dL_isCalled_14 : decode cL_isCalled 14 = .ok (.lconst 0, 1) := by decide +kernel
theorem dL_isCalled_15 : decode cL_isCalled 15 = .ok (.lastore, 1) := by decide +kernel
theorem dL_isCalled_16 : decode cL_isCalled 16 = .ok (.goto 6, 3) := by decide +kernel
theorem dL_isCalled_19 : decode cL_isCalled 19 = .ok (.astore_n 3, 1) := by decide +kernel
theorem dL_isCalled_20 : decode cL_isCalled 20 = .ok (.iconst 1, 1) := by decide +kernel
theorem dL_isCalled_21 : decode cL_isCalled 21 = .ok (.ireturn, 1) := by decide +kernel
theorem dL_isCalled_22 : decode cL_isCalled 22 = .ok (.iconst 0, 1) := by decide +kernel
theorem dL_isCalled_23 : decode cL_isCalled 23 = .ok (.ireturn, 1) := by decide +kernel
theorem dL_paragraphs_0 : decode cL_paragraphs 0 = .ok (.aload_n 2, 1) := by decide +kernel
theorem dL_paragraphs_1 : decode cL_paragraphs 1 = .ok (.iconst 0, 1) := by decide +kernel
theorem dL_paragraphs_2 : decode cL_paragraphs 2 = .ok (.aload_n 0, 1) := by decide +kernel
theorem dL_paragraphs_3 : decode cL_paragraphs 3 = .ok (.iload_n 1, 1) := by decide +kernel
theorem dL_paragraphs_4 : decode cL_paragraphs 4 = .ok (.invokevirtual 46, 3) := by decide +kernel
theorem dL_paragraphs_7 : decode cL_paragraphs 7 = .ok (.i2l, 1) := by decide +kernel
theorem dL_paragraphs_8 : decode cL_paragraphs 8 = .ok (.lastore, 1) := by decide +kernel
theorem dL_paragraphs_9 : decode cL_paragraphs 9 = .ok (.goto 6, 3) := by decide +kernel
theorem dL_paragraphs_12 : decode cL_paragraphs 12 = .ok (.astore_n 3, 1) := by decide +kernel
theorem dL_paragraphs_13 : decode cL_paragraphs 13 = .ok (.iconst 1, 1) := by decide +kernel
theorem dL_paragraphs_14 : decode cL_paragraphs 14 = .ok (.ireturn, 1) := by decide +kernel
theorem dL_paragraphs_15 : decode cL_paragraphs 15 = .ok (.iconst 0, 1) := by decide +kernel
theorem dL_paragraphs_16 : decode cL_paragraphs 16 = .ok (.ireturn, 1) := by decide +kernel
theorem dL_nextParagraph_0 : decode cL_nextParagraph 0 = .ok (.aload_n 2, 1) := by decide +kernel
theorem dL_nextParagraph_1 : decode cL_nextParagraph 1 = .ok (.iconst 0, 1) := by decide +kernel
theorem dL_nextParagraph_2 : decode cL_nextParagraph 2 = .ok (.aload_n 0, 1) := by decide +kernel
theorem dL_nextParagraph_3 : decode cL_nextParagraph 3 = .ok (.iload_n 1, 1) := by decide +kernel
theorem dL_nextParagraph_4 : decode cL_nextParagraph 4 = .ok (.invokevirtual 49, 3) := by decide +kernel
theorem dL_nextParagraph_7 : decode cL_nextParagraph 7 = .ok (.i2l, 1) := by decide +kernel
theorem dL_nextParagraph_8 : decode cL_nextParagraph 8 = .ok (.lastore, 1) := by decide +kernel
theorem dL_nextParagraph_9 : decode cL_nextParagraph 9 = .ok (.goto 6, 3) := by decide +kernel
theorem dL_nextParagraph_12 : decode cL_nextParagraph 12 = .ok (.astore_n 3, 1) := by decide +kernel
theorem dL_nextParagraph_13 : decode cL_nextParagraph 13 = .ok (.iconst 1, 1) := by decide +kernel
theorem dL_nextParagraph_14 : decode cL_nextParagraph 14 = .ok (.ireturn, 1) := by decide +kernel
theorem dL_nextParagraph_15 : decode cL_nextParagraph 15 = .ok (.iconst 0, 1) := by decide +kernel
theorem dL_nextParagraph_16 : decode cL_nextParagraph 16 = .ok (.ireturn, 1) := by decide +kernel
theorem dL_topicOf_0 : decode cL_topicOf 0 = .ok (.aload_n 3, 1) := by decide +kernel
theorem dL_topicOf_1 : decode cL_topicOf 1 = .ok (.iconst 0, 1) := by decide +kernel
theorem dL_topicOf_2 : decode cL_topicOf 2 = .ok (.aload_n 0, 1) := by decide +kernel
theorem dL_topicOf_3 : decode cL_topicOf 3 = .ok (.iload_n 1, 1) := by decide +kernel
theorem dL_topicOf_4 : decode cL_topicOf 4 = .ok (.iload_n 2, 1) := by decide +kernel
theorem dL_topicOf_5 : decode cL_topicOf 5 = .ok (.invokevirtual 52, 3) := by decide +kernel
theorem dL_topicOf_8 : decode cL_topicOf 8 = .ok (.i2l, 1) := by decide +kernel
theorem dL_topicOf_9 : decode cL_topicOf 9 = .ok (.lastore, 1) := by decide +kernel
theorem dL_topicOf_10 : decode cL_topicOf 10 = .ok (.goto 7, 3) := by decide +kernel
theorem dL_topicOf_13 : decode cL_topicOf 13 = .ok (.astore 4, 2) := by decide +kernel
theorem dL_topicOf_15 : decode cL_topicOf 15 = .ok (.iconst 1, 1) := by decide +kernel
theorem dL_topicOf_16 : decode cL_topicOf 16 = .ok (.ireturn, 1) := by decide +kernel
theorem dL_topicOf_17 : decode cL_topicOf 17 = .ok (.iconst 0, 1) := by decide +kernel
theorem dL_topicOf_18 : decode cL_topicOf 18 = .ok (.ireturn, 1) := by decide +kernel
theorem dL_thrillOf_0 : decode cL_thrillOf 0 = .ok (.aload_n 3, 1) := by decide +kernel
theorem dL_thrillOf_1 : decode cL_thrillOf 1 = .ok (.iconst 0, 1) := by decide +kernel
theorem dL_thrillOf_2 : decode cL_thrillOf 2 = .ok (.aload_n 0, 1) := by decide +kernel
theorem dL_thrillOf_3 : decode cL_thrillOf 3 = .ok (.iload_n 1, 1) := by decide +kernel
theorem dL_thrillOf_4 : decode cL_thrillOf 4 = .ok (.iload_n 2, 1) := by decide +kernel
theorem dL_thrillOf_5 : decode cL_thrillOf 5 = .ok (.invokevirtual 55, 3) := by decide +kernel
theorem dL_thrillOf_8 : decode cL_thrillOf 8 = .ok (.i2l, 1) := by decide +kernel
theorem dL_thrillOf_9 : decode cL_thrillOf 9 = .ok (.lastore, 1) := by decide +kernel
theorem dL_thrillOf_10 : decode cL_thrillOf 10 = .ok (.goto 7, 3) := by decide +kernel
theorem dL_thrillOf_13 : decode cL_thrillOf 13 = .ok (.astore 4, 2) := by decide +kernel
theorem dL_thrillOf_15 : decode cL_thrillOf 15 = .ok (.iconst 1, 1) := by decide +kernel
theorem dL_thrillOf_16 : decode cL_thrillOf 16 = .ok (.ireturn, 1) := by decide +kernel
theorem dL_thrillOf_17 : decode cL_thrillOf 17 = .ok (.iconst 0, 1) := by decide +kernel
theorem dL_thrillOf_18 : decode cL_thrillOf 18 = .ok (.ireturn, 1) := by decide +kernel
theorem dL_cutOn_0 : decode cL_cutOn 0 = .ok (.aload_n 2, 1) := by decide +kernel
theorem dL_cutOn_1 : decode cL_cutOn 1 = .ok (.iconst 0, 1) := by decide +kernel
theorem dL_cutOn_2 : decode cL_cutOn 2 = .ok (.aload_n 0, 1) := by decide +kernel
theorem dL_cutOn_3 : decode cL_cutOn 3 = .ok (.iload_n 1, 1) := by decide +kernel
theorem dL_cutOn_4 : decode cL_cutOn 4 = .ok (.invokevirtual 58, 3) := by decide +kernel
theorem dL_cutOn_7 : decode cL_cutOn 7 = .ok (.i2l, 1) := by decide +kernel
theorem dL_cutOn_8 : decode cL_cutOn 8 = .ok (.lastore, 1) := by decide +kernel
theorem dL_cutOn_9 : decode cL_cutOn 9 = .ok (.goto 6, 3) := by decide +kernel
theorem dL_cutOn_12 : decode cL_cutOn 12 = .ok (.astore_n 3, 1) := by decide +kernel
theorem dL_cutOn_13 : decode cL_cutOn 13 = .ok (.iconst 1, 1) := by decide +kernel
theorem dL_cutOn_14 : decode cL_cutOn 14 = .ok (.ireturn, 1) := by decide +kernel
theorem dL_cutOn_15 : decode cL_cutOn 15 = .ok (.iconst 0, 1) := by decide +kernel
theorem dL_cutOn_16 : decode cL_cutOn 16 = .ok (.ireturn, 1) := by decide +kernel
theorem dL_isForbidden_0 : decode cL_isForbidden 0 = .ok (.aload_n 2, 1) := by decide +kernel
theorem dL_isForbidden_1 : decode cL_isForbidden 1 = .ok (.iconst 0, 1) := by decide +kernel
theorem dL_isForbidden_2 : decode cL_isForbidden 2 = .ok (.aload_n 0, 1) := by decide +kernel
theorem dL_isForbidden_3 : decode cL_isForbidden 3 = .ok (.iload_n 1, 1) := by decide +kernel
theorem dL_isForbidden_4 : decode cL_isForbidden 4 = .ok (.invokevirtual 61, 3) := by decide +kernel
theorem dL_isForbidden_7 : decode cL_isForbidden 7 = .ok (.ifCond .eq 7, 3) := by decide +kernel
theorem dL_isForbidden_10 : decode cL_isForbidden 10 = .ok (.lconst 1, 1) := by decide +kernel
theorem dL_isForbidden_11 : decode cL_isForbidden 11 = .ok (.goto 4, 3) := by decide +kernel
theorem dL_isForbidden_14 : decode cL_isForbidden 14 = .ok (.lconst 0, 1) := by decide +kernel
theorem dL_isForbidden_15 : decode cL_isForbidden 15 = .ok (.lastore, 1) := by decide +kernel
theorem dL_isForbidden_16 : decode cL_isForbidden 16 = .ok (.goto 6, 3) := by decide +kernel
theorem dL_isForbidden_19 : decode cL_isForbidden 19 = .ok (.astore_n 3, 1) := by decide +kernel
theorem dL_isForbidden_20 : decode cL_isForbidden 20 = .ok (.iconst 1, 1) := by decide +kernel
theorem dL_isForbidden_21 : decode cL_isForbidden 21 = .ok (.ireturn, 1) := by decide +kernel
theorem dL_isForbidden_22 : decode cL_isForbidden 22 = .ok (.iconst 0, 1) := by decide +kernel
theorem dL_isForbidden_23 : decode cL_isForbidden 23 = .ok (.ireturn, 1) := by decide +kernel
theorem dL_toCome_0 : decode cL_toCome 0 = .ok (.aload_n 2, 1) := by decide +kernel
theorem dL_toCome_1 : decode cL_toCome 1 = .ok (.iconst 0, 1) := by decide +kernel
theorem dL_toCome_2 : decode cL_toCome 2 = .ok (.aload_n 0, 1) := by decide +kernel
theorem dL_toCome_3 : decode cL_toCome 3 = .ok (.iload_n 1, 1) := by decide +kernel
theorem dL_toCome_4 : decode cL_toCome 4 = .ok (.invokevirtual 64, 3) := by decide +kernel
theorem dL_toCome_7 : decode cL_toCome 7 = .ok (.i2l, 1) := by decide +kernel
theorem dL_toCome_8 : decode cL_toCome 8 = .ok (.lastore, 1) := by decide +kernel
theorem dL_toCome_9 : decode cL_toCome 9 = .ok (.goto 6, 3) := by decide +kernel
theorem dL_toCome_12 : decode cL_toCome 12 = .ok (.astore_n 3, 1) := by decide +kernel
theorem dL_toCome_13 : decode cL_toCome 13 = .ok (.iconst 1, 1) := by decide +kernel
theorem dL_toCome_14 : decode cL_toCome 14 = .ok (.ireturn, 1) := by decide +kernel
theorem dL_toCome_15 : decode cL_toCome 15 = .ok (.iconst 0, 1) := by decide +kernel
theorem dL_toCome_16 : decode cL_toCome 16 = .ok (.ireturn, 1) := by decide +kernel
theorem dL_floorIn_0 : decode cL_floorIn 0 = .ok (.aload_n 2, 1) := by decide +kernel
theorem dL_floorIn_1 : decode cL_floorIn 1 = .ok (.iconst 0, 1) := by decide +kernel
theorem dL_floorIn_2 : decode cL_floorIn 2 = .ok (.aload_n 0, 1) := by decide +kernel
theorem dL_floorIn_3 : decode cL_floorIn 3 = .ok (.iload_n 1, 1) := by decide +kernel
theorem dL_floorIn_4 : decode cL_floorIn 4 = .ok (.invokevirtual 67, 3) := by decide +kernel
theorem dL_floorIn_7 : decode cL_floorIn 7 = .ok (.i2l, 1) := by decide +kernel
theorem dL_floorIn_8 : decode cL_floorIn 8 = .ok (.lastore, 1) := by decide +kernel
theorem dL_floorIn_9 : decode cL_floorIn 9 = .ok (.goto 6, 3) := by decide +kernel
theorem dL_floorIn_12 : decode cL_floorIn 12 = .ok (.astore_n 3, 1) := by decide +kernel
theorem dL_floorIn_13 : decode cL_floorIn 13 = .ok (.iconst 1, 1) := by decide +kernel
theorem dL_floorIn_14 : decode cL_floorIn 14 = .ok (.ireturn, 1) := by decide +kernel
theorem dL_floorIn_15 : decode cL_floorIn 15 = .ok (.iconst 0, 1) := by decide +kernel
theorem dL_floorIn_16 : decode cL_floorIn 16 = .ok (.ireturn, 1) := by decide +kernel
theorem dL_paragraphIn_0 : decode cL_paragraphIn 0 = .ok (.aload_n 2, 1) := by decide +kernel
theorem dL_paragraphIn_1 : decode cL_paragraphIn 1 = .ok (.iconst 0, 1) := by decide +kernel
theorem dL_paragraphIn_2 : decode cL_paragraphIn 2 = .ok (.aload_n 0, 1) := by decide +kernel
theorem dL_paragraphIn_3 : decode cL_paragraphIn 3 = .ok (.iload_n 1, 1) := by decide +kernel
theorem dL_paragraphIn_4 : decode cL_paragraphIn 4 = .ok (.invokevirtual 70, 3) := by decide +kernel
theorem dL_paragraphIn_7 : decode cL_paragraphIn 7 = .ok (.i2l, 1) := by decide +kernel
theorem dL_paragraphIn_8 : decode cL_paragraphIn 8 = .ok (.lastore, 1) := by decide +kernel
theorem dL_paragraphIn_9 : decode cL_paragraphIn 9 = .ok (.goto 6, 3) := by decide +kernel
theorem dL_paragraphIn_12 : decode cL_paragraphIn 12 = .ok (.astore_n 3, 1) := by decide +kernel
theorem dL_paragraphIn_13 : decode cL_paragraphIn 13 = .ok (.iconst 1, 1) := by decide +kernel
theorem dL_paragraphIn_14 : decode cL_paragraphIn 14 = .ok (.ireturn, 1) := by decide +kernel
theorem dL_paragraphIn_15 : decode cL_paragraphIn 15 = .ok (.iconst 0, 1) := by decide +kernel
theorem dL_paragraphIn_16 : decode cL_paragraphIn 16 = .ok (.ireturn, 1) := by decide +kernel
theorem dL_thrillIn_0 : decode cL_thrillIn 0 = .ok (.aload_n 2, 1) := by decide +kernel
theorem dL_thrillIn_1 : decode cL_thrillIn 1 = .ok (.iconst 0, 1) := by decide +kernel
theorem dL_thrillIn_2 : decode cL_thrillIn 2 = .ok (.aload_n 0, 1) := by decide +kernel
theorem dL_thrillIn_3 : decode cL_thrillIn 3 = .ok (.iload_n 1, 1) := by decide +kernel
theorem dL_thrillIn_4 : decode cL_thrillIn 4 = .ok (.invokevirtual 73, 3) := by decide +kernel
theorem dL_thrillIn_7 : decode cL_thrillIn 7 = .ok (.i2l, 1) := by decide +kernel
theorem dL_thrillIn_8 : decode cL_thrillIn 8 = .ok (.lastore, 1) := by decide +kernel
theorem dL_thrillIn_9 : decode cL_thrillIn 9 = .ok (.goto 6, 3) := by decide +kernel
theorem dL_thrillIn_12 : decode cL_thrillIn 12 = .ok (.astore_n 3, 1) := by decide +kernel
theorem dL_thrillIn_13 : decode cL_thrillIn 13 = .ok (.iconst 1, 1) := by decide +kernel
theorem dL_thrillIn_14 : decode cL_thrillIn 14 = .ok (.ireturn, 1) := by decide +kernel
theorem dL_thrillIn_15 : decode cL_thrillIn 15 = .ok (.iconst 0, 1) := by decide +kernel
theorem dL_thrillIn_16 : decode cL_thrillIn 16 = .ok (.ireturn, 1) := by decide +kernel
theorem dL_hourIn_0 : decode cL_hourIn 0 = .ok (.aload_n 2, 1) := by decide +kernel
theorem dL_hourIn_1 : decode cL_hourIn 1 = .ok (.iconst 0, 1) := by decide +kernel
theorem dL_hourIn_2 : decode cL_hourIn 2 = .ok (.aload_n 0, 1) := by decide +kernel
theorem dL_hourIn_3 : decode cL_hourIn 3 = .ok (.iload_n 1, 1) := by decide +kernel
theorem dL_hourIn_4 : decode cL_hourIn 4 = .ok (.invokevirtual 76, 3) := by decide +kernel
theorem dL_hourIn_7 : decode cL_hourIn 7 = .ok (.i2l, 1) := by decide +kernel
theorem dL_hourIn_8 : decode cL_hourIn 8 = .ok (.lastore, 1) := by decide +kernel
theorem dL_hourIn_9 : decode cL_hourIn 9 = .ok (.goto 6, 3) := by decide +kernel
theorem dL_hourIn_12 : decode cL_hourIn 12 = .ok (.astore_n 3, 1) := by decide +kernel
theorem dL_hourIn_13 : decode cL_hourIn 13 = .ok (.iconst 1, 1) := by decide +kernel
theorem dL_hourIn_14 : decode cL_hourIn 14 = .ok (.ireturn, 1) := by decide +kernel
theorem dL_hourIn_15 : decode cL_hourIn 15 = .ok (.iconst 0, 1) := by decide +kernel
theorem dL_hourIn_16 : decode cL_hourIn 16 = .ok (.ireturn, 1) := by decide +kernel
theorem dL_tasteOf_0 : decode cL_tasteOf 0 = .ok (.aload_n 2, 1) := by decide +kernel
theorem dL_tasteOf_1 : decode cL_tasteOf 1 = .ok (.iconst 0, 1) := by decide +kernel
theorem dL_tasteOf_2 : decode cL_tasteOf 2 = .ok (.aload_n 0, 1) := by decide +kernel
theorem dL_tasteOf_3 : decode cL_tasteOf 3 = .ok (.iload_n 1, 1) := by decide +kernel
theorem dL_tasteOf_4 : decode cL_tasteOf 4 = .ok (.invokevirtual 79, 3) := by decide +kernel
theorem dL_tasteOf_7 : decode cL_tasteOf 7 = .ok (.i2l, 1) := by decide +kernel
theorem dL_tasteOf_8 : decode cL_tasteOf 8 = .ok (.lastore, 1) := by decide +kernel
theorem dL_tasteOf_9 : decode cL_tasteOf 9 = .ok (.goto 6, 3) := by decide +kernel
theorem dL_tasteOf_12 : decode cL_tasteOf 12 = .ok (.astore_n 3, 1) := by decide +kernel
theorem dL_tasteOf_13 : decode cL_tasteOf 13 = .ok (.iconst 1, 1) := by decide +kernel
theorem dL_tasteOf_14 : decode cL_tasteOf 14 = .ok (.ireturn, 1) := by decide +kernel
theorem dL_tasteOf_15 : decode cL_tasteOf 15 = .ok (.iconst 0, 1) := by decide +kernel
theorem dL_tasteOf_16 : decode cL_tasteOf 16 = .ok (.ireturn, 1) := by decide +kernel
theorem dL_warmthOf_0 : decode cL_warmthOf 0 = .ok (.aload_n 2, 1) := by decide +kernel
theorem dL_warmthOf_1 : decode cL_warmthOf 1 = .ok (.iconst 0, 1) := by decide +kernel
theorem dL_warmthOf_2 : decode cL_warmthOf 2 = .ok (.aload_n 0, 1) := by decide +kernel
theorem dL_warmthOf_3 : decode cL_warmthOf 3 = .ok (.iload_n 1, 1) := by decide +kernel
theorem dL_warmthOf_4 : decode cL_warmthOf 4 = .ok (.invokevirtual 82, 3) := by decide +kernel
theorem dL_warmthOf_7 : decode cL_warmthOf 7 = .ok (.i2l, 1) := by decide +kernel
theorem dL_warmthOf_8 : decode cL_warmthOf 8 = .ok (.lastore, 1) := by decide +kernel
theorem dL_warmthOf_9 : decode cL_warmthOf 9 = .ok (.goto 6, 3) := by decide +kernel
theorem dL_warmthOf_12 : decode cL_warmthOf 12 = .ok (.astore_n 3, 1) := by decide +kernel
theorem dL_warmthOf_13 : decode cL_warmthOf 13 = .ok (.iconst 1, 1) := by decide +kernel
theorem dL_warmthOf_14 : decode cL_warmthOf 14 = .ok (.ireturn, 1) := by decide +kernel
theorem dL_warmthOf_15 : decode cL_warmthOf 15 = .ok (.iconst 0, 1) := by decide +kernel
theorem dL_warmthOf_16 : decode cL_warmthOf 16 = .ok (.ireturn, 1) := by decide +kernel
theorem dL_isSubscriber_0 : decode cL_isSubscriber 0 = .ok (.aload_n 2, 1) := by decide +kernel
theorem dL_isSubscriber_1 : decode cL_isSubscriber 1 = .ok (.iconst 0, 1) := by decide +kernel
theorem dL_isSubscriber_2 : decode cL_isSubscriber 2 = .ok (.aload_n 0, 1) := by decide +kernel
theorem dL_isSubscriber_3 : decode cL_isSubscriber 3 = .ok (.iload_n 1, 1) := by decide +kernel
theorem dL_isSubscriber_4 : decode cL_isSubscriber 4 = .ok (.invokevirtual 85, 3) := by decide +kernel
theorem dL_isSubscriber_7 : decode cL_isSubscriber 7 = .ok (.ifCond .eq 7, 3) := by decide +kernel
theorem dL_isSubscriber_10 : decode cL_isSubscriber 10 = .ok (.lconst 1, 1) := by decide +kernel
theorem dL_isSubscriber_11 : decode cL_isSubscriber 11 = .ok (.goto 4, 3) := by decide +kernel
theorem dL_isSubscriber_14 : decode cL_isSubscriber 14 = .ok (.lconst 0, 1) := by decide +kernel
theorem dL_isSubscriber_15 : decode cL_isSubscriber 15 = .ok (.lastore, 1) := by decide +kernel
theorem dL_isSubscriber_16 : decode cL_isSubscriber 16 = .ok (.goto 6, 3) := by decide +kernel
theorem dL_isSubscriber_19 : decode cL_isSubscriber 19 = .ok (.astore_n 3, 1) := by decide +kernel
theorem dL_isSubscriber_20 : decode cL_isSubscriber 20 = .ok (.iconst 1, 1) := by decide +kernel
theorem dL_isSubscriber_21 : decode cL_isSubscriber 21 = .ok (.ireturn, 1) := by decide +kernel
theorem dL_isSubscriber_22 : decode cL_isSubscriber 22 = .ok (.iconst 0, 1) := by decide +kernel
theorem dL_isSubscriber_23 : decode cL_isSubscriber 23 = .ok (.ireturn, 1) := by decide +kernel
theorem dL_grade_0 : decode cL_grade 0 = .ok (.aload_n 3, 1) := by decide +kernel
theorem dL_grade_1 : decode cL_grade 1 = .ok (.iconst 0, 1) := by decide +kernel
theorem dL_grade_2 : decode cL_grade 2 = .ok (.aload_n 0, 1) := by decide +kernel
theorem dL_grade_3 : decode cL_grade 3 = .ok (.iload_n 1, 1) := by decide +kernel
theorem dL_grade_4 : decode cL_grade 4 = .ok (.iload_n 2, 1) := by decide +kernel
theorem dL_grade_5 : decode cL_grade 5 = .ok (.invokevirtual 88, 3) := by decide +kernel
theorem dL_grade_8 : decode cL_grade 8 = .ok (.i2l, 1) := by decide +kernel
theorem dL_grade_9 : decode cL_grade 9 = .ok (.lastore, 1) := by decide +kernel
theorem dL_grade_10 : decode cL_grade 10 = .ok (.goto 7, 3) := by decide +kernel
theorem dL_grade_13 : decode cL_grade 13 = .ok (.astore 4, 2) := by decide +kernel
theorem dL_grade_15 : decode cL_grade 15 = .ok (.iconst 1, 1) := by decide +kernel
theorem dL_grade_16 : decode cL_grade 16 = .ok (.ireturn, 1) := by decide +kernel
theorem dL_grade_17 : decode cL_grade 17 = .ok (.iconst 0, 1) := by decide +kernel
theorem dL_grade_18 : decode cL_grade 18 = .ok (.ireturn, 1) := by decide +kernel
theorem dL_gradesBy_0 : decode cL_gradesBy 0 = .ok (.aload_n 2, 1) := by decide +kernel
theorem dL_gradesBy_1 : decode cL_gradesBy 1 = .ok (.iconst 0, 1) := by decide +kernel
theorem dL_gradesBy_2 : decode cL_gradesBy 2 = .ok (.aload_n 0, 1) := by decide +kernel
theorem dL_gradesBy_3 : decode cL_gradesBy 3 = .ok (.iload_n 1, 1) := by decide +kernel
theorem dL_gradesBy_4 : decode cL_gradesBy 4 = .ok (.invokevirtual 91, 3) := by decide +kernel
theorem dL_gradesBy_7 : decode cL_gradesBy 7 = .ok (.i2l, 1) := by decide +kernel
theorem dL_gradesBy_8 : decode cL_gradesBy 8 = .ok (.lastore, 1) := by decide +kernel
theorem dL_gradesBy_9 : decode cL_gradesBy 9 = .ok (.goto 6, 3) := by decide +kernel
theorem dL_gradesBy_12 : decode cL_gradesBy 12 = .ok (.astore_n 3, 1) := by decide +kernel
theorem dL_gradesBy_13 : decode cL_gradesBy 13 = .ok (.iconst 1, 1) := by decide +kernel
theorem dL_gradesBy_14 : decode cL_gradesBy 14 = .ok (.ireturn, 1) := by decide +kernel
theorem dL_gradesBy_15 : decode cL_gradesBy 15 = .ok (.iconst 0, 1) := by decide +kernel
theorem dL_gradesBy_16 : decode cL_gradesBy 16 = .ok (.ireturn, 1) := by decide +kernel
theorem dL_favouriteOf_0 : decode cL_favouriteOf 0 = .ok (.aload_n 2, 1) := by decide +kernel
theorem dL_favouriteOf_1 : decode cL_favouriteOf 1 = .ok (.iconst 0, 1) := by decide +kernel
theorem dL_favouriteOf_2 : decode cL_favouriteOf 2 = .ok (.aload_n 0, 1) := by decide +kernel
theorem dL_favouriteOf_3 : decode cL_favouriteOf 3 = .ok (.iload_n 1, 1) := by decide +kernel
theorem dL_favouriteOf_4 : decode cL_favouriteOf 4 = .ok (.invokevirtual 94, 3) := by decide +kernel
theorem dL_favouriteOf_7 : decode cL_favouriteOf 7 = .ok (.i2l, 1) := by decide +kernel
theorem dL_favouriteOf_8 : decode cL_favouriteOf 8 = .ok (.lastore, 1) := by decide +kernel
theorem dL_favouriteOf_9 : decode cL_favouriteOf 9 = .ok (.goto 6, 3) := by decide +kernel
theorem dL_favouriteOf_12 : decode cL_favouriteOf 12 = .ok (.astore_n 3, 1) := by decide +kernel
theorem dL_favouriteOf_13 : decode cL_favouriteOf 13 = .ok (.iconst 1, 1) := by decide +kernel
theorem dL_favouriteOf_14 : decode cL_favouriteOf 14 = .ok (.ireturn, 1) := by decide +kernel
theorem dL_favouriteOf_15 : decode cL_favouriteOf 15 = .ok (.iconst 0, 1) := by decide +kernel
theorem dL_favouriteOf_16 : decode cL_favouriteOf 16 = .ok (.ireturn, 1) := by decide +kernel
theorem dL_hoursUntilStop_0 : decode cL_hoursUntilStop 0 = .ok (.aload_n 2, 1) := by decide +kernel
theorem dL_hoursUntilStop_1 : decode cL_hoursUntilStop 1 = .ok (.iconst 0, 1) := by decide +kernel
theorem dL_hoursUntilStop_2 : decode cL_hoursUntilStop 2 = .ok (.aload_n 0, 1) := by decide +kernel
theorem dL_hoursUntilStop_3 : decode cL_hoursUntilStop 3 = .ok (.iload_n 1, 1) := by decide +kernel
theorem dL_hoursUntilStop_4 : decode cL_hoursUntilStop 4 = .ok (.invokevirtual 97, 3) := by decide +kernel
theorem dL_hoursUntilStop_7 : decode cL_hoursUntilStop 7 = .ok (.i2l, 1) := by decide +kernel
theorem dL_hoursUntilStop_8 : decode cL_hoursUntilStop 8 = .ok (.lastore, 1) := by decide +kernel
theorem dL_hoursUntilStop_9 : decode cL_hoursUntilStop 9 = .ok (.goto 6, 3) := by decide +kernel
theorem dL_hoursUntilStop_12 : decode cL_hoursUntilStop 12 = .ok (.astore_n 3, 1) := by decide +kernel
theorem dL_hoursUntilStop_13 : decode cL_hoursUntilStop 13 = .ok (.iconst 1, 1) := by decide +kernel
theorem dL_hoursUntilStop_14 : decode cL_hoursUntilStop 14 = .ok (.ireturn, 1) := by decide +kernel
theorem dL_hoursUntilStop_15 : decode cL_hoursUntilStop 15 = .ok (.iconst 0, 1) := by decide +kernel
theorem dL_hoursUntilStop_16 : decode cL_hoursUntilStop 16 = .ok (.ireturn, 1) := by decide +kernel
theorem dL_printedIn_0 : decode cL_printedIn 0 = .ok (.aload_n 2, 1) := by decide +kernel
theorem dL_printedIn_1 : decode cL_printedIn 1 = .ok (.iconst 0, 1) := by decide +kernel
theorem dL_printedIn_2 : decode cL_printedIn 2 = .ok (.aload_n 0, 1) := by decide +kernel
theorem dL_printedIn_3 : decode cL_printedIn 3 = .ok (.iload_n 1, 1) := by decide +kernel
theorem dL_printedIn_4 : decode cL_printedIn 4 = .ok (.invokevirtual 100, 3) := by decide +kernel
theorem dL_printedIn_7 : decode cL_printedIn 7 = .ok (.i2l, 1) := by decide +kernel
theorem dL_printedIn_8 : decode cL_printedIn 8 = .ok (.lastore, 1) := by decide +kernel
theorem dL_printedIn_9 : decode cL_printedIn 9 = .ok (.goto 6, 3) := by decide +kernel
theorem dL_printedIn_12 : decode cL_printedIn 12 = .ok (.astore_n 3, 1) := by decide +kernel
theorem dL_printedIn_13 : decode cL_printedIn 13 = .ok (.iconst 1, 1) := by decide +kernel
theorem dL_printedIn_14 : decode cL_printedIn 14 = .ok (.ireturn, 1) := by decide +kernel
theorem dL_printedIn_15 : decode cL_printedIn 15 = .ok (.iconst 0, 1) := by decide +kernel
theorem dL_printedIn_16 : decode cL_printedIn 16 = .ok (.ireturn, 1) := by decide +kernel
theorem dL_subscribersIn_0 : decode cL_subscribersIn 0 = .ok (.aload_n 2, 1) := by decide +kernel
theorem dL_subscribersIn_1 : decode cL_subscribersIn 1 = .ok (.iconst 0, 1) := by decide +kernel
theorem dL_subscribersIn_2 : decode cL_subscribersIn 2 = .ok (.aload_n 0, 1) := by decide +kernel
theorem dL_subscribersIn_3 : decode cL_subscribersIn 3 = .ok (.iload_n 1, 1) := by decide +kernel
theorem dL_subscribersIn_4 : decode cL_subscribersIn 4 = .ok (.invokevirtual 103, 3) := by decide +kernel
theorem dL_subscribersIn_7 : decode cL_subscribersIn 7 = .ok (.i2l, 1) := by decide +kernel
theorem dL_subscribersIn_8 : decode cL_subscribersIn 8 = .ok (.lastore, 1) := by decide +kernel
theorem dL_subscribersIn_9 : decode cL_subscribersIn 9 = .ok (.goto 6, 3) := by decide +kernel
theorem dL_subscribersIn_12 : decode cL_subscribersIn 12 = .ok (.astore_n 3, 1) := by decide +kernel
theorem dL_subscribersIn_13 : decode cL_subscribersIn 13 = .ok (.iconst 1, 1) := by decide +kernel
theorem dL_subscribersIn_14 : decode cL_subscribersIn 14 = .ok (.ireturn, 1) := by decide +kernel
theorem dL_subscribersIn_15 : decode cL_subscribersIn 15 = .ok (.iconst 0, 1) := by decide +kernel
theorem dL_subscribersIn_16 : decode cL_subscribersIn 16 = .ok (.ireturn, 1) := by decide +kernel
theorem dL_bestToCall_0 : decode cL_bestToCall 0 = .ok (.aload_n 2, 1) := by decide +kernel
theorem dL_bestToCall_1 : decode cL_bestToCall 1 = .ok (.iconst 0, 1) := by decide +kernel
theorem dL_bestToCall_2 : decode cL_bestToCall 2 = .ok (.aload_n 0, 1) := by decide +kernel
theorem dL_bestToCall_3 : decode cL_bestToCall 3 = .ok (.iload_n 1, 1) := by decide +kernel
theorem dL_bestToCall_4 : decode cL_bestToCall 4 = .ok (.invokevirtual 106, 3) := by decide +kernel
theorem dL_bestToCall_7 : decode cL_bestToCall 7 = .ok (.i2l, 1) := by decide +kernel
theorem dL_bestToCall_8 : decode cL_bestToCall 8 = .ok (.lastore, 1) := by decide +kernel
theorem dL_bestToCall_9 : decode cL_bestToCall 9 = .ok (.goto 6, 3) := by decide +kernel
theorem dL_bestToCall_12 : decode cL_bestToCall 12 = .ok (.astore_n 3, 1) := by decide +kernel
theorem dL_bestToCall_13 : decode cL_bestToCall 13 = .ok (.iconst 1, 1) := by decide +kernel
theorem dL_bestToCall_14 : decode cL_bestToCall 14 = .ok (.ireturn, 1) := by decide +kernel
theorem dL_bestToCall_15 : decode cL_bestToCall 15 = .ok (.iconst 0, 1) := by decide +kernel
theorem dL_bestToCall_16 : decode cL_bestToCall 16 = .ok (.ireturn, 1) := by decide +kernel
theorem dL_bestToAllow_0 : decode cL_bestToAllow 0 = .ok (.aload_n 2, 1) := by decide +kernel
theorem dL_bestToAllow_1 : decode cL_bestToAllow 1 = .ok (.iconst 0, 1) := by decide +kernel
theorem dL_bestToAllow_2 : decode cL_bestToAllow 2 = .ok (.aload_n 0, 1) := by decide +kernel
theorem dL_bestToAllow_3 : decode cL_bestToAllow 3 = .ok (.iload_n 1, 1) := by decide +kernel
theorem dL_bestToAllow_4 : decode cL_bestToAllow 4 = .ok (.invokevirtual 109, 3) := by decide +kernel
theorem dL_bestToAllow_7 : decode cL_bestToAllow 7 = .ok (.i2l, 1) := by decide +kernel
theorem dL_bestToAllow_8 : decode cL_bestToAllow 8 = .ok (.lastore, 1) := by decide +kernel
theorem dL_bestToAllow_9 : decode cL_bestToAllow 9 = .ok (.goto 6, 3) := by decide +kernel
theorem dL_bestToAllow_12 : decode cL_bestToAllow 12 = .ok (.astore_n 3, 1) := by decide +kernel
theorem dL_bestToAllow_13 : decode cL_bestToAllow 13 = .ok (.iconst 1, 1) := by decide +kernel
theorem dL_bestToAllow_14 : decode cL_bestToAllow 14 = .ok (.ireturn, 1) := by decide +kernel
theorem dL_bestToAllow_15 : decode cL_bestToAllow 15 = .ok (.iconst 0, 1) := by decide +kernel
theorem dL_bestToAllow_16 : decode cL_bestToAllow 16 = .ok (.ireturn, 1) := by decide +kernel
theorem dL_law_0 : decode cL_law 0 = .ok (.new 8, 3) := by decide +kernel
theorem dL_law_3 : decode cL_law 3 = .ok (.dup, 1) := by decide +kernel
theorem dL_law_4 : decode cL_law 4 = .ok (.invokespecial 112, 3) := by decide +kernel
theorem dL_law_7 : decode cL_law 7 = .ok (.astore_n 1, 1) := by decide +kernel
theorem dL_law_8 : decode cL_law 8 = .ok (.new 113, 3) := by decide +kernel
theorem dL_law_11 : decode cL_law 11 = .ok (.dup, 1) := by decide +kernel
theorem dL_law_12 : decode cL_law 12 = .ok (.invokespecial 115, 3) := by decide +kernel
theorem dL_law_15 : decode cL_law 15 = .ok (.astore_n 2, 1) := by decide +kernel
theorem dL_law_16 : decode cL_law 16 = .ok (.iconst 1, 1) := by decide +kernel
theorem dL_law_17 : decode cL_law 17 = .ok (.newarray .long, 2) := by decide +kernel
theorem dL_law_19 : decode cL_law 19 = .ok (.astore_n 3, 1) := by decide +kernel
theorem dL_law_20 : decode cL_law 20 = .ok (.iconst 0, 1) := by decide +kernel
theorem dL_law_21 : decode cL_law 21 = .ok (.istore 4, 2) := by decide +kernel
theorem dL_law_23 : decode cL_law 23 = .ok (.iload 4, 2) := by decide +kernel
theorem dL_law_25 : decode cL_law 25 = .ok (.aload_n 0, 1) := by decide +kernel
theorem dL_law_26 : decode cL_law 26 = .ok (.arraylength, 1) := by decide +kernel
theorem dL_law_27 : decode cL_law 27 = .ok (.iconst 4, 1) := by decide +kernel
theorem dL_law_28 : decode cL_law 28 = .ok (.isub, 1) := by decide +kernel
theorem dL_law_29 : decode cL_law 29 = .ok (.if_icmp .gt 2428, 3) := by decide +kernel
theorem dL_law_32 : decode cL_law 32 = .ok (.aload_n 0, 1) := by decide +kernel
theorem dL_law_33 : decode cL_law 33 = .ok (.iload 4, 2) := by decide +kernel
theorem dL_law_35 : decode cL_law 35 = .ok (.iaload, 1) := by decide +kernel
theorem dL_law_36 : decode cL_law 36 = .ok (.bipush 63, 2) := by decide +kernel
theorem dL_law_38 : decode cL_law 38 = .ok (.iand, 1) := by decide +kernel
theorem dL_law_39 : decode cL_law 39 = .ok (.tableswitch 2412 0 53 #[229, 285, 365, 428, 484, 552, 620, 683, 696, 752, 765, 778, 791, 804, 867, 880, 893, 906, 919, 932, 988, 1044, 1112, 1180, 1236, 1299, 1312, 1368, 1381, 1437, 1493, 1549, 1605, 1618, 1631, 1644, 1657, 1670, 1726, 1782, 1845, 1858, 1871, 1939, 1995, 2051, 2064, 2120, 2133, 2189, 2245, 2301, 2357, 2398], 229) := by decide +kernel
theorem dL_law_268 : decode cL_law 268 = .ok (.aload_n 1, 1) := by decide +kernel
theorem dL_law_269 : decode cL_law 269 = .ok (.aload_n 0, 1) := by decide +kernel
theorem dL_law_270 : decode cL_law 270 = .ok (.iload 4, 2) := by decide +kernel
theorem dL_law_272 : decode cL_law 272 = .ok (.iconst 1, 1) := by decide +kernel
theorem dL_law_273 : decode cL_law 273 = .ok (.iadd, 1) := by decide +kernel
theorem dL_law_274 : decode cL_law 274 = .ok (.iaload, 1) := by decide +kernel
theorem dL_law_275 : decode cL_law 275 = .ok (.aload_n 3, 1) := by decide +kernel
theorem dL_law_276 : decode cL_law 276 = .ok (.invokestatic 116, 3) := by decide +kernel
theorem dL_law_279 : decode cL_law 279 = .ok (.istore 5, 2) := by decide +kernel
theorem dL_law_281 : decode cL_law 281 = .ok (.aload_n 2, 1) := by decide +kernel
theorem dL_law_282 : decode cL_law 282 = .ok (.aload_n 0, 1) := by decide +kernel
theorem dL_law_283 : decode cL_law 283 = .ok (.iload 4, 2) := by decide +kernel
theorem dL_law_285 : decode cL_law 285 = .ok (.iconst 1, 1) := by decide +kernel
theorem dL_law_286 : decode cL_law 286 = .ok (.iadd, 1) := by decide +kernel
theorem dL_law_287 : decode cL_law 287 = .ok (.iaload, 1) := by decide +kernel
theorem dL_law_288 : decode cL_law 288 = .ok (.invokevirtual 121, 3) := by decide +kernel
theorem dL_law_291 : decode cL_law 291 = .ok (.istore 6, 2) := by decide +kernel
theorem dL_law_293 : decode cL_law 293 = .ok (.aload_n 2, 1) := by decide +kernel
theorem dL_law_294 : decode cL_law 294 = .ok (.invokevirtual 122, 3) := by decide +kernel
theorem dL_law_297 : decode cL_law 297 = .ok (.iload 5, 2) := by decide +kernel
theorem dL_law_299 : decode cL_law 299 = .ok (.if_icmp .eq 5, 3) := by decide +kernel
theorem dL_law_302 : decode cL_law 302 = .ok (.iconst 0, 1) := by decide +kernel
theorem dL_law_303 : decode cL_law 303 = .ok (.ireturn, 1) := by decide +kernel
theorem dL_law_304 : decode cL_law 304 = .ok (.iload 5, 2) := by decide +kernel
theorem dL_law_306 : decode cL_law 306 = .ok (.ifCond .ne 15, 3) := by decide +kernel
theorem dL_law_309 : decode cL_law 309 = .ok (.aload_n 3, 1) := by decide +kernel
theorem dL_law_310 : decode cL_law 310 = .ok (.iconst 0, 1) := by decide +kernel
theorem dL_law_311 : decode cL_law 311 = .ok (.laload, 1) := by decide +kernel
theorem dL_law_312 : decode cL_law 312 = .ok (.iload 6, 2) := by decide +kernel
theorem dL_law_314 : decode cL_law 314 = .ok (.i2l, 1) := by decide +kernel
theorem dL_law_315 : decode cL_law 315 = .ok (.lcmp, 1) := by decide +kernel
theorem dL_law_316 : decode cL_law 316 = .ok (.ifCond .eq 5, 3) := by decide +kernel
theorem dL_law_319 : decode cL_law 319 = .ok (.iconst 0, 1) := by decide +kernel
theorem dL_law_320 : decode cL_law 320 = .ok (.ireturn, 1) := by decide +kernel
theorem dL_law_321 : decode cL_law 321 = .ok (.goto 2130, 3) := by decide +kernel
theorem dL_law_324 : decode cL_law 324 = .ok (.aload_n 1, 1) := by decide +kernel
theorem dL_law_325 : decode cL_law 325 = .ok (.aload_n 0, 1) := by decide +kernel
theorem dL_law_326 : decode cL_law 326 = .ok (.iload 4, 2) := by decide +kernel
theorem dL_law_328 : decode cL_law 328 = .ok (.iconst 1, 1) := by decide +kernel
theorem dL_law_329 : decode cL_law 329 = .ok (.iadd, 1) := by decide +kernel
theorem dL_law_330 : decode cL_law 330 = .ok (.iaload, 1) := by decide +kernel
theorem dL_law_331 : decode cL_law 331 = .ok (.aload_n 0, 1) := by decide +kernel
theorem dL_law_332 : decode cL_law 332 = .ok (.iload 4, 2) := by decide +kernel
theorem dL_law_334 : decode cL_law 334 = .ok (.iconst 2, 1) := by decide +kernel
theorem dL_law_335 : decode cL_law 335 = .ok (.iadd, 1) := by decide +kernel
theorem dL_law_336 : decode cL_law 336 = .ok (.iaload, 1) := by decide +kernel
theorem dL_law_337 : decode cL_law 337 = .ok (.aload_n 0, 1) := by decide +kernel
theorem dL_law_338 : decode cL_law 338 = .ok (.iload 4, 2) := by decide +kernel
theorem dL_law_340 : decode cL_law 340 = .ok (.iconst 3, 1) := by decide +kernel
theorem dL_law_341 : decode cL_law 341 = .ok (.iadd, 1) := by decide +kernel
theorem dL_law_342 : decode cL_law 342 = .ok (.iaload, 1) := by decide +kernel
theorem dL_law_343 : decode cL_law 343 = .ok (.aload_n 3, 1) := by decide +kernel
theorem dL_law_344 : decode cL_law 344 = .ok (.invokestatic 126, 3) := by decide +kernel
theorem dL_law_347 : decode cL_law 347 = .ok (.istore 5, 2) := by decide +kernel
theorem dL_law_349 : decode cL_law 349 = .ok (.aload_n 2, 1) := by decide +kernel
theorem dL_law_350 : decode cL_law 350 = .ok (.aload_n 0, 1) := by decide +kernel
theorem dL_law_351 : decode cL_law 351 = .ok (.iload 4, 2) := by decide +kernel
theorem dL_law_353 : decode cL_law 353 = .ok (.iconst 1, 1) := by decide +kernel
theorem dL_law_354 : decode cL_law 354 = .ok (.iadd, 1) := by decide +kernel
theorem dL_law_355 : decode cL_law 355 = .ok (.iaload, 1) := by decide +kernel
theorem dL_law_356 : decode cL_law 356 = .ok (.aload_n 0, 1) := by decide +kernel
theorem dL_law_357 : decode cL_law 357 = .ok (.iload 4, 2) := by decide +kernel
theorem dL_law_359 : decode cL_law 359 = .ok (.iconst 2, 1) := by decide +kernel
theorem dL_law_360 : decode cL_law 360 = .ok (.iadd, 1) := by decide +kernel
theorem dL_law_361 : decode cL_law 361 = .ok (.iaload, 1) := by decide +kernel
theorem dL_law_362 : decode cL_law 362 = .ok (.aload_n 0, 1) := by decide +kernel
theorem dL_law_363 : decode cL_law 363 = .ok (.iload 4, 2) := by decide +kernel
theorem dL_law_365 : decode cL_law 365 = .ok (.iconst 3, 1) := by decide +kernel
theorem dL_law_366 : decode cL_law 366 = .ok (.iadd, 1) := by decide +kernel
theorem dL_law_367 : decode cL_law 367 = .ok (.iaload, 1) := by decide +kernel
theorem dL_law_368 : decode cL_law 368 = .ok (.invokevirtual 129, 3) := by decide +kernel
theorem dL_law_371 : decode cL_law 371 = .ok (.istore 6, 2) := by decide +kernel
theorem dL_law_373 : decode cL_law 373 = .ok (.aload_n 2, 1) := by decide +kernel
theorem dL_law_374 : decode cL_law 374 = .ok (.invokevirtual 122, 3) := by decide +kernel
theorem dL_law_377 : decode cL_law 377 = .ok (.iload 5, 2) := by decide +kernel
theorem dL_law_379 : decode cL_law 379 = .ok (.if_icmp .eq 5, 3) := by decide +kernel
theorem dL_law_382 : decode cL_law 382 = .ok (.iconst 0, 1) := by decide +kernel
theorem dL_law_383 : decode cL_law 383 = .ok (.ireturn, 1) := by decide +kernel
theorem dL_law_384 : decode cL_law 384 = .ok (.iload 5, 2) := by decide +kernel
theorem dL_law_386 : decode cL_law 386 = .ok (.ifCond .ne 15, 3) := by decide +kernel
theorem dL_law_389 : decode cL_law 389 = .ok (.aload_n 3, 1) := by decide +kernel
theorem dL_law_390 : decode cL_law 390 = .ok (.iconst 0, 1) := by decide +kernel
theorem dL_law_391 : decode cL_law 391 = .ok (.laload, 1) := by decide +kernel
theorem dL_law_392 : decode cL_law 392 = .ok (.iload 6, 2) := by decide +kernel
theorem dL_law_394 : decode cL_law 394 = .ok (.i2l, 1) := by decide +kernel
theorem dL_law_395 : decode cL_law 395 = .ok (.lcmp, 1) := by decide +kernel
theorem dL_law_396 : decode cL_law 396 = .ok (.ifCond .eq 5, 3) := by decide +kernel
theorem dL_law_399 : decode cL_law 399 = .ok (.iconst 0, 1) := by decide +kernel
theorem dL_law_400 : decode cL_law 400 = .ok (.ireturn, 1) := by decide +kernel
theorem dL_law_401 : decode cL_law 401 = .ok (.goto 2050, 3) := by decide +kernel
theorem dL_law_404 : decode cL_law 404 = .ok (.aload_n 1, 1) := by decide +kernel
theorem dL_law_405 : decode cL_law 405 = .ok (.aload_n 0, 1) := by decide +kernel
theorem dL_law_406 : decode cL_law 406 = .ok (.iload 4, 2) := by decide +kernel
theorem dL_law_408 : decode cL_law 408 = .ok (.iconst 1, 1) := by decide +kernel
theorem dL_law_409 : decode cL_law 409 = .ok (.iadd, 1) := by decide +kernel
theorem dL_law_410 : decode cL_law 410 = .ok (.iaload, 1) := by decide +kernel
theorem dL_law_411 : decode cL_law 411 = .ok (.aload_n 3, 1) := by decide +kernel
theorem dL_law_412 : decode cL_law 412 = .ok (.invokestatic 130, 3) := by decide +kernel
theorem dL_law_415 : decode cL_law 415 = .ok (.istore 5, 2) := by decide +kernel
theorem dL_law_417 : decode cL_law 417 = .ok (.aload_n 2, 1) := by decide +kernel
theorem dL_law_418 : decode cL_law 418 = .ok (.aload_n 0, 1) := by decide +kernel
theorem dL_law_419 : decode cL_law 419 = .ok (.iload 4, 2) := by decide +kernel
theorem dL_law_421 : decode cL_law 421 = .ok (.iconst 1, 1) := by decide +kernel
theorem dL_law_422 : decode cL_law 422 = .ok (.iadd, 1) := by decide +kernel
theorem dL_law_423 : decode cL_law 423 = .ok (.iaload, 1) := by decide +kernel
theorem dL_law_424 : decode cL_law 424 = .ok (.invokevirtual 132, 3) := by decide +kernel
theorem dL_law_427 : decode cL_law 427 = .ok (.istore 6, 2) := by decide +kernel
theorem dL_law_429 : decode cL_law 429 = .ok (.aload_n 2, 1) := by decide +kernel
theorem dL_law_430 : decode cL_law 430 = .ok (.invokevirtual 122, 3) := by decide +kernel
theorem dL_law_433 : decode cL_law 433 = .ok (.iload 5, 2) := by decide +kernel
theorem dL_law_435 : decode cL_law 435 = .ok (.if_icmp .eq 5, 3) := by decide +kernel
theorem dL_law_438 : decode cL_law 438 = .ok (.iconst 0, 1) := by decide +kernel
theorem dL_law_439 : decode cL_law 439 = .ok (.ireturn, 1) := by decide +kernel
theorem dL_law_440 : decode cL_law 440 = .ok (.iload 5, 2) := by decide +kernel
theorem dL_law_442 : decode cL_law 442 = .ok (.ifCond .ne 22, 3) := by decide +kernel
theorem dL_law_445 : decode cL_law 445 = .ok (.aload_n 3, 1) := by decide +kernel
theorem dL_law_446 : decode cL_law 446 = .ok (.iconst 0, 1) := by decide +kernel
theorem dL_law_447 : decode cL_law 447 = .ok (.laload, 1) := by decide +kernel
theorem dL_law_448 : decode cL_law 448 = .ok (.iload 6, 2) := by decide +kernel
theorem dL_law_450 : decode cL_law 450 = .ok (.ifCond .eq 7, 3) := by decide +kernel
theorem dL_law_453 : decode cL_law 453 = .ok (.lconst 1, 1) := by decide +kernel
theorem dL_law_454 : decode cL_law 454 = .ok (.goto 4, 3) := by decide +kernel
theorem dL_law_457 : decode cL_law 457 = .ok (.lconst 0, 1) := by decide +kernel
theorem dL_law_458 : decode cL_law 458 = .ok (.lcmp, 1) := by decide +kernel
theorem dL_law_459 : decode cL_law 459 = .ok (.ifCond .eq 5, 3) := by decide +kernel
theorem dL_law_462 : decode cL_law 462 = .ok (.iconst 0, 1) := by decide +kernel
theorem dL_law_463 : decode cL_law 463 = .ok (.ireturn, 1) := by decide +kernel
theorem dL_law_464 : decode cL_law 464 = .ok (.goto 1987, 3) := by decide +kernel
theorem dL_law_467 : decode cL_law 467 = .ok (.aload_n 1, 1) := by decide +kernel
theorem dL_law_468 : decode cL_law 468 = .ok (.aload_n 0, 1) := by decide +kernel
theorem dL_law_469 : decode cL_law 469 = .ok (.iload 4, 2) := by decide +kernel
theorem dL_law_471 : decode cL_law 471 = .ok (.iconst 1, 1) := by decide +kernel
theorem dL_law_472 : decode cL_law 472 = .ok (.iadd, 1) := by decide +kernel
theorem dL_law_473 : decode cL_law 473 = .ok (.iaload, 1) := by decide +kernel
theorem dL_law_474 : decode cL_law 474 = .ok (.aload_n 3, 1) := by decide +kernel
theorem dL_law_475 : decode cL_law 475 = .ok (.invokestatic 133, 3) := by decide +kernel
theorem dL_law_478 : decode cL_law 478 = .ok (.istore 5, 2) := by decide +kernel
theorem dL_law_480 : decode cL_law 480 = .ok (.aload_n 2, 1) := by decide +kernel
theorem dL_law_481 : decode cL_law 481 = .ok (.aload_n 0, 1) := by decide +kernel
theorem dL_law_482 : decode cL_law 482 = .ok (.iload 4, 2) := by decide +kernel
theorem dL_law_484 : decode cL_law 484 = .ok (.iconst 1, 1) := by decide +kernel
theorem dL_law_485 : decode cL_law 485 = .ok (.iadd, 1) := by decide +kernel
theorem dL_law_486 : decode cL_law 486 = .ok (.iaload, 1) := by decide +kernel
theorem dL_law_487 : decode cL_law 487 = .ok (.invokevirtual 135, 3) := by decide +kernel
theorem dL_law_490 : decode cL_law 490 = .ok (.istore 6, 2) := by decide +kernel
theorem dL_law_492 : decode cL_law 492 = .ok (.aload_n 2, 1) := by decide +kernel
theorem dL_law_493 : decode cL_law 493 = .ok (.invokevirtual 122, 3) := by decide +kernel
theorem dL_law_496 : decode cL_law 496 = .ok (.iload 5, 2) := by decide +kernel
theorem dL_law_498 : decode cL_law 498 = .ok (.if_icmp .eq 5, 3) := by decide +kernel
theorem dL_law_501 : decode cL_law 501 = .ok (.iconst 0, 1) := by decide +kernel
theorem dL_law_502 : decode cL_law 502 = .ok (.ireturn, 1) := by decide +kernel
theorem dL_law_503 : decode cL_law 503 = .ok (.iload 5, 2) := by decide +kernel
theorem dL_law_505 : decode cL_law 505 = .ok (.ifCond .ne 15, 3) := by decide +kernel
theorem dL_law_508 : decode cL_law 508 = .ok (.aload_n 3, 1) := by decide +kernel
theorem dL_law_509 : decode cL_law 509 = .ok (.iconst 0, 1) := by decide +kernel
theorem dL_law_510 : decode cL_law 510 = .ok (.laload, 1) := by decide +kernel
theorem dL_law_511 : decode cL_law 511 = .ok (.iload 6, 2) := by decide +kernel
theorem dL_law_513 : decode cL_law 513 = .ok (.i2l, 1) := by decide +kernel
theorem dL_law_514 : decode cL_law 514 = .ok (.lcmp, 1) := by decide +kernel
theorem dL_law_515 : decode cL_law 515 = .ok (.ifCond .eq 5, 3) := by decide +kernel
theorem dL_law_518 : decode cL_law 518 = .ok (.iconst 0, 1) := by decide +kernel
theorem dL_law_519 : decode cL_law 519 = .ok (.ireturn, 1) := by decide +kernel
theorem dL_law_520 : decode cL_law 520 = .ok (.goto 1931, 3) := by decide +kernel
theorem dL_law_523 : decode cL_law 523 = .ok (.aload_n 1, 1) := by decide +kernel
theorem dL_law_524 : decode cL_law 524 = .ok (.aload_n 0, 1) := by decide +kernel
theorem dL_law_525 : decode cL_law 525 = .ok (.iload 4, 2) := by decide +kernel
theorem dL_law_527 : decode cL_law 527 = .ok (.iconst 1, 1) := by decide +kernel
theorem dL_law_528 : decode cL_law 528 = .ok (.iadd, 1) := by decide +kernel
theorem dL_law_529 : decode cL_law 529 = .ok (.iaload, 1) := by decide +kernel
theorem dL_law_530 : decode cL_law 530 = .ok (.aload_n 0, 1) := by decide +kernel
theorem dL_law_531 : decode cL_law 531 = .ok (.iload 4, 2) := by decide +kernel
theorem dL_law_533 : decode cL_law 533 = .ok (.iconst 2, 1) := by decide +kernel
theorem dL_law_534 : decode cL_law 534 = .ok (.iadd, 1) := by decide +kernel
theorem dL_law_535 : decode cL_law 535 = .ok (.iaload, 1) := by decide +kernel
theorem dL_law_536 : decode cL_law 536 = .ok (.aload_n 3, 1) := by decide +kernel
theorem dL_law_537 : decode cL_law 537 = .ok (.invokestatic 136, 3) := by decide +kernel
theorem dL_law_540 : decode cL_law 540 = .ok (.istore 5, 2) := by decide +kernel
theorem dL_law_542 : decode cL_law 542 = .ok (.aload_n 2, 1) := by decide +kernel
theorem dL_law_543 : decode cL_law 543 = .ok (.aload_n 0, 1) := by decide +kernel
theorem dL_law_544 : decode cL_law 544 = .ok (.iload 4, 2) := by decide +kernel
theorem dL_law_546 : decode cL_law 546 = .ok (.iconst 1, 1) := by decide +kernel
theorem dL_law_547 : decode cL_law 547 = .ok (.iadd, 1) := by decide +kernel
theorem dL_law_548 : decode cL_law 548 = .ok (.iaload, 1) := by decide +kernel
theorem dL_law_549 : decode cL_law 549 = .ok (.aload_n 0, 1) := by decide +kernel
theorem dL_law_550 : decode cL_law 550 = .ok (.iload 4, 2) := by decide +kernel
theorem dL_law_552 : decode cL_law 552 = .ok (.iconst 2, 1) := by decide +kernel
theorem dL_law_553 : decode cL_law 553 = .ok (.iadd, 1) := by decide +kernel
theorem dL_law_554 : decode cL_law 554 = .ok (.iaload, 1) := by decide +kernel
theorem dL_law_555 : decode cL_law 555 = .ok (.invokevirtual 139, 3) := by decide +kernel
theorem dL_law_558 : decode cL_law 558 = .ok (.istore 6, 2) := by decide +kernel
theorem dL_law_560 : decode cL_law 560 = .ok (.aload_n 2, 1) := by decide +kernel
theorem dL_law_561 : decode cL_law 561 = .ok (.invokevirtual 122, 3) := by decide +kernel
theorem dL_law_564 : decode cL_law 564 = .ok (.iload 5, 2) := by decide +kernel
theorem dL_law_566 : decode cL_law 566 = .ok (.if_icmp .eq 5, 3) := by decide +kernel
theorem dL_law_569 : decode cL_law 569 = .ok (.iconst 0, 1) := by decide +kernel
theorem dL_law_570 : decode cL_law 570 = .ok (.ireturn, 1) := by decide +kernel
theorem dL_law_571 : decode cL_law 571 = .ok (.iload 5, 2) := by decide +kernel
theorem dL_law_573 : decode cL_law 573 = .ok (.ifCond .ne 15, 3) := by decide +kernel
theorem dL_law_576 : decode cL_law 576 = .ok (.aload_n 3, 1) := by decide +kernel
theorem dL_law_577 : decode cL_law 577 = .ok (.iconst 0, 1) := by decide +kernel
theorem dL_law_578 : decode cL_law 578 = .ok (.laload, 1) := by decide +kernel
theorem dL_law_579 : decode cL_law 579 = .ok (.iload 6, 2) := by decide +kernel
theorem dL_law_581 : decode cL_law 581 = .ok (.i2l, 1) := by decide +kernel
theorem dL_law_582 : decode cL_law 582 = .ok (.lcmp, 1) := by decide +kernel
theorem dL_law_583 : decode cL_law 583 = .ok (.ifCond .eq 5, 3) := by decide +kernel
theorem dL_law_586 : decode cL_law 586 = .ok (.iconst 0, 1) := by decide +kernel
theorem dL_law_587 : decode cL_law 587 = .ok (.ireturn, 1) := by decide +kernel
theorem dL_law_588 : decode cL_law 588 = .ok (.goto 1863, 3) := by decide +kernel
theorem dL_law_591 : decode cL_law 591 = .ok (.aload_n 1, 1) := by decide +kernel
theorem dL_law_592 : decode cL_law 592 = .ok (.aload_n 0, 1) := by decide +kernel
theorem dL_law_593 : decode cL_law 593 = .ok (.iload 4, 2) := by decide +kernel
theorem dL_law_595 : decode cL_law 595 = .ok (.iconst 1, 1) := by decide +kernel
theorem dL_law_596 : decode cL_law 596 = .ok (.iadd, 1) := by decide +kernel
theorem dL_law_597 : decode cL_law 597 = .ok (.iaload, 1) := by decide +kernel
theorem dL_law_598 : decode cL_law 598 = .ok (.aload_n 0, 1) := by decide +kernel
theorem dL_law_599 : decode cL_law 599 = .ok (.iload 4, 2) := by decide +kernel
theorem dL_law_601 : decode cL_law 601 = .ok (.iconst 2, 1) := by decide +kernel
theorem dL_law_602 : decode cL_law 602 = .ok (.iadd, 1) := by decide +kernel
theorem dL_law_603 : decode cL_law 603 = .ok (.iaload, 1) := by decide +kernel
theorem dL_law_604 : decode cL_law 604 = .ok (.aload_n 3, 1) := by decide +kernel
theorem dL_law_605 : decode cL_law 605 = .ok (.invokestatic 140, 3) := by decide +kernel
theorem dL_law_608 : decode cL_law 608 = .ok (.istore 5, 2) := by decide +kernel
theorem dL_law_610 : decode cL_law 610 = .ok (.aload_n 2, 1) := by decide +kernel
theorem dL_law_611 : decode cL_law 611 = .ok (.aload_n 0, 1) := by decide +kernel
theorem dL_law_612 : decode cL_law 612 = .ok (.iload 4, 2) := by decide +kernel
theorem dL_law_614 : decode cL_law 614 = .ok (.iconst 1, 1) := by decide +kernel
theorem dL_law_615 : decode cL_law 615 = .ok (.iadd, 1) := by decide +kernel
theorem dL_law_616 : decode cL_law 616 = .ok (.iaload, 1) := by decide +kernel
theorem dL_law_617 : decode cL_law 617 = .ok (.aload_n 0, 1) := by decide +kernel
theorem dL_law_618 : decode cL_law 618 = .ok (.iload 4, 2) := by decide +kernel
theorem dL_law_620 : decode cL_law 620 = .ok (.iconst 2, 1) := by decide +kernel
theorem dL_law_621 : decode cL_law 621 = .ok (.iadd, 1) := by decide +kernel
theorem dL_law_622 : decode cL_law 622 = .ok (.iaload, 1) := by decide +kernel
theorem dL_law_623 : decode cL_law 623 = .ok (.invokevirtual 142, 3) := by decide +kernel
theorem dL_law_626 : decode cL_law 626 = .ok (.istore 6, 2) := by decide +kernel
theorem dL_law_628 : decode cL_law 628 = .ok (.aload_n 2, 1) := by decide +kernel
theorem dL_law_629 : decode cL_law 629 = .ok (.invokevirtual 122, 3) := by decide +kernel
theorem dL_law_632 : decode cL_law 632 = .ok (.iload 5, 2) := by decide +kernel
theorem dL_law_634 : decode cL_law 634 = .ok (.if_icmp .eq 5, 3) := by decide +kernel
theorem dL_law_637 : decode cL_law 637 = .ok (.iconst 0, 1) := by decide +kernel
theorem dL_law_638 : decode cL_law 638 = .ok (.ireturn, 1) := by decide +kernel
theorem dL_law_639 : decode cL_law 639 = .ok (.iload 5, 2) := by decide +kernel
theorem dL_law_641 : decode cL_law 641 = .ok (.ifCond .ne 15, 3) := by decide +kernel
theorem dL_law_644 : decode cL_law 644 = .ok (.aload_n 3, 1) := by decide +kernel
theorem dL_law_645 : decode cL_law 645 = .ok (.iconst 0, 1) := by decide +kernel
theorem dL_law_646 : decode cL_law 646 = .ok (.laload, 1) := by decide +kernel
theorem dL_law_647 : decode cL_law 647 = .ok (.iload 6, 2) := by decide +kernel
theorem dL_law_649 : decode cL_law 649 = .ok (.i2l, 1) := by decide +kernel
theorem dL_law_650 : decode cL_law 650 = .ok (.lcmp, 1) := by decide +kernel
theorem dL_law_651 : decode cL_law 651 = .ok (.ifCond .eq 5, 3) := by decide +kernel
theorem dL_law_654 : decode cL_law 654 = .ok (.iconst 0, 1) := by decide +kernel
theorem dL_law_655 : decode cL_law 655 = .ok (.ireturn, 1) := by decide +kernel
theorem dL_law_656 : decode cL_law 656 = .ok (.goto 1795, 3) := by decide +kernel
theorem dL_law_659 : decode cL_law 659 = .ok (.aload_n 1, 1) := by decide +kernel
theorem dL_law_660 : decode cL_law 660 = .ok (.aload_n 0, 1) := by decide +kernel
theorem dL_law_661 : decode cL_law 661 = .ok (.iload 4, 2) := by decide +kernel
theorem dL_law_663 : decode cL_law 663 = .ok (.iconst 1, 1) := by decide +kernel
theorem dL_law_664 : decode cL_law 664 = .ok (.iadd, 1) := by decide +kernel
theorem dL_law_665 : decode cL_law 665 = .ok (.iaload, 1) := by decide +kernel
theorem dL_law_666 : decode cL_law 666 = .ok (.aload_n 3, 1) := by decide +kernel
theorem dL_law_667 : decode cL_law 667 = .ok (.invokestatic 143, 3) := by decide +kernel
theorem dL_law_670 : decode cL_law 670 = .ok (.istore 5, 2) := by decide +kernel
theorem dL_law_672 : decode cL_law 672 = .ok (.aload_n 2, 1) := by decide +kernel
theorem dL_law_673 : decode cL_law 673 = .ok (.aload_n 0, 1) := by decide +kernel
theorem dL_law_674 : decode cL_law 674 = .ok (.iload 4, 2) := by decide +kernel
theorem dL_law_676 : decode cL_law 676 = .ok (.iconst 1, 1) := by decide +kernel
theorem dL_law_677 : decode cL_law 677 = .ok (.iadd, 1) := by decide +kernel
theorem dL_law_678 : decode cL_law 678 = .ok (.iaload, 1) := by decide +kernel
theorem dL_law_679 : decode cL_law 679 = .ok (.invokevirtual 145, 3) := by decide +kernel
theorem dL_law_682 : decode cL_law 682 = .ok (.istore 6, 2) := by decide +kernel
theorem dL_law_684 : decode cL_law 684 = .ok (.aload_n 2, 1) := by decide +kernel
theorem dL_law_685 : decode cL_law 685 = .ok (.invokevirtual 122, 3) := by decide +kernel
theorem dL_law_688 : decode cL_law 688 = .ok (.iload 5, 2) := by decide +kernel
theorem dL_law_690 : decode cL_law 690 = .ok (.if_icmp .eq 5, 3) := by decide +kernel
theorem dL_law_693 : decode cL_law 693 = .ok (.iconst 0, 1) := by decide +kernel
theorem dL_law_694 : decode cL_law 694 = .ok (.ireturn, 1) := by decide +kernel
theorem dL_law_695 : decode cL_law 695 = .ok (.iload 5, 2) := by decide +kernel
theorem dL_law_697 : decode cL_law 697 = .ok (.ifCond .ne 22, 3) := by decide +kernel
theorem dL_law_700 : decode cL_law 700 = .ok (.aload_n 3, 1) := by decide +kernel
theorem dL_law_701 : decode cL_law 701 = .ok (.iconst 0, 1) := by decide +kernel
theorem dL_law_702 : decode cL_law 702 = .ok (.laload, 1) := by decide +kernel
theorem dL_law_703 : decode cL_law 703 = .ok (.iload 6, 2) := by decide +kernel
theorem dL_law_705 : decode cL_law 705 = .ok (.ifCond .eq 7, 3) := by decide +kernel
theorem dL_law_708 : decode cL_law 708 = .ok (.lconst 1, 1) := by decide +kernel
theorem dL_law_709 : decode cL_law 709 = .ok (.goto 4, 3) := by decide +kernel
theorem dL_law_712 : decode cL_law 712 = .ok (.lconst 0, 1) := by decide +kernel
theorem dL_law_713 : decode cL_law 713 = .ok (.lcmp, 1) := by decide +kernel
theorem dL_law_714 : decode cL_law 714 = .ok (.ifCond .eq 5, 3) := by decide +kernel
theorem dL_law_717 : decode cL_law 717 = .ok (.iconst 0, 1) := by decide +kernel
theorem dL_law_718 : decode cL_law 718 = .ok (.ireturn, 1) := by decide +kernel
theorem dL_law_719 : decode cL_law 719 = .ok (.goto 1732, 3) := by decide +kernel
theorem dL_law_722 : decode cL_law 722 = .ok (.aload_n 1, 1) := by decide +kernel
theorem dL_law_723 : decode cL_law 723 = .ok (.invokevirtual 146, 3) := by decide +kernel
theorem dL_law_726 : decode cL_law 726 = .ok (.aload_n 2, 1) := by decide +kernel
theorem dL_law_727 : decode cL_law 727 = .ok (.invokevirtual 149, 3) := by decide +kernel
theorem dL_law_730 : decode cL_law 730 = .ok (.if_icmp .eq 1721, 3) := by decide +kernel
theorem dL_law_733 : decode cL_law 733 = .ok (.iconst 0, 1) := by decide +kernel
theorem dL_law_734 : decode cL_law 734 = .ok (.ireturn, 1) := by decide +kernel
theorem dL_law_735 : decode cL_law 735 = .ok (.aload_n 1, 1) := by decide +kernel
theorem dL_law_736 : decode cL_law 736 = .ok (.aload_n 0, 1) := by decide +kernel
theorem dL_law_737 : decode cL_law 737 = .ok (.iload 4, 2) := by decide +kernel
theorem dL_law_739 : decode cL_law 739 = .ok (.iconst 1, 1) := by decide +kernel
theorem dL_law_740 : decode cL_law 740 = .ok (.iadd, 1) := by decide +kernel
theorem dL_law_741 : decode cL_law 741 = .ok (.iaload, 1) := by decide +kernel
theorem dL_law_742 : decode cL_law 742 = .ok (.aload_n 3, 1) := by decide +kernel
theorem dL_law_743 : decode cL_law 743 = .ok (.invokestatic 150, 3) := by decide +kernel
theorem dL_law_746 : decode cL_law 746 = .ok (.istore 5, 2) := by decide +kernel
theorem dL_law_748 : decode cL_law 748 = .ok (.aload_n 2, 1) := by decide +kernel
theorem dL_law_749 : decode cL_law 749 = .ok (.aload_n 0, 1) := by decide +kernel
theorem dL_law_750 : decode cL_law 750 = .ok (.iload 4, 2) := by decide +kernel
theorem dL_law_752 : decode cL_law 752 = .ok (.iconst 1, 1) := by decide +kernel
theorem dL_law_753 : decode cL_law 753 = .ok (.iadd, 1) := by decide +kernel
theorem dL_law_754 : decode cL_law 754 = .ok (.iaload, 1) := by decide +kernel
theorem dL_law_755 : decode cL_law 755 = .ok (.invokevirtual 152, 3) := by decide +kernel
theorem dL_law_758 : decode cL_law 758 = .ok (.istore 6, 2) := by decide +kernel
theorem dL_law_760 : decode cL_law 760 = .ok (.aload_n 2, 1) := by decide +kernel
theorem dL_law_761 : decode cL_law 761 = .ok (.invokevirtual 122, 3) := by decide +kernel
theorem dL_law_764 : decode cL_law 764 = .ok (.iload 5, 2) := by decide +kernel
theorem dL_law_766 : decode cL_law 766 = .ok (.if_icmp .eq 5, 3) := by decide +kernel
theorem dL_law_769 : decode cL_law 769 = .ok (.iconst 0, 1) := by decide +kernel
theorem dL_law_770 : decode cL_law 770 = .ok (.ireturn, 1) := by decide +kernel
theorem dL_law_771 : decode cL_law 771 = .ok (.iload 5, 2) := by decide +kernel
theorem dL_law_773 : decode cL_law 773 = .ok (.ifCond .ne 15, 3) := by decide +kernel
theorem dL_law_776 : decode cL_law 776 = .ok (.aload_n 3, 1) := by decide +kernel
theorem dL_law_777 : decode cL_law 777 = .ok (.iconst 0, 1) := by decide +kernel
theorem dL_law_778 : decode cL_law 778 = .ok (.laload, 1) := by decide +kernel
theorem dL_law_779 : decode cL_law 779 = .ok (.iload 6, 2) := by decide +kernel
theorem dL_law_781 : decode cL_law 781 = .ok (.i2l, 1) := by decide +kernel
theorem dL_law_782 : decode cL_law 782 = .ok (.lcmp, 1) := by decide +kernel
theorem dL_law_783 : decode cL_law 783 = .ok (.ifCond .eq 5, 3) := by decide +kernel
theorem dL_law_786 : decode cL_law 786 = .ok (.iconst 0, 1) := by decide +kernel
theorem dL_law_787 : decode cL_law 787 = .ok (.ireturn, 1) := by decide +kernel
theorem dL_law_788 : decode cL_law 788 = .ok (.goto 1663, 3) := by decide +kernel
theorem dL_law_791 : decode cL_law 791 = .ok (.aload_n 1, 1) := by decide +kernel
theorem dL_law_792 : decode cL_law 792 = .ok (.invokevirtual 153, 3) := by decide +kernel
theorem dL_law_795 : decode cL_law 795 = .ok (.aload_n 2, 1) := by decide +kernel
theorem dL_law_796 : decode cL_law 796 = .ok (.invokevirtual 156, 3) := by decide +kernel
theorem dL_law_799 : decode cL_law 799 = .ok (.if_icmp .eq 1652, 3) := by decide +kernel
theorem dL_law_802 : decode cL_law 802 = .ok (.iconst 0, 1) := by decide +kernel
theorem dL_law_803 : decode cL_law 803 = .ok (.ireturn, 1) := by decide +kernel
theorem dL_law_804 : decode cL_law 804 = .ok (.aload_n 1, 1) := by decide +kernel
theorem dL_law_805 : decode cL_law 805 = .ok (.invokevirtual 157, 3) := by decide +kernel
theorem dL_law_808 : decode cL_law 808 = .ok (.aload_n 2, 1) := by decide +kernel
theorem dL_law_809 : decode cL_law 809 = .ok (.invokevirtual 160, 3) := by decide +kernel
theorem dL_law_812 : decode cL_law 812 = .ok (.if_icmp .eq 1639, 3) := by decide +kernel
theorem dL_law_815 : decode cL_law 815 = .ok (.iconst 0, 1) := by decide +kernel
theorem dL_law_816 : decode cL_law 816 = .ok (.ireturn, 1) := by decide +kernel
theorem dL_law_817 : decode cL_law 817 = .ok (.aload_n 1, 1) := by decide +kernel
theorem dL_law_818 : decode cL_law 818 = .ok (.invokevirtual 161, 3) := by decide +kernel
theorem dL_law_821 : decode cL_law 821 = .ok (.aload_n 2, 1) := by decide +kernel
theorem dL_law_822 : decode cL_law 822 = .ok (.invokevirtual 164, 3) := by decide +kernel
theorem dL_law_825 : decode cL_law 825 = .ok (.if_icmp .eq 1626, 3) := by decide +kernel
theorem dL_law_828 : decode cL_law 828 = .ok (.iconst 0, 1) := by decide +kernel
theorem dL_law_829 : decode cL_law 829 = .ok (.ireturn, 1) := by decide +kernel
theorem dL_law_830 : decode cL_law 830 = .ok (.aload_n 1, 1) := by decide +kernel
theorem dL_law_831 : decode cL_law 831 = .ok (.invokevirtual 165, 3) := by decide +kernel
theorem dL_law_834 : decode cL_law 834 = .ok (.aload_n 2, 1) := by decide +kernel
theorem dL_law_835 : decode cL_law 835 = .ok (.invokevirtual 168, 3) := by decide +kernel
theorem dL_law_838 : decode cL_law 838 = .ok (.if_icmp .eq 1613, 3) := by decide +kernel
theorem dL_law_841 : decode cL_law 841 = .ok (.iconst 0, 1) := by decide +kernel
theorem dL_law_842 : decode cL_law 842 = .ok (.ireturn, 1) := by decide +kernel
theorem dL_law_843 : decode cL_law 843 = .ok (.aload_n 1, 1) := by decide +kernel
theorem dL_law_844 : decode cL_law 844 = .ok (.aload_n 0, 1) := by decide +kernel
theorem dL_law_845 : decode cL_law 845 = .ok (.iload 4, 2) := by decide +kernel
theorem dL_law_847 : decode cL_law 847 = .ok (.iconst 1, 1) := by decide +kernel
theorem dL_law_848 : decode cL_law 848 = .ok (.iadd, 1) := by decide +kernel
theorem dL_law_849 : decode cL_law 849 = .ok (.iaload, 1) := by decide +kernel
theorem dL_law_850 : decode cL_law 850 = .ok (.aload_n 3, 1) := by decide +kernel
theorem dL_law_851 : decode cL_law 851 = .ok (.invokestatic 169, 3) := by decide +kernel
theorem dL_law_854 : decode cL_law 854 = .ok (.istore 5, 2) := by decide +kernel
theorem dL_law_856 : decode cL_law 856 = .ok (.aload_n 2, 1) := by decide +kernel
theorem dL_law_857 : decode cL_law 857 = .ok (.aload_n 0, 1) := by decide +kernel
theorem dL_law_858 : decode cL_law 858 = .ok (.iload 4, 2) := by decide +kernel
theorem dL_law_860 : decode cL_law 860 = .ok (.iconst 1, 1) := by decide +kernel
theorem dL_law_861 : decode cL_law 861 = .ok (.iadd, 1) := by decide +kernel
theorem dL_law_862 : decode cL_law 862 = .ok (.iaload, 1) := by decide +kernel
theorem dL_law_863 : decode cL_law 863 = .ok (.invokevirtual 171, 3) := by decide +kernel
theorem dL_law_866 : decode cL_law 866 = .ok (.istore 6, 2) := by decide +kernel
theorem dL_law_868 : decode cL_law 868 = .ok (.aload_n 2, 1) := by decide +kernel
theorem dL_law_869 : decode cL_law 869 = .ok (.invokevirtual 122, 3) := by decide +kernel
theorem dL_law_872 : decode cL_law 872 = .ok (.iload 5, 2) := by decide +kernel
theorem dL_law_874 : decode cL_law 874 = .ok (.if_icmp .eq 5, 3) := by decide +kernel
theorem dL_law_877 : decode cL_law 877 = .ok (.iconst 0, 1) := by decide +kernel
theorem dL_law_878 : decode cL_law 878 = .ok (.ireturn, 1) := by decide +kernel
theorem dL_law_879 : decode cL_law 879 = .ok (.iload 5, 2) := by decide +kernel
theorem dL_law_881 : decode cL_law 881 = .ok (.ifCond .ne 22, 3) := by decide +kernel
theorem dL_law_884 : decode cL_law 884 = .ok (.aload_n 3, 1) := by decide +kernel
theorem dL_law_885 : decode cL_law 885 = .ok (.iconst 0, 1) := by decide +kernel
theorem dL_law_886 : decode cL_law 886 = .ok (.laload, 1) := by decide +kernel
theorem dL_law_887 : decode cL_law 887 = .ok (.iload 6, 2) := by decide +kernel
theorem dL_law_889 : decode cL_law 889 = .ok (.ifCond .eq 7, 3) := by decide +kernel
theorem dL_law_892 : decode cL_law 892 = .ok (.lconst 1, 1) := by decide +kernel
theorem dL_law_893 : decode cL_law 893 = .ok (.goto 4, 3) := by decide +kernel
theorem dL_law_896 : decode cL_law 896 = .ok (.lconst 0, 1) := by decide +kernel
theorem dL_law_897 : decode cL_law 897 = .ok (.lcmp, 1) := by decide +kernel
theorem dL_law_898 : decode cL_law 898 = .ok (.ifCond .eq 5, 3) := by decide +kernel
theorem dL_law_901 : decode cL_law 901 = .ok (.iconst 0, 1) := by decide +kernel
theorem dL_law_902 : decode cL_law 902 = .ok (.ireturn, 1) := by decide +kernel
theorem dL_law_903 : decode cL_law 903 = .ok (.goto 1548, 3) := by decide +kernel
theorem dL_law_906 : decode cL_law 906 = .ok (.aload_n 1, 1) := by decide +kernel
theorem dL_law_907 : decode cL_law 907 = .ok (.invokevirtual 172, 3) := by decide +kernel
theorem dL_law_910 : decode cL_law 910 = .ok (.aload_n 2, 1) := by decide +kernel
theorem dL_law_911 : decode cL_law 911 = .ok (.invokevirtual 175, 3) := by decide +kernel
theorem dL_law_914 : decode cL_law 914 = .ok (.if_icmp .eq 1537, 3) := by decide +kernel
theorem dL_law_917 : decode cL_law 917 = .ok (.iconst 0, 1) := by decide +kernel
theorem dL_law_918 : decode cL_law 918 = .ok (.ireturn, 1) := by decide +kernel
theorem dL_law_919 : decode cL_law 919 = .ok (.aload_n 1, 1) := by decide +kernel
theorem dL_law_920 : decode cL_law 920 = .ok (.invokevirtual 176, 3) := by decide +kernel
theorem dL_law_923 : decode cL_law 923 = .ok (.aload_n 2, 1) := by decide +kernel
theorem dL_law_924 : decode cL_law 924 = .ok (.invokevirtual 179, 3) := by decide +kernel
theorem dL_law_927 : decode cL_law 927 = .ok (.if_icmp .eq 1524, 3) := by decide +kernel
theorem dL_law_930 : decode cL_law 930 = .ok (.iconst 0, 1) := by decide +kernel
theorem dL_law_931 : decode cL_law 931 = .ok (.ireturn, 1) := by decide +kernel
theorem dL_law_932 : decode cL_law 932 = .ok (.aload_n 1, 1) := by decide +kernel
theorem dL_law_933 : decode cL_law 933 = .ok (.invokevirtual 180, 3) := by decide +kernel
theorem dL_law_936 : decode cL_law 936 = .ok (.aload_n 2, 1) := by decide +kernel
theorem dL_law_937 : decode cL_law 937 = .ok (.invokevirtual 183, 3) := by decide +kernel
theorem dL_law_940 : decode cL_law 940 = .ok (.if_icmp .eq 1511, 3) := by decide +kernel
theorem dL_law_943 : decode cL_law 943 = .ok (.iconst 0, 1) := by decide +kernel
theorem dL_law_944 : decode cL_law 944 = .ok (.ireturn, 1) := by decide +kernel
theorem dL_law_945 : decode cL_law 945 = .ok (.aload_n 1, 1) := by decide +kernel
theorem dL_law_946 : decode cL_law 946 = .ok (.invokevirtual 184, 3) := by decide +kernel
theorem dL_law_949 : decode cL_law 949 = .ok (.aload_n 2, 1) := by decide +kernel
theorem dL_law_950 : decode cL_law 950 = .ok (.invokevirtual 187, 3) := by decide +kernel
theorem dL_law_953 : decode cL_law 953 = .ok (.if_icmp .eq 1498, 3) := by decide +kernel
theorem dL_law_956 : decode cL_law 956 = .ok (.iconst 0, 1) := by decide +kernel
theorem dL_law_957 : decode cL_law 957 = .ok (.ireturn, 1) := by decide +kernel
theorem dL_law_958 : decode cL_law 958 = .ok (.aload_n 1, 1) := by decide +kernel
theorem dL_law_959 : decode cL_law 959 = .ok (.invokevirtual 188, 3) := by decide +kernel
theorem dL_law_962 : decode cL_law 962 = .ok (.aload_n 2, 1) := by decide +kernel
theorem dL_law_963 : decode cL_law 963 = .ok (.invokevirtual 191, 3) := by decide +kernel
theorem dL_law_966 : decode cL_law 966 = .ok (.if_icmp .eq 1485, 3) := by decide +kernel
theorem dL_law_969 : decode cL_law 969 = .ok (.iconst 0, 1) := by decide +kernel
theorem dL_law_970 : decode cL_law 970 = .ok (.ireturn, 1) := by decide +kernel
theorem dL_law_971 : decode cL_law 971 = .ok (.aload_n 1, 1) := by decide +kernel
theorem dL_law_972 : decode cL_law 972 = .ok (.aload_n 0, 1) := by decide +kernel
theorem dL_law_973 : decode cL_law 973 = .ok (.iload 4, 2) := by decide +kernel
theorem dL_law_975 : decode cL_law 975 = .ok (.iconst 1, 1) := by decide +kernel
theorem dL_law_976 : decode cL_law 976 = .ok (.iadd, 1) := by decide +kernel
theorem dL_law_977 : decode cL_law 977 = .ok (.iaload, 1) := by decide +kernel
theorem dL_law_978 : decode cL_law 978 = .ok (.aload_n 3, 1) := by decide +kernel
theorem dL_law_979 : decode cL_law 979 = .ok (.invokestatic 192, 3) := by decide +kernel
theorem dL_law_982 : decode cL_law 982 = .ok (.istore 5, 2) := by decide +kernel
theorem dL_law_984 : decode cL_law 984 = .ok (.aload_n 2, 1) := by decide +kernel
theorem dL_law_985 : decode cL_law 985 = .ok (.aload_n 0, 1) := by decide +kernel
theorem dL_law_986 : decode cL_law 986 = .ok (.iload 4, 2) := by decide +kernel
theorem dL_law_988 : decode cL_law 988 = .ok (.iconst 1, 1) := by decide +kernel
theorem dL_law_989 : decode cL_law 989 = .ok (.iadd, 1) := by decide +kernel
theorem dL_law_990 : decode cL_law 990 = .ok (.iaload, 1) := by decide +kernel
theorem dL_law_991 : decode cL_law 991 = .ok (.invokevirtual 194, 3) := by decide +kernel
theorem dL_law_994 : decode cL_law 994 = .ok (.istore 6, 2) := by decide +kernel
theorem dL_law_996 : decode cL_law 996 = .ok (.aload_n 2, 1) := by decide +kernel
theorem dL_law_997 : decode cL_law 997 = .ok (.invokevirtual 122, 3) := by decide +kernel
theorem dL_law_1000 : decode cL_law 1000 = .ok (.iload 5, 2) := by decide +kernel
theorem dL_law_1002 : decode cL_law 1002 = .ok (.if_icmp .eq 5, 3) := by decide +kernel
theorem dL_law_1005 : decode cL_law 1005 = .ok (.iconst 0, 1) := by decide +kernel
theorem dL_law_1006 : decode cL_law 1006 = .ok (.ireturn, 1) := by decide +kernel
theorem dL_law_1007 : decode cL_law 1007 = .ok (.iload 5, 2) := by decide +kernel
theorem dL_law_1009 : decode cL_law 1009 = .ok (.ifCond .ne 15, 3) := by decide +kernel
theorem dL_law_1012 : decode cL_law 1012 = .ok (.aload_n 3, 1) := by decide +kernel
theorem dL_law_1013 : decode cL_law 1013 = .ok (.iconst 0, 1) := by decide +kernel
theorem dL_law_1014 : decode cL_law 1014 = .ok (.laload, 1) := by decide +kernel
theorem dL_law_1015 : decode cL_law 1015 = .ok (.iload 6, 2) := by decide +kernel
theorem dL_law_1017 : decode cL_law 1017 = .ok (.i2l, 1) := by decide +kernel
theorem dL_law_1018 : decode cL_law 1018 = .ok (.lcmp, 1) := by decide +kernel
theorem dL_law_1019 : decode cL_law 1019 = .ok (.ifCond .eq 5, 3) := by decide +kernel
theorem dL_law_1022 : decode cL_law 1022 = .ok (.iconst 0, 1) := by decide +kernel
theorem dL_law_1023 : decode cL_law 1023 = .ok (.ireturn, 1) := by decide +kernel
theorem dL_law_1024 : decode cL_law 1024 = .ok (.goto 1427, 3) := by decide +kernel
theorem dL_law_1027 : decode cL_law 1027 = .ok (.aload_n 1, 1) := by decide +kernel
theorem dL_law_1028 : decode cL_law 1028 = .ok (.aload_n 0, 1) := by decide +kernel
theorem dL_law_1029 : decode cL_law 1029 = .ok (.iload 4, 2) := by decide +kernel
theorem dL_law_1031 : decode cL_law 1031 = .ok (.iconst 1, 1) := by decide +kernel
theorem dL_law_1032 : decode cL_law 1032 = .ok (.iadd, 1) := by decide +kernel
theorem dL_law_1033 : decode cL_law 1033 = .ok (.iaload, 1) := by decide +kernel
theorem dL_law_1034 : decode cL_law 1034 = .ok (.aload_n 3, 1) := by decide +kernel
theorem dL_law_1035 : decode cL_law 1035 = .ok (.invokestatic 195, 3) := by decide +kernel
theorem dL_law_1038 : decode cL_law 1038 = .ok (.istore 5, 2) := by decide +kernel
theorem dL_law_1040 : decode cL_law 1040 = .ok (.aload_n 2, 1) := by decide +kernel
theorem dL_law_1041 : decode cL_law 1041 = .ok (.aload_n 0, 1) := by decide +kernel
theorem dL_law_1042 : decode cL_law 1042 = .ok (.iload 4, 2) := by decide +kernel
theorem dL_law_1044 : decode cL_law 1044 = .ok (.iconst 1, 1) := by decide +kernel
theorem dL_law_1045 : decode cL_law 1045 = .ok (.iadd, 1) := by decide +kernel
theorem dL_law_1046 : decode cL_law 1046 = .ok (.iaload, 1) := by decide +kernel
theorem dL_law_1047 : decode cL_law 1047 = .ok (.invokevirtual 197, 3) := by decide +kernel
theorem dL_law_1050 : decode cL_law 1050 = .ok (.istore 6, 2) := by decide +kernel
theorem dL_law_1052 : decode cL_law 1052 = .ok (.aload_n 2, 1) := by decide +kernel
theorem dL_law_1053 : decode cL_law 1053 = .ok (.invokevirtual 122, 3) := by decide +kernel
theorem dL_law_1056 : decode cL_law 1056 = .ok (.iload 5, 2) := by decide +kernel
theorem dL_law_1058 : decode cL_law 1058 = .ok (.if_icmp .eq 5, 3) := by decide +kernel
theorem dL_law_1061 : decode cL_law 1061 = .ok (.iconst 0, 1) := by decide +kernel
theorem dL_law_1062 : decode cL_law 1062 = .ok (.ireturn, 1) := by decide +kernel
theorem dL_law_1063 : decode cL_law 1063 = .ok (.iload 5, 2) := by decide +kernel
theorem dL_law_1065 : decode cL_law 1065 = .ok (.ifCond .ne 15, 3) := by decide +kernel
theorem dL_law_1068 : decode cL_law 1068 = .ok (.aload_n 3, 1) := by decide +kernel
theorem dL_law_1069 : decode cL_law 1069 = .ok (.iconst 0, 1) := by decide +kernel
theorem dL_law_1070 : decode cL_law 1070 = .ok (.laload, 1) := by decide +kernel
theorem dL_law_1071 : decode cL_law 1071 = .ok (.iload 6, 2) := by decide +kernel
theorem dL_law_1073 : decode cL_law 1073 = .ok (.i2l, 1) := by decide +kernel
theorem dL_law_1074 : decode cL_law 1074 = .ok (.lcmp, 1) := by decide +kernel
theorem dL_law_1075 : decode cL_law 1075 = .ok (.ifCond .eq 5, 3) := by decide +kernel
theorem dL_law_1078 : decode cL_law 1078 = .ok (.iconst 0, 1) := by decide +kernel
theorem dL_law_1079 : decode cL_law 1079 = .ok (.ireturn, 1) := by decide +kernel
theorem dL_law_1080 : decode cL_law 1080 = .ok (.goto 1371, 3) := by decide +kernel
theorem dL_law_1083 : decode cL_law 1083 = .ok (.aload_n 1, 1) := by decide +kernel
theorem dL_law_1084 : decode cL_law 1084 = .ok (.aload_n 0, 1) := by decide +kernel
theorem dL_law_1085 : decode cL_law 1085 = .ok (.iload 4, 2) := by decide +kernel
theorem dL_law_1087 : decode cL_law 1087 = .ok (.iconst 1, 1) := by decide +kernel
theorem dL_law_1088 : decode cL_law 1088 = .ok (.iadd, 1) := by decide +kernel
theorem dL_law_1089 : decode cL_law 1089 = .ok (.iaload, 1) := by decide +kernel
theorem dL_law_1090 : decode cL_law 1090 = .ok (.aload_n 0, 1) := by decide +kernel
theorem dL_law_1091 : decode cL_law 1091 = .ok (.iload 4, 2) := by decide +kernel
theorem dL_law_1093 : decode cL_law 1093 = .ok (.iconst 2, 1) := by decide +kernel
theorem dL_law_1094 : decode cL_law 1094 = .ok (.iadd, 1) := by decide +kernel
theorem dL_law_1095 : decode cL_law 1095 = .ok (.iaload, 1) := by decide +kernel
theorem dL_law_1096 : decode cL_law 1096 = .ok (.aload_n 3, 1) := by decide +kernel
theorem dL_law_1097 : decode cL_law 1097 = .ok (.invokestatic 198, 3) := by decide +kernel
theorem dL_law_1100 : decode cL_law 1100 = .ok (.istore 5, 2) := by decide +kernel
theorem dL_law_1102 : decode cL_law 1102 = .ok (.aload_n 2, 1) := by decide +kernel
theorem dL_law_1103 : decode cL_law 1103 = .ok (.aload_n 0, 1) := by decide +kernel
theorem dL_law_1104 : decode cL_law 1104 = .ok (.iload 4, 2) := by decide +kernel
theorem dL_law_1106 : decode cL_law 1106 = .ok (.iconst 1, 1) := by decide +kernel
theorem dL_law_1107 : decode cL_law 1107 = .ok (.iadd, 1) := by decide +kernel
theorem dL_law_1108 : decode cL_law 1108 = .ok (.iaload, 1) := by decide +kernel
theorem dL_law_1109 : decode cL_law 1109 = .ok (.aload_n 0, 1) := by decide +kernel
theorem dL_law_1110 : decode cL_law 1110 = .ok (.iload 4, 2) := by decide +kernel
theorem dL_law_1112 : decode cL_law 1112 = .ok (.iconst 2, 1) := by decide +kernel
theorem dL_law_1113 : decode cL_law 1113 = .ok (.iadd, 1) := by decide +kernel
theorem dL_law_1114 : decode cL_law 1114 = .ok (.iaload, 1) := by decide +kernel
theorem dL_law_1115 : decode cL_law 1115 = .ok (.invokevirtual 200, 3) := by decide +kernel
theorem dL_law_1118 : decode cL_law 1118 = .ok (.istore 6, 2) := by decide +kernel
theorem dL_law_1120 : decode cL_law 1120 = .ok (.aload_n 2, 1) := by decide +kernel
theorem dL_law_1121 : decode cL_law 1121 = .ok (.invokevirtual 122, 3) := by decide +kernel
theorem dL_law_1124 : decode cL_law 1124 = .ok (.iload 5, 2) := by decide +kernel
theorem dL_law_1126 : decode cL_law 1126 = .ok (.if_icmp .eq 5, 3) := by decide +kernel
theorem dL_law_1129 : decode cL_law 1129 = .ok (.iconst 0, 1) := by decide +kernel
theorem dL_law_1130 : decode cL_law 1130 = .ok (.ireturn, 1) := by decide +kernel
theorem dL_law_1131 : decode cL_law 1131 = .ok (.iload 5, 2) := by decide +kernel
theorem dL_law_1133 : decode cL_law 1133 = .ok (.ifCond .ne 15, 3) := by decide +kernel
theorem dL_law_1136 : decode cL_law 1136 = .ok (.aload_n 3, 1) := by decide +kernel
theorem dL_law_1137 : decode cL_law 1137 = .ok (.iconst 0, 1) := by decide +kernel
theorem dL_law_1138 : decode cL_law 1138 = .ok (.laload, 1) := by decide +kernel
theorem dL_law_1139 : decode cL_law 1139 = .ok (.iload 6, 2) := by decide +kernel
theorem dL_law_1141 : decode cL_law 1141 = .ok (.i2l, 1) := by decide +kernel
theorem dL_law_1142 : decode cL_law 1142 = .ok (.lcmp, 1) := by decide +kernel
theorem dL_law_1143 : decode cL_law 1143 = .ok (.ifCond .eq 5, 3) := by decide +kernel
theorem dL_law_1146 : decode cL_law 1146 = .ok (.iconst 0, 1) := by decide +kernel
theorem dL_law_1147 : decode cL_law 1147 = .ok (.ireturn, 1) := by decide +kernel
theorem dL_law_1148 : decode cL_law 1148 = .ok (.goto 1303, 3) := by decide +kernel
theorem dL_law_1151 : decode cL_law 1151 = .ok (.aload_n 1, 1) := by decide +kernel
theorem dL_law_1152 : decode cL_law 1152 = .ok (.aload_n 0, 1) := by decide +kernel
theorem dL_law_1153 : decode cL_law 1153 = .ok (.iload 4, 2) := by decide +kernel
theorem dL_law_1155 : decode cL_law 1155 = .ok (.iconst 1, 1) := by decide +kernel
theorem dL_law_1156 : decode cL_law 1156 = .ok (.iadd, 1) := by decide +kernel
theorem dL_law_1157 : decode cL_law 1157 = .ok (.iaload, 1) := by decide +kernel
theorem dL_law_1158 : decode cL_law 1158 = .ok (.aload_n 0, 1) := by decide +kernel
theorem dL_law_1159 : decode cL_law 1159 = .ok (.iload 4, 2) := by decide +kernel
theorem dL_law_1161 : decode cL_law 1161 = .ok (.iconst 2, 1) := by decide +kernel
theorem dL_law_1162 : decode cL_law 1162 = .ok (.iadd, 1) := by decide +kernel
theorem dL_law_1163 : decode cL_law 1163 = .ok (.iaload, 1) := by decide +kernel
theorem dL_law_1164 : decode cL_law 1164 = .ok (.aload_n 3, 1) := by decide +kernel
theorem dL_law_1165 : decode cL_law 1165 = .ok (.invokestatic 201, 3) := by decide +kernel
theorem dL_law_1168 : decode cL_law 1168 = .ok (.istore 5, 2) := by decide +kernel
theorem dL_law_1170 : decode cL_law 1170 = .ok (.aload_n 2, 1) := by decide +kernel
theorem dL_law_1171 : decode cL_law 1171 = .ok (.aload_n 0, 1) := by decide +kernel
theorem dL_law_1172 : decode cL_law 1172 = .ok (.iload 4, 2) := by decide +kernel
theorem dL_law_1174 : decode cL_law 1174 = .ok (.iconst 1, 1) := by decide +kernel
theorem dL_law_1175 : decode cL_law 1175 = .ok (.iadd, 1) := by decide +kernel
theorem dL_law_1176 : decode cL_law 1176 = .ok (.iaload, 1) := by decide +kernel
theorem dL_law_1177 : decode cL_law 1177 = .ok (.aload_n 0, 1) := by decide +kernel
theorem dL_law_1178 : decode cL_law 1178 = .ok (.iload 4, 2) := by decide +kernel
theorem dL_law_1180 : decode cL_law 1180 = .ok (.iconst 2, 1) := by decide +kernel
theorem dL_law_1181 : decode cL_law 1181 = .ok (.iadd, 1) := by decide +kernel
theorem dL_law_1182 : decode cL_law 1182 = .ok (.iaload, 1) := by decide +kernel
theorem dL_law_1183 : decode cL_law 1183 = .ok (.invokevirtual 203, 3) := by decide +kernel
theorem dL_law_1186 : decode cL_law 1186 = .ok (.istore 6, 2) := by decide +kernel
theorem dL_law_1188 : decode cL_law 1188 = .ok (.aload_n 2, 1) := by decide +kernel
theorem dL_law_1189 : decode cL_law 1189 = .ok (.invokevirtual 122, 3) := by decide +kernel
theorem dL_law_1192 : decode cL_law 1192 = .ok (.iload 5, 2) := by decide +kernel
theorem dL_law_1194 : decode cL_law 1194 = .ok (.if_icmp .eq 5, 3) := by decide +kernel
theorem dL_law_1197 : decode cL_law 1197 = .ok (.iconst 0, 1) := by decide +kernel
theorem dL_law_1198 : decode cL_law 1198 = .ok (.ireturn, 1) := by decide +kernel
theorem dL_law_1199 : decode cL_law 1199 = .ok (.iload 5, 2) := by decide +kernel
theorem dL_law_1201 : decode cL_law 1201 = .ok (.ifCond .ne 15, 3) := by decide +kernel
theorem dL_law_1204 : decode cL_law 1204 = .ok (.aload_n 3, 1) := by decide +kernel
theorem dL_law_1205 : decode cL_law 1205 = .ok (.iconst 0, 1) := by decide +kernel
theorem dL_law_1206 : decode cL_law 1206 = .ok (.laload, 1) := by decide +kernel
theorem dL_law_1207 : decode cL_law 1207 = .ok (.iload 6, 2) := by decide +kernel
theorem dL_law_1209 : decode cL_law 1209 = .ok (.i2l, 1) := by decide +kernel
theorem dL_law_1210 : decode cL_law 1210 = .ok (.lcmp, 1) := by decide +kernel
theorem dL_law_1211 : decode cL_law 1211 = .ok (.ifCond .eq 5, 3) := by decide +kernel
theorem dL_law_1214 : decode cL_law 1214 = .ok (.iconst 0, 1) := by decide +kernel
theorem dL_law_1215 : decode cL_law 1215 = .ok (.ireturn, 1) := by decide +kernel
theorem dL_law_1216 : decode cL_law 1216 = .ok (.goto 1235, 3) := by decide +kernel
theorem dL_law_1219 : decode cL_law 1219 = .ok (.aload_n 1, 1) := by decide +kernel
theorem dL_law_1220 : decode cL_law 1220 = .ok (.aload_n 0, 1) := by decide +kernel
theorem dL_law_1221 : decode cL_law 1221 = .ok (.iload 4, 2) := by decide +kernel
theorem dL_law_1223 : decode cL_law 1223 = .ok (.iconst 1, 1) := by decide +kernel
theorem dL_law_1224 : decode cL_law 1224 = .ok (.iadd, 1) := by decide +kernel
theorem dL_law_1225 : decode cL_law 1225 = .ok (.iaload, 1) := by decide +kernel
theorem dL_law_1226 : decode cL_law 1226 = .ok (.aload_n 3, 1) := by decide +kernel
theorem dL_law_1227 : decode cL_law 1227 = .ok (.invokestatic 204, 3) := by decide +kernel
theorem dL_law_1230 : decode cL_law 1230 = .ok (.istore 5, 2) := by decide +kernel
theorem dL_law_1232 : decode cL_law 1232 = .ok (.aload_n 2, 1) := by decide +kernel
theorem dL_law_1233 : decode cL_law 1233 = .ok (.aload_n 0, 1) := by decide +kernel
theorem dL_law_1234 : decode cL_law 1234 = .ok (.iload 4, 2) := by decide +kernel
theorem dL_law_1236 : decode cL_law 1236 = .ok (.iconst 1, 1) := by decide +kernel
theorem dL_law_1237 : decode cL_law 1237 = .ok (.iadd, 1) := by decide +kernel
theorem dL_law_1238 : decode cL_law 1238 = .ok (.iaload, 1) := by decide +kernel
theorem dL_law_1239 : decode cL_law 1239 = .ok (.invokevirtual 206, 3) := by decide +kernel
theorem dL_law_1242 : decode cL_law 1242 = .ok (.istore 6, 2) := by decide +kernel
theorem dL_law_1244 : decode cL_law 1244 = .ok (.aload_n 2, 1) := by decide +kernel
theorem dL_law_1245 : decode cL_law 1245 = .ok (.invokevirtual 122, 3) := by decide +kernel
theorem dL_law_1248 : decode cL_law 1248 = .ok (.iload 5, 2) := by decide +kernel
theorem dL_law_1250 : decode cL_law 1250 = .ok (.if_icmp .eq 5, 3) := by decide +kernel
theorem dL_law_1253 : decode cL_law 1253 = .ok (.iconst 0, 1) := by decide +kernel
theorem dL_law_1254 : decode cL_law 1254 = .ok (.ireturn, 1) := by decide +kernel
theorem dL_law_1255 : decode cL_law 1255 = .ok (.iload 5, 2) := by decide +kernel
theorem dL_law_1257 : decode cL_law 1257 = .ok (.ifCond .ne 15, 3) := by decide +kernel
theorem dL_law_1260 : decode cL_law 1260 = .ok (.aload_n 3, 1) := by decide +kernel
theorem dL_law_1261 : decode cL_law 1261 = .ok (.iconst 0, 1) := by decide +kernel
theorem dL_law_1262 : decode cL_law 1262 = .ok (.laload, 1) := by decide +kernel
theorem dL_law_1263 : decode cL_law 1263 = .ok (.iload 6, 2) := by decide +kernel
theorem dL_law_1265 : decode cL_law 1265 = .ok (.i2l, 1) := by decide +kernel
theorem dL_law_1266 : decode cL_law 1266 = .ok (.lcmp, 1) := by decide +kernel
theorem dL_law_1267 : decode cL_law 1267 = .ok (.ifCond .eq 5, 3) := by decide +kernel
theorem dL_law_1270 : decode cL_law 1270 = .ok (.iconst 0, 1) := by decide +kernel
theorem dL_law_1271 : decode cL_law 1271 = .ok (.ireturn, 1) := by decide +kernel
theorem dL_law_1272 : decode cL_law 1272 = .ok (.goto 1179, 3) := by decide +kernel
theorem dL_law_1275 : decode cL_law 1275 = .ok (.aload_n 1, 1) := by decide +kernel
theorem dL_law_1276 : decode cL_law 1276 = .ok (.aload_n 0, 1) := by decide +kernel
theorem dL_law_1277 : decode cL_law 1277 = .ok (.iload 4, 2) := by decide +kernel
theorem dL_law_1279 : decode cL_law 1279 = .ok (.iconst 1, 1) := by decide +kernel
theorem dL_law_1280 : decode cL_law 1280 = .ok (.iadd, 1) := by decide +kernel
theorem dL_law_1281 : decode cL_law 1281 = .ok (.iaload, 1) := by decide +kernel
theorem dL_law_1282 : decode cL_law 1282 = .ok (.aload_n 3, 1) := by decide +kernel
theorem dL_law_1283 : decode cL_law 1283 = .ok (.invokestatic 207, 3) := by decide +kernel
theorem dL_law_1286 : decode cL_law 1286 = .ok (.istore 5, 2) := by decide +kernel
theorem dL_law_1288 : decode cL_law 1288 = .ok (.aload_n 2, 1) := by decide +kernel
theorem dL_law_1289 : decode cL_law 1289 = .ok (.aload_n 0, 1) := by decide +kernel
theorem dL_law_1290 : decode cL_law 1290 = .ok (.iload 4, 2) := by decide +kernel
theorem dL_law_1292 : decode cL_law 1292 = .ok (.iconst 1, 1) := by decide +kernel
theorem dL_law_1293 : decode cL_law 1293 = .ok (.iadd, 1) := by decide +kernel
theorem dL_law_1294 : decode cL_law 1294 = .ok (.iaload, 1) := by decide +kernel
theorem dL_law_1295 : decode cL_law 1295 = .ok (.invokevirtual 209, 3) := by decide +kernel
theorem dL_law_1298 : decode cL_law 1298 = .ok (.istore 6, 2) := by decide +kernel
theorem dL_law_1300 : decode cL_law 1300 = .ok (.aload_n 2, 1) := by decide +kernel
theorem dL_law_1301 : decode cL_law 1301 = .ok (.invokevirtual 122, 3) := by decide +kernel
theorem dL_law_1304 : decode cL_law 1304 = .ok (.iload 5, 2) := by decide +kernel
theorem dL_law_1306 : decode cL_law 1306 = .ok (.if_icmp .eq 5, 3) := by decide +kernel
theorem dL_law_1309 : decode cL_law 1309 = .ok (.iconst 0, 1) := by decide +kernel
theorem dL_law_1310 : decode cL_law 1310 = .ok (.ireturn, 1) := by decide +kernel
theorem dL_law_1311 : decode cL_law 1311 = .ok (.iload 5, 2) := by decide +kernel
theorem dL_law_1313 : decode cL_law 1313 = .ok (.ifCond .ne 22, 3) := by decide +kernel
theorem dL_law_1316 : decode cL_law 1316 = .ok (.aload_n 3, 1) := by decide +kernel
theorem dL_law_1317 : decode cL_law 1317 = .ok (.iconst 0, 1) := by decide +kernel
theorem dL_law_1318 : decode cL_law 1318 = .ok (.laload, 1) := by decide +kernel
theorem dL_law_1319 : decode cL_law 1319 = .ok (.iload 6, 2) := by decide +kernel
theorem dL_law_1321 : decode cL_law 1321 = .ok (.ifCond .eq 7, 3) := by decide +kernel
theorem dL_law_1324 : decode cL_law 1324 = .ok (.lconst 1, 1) := by decide +kernel
theorem dL_law_1325 : decode cL_law 1325 = .ok (.goto 4, 3) := by decide +kernel
theorem dL_law_1328 : decode cL_law 1328 = .ok (.lconst 0, 1) := by decide +kernel
theorem dL_law_1329 : decode cL_law 1329 = .ok (.lcmp, 1) := by decide +kernel
theorem dL_law_1330 : decode cL_law 1330 = .ok (.ifCond .eq 5, 3) := by decide +kernel
theorem dL_law_1333 : decode cL_law 1333 = .ok (.iconst 0, 1) := by decide +kernel
theorem dL_law_1334 : decode cL_law 1334 = .ok (.ireturn, 1) := by decide +kernel
theorem dL_law_1335 : decode cL_law 1335 = .ok (.goto 1116, 3) := by decide +kernel
theorem dL_law_1338 : decode cL_law 1338 = .ok (.aload_n 1, 1) := by decide +kernel
theorem dL_law_1339 : decode cL_law 1339 = .ok (.invokevirtual 210, 3) := by decide +kernel
theorem dL_law_1342 : decode cL_law 1342 = .ok (.aload_n 2, 1) := by decide +kernel
theorem dL_law_1343 : decode cL_law 1343 = .ok (.invokevirtual 213, 3) := by decide +kernel
theorem dL_law_1346 : decode cL_law 1346 = .ok (.if_icmp .eq 1105, 3) := by decide +kernel
theorem dL_law_1349 : decode cL_law 1349 = .ok (.iconst 0, 1) := by decide +kernel
theorem dL_law_1350 : decode cL_law 1350 = .ok (.ireturn, 1) := by decide +kernel
theorem dL_law_1351 : decode cL_law 1351 = .ok (.aload_n 1, 1) := by decide +kernel
theorem dL_law_1352 : decode cL_law 1352 = .ok (.aload_n 0, 1) := by decide +kernel
theorem dL_law_1353 : decode cL_law 1353 = .ok (.iload 4, 2) := by decide +kernel
theorem dL_law_1355 : decode cL_law 1355 = .ok (.iconst 1, 1) := by decide +kernel
theorem dL_law_1356 : decode cL_law 1356 = .ok (.iadd, 1) := by decide +kernel
theorem dL_law_1357 : decode cL_law 1357 = .ok (.iaload, 1) := by decide +kernel
theorem dL_law_1358 : decode cL_law 1358 = .ok (.aload_n 3, 1) := by decide +kernel
theorem dL_law_1359 : decode cL_law 1359 = .ok (.invokestatic 214, 3) := by decide +kernel
theorem dL_law_1362 : decode cL_law 1362 = .ok (.istore 5, 2) := by decide +kernel
theorem dL_law_1364 : decode cL_law 1364 = .ok (.aload_n 2, 1) := by decide +kernel
theorem dL_law_1365 : decode cL_law 1365 = .ok (.aload_n 0, 1) := by decide +kernel
theorem dL_law_1366 : decode cL_law 1366 = .ok (.iload 4, 2) := by decide +kernel
theorem dL_law_1368 : decode cL_law 1368 = .ok (.iconst 1, 1) := by decide +kernel
theorem dL_law_1369 : decode cL_law 1369 = .ok (.iadd, 1) := by decide +kernel
theorem dL_law_1370 : decode cL_law 1370 = .ok (.iaload, 1) := by decide +kernel
theorem dL_law_1371 : decode cL_law 1371 = .ok (.invokevirtual 216, 3) := by decide +kernel
theorem dL_law_1374 : decode cL_law 1374 = .ok (.istore 6, 2) := by decide +kernel
theorem dL_law_1376 : decode cL_law 1376 = .ok (.aload_n 2, 1) := by decide +kernel
theorem dL_law_1377 : decode cL_law 1377 = .ok (.invokevirtual 122, 3) := by decide +kernel
theorem dL_law_1380 : decode cL_law 1380 = .ok (.iload 5, 2) := by decide +kernel
theorem dL_law_1382 : decode cL_law 1382 = .ok (.if_icmp .eq 5, 3) := by decide +kernel
theorem dL_law_1385 : decode cL_law 1385 = .ok (.iconst 0, 1) := by decide +kernel
theorem dL_law_1386 : decode cL_law 1386 = .ok (.ireturn, 1) := by decide +kernel
theorem dL_law_1387 : decode cL_law 1387 = .ok (.iload 5, 2) := by decide +kernel
theorem dL_law_1389 : decode cL_law 1389 = .ok (.ifCond .ne 15, 3) := by decide +kernel
theorem dL_law_1392 : decode cL_law 1392 = .ok (.aload_n 3, 1) := by decide +kernel
theorem dL_law_1393 : decode cL_law 1393 = .ok (.iconst 0, 1) := by decide +kernel
theorem dL_law_1394 : decode cL_law 1394 = .ok (.laload, 1) := by decide +kernel
theorem dL_law_1395 : decode cL_law 1395 = .ok (.iload 6, 2) := by decide +kernel
theorem dL_law_1397 : decode cL_law 1397 = .ok (.i2l, 1) := by decide +kernel
theorem dL_law_1398 : decode cL_law 1398 = .ok (.lcmp, 1) := by decide +kernel
theorem dL_law_1399 : decode cL_law 1399 = .ok (.ifCond .eq 5, 3) := by decide +kernel
theorem dL_law_1402 : decode cL_law 1402 = .ok (.iconst 0, 1) := by decide +kernel
theorem dL_law_1403 : decode cL_law 1403 = .ok (.ireturn, 1) := by decide +kernel
theorem dL_law_1404 : decode cL_law 1404 = .ok (.goto 1047, 3) := by decide +kernel
theorem dL_law_1407 : decode cL_law 1407 = .ok (.aload_n 1, 1) := by decide +kernel
theorem dL_law_1408 : decode cL_law 1408 = .ok (.invokevirtual 217, 3) := by decide +kernel
theorem dL_law_1411 : decode cL_law 1411 = .ok (.aload_n 2, 1) := by decide +kernel
theorem dL_law_1412 : decode cL_law 1412 = .ok (.invokevirtual 220, 3) := by decide +kernel
theorem dL_law_1415 : decode cL_law 1415 = .ok (.if_icmp .eq 1036, 3) := by decide +kernel
theorem dL_law_1418 : decode cL_law 1418 = .ok (.iconst 0, 1) := by decide +kernel
theorem dL_law_1419 : decode cL_law 1419 = .ok (.ireturn, 1) := by decide +kernel
theorem dL_law_1420 : decode cL_law 1420 = .ok (.aload_n 1, 1) := by decide +kernel
theorem dL_law_1421 : decode cL_law 1421 = .ok (.aload_n 0, 1) := by decide +kernel
theorem dL_law_1422 : decode cL_law 1422 = .ok (.iload 4, 2) := by decide +kernel
theorem dL_law_1424 : decode cL_law 1424 = .ok (.iconst 1, 1) := by decide +kernel
theorem dL_law_1425 : decode cL_law 1425 = .ok (.iadd, 1) := by decide +kernel
theorem dL_law_1426 : decode cL_law 1426 = .ok (.iaload, 1) := by decide +kernel
theorem dL_law_1427 : decode cL_law 1427 = .ok (.aload_n 3, 1) := by decide +kernel
theorem dL_law_1428 : decode cL_law 1428 = .ok (.invokestatic 221, 3) := by decide +kernel
theorem dL_law_1431 : decode cL_law 1431 = .ok (.istore 5, 2) := by decide +kernel
theorem dL_law_1433 : decode cL_law 1433 = .ok (.aload_n 2, 1) := by decide +kernel
theorem dL_law_1434 : decode cL_law 1434 = .ok (.aload_n 0, 1) := by decide +kernel
theorem dL_law_1435 : decode cL_law 1435 = .ok (.iload 4, 2) := by decide +kernel
theorem dL_law_1437 : decode cL_law 1437 = .ok (.iconst 1, 1) := by decide +kernel
theorem dL_law_1438 : decode cL_law 1438 = .ok (.iadd, 1) := by decide +kernel
theorem dL_law_1439 : decode cL_law 1439 = .ok (.iaload, 1) := by decide +kernel
theorem dL_law_1440 : decode cL_law 1440 = .ok (.invokevirtual 223, 3) := by decide +kernel
theorem dL_law_1443 : decode cL_law 1443 = .ok (.istore 6, 2) := by decide +kernel
theorem dL_law_1445 : decode cL_law 1445 = .ok (.aload_n 2, 1) := by decide +kernel
theorem dL_law_1446 : decode cL_law 1446 = .ok (.invokevirtual 122, 3) := by decide +kernel
theorem dL_law_1449 : decode cL_law 1449 = .ok (.iload 5, 2) := by decide +kernel
theorem dL_law_1451 : decode cL_law 1451 = .ok (.if_icmp .eq 5, 3) := by decide +kernel
theorem dL_law_1454 : decode cL_law 1454 = .ok (.iconst 0, 1) := by decide +kernel
theorem dL_law_1455 : decode cL_law 1455 = .ok (.ireturn, 1) := by decide +kernel
theorem dL_law_1456 : decode cL_law 1456 = .ok (.iload 5, 2) := by decide +kernel
theorem dL_law_1458 : decode cL_law 1458 = .ok (.ifCond .ne 15, 3) := by decide +kernel
theorem dL_law_1461 : decode cL_law 1461 = .ok (.aload_n 3, 1) := by decide +kernel
theorem dL_law_1462 : decode cL_law 1462 = .ok (.iconst 0, 1) := by decide +kernel
theorem dL_law_1463 : decode cL_law 1463 = .ok (.laload, 1) := by decide +kernel
theorem dL_law_1464 : decode cL_law 1464 = .ok (.iload 6, 2) := by decide +kernel
theorem dL_law_1466 : decode cL_law 1466 = .ok (.i2l, 1) := by decide +kernel
theorem dL_law_1467 : decode cL_law 1467 = .ok (.lcmp, 1) := by decide +kernel
theorem dL_law_1468 : decode cL_law 1468 = .ok (.ifCond .eq 5, 3) := by decide +kernel
theorem dL_law_1471 : decode cL_law 1471 = .ok (.iconst 0, 1) := by decide +kernel
theorem dL_law_1472 : decode cL_law 1472 = .ok (.ireturn, 1) := by decide +kernel
theorem dL_law_1473 : decode cL_law 1473 = .ok (.goto 978, 3) := by decide +kernel
theorem dL_law_1476 : decode cL_law 1476 = .ok (.aload_n 1, 1) := by decide +kernel
theorem dL_law_1477 : decode cL_law 1477 = .ok (.aload_n 0, 1) := by decide +kernel
theorem dL_law_1478 : decode cL_law 1478 = .ok (.iload 4, 2) := by decide +kernel
theorem dL_law_1480 : decode cL_law 1480 = .ok (.iconst 1, 1) := by decide +kernel
theorem dL_law_1481 : decode cL_law 1481 = .ok (.iadd, 1) := by decide +kernel
theorem dL_law_1482 : decode cL_law 1482 = .ok (.iaload, 1) := by decide +kernel
theorem dL_law_1483 : decode cL_law 1483 = .ok (.aload_n 3, 1) := by decide +kernel
theorem dL_law_1484 : decode cL_law 1484 = .ok (.invokestatic 224, 3) := by decide +kernel
theorem dL_law_1487 : decode cL_law 1487 = .ok (.istore 5, 2) := by decide +kernel
theorem dL_law_1489 : decode cL_law 1489 = .ok (.aload_n 2, 1) := by decide +kernel
theorem dL_law_1490 : decode cL_law 1490 = .ok (.aload_n 0, 1) := by decide +kernel
theorem dL_law_1491 : decode cL_law 1491 = .ok (.iload 4, 2) := by decide +kernel
theorem dL_law_1493 : decode cL_law 1493 = .ok (.iconst 1, 1) := by decide +kernel
theorem dL_law_1494 : decode cL_law 1494 = .ok (.iadd, 1) := by decide +kernel
theorem dL_law_1495 : decode cL_law 1495 = .ok (.iaload, 1) := by decide +kernel
theorem dL_law_1496 : decode cL_law 1496 = .ok (.invokevirtual 226, 3) := by decide +kernel
theorem dL_law_1499 : decode cL_law 1499 = .ok (.istore 6, 2) := by decide +kernel
theorem dL_law_1501 : decode cL_law 1501 = .ok (.aload_n 2, 1) := by decide +kernel
theorem dL_law_1502 : decode cL_law 1502 = .ok (.invokevirtual 122, 3) := by decide +kernel
theorem dL_law_1505 : decode cL_law 1505 = .ok (.iload 5, 2) := by decide +kernel
theorem dL_law_1507 : decode cL_law 1507 = .ok (.if_icmp .eq 5, 3) := by decide +kernel
theorem dL_law_1510 : decode cL_law 1510 = .ok (.iconst 0, 1) := by decide +kernel
theorem dL_law_1511 : decode cL_law 1511 = .ok (.ireturn, 1) := by decide +kernel
theorem dL_law_1512 : decode cL_law 1512 = .ok (.iload 5, 2) := by decide +kernel
theorem dL_law_1514 : decode cL_law 1514 = .ok (.ifCond .ne 15, 3) := by decide +kernel
theorem dL_law_1517 : decode cL_law 1517 = .ok (.aload_n 3, 1) := by decide +kernel
theorem dL_law_1518 : decode cL_law 1518 = .ok (.iconst 0, 1) := by decide +kernel
theorem dL_law_1519 : decode cL_law 1519 = .ok (.laload, 1) := by decide +kernel
theorem dL_law_1520 : decode cL_law 1520 = .ok (.iload 6, 2) := by decide +kernel
theorem dL_law_1522 : decode cL_law 1522 = .ok (.i2l, 1) := by decide +kernel
theorem dL_law_1523 : decode cL_law 1523 = .ok (.lcmp, 1) := by decide +kernel
theorem dL_law_1524 : decode cL_law 1524 = .ok (.ifCond .eq 5, 3) := by decide +kernel
theorem dL_law_1527 : decode cL_law 1527 = .ok (.iconst 0, 1) := by decide +kernel
theorem dL_law_1528 : decode cL_law 1528 = .ok (.ireturn, 1) := by decide +kernel
theorem dL_law_1529 : decode cL_law 1529 = .ok (.goto 922, 3) := by decide +kernel
theorem dL_law_1532 : decode cL_law 1532 = .ok (.aload_n 1, 1) := by decide +kernel
theorem dL_law_1533 : decode cL_law 1533 = .ok (.aload_n 0, 1) := by decide +kernel
theorem dL_law_1534 : decode cL_law 1534 = .ok (.iload 4, 2) := by decide +kernel
theorem dL_law_1536 : decode cL_law 1536 = .ok (.iconst 1, 1) := by decide +kernel
theorem dL_law_1537 : decode cL_law 1537 = .ok (.iadd, 1) := by decide +kernel
theorem dL_law_1538 : decode cL_law 1538 = .ok (.iaload, 1) := by decide +kernel
theorem dL_law_1539 : decode cL_law 1539 = .ok (.aload_n 3, 1) := by decide +kernel
theorem dL_law_1540 : decode cL_law 1540 = .ok (.invokestatic 227, 3) := by decide +kernel
theorem dL_law_1543 : decode cL_law 1543 = .ok (.istore 5, 2) := by decide +kernel
theorem dL_law_1545 : decode cL_law 1545 = .ok (.aload_n 2, 1) := by decide +kernel
theorem dL_law_1546 : decode cL_law 1546 = .ok (.aload_n 0, 1) := by decide +kernel
theorem dL_law_1547 : decode cL_law 1547 = .ok (.iload 4, 2) := by decide +kernel
theorem dL_law_1549 : decode cL_law 1549 = .ok (.iconst 1, 1) := by decide +kernel
theorem dL_law_1550 : decode cL_law 1550 = .ok (.iadd, 1) := by decide +kernel
theorem dL_law_1551 : decode cL_law 1551 = .ok (.iaload, 1) := by decide +kernel
theorem dL_law_1552 : decode cL_law 1552 = .ok (.invokevirtual 229, 3) := by decide +kernel
theorem dL_law_1555 : decode cL_law 1555 = .ok (.istore 6, 2) := by decide +kernel
theorem dL_law_1557 : decode cL_law 1557 = .ok (.aload_n 2, 1) := by decide +kernel
theorem dL_law_1558 : decode cL_law 1558 = .ok (.invokevirtual 122, 3) := by decide +kernel
theorem dL_law_1561 : decode cL_law 1561 = .ok (.iload 5, 2) := by decide +kernel
theorem dL_law_1563 : decode cL_law 1563 = .ok (.if_icmp .eq 5, 3) := by decide +kernel
theorem dL_law_1566 : decode cL_law 1566 = .ok (.iconst 0, 1) := by decide +kernel
theorem dL_law_1567 : decode cL_law 1567 = .ok (.ireturn, 1) := by decide +kernel
theorem dL_law_1568 : decode cL_law 1568 = .ok (.iload 5, 2) := by decide +kernel
theorem dL_law_1570 : decode cL_law 1570 = .ok (.ifCond .ne 15, 3) := by decide +kernel
theorem dL_law_1573 : decode cL_law 1573 = .ok (.aload_n 3, 1) := by decide +kernel
theorem dL_law_1574 : decode cL_law 1574 = .ok (.iconst 0, 1) := by decide +kernel
theorem dL_law_1575 : decode cL_law 1575 = .ok (.laload, 1) := by decide +kernel
theorem dL_law_1576 : decode cL_law 1576 = .ok (.iload 6, 2) := by decide +kernel
theorem dL_law_1578 : decode cL_law 1578 = .ok (.i2l, 1) := by decide +kernel
theorem dL_law_1579 : decode cL_law 1579 = .ok (.lcmp, 1) := by decide +kernel
theorem dL_law_1580 : decode cL_law 1580 = .ok (.ifCond .eq 5, 3) := by decide +kernel
theorem dL_law_1583 : decode cL_law 1583 = .ok (.iconst 0, 1) := by decide +kernel
theorem dL_law_1584 : decode cL_law 1584 = .ok (.ireturn, 1) := by decide +kernel
theorem dL_law_1585 : decode cL_law 1585 = .ok (.goto 866, 3) := by decide +kernel
theorem dL_law_1588 : decode cL_law 1588 = .ok (.aload_n 1, 1) := by decide +kernel
theorem dL_law_1589 : decode cL_law 1589 = .ok (.aload_n 0, 1) := by decide +kernel
theorem dL_law_1590 : decode cL_law 1590 = .ok (.iload 4, 2) := by decide +kernel
theorem dL_law_1592 : decode cL_law 1592 = .ok (.iconst 1, 1) := by decide +kernel
theorem dL_law_1593 : decode cL_law 1593 = .ok (.iadd, 1) := by decide +kernel
theorem dL_law_1594 : decode cL_law 1594 = .ok (.iaload, 1) := by decide +kernel
theorem dL_law_1595 : decode cL_law 1595 = .ok (.aload_n 3, 1) := by decide +kernel
theorem dL_law_1596 : decode cL_law 1596 = .ok (.invokestatic 230, 3) := by decide +kernel
theorem dL_law_1599 : decode cL_law 1599 = .ok (.istore 5, 2) := by decide +kernel
theorem dL_law_1601 : decode cL_law 1601 = .ok (.aload_n 2, 1) := by decide +kernel
theorem dL_law_1602 : decode cL_law 1602 = .ok (.aload_n 0, 1) := by decide +kernel
theorem dL_law_1603 : decode cL_law 1603 = .ok (.iload 4, 2) := by decide +kernel
theorem dL_law_1605 : decode cL_law 1605 = .ok (.iconst 1, 1) := by decide +kernel
theorem dL_law_1606 : decode cL_law 1606 = .ok (.iadd, 1) := by decide +kernel
theorem dL_law_1607 : decode cL_law 1607 = .ok (.iaload, 1) := by decide +kernel
theorem dL_law_1608 : decode cL_law 1608 = .ok (.invokevirtual 232, 3) := by decide +kernel
theorem dL_law_1611 : decode cL_law 1611 = .ok (.istore 6, 2) := by decide +kernel
theorem dL_law_1613 : decode cL_law 1613 = .ok (.aload_n 2, 1) := by decide +kernel
theorem dL_law_1614 : decode cL_law 1614 = .ok (.invokevirtual 122, 3) := by decide +kernel
theorem dL_law_1617 : decode cL_law 1617 = .ok (.iload 5, 2) := by decide +kernel
theorem dL_law_1619 : decode cL_law 1619 = .ok (.if_icmp .eq 5, 3) := by decide +kernel
theorem dL_law_1622 : decode cL_law 1622 = .ok (.iconst 0, 1) := by decide +kernel
theorem dL_law_1623 : decode cL_law 1623 = .ok (.ireturn, 1) := by decide +kernel
theorem dL_law_1624 : decode cL_law 1624 = .ok (.iload 5, 2) := by decide +kernel
theorem dL_law_1626 : decode cL_law 1626 = .ok (.ifCond .ne 15, 3) := by decide +kernel
theorem dL_law_1629 : decode cL_law 1629 = .ok (.aload_n 3, 1) := by decide +kernel
theorem dL_law_1630 : decode cL_law 1630 = .ok (.iconst 0, 1) := by decide +kernel
theorem dL_law_1631 : decode cL_law 1631 = .ok (.laload, 1) := by decide +kernel
theorem dL_law_1632 : decode cL_law 1632 = .ok (.iload 6, 2) := by decide +kernel
theorem dL_law_1634 : decode cL_law 1634 = .ok (.i2l, 1) := by decide +kernel
theorem dL_law_1635 : decode cL_law 1635 = .ok (.lcmp, 1) := by decide +kernel
theorem dL_law_1636 : decode cL_law 1636 = .ok (.ifCond .eq 5, 3) := by decide +kernel
theorem dL_law_1639 : decode cL_law 1639 = .ok (.iconst 0, 1) := by decide +kernel
theorem dL_law_1640 : decode cL_law 1640 = .ok (.ireturn, 1) := by decide +kernel
theorem dL_law_1641 : decode cL_law 1641 = .ok (.goto 810, 3) := by decide +kernel
theorem dL_law_1644 : decode cL_law 1644 = .ok (.aload_n 1, 1) := by decide +kernel
theorem dL_law_1645 : decode cL_law 1645 = .ok (.invokevirtual 233, 3) := by decide +kernel
theorem dL_law_1648 : decode cL_law 1648 = .ok (.aload_n 2, 1) := by decide +kernel
theorem dL_law_1649 : decode cL_law 1649 = .ok (.invokevirtual 236, 3) := by decide +kernel
theorem dL_law_1652 : decode cL_law 1652 = .ok (.if_icmp .eq 799, 3) := by decide +kernel
theorem dL_law_1655 : decode cL_law 1655 = .ok (.iconst 0, 1) := by decide +kernel
theorem dL_law_1656 : decode cL_law 1656 = .ok (.ireturn, 1) := by decide +kernel
theorem dL_law_1657 : decode cL_law 1657 = .ok (.aload_n 1, 1) := by decide +kernel
theorem dL_law_1658 : decode cL_law 1658 = .ok (.invokevirtual 237, 3) := by decide +kernel
theorem dL_law_1661 : decode cL_law 1661 = .ok (.aload_n 2, 1) := by decide +kernel
theorem dL_law_1662 : decode cL_law 1662 = .ok (.invokevirtual 240, 3) := by decide +kernel
theorem dL_law_1665 : decode cL_law 1665 = .ok (.if_icmp .eq 786, 3) := by decide +kernel
theorem dL_law_1668 : decode cL_law 1668 = .ok (.iconst 0, 1) := by decide +kernel
theorem dL_law_1669 : decode cL_law 1669 = .ok (.ireturn, 1) := by decide +kernel
theorem dL_law_1670 : decode cL_law 1670 = .ok (.aload_n 1, 1) := by decide +kernel
theorem dL_law_1671 : decode cL_law 1671 = .ok (.invokevirtual 241, 3) := by decide +kernel
theorem dL_law_1674 : decode cL_law 1674 = .ok (.aload_n 2, 1) := by decide +kernel
theorem dL_law_1675 : decode cL_law 1675 = .ok (.invokevirtual 244, 3) := by decide +kernel
theorem dL_law_1678 : decode cL_law 1678 = .ok (.if_icmp .eq 773, 3) := by decide +kernel
theorem dL_law_1681 : decode cL_law 1681 = .ok (.iconst 0, 1) := by decide +kernel
theorem dL_law_1682 : decode cL_law 1682 = .ok (.ireturn, 1) := by decide +kernel
theorem dL_law_1683 : decode cL_law 1683 = .ok (.aload_n 1, 1) := by decide +kernel
theorem dL_law_1684 : decode cL_law 1684 = .ok (.invokevirtual 245, 3) := by decide +kernel
theorem dL_law_1687 : decode cL_law 1687 = .ok (.aload_n 2, 1) := by decide +kernel
theorem dL_law_1688 : decode cL_law 1688 = .ok (.invokevirtual 248, 3) := by decide +kernel
theorem dL_law_1691 : decode cL_law 1691 = .ok (.if_icmp .eq 760, 3) := by decide +kernel
theorem dL_law_1694 : decode cL_law 1694 = .ok (.iconst 0, 1) := by decide +kernel
theorem dL_law_1695 : decode cL_law 1695 = .ok (.ireturn, 1) := by decide +kernel
theorem dL_law_1696 : decode cL_law 1696 = .ok (.aload_n 1, 1) := by decide +kernel
theorem dL_law_1697 : decode cL_law 1697 = .ok (.invokevirtual 249, 3) := by decide +kernel
theorem dL_law_1700 : decode cL_law 1700 = .ok (.aload_n 2, 1) := by decide +kernel
theorem dL_law_1701 : decode cL_law 1701 = .ok (.invokevirtual 252, 3) := by decide +kernel
theorem dL_law_1704 : decode cL_law 1704 = .ok (.if_icmp .eq 747, 3) := by decide +kernel
theorem dL_law_1707 : decode cL_law 1707 = .ok (.iconst 0, 1) := by decide +kernel
theorem dL_law_1708 : decode cL_law 1708 = .ok (.ireturn, 1) := by decide +kernel
theorem dL_law_1709 : decode cL_law 1709 = .ok (.aload_n 1, 1) := by decide +kernel
theorem dL_law_1710 : decode cL_law 1710 = .ok (.aload_n 0, 1) := by decide +kernel
theorem dL_law_1711 : decode cL_law 1711 = .ok (.iload 4, 2) := by decide +kernel
theorem dL_law_1713 : decode cL_law 1713 = .ok (.iconst 1, 1) := by decide +kernel
theorem dL_law_1714 : decode cL_law 1714 = .ok (.iadd, 1) := by decide +kernel
theorem dL_law_1715 : decode cL_law 1715 = .ok (.iaload, 1) := by decide +kernel
theorem dL_law_1716 : decode cL_law 1716 = .ok (.aload_n 3, 1) := by decide +kernel
theorem dL_law_1717 : decode cL_law 1717 = .ok (.invokestatic 253, 3) := by decide +kernel
theorem dL_law_1720 : decode cL_law 1720 = .ok (.istore 5, 2) := by decide +kernel
theorem dL_law_1722 : decode cL_law 1722 = .ok (.aload_n 2, 1) := by decide +kernel
theorem dL_law_1723 : decode cL_law 1723 = .ok (.aload_n 0, 1) := by decide +kernel
theorem dL_law_1724 : decode cL_law 1724 = .ok (.iload 4, 2) := by decide +kernel
theorem dL_law_1726 : decode cL_law 1726 = .ok (.iconst 1, 1) := by decide +kernel
theorem dL_law_1727 : decode cL_law 1727 = .ok (.iadd, 1) := by decide +kernel
theorem dL_law_1728 : decode cL_law 1728 = .ok (.iaload, 1) := by decide +kernel
theorem dL_law_1729 : decode cL_law 1729 = .ok (.invokevirtual 255, 3) := by decide +kernel
theorem dL_law_1732 : decode cL_law 1732 = .ok (.istore 6, 2) := by decide +kernel
theorem dL_law_1734 : decode cL_law 1734 = .ok (.aload_n 2, 1) := by decide +kernel
theorem dL_law_1735 : decode cL_law 1735 = .ok (.invokevirtual 122, 3) := by decide +kernel
theorem dL_law_1738 : decode cL_law 1738 = .ok (.iload 5, 2) := by decide +kernel
theorem dL_law_1740 : decode cL_law 1740 = .ok (.if_icmp .eq 5, 3) := by decide +kernel
theorem dL_law_1743 : decode cL_law 1743 = .ok (.iconst 0, 1) := by decide +kernel
theorem dL_law_1744 : decode cL_law 1744 = .ok (.ireturn, 1) := by decide +kernel
theorem dL_law_1745 : decode cL_law 1745 = .ok (.iload 5, 2) := by decide +kernel
theorem dL_law_1747 : decode cL_law 1747 = .ok (.ifCond .ne 15, 3) := by decide +kernel
theorem dL_law_1750 : decode cL_law 1750 = .ok (.aload_n 3, 1) := by decide +kernel
theorem dL_law_1751 : decode cL_law 1751 = .ok (.iconst 0, 1) := by decide +kernel
theorem dL_law_1752 : decode cL_law 1752 = .ok (.laload, 1) := by decide +kernel
theorem dL_law_1753 : decode cL_law 1753 = .ok (.iload 6, 2) := by decide +kernel
theorem dL_law_1755 : decode cL_law 1755 = .ok (.i2l, 1) := by decide +kernel
theorem dL_law_1756 : decode cL_law 1756 = .ok (.lcmp, 1) := by decide +kernel
theorem dL_law_1757 : decode cL_law 1757 = .ok (.ifCond .eq 5, 3) := by decide +kernel
theorem dL_law_1760 : decode cL_law 1760 = .ok (.iconst 0, 1) := by decide +kernel
theorem dL_law_1761 : decode cL_law 1761 = .ok (.ireturn, 1) := by decide +kernel
theorem dL_law_1762 : decode cL_law 1762 = .ok (.goto 689, 3) := by decide +kernel
theorem dL_law_1765 : decode cL_law 1765 = .ok (.aload_n 1, 1) := by decide +kernel
theorem dL_law_1766 : decode cL_law 1766 = .ok (.aload_n 0, 1) := by decide +kernel
theorem dL_law_1767 : decode cL_law 1767 = .ok (.iload 4, 2) := by decide +kernel
theorem dL_law_1769 : decode cL_law 1769 = .ok (.iconst 1, 1) := by decide +kernel
theorem dL_law_1770 : decode cL_law 1770 = .ok (.iadd, 1) := by decide +kernel
theorem dL_law_1771 : decode cL_law 1771 = .ok (.iaload, 1) := by decide +kernel
theorem dL_law_1772 : decode cL_law 1772 = .ok (.aload_n 3, 1) := by decide +kernel
theorem dL_law_1773 : decode cL_law 1773 = .ok (.invokestatic 256, 3) := by decide +kernel
theorem dL_law_1776 : decode cL_law 1776 = .ok (.istore 5, 2) := by decide +kernel
theorem dL_law_1778 : decode cL_law 1778 = .ok (.aload_n 2, 1) := by decide +kernel
theorem dL_law_1779 : decode cL_law 1779 = .ok (.aload_n 0, 1) := by decide +kernel
theorem dL_law_1780 : decode cL_law 1780 = .ok (.iload 4, 2) := by decide +kernel
theorem dL_law_1782 : decode cL_law 1782 = .ok (.iconst 1, 1) := by decide +kernel
theorem dL_law_1783 : decode cL_law 1783 = .ok (.iadd, 1) := by decide +kernel
theorem dL_law_1784 : decode cL_law 1784 = .ok (.iaload, 1) := by decide +kernel
theorem dL_law_1785 : decode cL_law 1785 = .ok (.invokevirtual 258, 3) := by decide +kernel
theorem dL_law_1788 : decode cL_law 1788 = .ok (.istore 6, 2) := by decide +kernel
theorem dL_law_1790 : decode cL_law 1790 = .ok (.aload_n 2, 1) := by decide +kernel
theorem dL_law_1791 : decode cL_law 1791 = .ok (.invokevirtual 122, 3) := by decide +kernel
theorem dL_law_1794 : decode cL_law 1794 = .ok (.iload 5, 2) := by decide +kernel
theorem dL_law_1796 : decode cL_law 1796 = .ok (.if_icmp .eq 5, 3) := by decide +kernel
theorem dL_law_1799 : decode cL_law 1799 = .ok (.iconst 0, 1) := by decide +kernel
theorem dL_law_1800 : decode cL_law 1800 = .ok (.ireturn, 1) := by decide +kernel
theorem dL_law_1801 : decode cL_law 1801 = .ok (.iload 5, 2) := by decide +kernel
theorem dL_law_1803 : decode cL_law 1803 = .ok (.ifCond .ne 15, 3) := by decide +kernel
theorem dL_law_1806 : decode cL_law 1806 = .ok (.aload_n 3, 1) := by decide +kernel
theorem dL_law_1807 : decode cL_law 1807 = .ok (.iconst 0, 1) := by decide +kernel
theorem dL_law_1808 : decode cL_law 1808 = .ok (.laload, 1) := by decide +kernel
theorem dL_law_1809 : decode cL_law 1809 = .ok (.iload 6, 2) := by decide +kernel
theorem dL_law_1811 : decode cL_law 1811 = .ok (.i2l, 1) := by decide +kernel
theorem dL_law_1812 : decode cL_law 1812 = .ok (.lcmp, 1) := by decide +kernel
theorem dL_law_1813 : decode cL_law 1813 = .ok (.ifCond .eq 5, 3) := by decide +kernel
theorem dL_law_1816 : decode cL_law 1816 = .ok (.iconst 0, 1) := by decide +kernel
theorem dL_law_1817 : decode cL_law 1817 = .ok (.ireturn, 1) := by decide +kernel
theorem dL_law_1818 : decode cL_law 1818 = .ok (.goto 633, 3) := by decide +kernel
theorem dL_law_1821 : decode cL_law 1821 = .ok (.aload_n 1, 1) := by decide +kernel
theorem dL_law_1822 : decode cL_law 1822 = .ok (.aload_n 0, 1) := by decide +kernel
theorem dL_law_1823 : decode cL_law 1823 = .ok (.iload 4, 2) := by decide +kernel
theorem dL_law_1825 : decode cL_law 1825 = .ok (.iconst 1, 1) := by decide +kernel
theorem dL_law_1826 : decode cL_law 1826 = .ok (.iadd, 1) := by decide +kernel
theorem dL_law_1827 : decode cL_law 1827 = .ok (.iaload, 1) := by decide +kernel
theorem dL_law_1828 : decode cL_law 1828 = .ok (.aload_n 3, 1) := by decide +kernel
theorem dL_law_1829 : decode cL_law 1829 = .ok (.invokestatic 259, 3) := by decide +kernel
theorem dL_law_1832 : decode cL_law 1832 = .ok (.istore 5, 2) := by decide +kernel
theorem dL_law_1834 : decode cL_law 1834 = .ok (.aload_n 2, 1) := by decide +kernel
theorem dL_law_1835 : decode cL_law 1835 = .ok (.aload_n 0, 1) := by decide +kernel
theorem dL_law_1836 : decode cL_law 1836 = .ok (.iload 4, 2) := by decide +kernel
theorem dL_law_1838 : decode cL_law 1838 = .ok (.iconst 1, 1) := by decide +kernel
theorem dL_law_1839 : decode cL_law 1839 = .ok (.iadd, 1) := by decide +kernel
theorem dL_law_1840 : decode cL_law 1840 = .ok (.iaload, 1) := by decide +kernel
theorem dL_law_1841 : decode cL_law 1841 = .ok (.invokevirtual 261, 3) := by decide +kernel
theorem dL_law_1844 : decode cL_law 1844 = .ok (.istore 6, 2) := by decide +kernel
theorem dL_law_1846 : decode cL_law 1846 = .ok (.aload_n 2, 1) := by decide +kernel
theorem dL_law_1847 : decode cL_law 1847 = .ok (.invokevirtual 122, 3) := by decide +kernel
theorem dL_law_1850 : decode cL_law 1850 = .ok (.iload 5, 2) := by decide +kernel
theorem dL_law_1852 : decode cL_law 1852 = .ok (.if_icmp .eq 5, 3) := by decide +kernel
theorem dL_law_1855 : decode cL_law 1855 = .ok (.iconst 0, 1) := by decide +kernel
theorem dL_law_1856 : decode cL_law 1856 = .ok (.ireturn, 1) := by decide +kernel
theorem dL_law_1857 : decode cL_law 1857 = .ok (.iload 5, 2) := by decide +kernel
theorem dL_law_1859 : decode cL_law 1859 = .ok (.ifCond .ne 22, 3) := by decide +kernel
theorem dL_law_1862 : decode cL_law 1862 = .ok (.aload_n 3, 1) := by decide +kernel
theorem dL_law_1863 : decode cL_law 1863 = .ok (.iconst 0, 1) := by decide +kernel
theorem dL_law_1864 : decode cL_law 1864 = .ok (.laload, 1) := by decide +kernel
theorem dL_law_1865 : decode cL_law 1865 = .ok (.iload 6, 2) := by decide +kernel
theorem dL_law_1867 : decode cL_law 1867 = .ok (.ifCond .eq 7, 3) := by decide +kernel
theorem dL_law_1870 : decode cL_law 1870 = .ok (.lconst 1, 1) := by decide +kernel
theorem dL_law_1871 : decode cL_law 1871 = .ok (.goto 4, 3) := by decide +kernel
theorem dL_law_1874 : decode cL_law 1874 = .ok (.lconst 0, 1) := by decide +kernel
theorem dL_law_1875 : decode cL_law 1875 = .ok (.lcmp, 1) := by decide +kernel
theorem dL_law_1876 : decode cL_law 1876 = .ok (.ifCond .eq 5, 3) := by decide +kernel
theorem dL_law_1879 : decode cL_law 1879 = .ok (.iconst 0, 1) := by decide +kernel
theorem dL_law_1880 : decode cL_law 1880 = .ok (.ireturn, 1) := by decide +kernel
theorem dL_law_1881 : decode cL_law 1881 = .ok (.goto 570, 3) := by decide +kernel
theorem dL_law_1884 : decode cL_law 1884 = .ok (.aload_n 1, 1) := by decide +kernel
theorem dL_law_1885 : decode cL_law 1885 = .ok (.invokevirtual 262, 3) := by decide +kernel
theorem dL_law_1888 : decode cL_law 1888 = .ok (.aload_n 2, 1) := by decide +kernel
theorem dL_law_1889 : decode cL_law 1889 = .ok (.invokevirtual 265, 3) := by decide +kernel
theorem dL_law_1892 : decode cL_law 1892 = .ok (.if_icmp .eq 559, 3) := by decide +kernel
theorem dL_law_1895 : decode cL_law 1895 = .ok (.iconst 0, 1) := by decide +kernel
theorem dL_law_1896 : decode cL_law 1896 = .ok (.ireturn, 1) := by decide +kernel
theorem dL_law_1897 : decode cL_law 1897 = .ok (.aload_n 1, 1) := by decide +kernel
theorem dL_law_1898 : decode cL_law 1898 = .ok (.invokevirtual 266, 3) := by decide +kernel
theorem dL_law_1901 : decode cL_law 1901 = .ok (.aload_n 2, 1) := by decide +kernel
theorem dL_law_1902 : decode cL_law 1902 = .ok (.invokevirtual 269, 3) := by decide +kernel
theorem dL_law_1905 : decode cL_law 1905 = .ok (.if_icmp .eq 546, 3) := by decide +kernel
theorem dL_law_1908 : decode cL_law 1908 = .ok (.iconst 0, 1) := by decide +kernel
theorem dL_law_1909 : decode cL_law 1909 = .ok (.ireturn, 1) := by decide +kernel
theorem dL_law_1910 : decode cL_law 1910 = .ok (.aload_n 1, 1) := by decide +kernel
theorem dL_law_1911 : decode cL_law 1911 = .ok (.aload_n 0, 1) := by decide +kernel
theorem dL_law_1912 : decode cL_law 1912 = .ok (.iload 4, 2) := by decide +kernel
theorem dL_law_1914 : decode cL_law 1914 = .ok (.iconst 1, 1) := by decide +kernel
theorem dL_law_1915 : decode cL_law 1915 = .ok (.iadd, 1) := by decide +kernel
theorem dL_law_1916 : decode cL_law 1916 = .ok (.iaload, 1) := by decide +kernel
theorem dL_law_1917 : decode cL_law 1917 = .ok (.aload_n 0, 1) := by decide +kernel
theorem dL_law_1918 : decode cL_law 1918 = .ok (.iload 4, 2) := by decide +kernel
theorem dL_law_1920 : decode cL_law 1920 = .ok (.iconst 2, 1) := by decide +kernel
theorem dL_law_1921 : decode cL_law 1921 = .ok (.iadd, 1) := by decide +kernel
theorem dL_law_1922 : decode cL_law 1922 = .ok (.iaload, 1) := by decide +kernel
theorem dL_law_1923 : decode cL_law 1923 = .ok (.aload_n 3, 1) := by decide +kernel
theorem dL_law_1924 : decode cL_law 1924 = .ok (.invokestatic 270, 3) := by decide +kernel
theorem dL_law_1927 : decode cL_law 1927 = .ok (.istore 5, 2) := by decide +kernel
theorem dL_law_1929 : decode cL_law 1929 = .ok (.aload_n 2, 1) := by decide +kernel
theorem dL_law_1930 : decode cL_law 1930 = .ok (.aload_n 0, 1) := by decide +kernel
theorem dL_law_1931 : decode cL_law 1931 = .ok (.iload 4, 2) := by decide +kernel
theorem dL_law_1933 : decode cL_law 1933 = .ok (.iconst 1, 1) := by decide +kernel
theorem dL_law_1934 : decode cL_law 1934 = .ok (.iadd, 1) := by decide +kernel
theorem dL_law_1935 : decode cL_law 1935 = .ok (.iaload, 1) := by decide +kernel
theorem dL_law_1936 : decode cL_law 1936 = .ok (.aload_n 0, 1) := by decide +kernel
theorem dL_law_1937 : decode cL_law 1937 = .ok (.iload 4, 2) := by decide +kernel
theorem dL_law_1939 : decode cL_law 1939 = .ok (.iconst 2, 1) := by decide +kernel
theorem dL_law_1940 : decode cL_law 1940 = .ok (.iadd, 1) := by decide +kernel
theorem dL_law_1941 : decode cL_law 1941 = .ok (.iaload, 1) := by decide +kernel
theorem dL_law_1942 : decode cL_law 1942 = .ok (.invokevirtual 272, 3) := by decide +kernel
theorem dL_law_1945 : decode cL_law 1945 = .ok (.istore 6, 2) := by decide +kernel
theorem dL_law_1947 : decode cL_law 1947 = .ok (.aload_n 2, 1) := by decide +kernel
theorem dL_law_1948 : decode cL_law 1948 = .ok (.invokevirtual 122, 3) := by decide +kernel
theorem dL_law_1951 : decode cL_law 1951 = .ok (.iload 5, 2) := by decide +kernel
theorem dL_law_1953 : decode cL_law 1953 = .ok (.if_icmp .eq 5, 3) := by decide +kernel
theorem dL_law_1956 : decode cL_law 1956 = .ok (.iconst 0, 1) := by decide +kernel
theorem dL_law_1957 : decode cL_law 1957 = .ok (.ireturn, 1) := by decide +kernel
theorem dL_law_1958 : decode cL_law 1958 = .ok (.iload 5, 2) := by decide +kernel
theorem dL_law_1960 : decode cL_law 1960 = .ok (.ifCond .ne 15, 3) := by decide +kernel
theorem dL_law_1963 : decode cL_law 1963 = .ok (.aload_n 3, 1) := by decide +kernel
theorem dL_law_1964 : decode cL_law 1964 = .ok (.iconst 0, 1) := by decide +kernel
theorem dL_law_1965 : decode cL_law 1965 = .ok (.laload, 1) := by decide +kernel
theorem dL_law_1966 : decode cL_law 1966 = .ok (.iload 6, 2) := by decide +kernel
theorem dL_law_1968 : decode cL_law 1968 = .ok (.i2l, 1) := by decide +kernel
theorem dL_law_1969 : decode cL_law 1969 = .ok (.lcmp, 1) := by decide +kernel
theorem dL_law_1970 : decode cL_law 1970 = .ok (.ifCond .eq 5, 3) := by decide +kernel
theorem dL_law_1973 : decode cL_law 1973 = .ok (.iconst 0, 1) := by decide +kernel
theorem dL_law_1974 : decode cL_law 1974 = .ok (.ireturn, 1) := by decide +kernel
theorem dL_law_1975 : decode cL_law 1975 = .ok (.goto 476, 3) := by decide +kernel
theorem dL_law_1978 : decode cL_law 1978 = .ok (.aload_n 1, 1) := by decide +kernel
theorem dL_law_1979 : decode cL_law 1979 = .ok (.aload_n 0, 1) := by decide +kernel
theorem dL_law_1980 : decode cL_law 1980 = .ok (.iload 4, 2) := by decide +kernel
theorem dL_law_1982 : decode cL_law 1982 = .ok (.iconst 1, 1) := by decide +kernel
theorem dL_law_1983 : decode cL_law 1983 = .ok (.iadd, 1) := by decide +kernel
theorem dL_law_1984 : decode cL_law 1984 = .ok (.iaload, 1) := by decide +kernel
theorem dL_law_1985 : decode cL_law 1985 = .ok (.aload_n 3, 1) := by decide +kernel
theorem dL_law_1986 : decode cL_law 1986 = .ok (.invokestatic 273, 3) := by decide +kernel
theorem dL_law_1989 : decode cL_law 1989 = .ok (.istore 5, 2) := by decide +kernel
theorem dL_law_1991 : decode cL_law 1991 = .ok (.aload_n 2, 1) := by decide +kernel
theorem dL_law_1992 : decode cL_law 1992 = .ok (.aload_n 0, 1) := by decide +kernel
theorem dL_law_1993 : decode cL_law 1993 = .ok (.iload 4, 2) := by decide +kernel
theorem dL_law_1995 : decode cL_law 1995 = .ok (.iconst 1, 1) := by decide +kernel
theorem dL_law_1996 : decode cL_law 1996 = .ok (.iadd, 1) := by decide +kernel
theorem dL_law_1997 : decode cL_law 1997 = .ok (.iaload, 1) := by decide +kernel
theorem dL_law_1998 : decode cL_law 1998 = .ok (.invokevirtual 275, 3) := by decide +kernel
theorem dL_law_2001 : decode cL_law 2001 = .ok (.istore 6, 2) := by decide +kernel
theorem dL_law_2003 : decode cL_law 2003 = .ok (.aload_n 2, 1) := by decide +kernel
theorem dL_law_2004 : decode cL_law 2004 = .ok (.invokevirtual 122, 3) := by decide +kernel
theorem dL_law_2007 : decode cL_law 2007 = .ok (.iload 5, 2) := by decide +kernel
theorem dL_law_2009 : decode cL_law 2009 = .ok (.if_icmp .eq 5, 3) := by decide +kernel
theorem dL_law_2012 : decode cL_law 2012 = .ok (.iconst 0, 1) := by decide +kernel
theorem dL_law_2013 : decode cL_law 2013 = .ok (.ireturn, 1) := by decide +kernel
theorem dL_law_2014 : decode cL_law 2014 = .ok (.iload 5, 2) := by decide +kernel
theorem dL_law_2016 : decode cL_law 2016 = .ok (.ifCond .ne 15, 3) := by decide +kernel
theorem dL_law_2019 : decode cL_law 2019 = .ok (.aload_n 3, 1) := by decide +kernel
theorem dL_law_2020 : decode cL_law 2020 = .ok (.iconst 0, 1) := by decide +kernel
theorem dL_law_2021 : decode cL_law 2021 = .ok (.laload, 1) := by decide +kernel
theorem dL_law_2022 : decode cL_law 2022 = .ok (.iload 6, 2) := by decide +kernel
theorem dL_law_2024 : decode cL_law 2024 = .ok (.i2l, 1) := by decide +kernel
theorem dL_law_2025 : decode cL_law 2025 = .ok (.lcmp, 1) := by decide +kernel
theorem dL_law_2026 : decode cL_law 2026 = .ok (.ifCond .eq 5, 3) := by decide +kernel
theorem dL_law_2029 : decode cL_law 2029 = .ok (.iconst 0, 1) := by decide +kernel
theorem dL_law_2030 : decode cL_law 2030 = .ok (.ireturn, 1) := by decide +kernel
theorem dL_law_2031 : decode cL_law 2031 = .ok (.goto 420, 3) := by decide +kernel
theorem dL_law_2034 : decode cL_law 2034 = .ok (.aload_n 1, 1) := by decide +kernel
theorem dL_law_2035 : decode cL_law 2035 = .ok (.aload_n 0, 1) := by decide +kernel
theorem dL_law_2036 : decode cL_law 2036 = .ok (.iload 4, 2) := by decide +kernel
theorem dL_law_2038 : decode cL_law 2038 = .ok (.iconst 1, 1) := by decide +kernel
theorem dL_law_2039 : decode cL_law 2039 = .ok (.iadd, 1) := by decide +kernel
theorem dL_law_2040 : decode cL_law 2040 = .ok (.iaload, 1) := by decide +kernel
theorem dL_law_2041 : decode cL_law 2041 = .ok (.aload_n 3, 1) := by decide +kernel
theorem dL_law_2042 : decode cL_law 2042 = .ok (.invokestatic 276, 3) := by decide +kernel
theorem dL_law_2045 : decode cL_law 2045 = .ok (.istore 5, 2) := by decide +kernel
theorem dL_law_2047 : decode cL_law 2047 = .ok (.aload_n 2, 1) := by decide +kernel
theorem dL_law_2048 : decode cL_law 2048 = .ok (.aload_n 0, 1) := by decide +kernel
theorem dL_law_2049 : decode cL_law 2049 = .ok (.iload 4, 2) := by decide +kernel
theorem dL_law_2051 : decode cL_law 2051 = .ok (.iconst 1, 1) := by decide +kernel
theorem dL_law_2052 : decode cL_law 2052 = .ok (.iadd, 1) := by decide +kernel
theorem dL_law_2053 : decode cL_law 2053 = .ok (.iaload, 1) := by decide +kernel
theorem dL_law_2054 : decode cL_law 2054 = .ok (.invokevirtual 278, 3) := by decide +kernel
theorem dL_law_2057 : decode cL_law 2057 = .ok (.istore 6, 2) := by decide +kernel
theorem dL_law_2059 : decode cL_law 2059 = .ok (.aload_n 2, 1) := by decide +kernel
theorem dL_law_2060 : decode cL_law 2060 = .ok (.invokevirtual 122, 3) := by decide +kernel
theorem dL_law_2063 : decode cL_law 2063 = .ok (.iload 5, 2) := by decide +kernel
theorem dL_law_2065 : decode cL_law 2065 = .ok (.if_icmp .eq 5, 3) := by decide +kernel
theorem dL_law_2068 : decode cL_law 2068 = .ok (.iconst 0, 1) := by decide +kernel
theorem dL_law_2069 : decode cL_law 2069 = .ok (.ireturn, 1) := by decide +kernel
theorem dL_law_2070 : decode cL_law 2070 = .ok (.iload 5, 2) := by decide +kernel
theorem dL_law_2072 : decode cL_law 2072 = .ok (.ifCond .ne 15, 3) := by decide +kernel
theorem dL_law_2075 : decode cL_law 2075 = .ok (.aload_n 3, 1) := by decide +kernel
theorem dL_law_2076 : decode cL_law 2076 = .ok (.iconst 0, 1) := by decide +kernel
theorem dL_law_2077 : decode cL_law 2077 = .ok (.laload, 1) := by decide +kernel
theorem dL_law_2078 : decode cL_law 2078 = .ok (.iload 6, 2) := by decide +kernel
theorem dL_law_2080 : decode cL_law 2080 = .ok (.i2l, 1) := by decide +kernel
theorem dL_law_2081 : decode cL_law 2081 = .ok (.lcmp, 1) := by decide +kernel
theorem dL_law_2082 : decode cL_law 2082 = .ok (.ifCond .eq 5, 3) := by decide +kernel
theorem dL_law_2085 : decode cL_law 2085 = .ok (.iconst 0, 1) := by decide +kernel
theorem dL_law_2086 : decode cL_law 2086 = .ok (.ireturn, 1) := by decide +kernel
theorem dL_law_2087 : decode cL_law 2087 = .ok (.goto 364, 3) := by decide +kernel
theorem dL_law_2090 : decode cL_law 2090 = .ok (.aload_n 1, 1) := by decide +kernel
theorem dL_law_2091 : decode cL_law 2091 = .ok (.invokevirtual 279, 3) := by decide +kernel
theorem dL_law_2094 : decode cL_law 2094 = .ok (.aload_n 2, 1) := by decide +kernel
theorem dL_law_2095 : decode cL_law 2095 = .ok (.invokevirtual 282, 3) := by decide +kernel
theorem dL_law_2098 : decode cL_law 2098 = .ok (.if_icmp .eq 353, 3) := by decide +kernel
theorem dL_law_2101 : decode cL_law 2101 = .ok (.iconst 0, 1) := by decide +kernel
theorem dL_law_2102 : decode cL_law 2102 = .ok (.ireturn, 1) := by decide +kernel
theorem dL_law_2103 : decode cL_law 2103 = .ok (.aload_n 1, 1) := by decide +kernel
theorem dL_law_2104 : decode cL_law 2104 = .ok (.aload_n 0, 1) := by decide +kernel
theorem dL_law_2105 : decode cL_law 2105 = .ok (.iload 4, 2) := by decide +kernel
theorem dL_law_2107 : decode cL_law 2107 = .ok (.iconst 1, 1) := by decide +kernel
theorem dL_law_2108 : decode cL_law 2108 = .ok (.iadd, 1) := by decide +kernel
theorem dL_law_2109 : decode cL_law 2109 = .ok (.iaload, 1) := by decide +kernel
theorem dL_law_2110 : decode cL_law 2110 = .ok (.aload_n 3, 1) := by decide +kernel
theorem dL_law_2111 : decode cL_law 2111 = .ok (.invokestatic 283, 3) := by decide +kernel
theorem dL_law_2114 : decode cL_law 2114 = .ok (.istore 5, 2) := by decide +kernel
theorem dL_law_2116 : decode cL_law 2116 = .ok (.aload_n 2, 1) := by decide +kernel
theorem dL_law_2117 : decode cL_law 2117 = .ok (.aload_n 0, 1) := by decide +kernel
theorem dL_law_2118 : decode cL_law 2118 = .ok (.iload 4, 2) := by decide +kernel
theorem dL_law_2120 : decode cL_law 2120 = .ok (.iconst 1, 1) := by decide +kernel
theorem dL_law_2121 : decode cL_law 2121 = .ok (.iadd, 1) := by decide +kernel
theorem dL_law_2122 : decode cL_law 2122 = .ok (.iaload, 1) := by decide +kernel
theorem dL_law_2123 : decode cL_law 2123 = .ok (.invokevirtual 285, 3) := by decide +kernel
theorem dL_law_2126 : decode cL_law 2126 = .ok (.istore 6, 2) := by decide +kernel
theorem dL_law_2128 : decode cL_law 2128 = .ok (.aload_n 2, 1) := by decide +kernel
theorem dL_law_2129 : decode cL_law 2129 = .ok (.invokevirtual 122, 3) := by decide +kernel
theorem dL_law_2132 : decode cL_law 2132 = .ok (.iload 5, 2) := by decide +kernel
theorem dL_law_2134 : decode cL_law 2134 = .ok (.if_icmp .eq 5, 3) := by decide +kernel
theorem dL_law_2137 : decode cL_law 2137 = .ok (.iconst 0, 1) := by decide +kernel
theorem dL_law_2138 : decode cL_law 2138 = .ok (.ireturn, 1) := by decide +kernel
theorem dL_law_2139 : decode cL_law 2139 = .ok (.iload 5, 2) := by decide +kernel
theorem dL_law_2141 : decode cL_law 2141 = .ok (.ifCond .ne 15, 3) := by decide +kernel
theorem dL_law_2144 : decode cL_law 2144 = .ok (.aload_n 3, 1) := by decide +kernel
theorem dL_law_2145 : decode cL_law 2145 = .ok (.iconst 0, 1) := by decide +kernel
theorem dL_law_2146 : decode cL_law 2146 = .ok (.laload, 1) := by decide +kernel
theorem dL_law_2147 : decode cL_law 2147 = .ok (.iload 6, 2) := by decide +kernel
theorem dL_law_2149 : decode cL_law 2149 = .ok (.i2l, 1) := by decide +kernel
theorem dL_law_2150 : decode cL_law 2150 = .ok (.lcmp, 1) := by decide +kernel
theorem dL_law_2151 : decode cL_law 2151 = .ok (.ifCond .eq 5, 3) := by decide +kernel
theorem dL_law_2154 : decode cL_law 2154 = .ok (.iconst 0, 1) := by decide +kernel
theorem dL_law_2155 : decode cL_law 2155 = .ok (.ireturn, 1) := by decide +kernel
theorem dL_law_2156 : decode cL_law 2156 = .ok (.goto 295, 3) := by decide +kernel
theorem dL_law_2159 : decode cL_law 2159 = .ok (.aload_n 1, 1) := by decide +kernel
theorem dL_law_2160 : decode cL_law 2160 = .ok (.invokevirtual 286, 3) := by decide +kernel
theorem dL_law_2163 : decode cL_law 2163 = .ok (.aload_n 2, 1) := by decide +kernel
theorem dL_law_2164 : decode cL_law 2164 = .ok (.invokevirtual 289, 3) := by decide +kernel
theorem dL_law_2167 : decode cL_law 2167 = .ok (.if_icmp .eq 284, 3) := by decide +kernel
theorem dL_law_2170 : decode cL_law 2170 = .ok (.iconst 0, 1) := by decide +kernel
theorem dL_law_2171 : decode cL_law 2171 = .ok (.ireturn, 1) := by decide +kernel
theorem dL_law_2172 : decode cL_law 2172 = .ok (.aload_n 1, 1) := by decide +kernel
theorem dL_law_2173 : decode cL_law 2173 = .ok (.aload_n 0, 1) := by decide +kernel
theorem dL_law_2174 : decode cL_law 2174 = .ok (.iload 4, 2) := by decide +kernel
theorem dL_law_2176 : decode cL_law 2176 = .ok (.iconst 1, 1) := by decide +kernel
theorem dL_law_2177 : decode cL_law 2177 = .ok (.iadd, 1) := by decide +kernel
theorem dL_law_2178 : decode cL_law 2178 = .ok (.iaload, 1) := by decide +kernel
theorem dL_law_2179 : decode cL_law 2179 = .ok (.aload_n 3, 1) := by decide +kernel
theorem dL_law_2180 : decode cL_law 2180 = .ok (.invokestatic 290, 3) := by decide +kernel
theorem dL_law_2183 : decode cL_law 2183 = .ok (.istore 5, 2) := by decide +kernel
theorem dL_law_2185 : decode cL_law 2185 = .ok (.aload_n 2, 1) := by decide +kernel
theorem dL_law_2186 : decode cL_law 2186 = .ok (.aload_n 0, 1) := by decide +kernel
theorem dL_law_2187 : decode cL_law 2187 = .ok (.iload 4, 2) := by decide +kernel
theorem dL_law_2189 : decode cL_law 2189 = .ok (.iconst 1, 1) := by decide +kernel
theorem dL_law_2190 : decode cL_law 2190 = .ok (.iadd, 1) := by decide +kernel
theorem dL_law_2191 : decode cL_law 2191 = .ok (.iaload, 1) := by decide +kernel
theorem dL_law_2192 : decode cL_law 2192 = .ok (.invokevirtual 292, 3) := by decide +kernel
theorem dL_law_2195 : decode cL_law 2195 = .ok (.istore 6, 2) := by decide +kernel
theorem dL_law_2197 : decode cL_law 2197 = .ok (.aload_n 2, 1) := by decide +kernel
theorem dL_law_2198 : decode cL_law 2198 = .ok (.invokevirtual 122, 3) := by decide +kernel
theorem dL_law_2201 : decode cL_law 2201 = .ok (.iload 5, 2) := by decide +kernel
theorem dL_law_2203 : decode cL_law 2203 = .ok (.if_icmp .eq 5, 3) := by decide +kernel
theorem dL_law_2206 : decode cL_law 2206 = .ok (.iconst 0, 1) := by decide +kernel
theorem dL_law_2207 : decode cL_law 2207 = .ok (.ireturn, 1) := by decide +kernel
theorem dL_law_2208 : decode cL_law 2208 = .ok (.iload 5, 2) := by decide +kernel
theorem dL_law_2210 : decode cL_law 2210 = .ok (.ifCond .ne 15, 3) := by decide +kernel
theorem dL_law_2213 : decode cL_law 2213 = .ok (.aload_n 3, 1) := by decide +kernel
theorem dL_law_2214 : decode cL_law 2214 = .ok (.iconst 0, 1) := by decide +kernel
theorem dL_law_2215 : decode cL_law 2215 = .ok (.laload, 1) := by decide +kernel
theorem dL_law_2216 : decode cL_law 2216 = .ok (.iload 6, 2) := by decide +kernel
theorem dL_law_2218 : decode cL_law 2218 = .ok (.i2l, 1) := by decide +kernel
theorem dL_law_2219 : decode cL_law 2219 = .ok (.lcmp, 1) := by decide +kernel
theorem dL_law_2220 : decode cL_law 2220 = .ok (.ifCond .eq 5, 3) := by decide +kernel
theorem dL_law_2223 : decode cL_law 2223 = .ok (.iconst 0, 1) := by decide +kernel
theorem dL_law_2224 : decode cL_law 2224 = .ok (.ireturn, 1) := by decide +kernel
theorem dL_law_2225 : decode cL_law 2225 = .ok (.goto 226, 3) := by decide +kernel
theorem dL_law_2228 : decode cL_law 2228 = .ok (.aload_n 1, 1) := by decide +kernel
theorem dL_law_2229 : decode cL_law 2229 = .ok (.aload_n 0, 1) := by decide +kernel
theorem dL_law_2230 : decode cL_law 2230 = .ok (.iload 4, 2) := by decide +kernel
theorem dL_law_2232 : decode cL_law 2232 = .ok (.iconst 1, 1) := by decide +kernel
theorem dL_law_2233 : decode cL_law 2233 = .ok (.iadd, 1) := by decide +kernel
theorem dL_law_2234 : decode cL_law 2234 = .ok (.iaload, 1) := by decide +kernel
theorem dL_law_2235 : decode cL_law 2235 = .ok (.aload_n 3, 1) := by decide +kernel
theorem dL_law_2236 : decode cL_law 2236 = .ok (.invokestatic 293, 3) := by decide +kernel
theorem dL_law_2239 : decode cL_law 2239 = .ok (.istore 5, 2) := by decide +kernel
theorem dL_law_2241 : decode cL_law 2241 = .ok (.aload_n 2, 1) := by decide +kernel
theorem dL_law_2242 : decode cL_law 2242 = .ok (.aload_n 0, 1) := by decide +kernel
theorem dL_law_2243 : decode cL_law 2243 = .ok (.iload 4, 2) := by decide +kernel
theorem dL_law_2245 : decode cL_law 2245 = .ok (.iconst 1, 1) := by decide +kernel
theorem dL_law_2246 : decode cL_law 2246 = .ok (.iadd, 1) := by decide +kernel
theorem dL_law_2247 : decode cL_law 2247 = .ok (.iaload, 1) := by decide +kernel
theorem dL_law_2248 : decode cL_law 2248 = .ok (.invokevirtual 295, 3) := by decide +kernel
theorem dL_law_2251 : decode cL_law 2251 = .ok (.istore 6, 2) := by decide +kernel
theorem dL_law_2253 : decode cL_law 2253 = .ok (.aload_n 2, 1) := by decide +kernel
theorem dL_law_2254 : decode cL_law 2254 = .ok (.invokevirtual 122, 3) := by decide +kernel
theorem dL_law_2257 : decode cL_law 2257 = .ok (.iload 5, 2) := by decide +kernel
theorem dL_law_2259 : decode cL_law 2259 = .ok (.if_icmp .eq 5, 3) := by decide +kernel
theorem dL_law_2262 : decode cL_law 2262 = .ok (.iconst 0, 1) := by decide +kernel
theorem dL_law_2263 : decode cL_law 2263 = .ok (.ireturn, 1) := by decide +kernel
theorem dL_law_2264 : decode cL_law 2264 = .ok (.iload 5, 2) := by decide +kernel
theorem dL_law_2266 : decode cL_law 2266 = .ok (.ifCond .ne 15, 3) := by decide +kernel
theorem dL_law_2269 : decode cL_law 2269 = .ok (.aload_n 3, 1) := by decide +kernel
theorem dL_law_2270 : decode cL_law 2270 = .ok (.iconst 0, 1) := by decide +kernel
theorem dL_law_2271 : decode cL_law 2271 = .ok (.laload, 1) := by decide +kernel
theorem dL_law_2272 : decode cL_law 2272 = .ok (.iload 6, 2) := by decide +kernel
theorem dL_law_2274 : decode cL_law 2274 = .ok (.i2l, 1) := by decide +kernel
theorem dL_law_2275 : decode cL_law 2275 = .ok (.lcmp, 1) := by decide +kernel
theorem dL_law_2276 : decode cL_law 2276 = .ok (.ifCond .eq 5, 3) := by decide +kernel
theorem dL_law_2279 : decode cL_law 2279 = .ok (.iconst 0, 1) := by decide +kernel
theorem dL_law_2280 : decode cL_law 2280 = .ok (.ireturn, 1) := by decide +kernel
theorem dL_law_2281 : decode cL_law 2281 = .ok (.goto 170, 3) := by decide +kernel
theorem dL_law_2284 : decode cL_law 2284 = .ok (.aload_n 1, 1) := by decide +kernel
theorem dL_law_2285 : decode cL_law 2285 = .ok (.aload_n 0, 1) := by decide +kernel
theorem dL_law_2286 : decode cL_law 2286 = .ok (.iload 4, 2) := by decide +kernel
theorem dL_law_2288 : decode cL_law 2288 = .ok (.iconst 1, 1) := by decide +kernel
theorem dL_law_2289 : decode cL_law 2289 = .ok (.iadd, 1) := by decide +kernel
theorem dL_law_2290 : decode cL_law 2290 = .ok (.iaload, 1) := by decide +kernel
theorem dL_law_2291 : decode cL_law 2291 = .ok (.aload_n 3, 1) := by decide +kernel
theorem dL_law_2292 : decode cL_law 2292 = .ok (.invokestatic 296, 3) := by decide +kernel
theorem dL_law_2295 : decode cL_law 2295 = .ok (.istore 5, 2) := by decide +kernel
theorem dL_law_2297 : decode cL_law 2297 = .ok (.aload_n 2, 1) := by decide +kernel
theorem dL_law_2298 : decode cL_law 2298 = .ok (.aload_n 0, 1) := by decide +kernel
theorem dL_law_2299 : decode cL_law 2299 = .ok (.iload 4, 2) := by decide +kernel
theorem dL_law_2301 : decode cL_law 2301 = .ok (.iconst 1, 1) := by decide +kernel
theorem dL_law_2302 : decode cL_law 2302 = .ok (.iadd, 1) := by decide +kernel
theorem dL_law_2303 : decode cL_law 2303 = .ok (.iaload, 1) := by decide +kernel
theorem dL_law_2304 : decode cL_law 2304 = .ok (.invokevirtual 298, 3) := by decide +kernel
theorem dL_law_2307 : decode cL_law 2307 = .ok (.istore 6, 2) := by decide +kernel
theorem dL_law_2309 : decode cL_law 2309 = .ok (.aload_n 2, 1) := by decide +kernel
theorem dL_law_2310 : decode cL_law 2310 = .ok (.invokevirtual 122, 3) := by decide +kernel
theorem dL_law_2313 : decode cL_law 2313 = .ok (.iload 5, 2) := by decide +kernel
theorem dL_law_2315 : decode cL_law 2315 = .ok (.if_icmp .eq 5, 3) := by decide +kernel
theorem dL_law_2318 : decode cL_law 2318 = .ok (.iconst 0, 1) := by decide +kernel
theorem dL_law_2319 : decode cL_law 2319 = .ok (.ireturn, 1) := by decide +kernel
theorem dL_law_2320 : decode cL_law 2320 = .ok (.iload 5, 2) := by decide +kernel
theorem dL_law_2322 : decode cL_law 2322 = .ok (.ifCond .ne 15, 3) := by decide +kernel
theorem dL_law_2325 : decode cL_law 2325 = .ok (.aload_n 3, 1) := by decide +kernel
theorem dL_law_2326 : decode cL_law 2326 = .ok (.iconst 0, 1) := by decide +kernel
theorem dL_law_2327 : decode cL_law 2327 = .ok (.laload, 1) := by decide +kernel
theorem dL_law_2328 : decode cL_law 2328 = .ok (.iload 6, 2) := by decide +kernel
theorem dL_law_2330 : decode cL_law 2330 = .ok (.i2l, 1) := by decide +kernel
theorem dL_law_2331 : decode cL_law 2331 = .ok (.lcmp, 1) := by decide +kernel
theorem dL_law_2332 : decode cL_law 2332 = .ok (.ifCond .eq 5, 3) := by decide +kernel
theorem dL_law_2335 : decode cL_law 2335 = .ok (.iconst 0, 1) := by decide +kernel
theorem dL_law_2336 : decode cL_law 2336 = .ok (.ireturn, 1) := by decide +kernel
theorem dL_law_2337 : decode cL_law 2337 = .ok (.goto 114, 3) := by decide +kernel
theorem dL_law_2340 : decode cL_law 2340 = .ok (.aload_n 1, 1) := by decide +kernel
theorem dL_law_2341 : decode cL_law 2341 = .ok (.aload_n 0, 1) := by decide +kernel
theorem dL_law_2342 : decode cL_law 2342 = .ok (.iload 4, 2) := by decide +kernel
theorem dL_law_2344 : decode cL_law 2344 = .ok (.iconst 1, 1) := by decide +kernel
theorem dL_law_2345 : decode cL_law 2345 = .ok (.iadd, 1) := by decide +kernel
theorem dL_law_2346 : decode cL_law 2346 = .ok (.iaload, 1) := by decide +kernel
theorem dL_law_2347 : decode cL_law 2347 = .ok (.aload_n 3, 1) := by decide +kernel
theorem dL_law_2348 : decode cL_law 2348 = .ok (.invokestatic 299, 3) := by decide +kernel
theorem dL_law_2351 : decode cL_law 2351 = .ok (.istore 5, 2) := by decide +kernel
theorem dL_law_2353 : decode cL_law 2353 = .ok (.aload_n 2, 1) := by decide +kernel
theorem dL_law_2354 : decode cL_law 2354 = .ok (.aload_n 0, 1) := by decide +kernel
theorem dL_law_2355 : decode cL_law 2355 = .ok (.iload 4, 2) := by decide +kernel
theorem dL_law_2357 : decode cL_law 2357 = .ok (.iconst 1, 1) := by decide +kernel
theorem dL_law_2358 : decode cL_law 2358 = .ok (.iadd, 1) := by decide +kernel
theorem dL_law_2359 : decode cL_law 2359 = .ok (.iaload, 1) := by decide +kernel
theorem dL_law_2360 : decode cL_law 2360 = .ok (.invokevirtual 301, 3) := by decide +kernel
theorem dL_law_2363 : decode cL_law 2363 = .ok (.istore 6, 2) := by decide +kernel
theorem dL_law_2365 : decode cL_law 2365 = .ok (.aload_n 2, 1) := by decide +kernel
theorem dL_law_2366 : decode cL_law 2366 = .ok (.invokevirtual 122, 3) := by decide +kernel
theorem dL_law_2369 : decode cL_law 2369 = .ok (.iload 5, 2) := by decide +kernel
theorem dL_law_2371 : decode cL_law 2371 = .ok (.if_icmp .eq 5, 3) := by decide +kernel
theorem dL_law_2374 : decode cL_law 2374 = .ok (.iconst 0, 1) := by decide +kernel
theorem dL_law_2375 : decode cL_law 2375 = .ok (.ireturn, 1) := by decide +kernel
theorem dL_law_2376 : decode cL_law 2376 = .ok (.iload 5, 2) := by decide +kernel
theorem dL_law_2378 : decode cL_law 2378 = .ok (.ifCond .ne 15, 3) := by decide +kernel
theorem dL_law_2381 : decode cL_law 2381 = .ok (.aload_n 3, 1) := by decide +kernel
theorem dL_law_2382 : decode cL_law 2382 = .ok (.iconst 0, 1) := by decide +kernel
theorem dL_law_2383 : decode cL_law 2383 = .ok (.laload, 1) := by decide +kernel
theorem dL_law_2384 : decode cL_law 2384 = .ok (.iload 6, 2) := by decide +kernel
theorem dL_law_2386 : decode cL_law 2386 = .ok (.i2l, 1) := by decide +kernel
theorem dL_law_2387 : decode cL_law 2387 = .ok (.lcmp, 1) := by decide +kernel
theorem dL_law_2388 : decode cL_law 2388 = .ok (.ifCond .eq 5, 3) := by decide +kernel
theorem dL_law_2391 : decode cL_law 2391 = .ok (.iconst 0, 1) := by decide +kernel
theorem dL_law_2392 : decode cL_law 2392 = .ok (.ireturn, 1) := by decide +kernel
theorem dL_law_2393 : decode cL_law 2393 = .ok (.goto 58, 3) := by decide +kernel
theorem dL_law_2396 : decode cL_law 2396 = .ok (.aload_n 1, 1) := by decide +kernel
theorem dL_law_2397 : decode cL_law 2397 = .ok (.invokevirtual 302, 3) := by decide +kernel
theorem dL_law_2400 : decode cL_law 2400 = .ok (.dstore 5, 2) := by decide +kernel
theorem dL_law_2402 : decode cL_law 2402 = .ok (.aload_n 2, 1) := by decide +kernel
theorem dL_law_2403 : decode cL_law 2403 = .ok (.invokevirtual 306, 3) := by decide +kernel
theorem dL_law_2406 : decode cL_law 2406 = .ok (.dstore 7, 2) := by decide +kernel
theorem dL_law_2408 : decode cL_law 2408 = .ok (.dload 5, 2) := by decide +kernel
theorem dL_law_2410 : decode cL_law 2410 = .ok (.dload 7, 2) := by decide +kernel
theorem dL_law_2412 : decode cL_law 2412 = .ok (.dcmp .l, 1) := by decide +kernel
theorem dL_law_2413 : decode cL_law 2413 = .ok (.ifCond .eq 21, 3) := by decide +kernel
theorem dL_law_2416 : decode cL_law 2416 = .ok (.dload 5, 2) := by decide +kernel
theorem dL_law_2418 : decode cL_law 2418 = .ok (.dload 5, 2) := by decide +kernel
theorem dL_law_2420 : decode cL_law 2420 = .ok (.dcmp .l, 1) := by decide +kernel
theorem dL_law_2421 : decode cL_law 2421 = .ok (.ifCond .eq 11, 3) := by decide +kernel
theorem dL_law_2424 : decode cL_law 2424 = .ok (.dload 7, 2) := by decide +kernel
theorem dL_law_2426 : decode cL_law 2426 = .ok (.dload 7, 2) := by decide +kernel
theorem dL_law_2428 : decode cL_law 2428 = .ok (.dcmp .l, 1) := by decide +kernel
theorem dL_law_2429 : decode cL_law 2429 = .ok (.ifCond .ne 5, 3) := by decide +kernel
theorem dL_law_2432 : decode cL_law 2432 = .ok (.iconst 0, 1) := by decide +kernel
theorem dL_law_2433 : decode cL_law 2433 = .ok (.ireturn, 1) := by decide +kernel
theorem dL_law_2434 : decode cL_law 2434 = .ok (.goto 17, 3) := by decide +kernel
theorem dL_law_2437 : decode cL_law 2437 = .ok (.aload_n 1, 1) := by decide +kernel
theorem dL_law_2438 : decode cL_law 2438 = .ok (.invokevirtual 307, 3) := by decide +kernel
theorem dL_law_2441 : decode cL_law 2441 = .ok (.aload_n 2, 1) := by decide +kernel
theorem dL_law_2442 : decode cL_law 2442 = .ok (.invokevirtual 311, 3) := by decide +kernel
theorem dL_law_2445 : decode cL_law 2445 = .ok (.lcmp, 1) := by decide +kernel
theorem dL_law_2446 : decode cL_law 2446 = .ok (.ifCond .eq 5, 3) := by decide +kernel
theorem dL_law_2449 : decode cL_law 2449 = .ok (.iconst 0, 1) := by decide +kernel
theorem dL_law_2450 : decode cL_law 2450 = .ok (.ireturn, 1) := by decide +kernel
theorem dL_law_2451 : decode cL_law 2451 = .ok (.iinc 4 4, 3) := by decide +kernel
theorem dL_law_2454 : decode cL_law 2454 = .ok (.goto (-2431), 3) := by decide +kernel
theorem dL_law_2457 : decode cL_law 2457 = .ok (.iconst 1, 1) := by decide +kernel
theorem dL_law_2458 : decode cL_law 2458 = .ok (.ireturn, 1) := by decide +kernel
end
section
/-! every word of the tables that any state keeps: one list for all methods (lw_all); its words by name -/
def lw_all : List Cond := lw_tbl.filter goodWord
theorem lw_all_tbl : ∀ w ∈ lw_all, w ∈ lw_tbl := fun _ h => (List.mem_filter.mp h).1
theorem lw_good : ∀ w ∈ lw_all, goodWord w = true := fun _ h => (List.mem_filter.mp h).2
theorem lw_mem {w : Cond} (h : w ∈ lw_tbl) (g : goodWord w = true) : w ∈ lw_all := List.mem_filter.mpr ⟨h, g⟩
theorem mt_0 : ∀ w ∈ k2_sels lw_privs, w ∈ lw_tbl := fun _ h => List.mem_append_left _ h
theorem mt_1 : ∀ w ∈ tables_1_1, w ∈ lw_tbl := fun _ h => List.mem_append_right _ (List.mem_append_left _ h)
theorem mt_2 : ∀ w ∈ tables_1_2, w ∈ lw_tbl := fun _ h => List.mem_append_right _ (List.mem_append_right _ (List.mem_append_left _ h))
theorem mt_3 : ∀ w ∈ tables_1_3, w ∈ lw_tbl := fun _ h => List.mem_append_right _ (List.mem_append_right _ (List.mem_append_right _ (List.mem_append_left _ h)))
theorem mt_4 : ∀ w ∈ tables_1_4, w ∈ lw_tbl := fun _ h => List.mem_append_right _ (List.mem_append_right _ (List.mem_append_right _ (List.mem_append_right _ (List.mem_append_left _ h))))
theorem mt_5 : ∀ w ∈ tables_1_5, w ∈ lw_tbl := fun _ h => List.mem_append_right _ (List.mem_append_right _ (List.mem_append_right _ (List.mem_append_right _ (List.mem_append_right _ (List.mem_append_left _ h)))))
theorem mt_6 : ∀ w ∈ tables_1_6, w ∈ lw_tbl := fun _ h => List.mem_append_right _ (List.mem_append_right _ (List.mem_append_right _ (List.mem_append_right _ (List.mem_append_right _ (List.mem_append_right _ (h))))))
theorem qk_L_8 : Cond.classLink RL 8 RX4 ∈ lw_all := lw_mem (mt_1 _ (List.mem_of_getElem? (i := 15) rfl)) rfl
theorem qa_X4 : Cond.instantiable RX4 5 ∈ lw_all := lw_mem (mt_1 _ (List.mem_of_getElem? (i := 16) rfl)) rfl
theorem qn_X4 : Cond.initialized RX4 ∈ lw_all := lw_mem (mt_1 _ (List.mem_of_getElem? (i := 1) rfl)) rfl
theorem qk_L_113 : Cond.classLink RL 113 RX5 ∈ lw_all := lw_mem (mt_4 _ (List.mem_of_getElem? (i := 131) rfl)) rfl
theorem qa_X5 : Cond.instantiable RX5 18 ∈ lw_all := lw_mem (mt_4 _ (List.mem_of_getElem? (i := 132) rfl)) rfl
theorem qn_X5 : Cond.initialized RX5 ∈ lw_all := lw_mem (mt_1 _ (List.mem_of_getElem? (i := 6) rfl)) rfl
theorem qy_long : Cond.arrayClass .long ∈ lw_all := lw_mem (mt_6 _ (List.mem_of_getElem? (i := 91) rfl)) rfl
theorem qm_L_112 : Cond.methodLink RL 112 yX4_init ∈ lw_all := lw_mem (mt_1 _ (List.mem_of_getElem? (i := 17) rfl)) rfl
theorem qi_X4_init : Cond.instanceMethod yX4_init ∈ lw_all := lw_mem (mt_1 _ (List.mem_of_getElem? (i := 18) rfl)) rfl
theorem qc_X4_init : Cond.code yX4_init cX4_init 1 none ∈ lw_all := lw_mem (mt_1 _ (List.mem_of_getElem? (i := 19) rfl)) rfl
theorem qm_X4_3 : Cond.methodLink RX4 3 objectInit ∈ lw_all := lw_mem (mt_1 _ (List.mem_of_getElem? (i := 20) rfl)) rfl
theorem qi_objectInit : Cond.instanceMethod objectInit ∈ lw_all := lw_mem (mt_1 _ (List.mem_of_getElem? (i := 21) rfl)) rfl
theorem qc_objectInit : Cond.code objectInit ⟨#[0xb1]⟩ 1 none ∈ lw_all := lw_mem (mt_1 _ (List.mem_of_getElem? (i := 22) rfl)) rfl
theorem qk_X4_9 : Cond.classLink RX4 9 RX1 ∈ lw_all := lw_mem (mt_1 _ (List.mem_of_getElem? (i := 23) rfl)) rfl
theorem qa_X1 : Cond.instantiable RX1 7 ∈ lw_all := lw_mem (mt_1 _ (List.mem_of_getElem? (i := 24) rfl)) rfl
theorem qn_X1 : Cond.initialized RX1 ∈ lw_all := lw_mem (mt_1 _ (List.mem_of_getElem? (i := 2) rfl)) rfl
theorem qf_X4_12 : Cond.fieldLink RX4 12 "LiftNovel" "house" "LLiftNovel$House;" ∈ lw_all := lw_mem (mt_1 _ (List.mem_of_getElem? (i := 168) rfl)) rfl
theorem qk_X4_16 : Cond.classLink RX4 16 RX0 ∈ lw_all := lw_mem (mt_1 _ (List.mem_of_getElem? (i := 62) rfl)) rfl
theorem qa_X0 : Cond.instantiable RX0 14 ∈ lw_all := lw_mem (mt_1 _ (List.mem_of_getElem? (i := 63) rfl)) rfl
theorem qn_X0 : Cond.initialized RX0 ∈ lw_all := lw_mem (mt_1 _ (List.mem_of_getElem? (i := 3) rfl)) rfl
theorem qf_X4_21 : Cond.fieldLink RX4 21 "LiftNovel" "now" "LLiftNovel$Course;" ∈ lw_all := lw_mem (mt_1 _ (List.mem_of_getElem? (i := 169) rfl)) rfl
theorem qf_X4_25 : Cond.fieldLink RX4 25 "LiftNovel" "trial" "LLiftNovel$Course;" ∈ lw_all := lw_mem (mt_1 _ (List.mem_of_getElem? (i := 170) rfl)) rfl
theorem qk_X4_28 : Cond.classLink RX4 28 RX2 ∈ lw_all := lw_mem (mt_1 _ (List.mem_of_getElem? (i := 124) rfl)) rfl
theorem qa_X2 : Cond.instantiable RX2 5 ∈ lw_all := lw_mem (mt_1 _ (List.mem_of_getElem? (i := 125) rfl)) rfl
theorem qn_X2 : Cond.initialized RX2 ∈ lw_all := lw_mem (mt_1 _ (List.mem_of_getElem? (i := 4) rfl)) rfl
theorem qf_X4_31 : Cond.fieldLink RX4 31 "LiftNovel" "told" "LLiftNovel$Instalments;" ∈ lw_all := lw_mem (mt_1 _ (List.mem_of_getElem? (i := 171) rfl)) rfl
theorem qk_X4_35 : Cond.classLink RX4 35 RX3 ∈ lw_all := lw_mem (mt_1 _ (List.mem_of_getElem? (i := 151) rfl)) rfl
theorem qa_X3 : Cond.instantiable RX3 3 ∈ lw_all := lw_mem (mt_1 _ (List.mem_of_getElem? (i := 152) rfl)) rfl
theorem qn_X3 : Cond.initialized RX3 ∈ lw_all := lw_mem (mt_1 _ (List.mem_of_getElem? (i := 5) rfl)) rfl
theorem qf_X4_38 : Cond.fieldLink RX4 38 "LiftNovel" "mirrored" "LLiftNovel$Mirrors;" ∈ lw_all := lw_mem (mt_1 _ (List.mem_of_getElem? (i := 172) rfl)) rfl
theorem qi_X1_init : Cond.instanceMethod yX1_init ∈ lw_all := lw_mem (mt_1 _ (List.mem_of_getElem? (i := 26) rfl)) rfl
theorem qc_X1_init : Cond.code yX1_init cX1_init 1 none ∈ lw_all := lw_mem (mt_1 _ (List.mem_of_getElem? (i := 27) rfl)) rfl
theorem qm_X1_3 : Cond.methodLink RX1 3 objectInit ∈ lw_all := lw_mem (mt_1 _ (List.mem_of_getElem? (i := 28) rfl)) rfl
theorem qf_X1_9 : Cond.fieldLink RX1 9 "LiftNovel$House" "floors" "I" ∈ lw_all := lw_mem (mt_1 _ (List.mem_of_getElem? (i := 29) rfl)) rfl
theorem qf_X1_15 : Cond.fieldLink RX1 15 "LiftNovel$House" "limit" "I" ∈ lw_all := lw_mem (mt_1 _ (List.mem_of_getElem? (i := 32) rfl)) rfl
theorem qf_X1_18 : Cond.fieldLink RX1 18 "LiftNovel$House" "readers" "I" ∈ lw_all := lw_mem (mt_1 _ (List.mem_of_getElem? (i := 35) rfl)) rfl
theorem qy_int : Cond.arrayClass .int ∈ lw_all := lw_mem (mt_1 _ (List.mem_of_getElem? (i := 61) rfl)) rfl
theorem qf_X1_21 : Cond.fieldLink RX1 21 "LiftNovel$House" "lengths" "[I" ∈ lw_all := lw_mem (mt_1 _ (List.mem_of_getElem? (i := 38) rfl)) rfl
theorem qf_X1_25 : Cond.fieldLink RX1 25 "LiftNovel$House" "topics" "[I" ∈ lw_all := lw_mem (mt_1 _ (List.mem_of_getElem? (i := 41) rfl)) rfl
theorem qf_X1_28 : Cond.fieldLink RX1 28 "LiftNovel$House" "thrills" "[I" ∈ lw_all := lw_mem (mt_1 _ (List.mem_of_getElem? (i := 42) rfl)) rfl
theorem qf_X1_31 : Cond.fieldLink RX1 31 "LiftNovel$House" "tastes" "[I" ∈ lw_all := lw_mem (mt_1 _ (List.mem_of_getElem? (i := 43) rfl)) rfl
theorem qm_X4_18 : Cond.methodLink RX4 18 yX0_init ∈ lw_all := lw_mem (mt_1 _ (List.mem_of_getElem? (i := 64) rfl)) rfl
theorem qi_X0_init : Cond.instanceMethod yX0_init ∈ lw_all := lw_mem (mt_1 _ (List.mem_of_getElem? (i := 65) rfl)) rfl
theorem qc_X0_init : Cond.code yX0_init cX0_init 2 none ∈ lw_all := lw_mem (mt_1 _ (List.mem_of_getElem? (i := 66) rfl)) rfl
theorem qm_X0_3 : Cond.methodLink RX0 3 objectInit ∈ lw_all := lw_mem (mt_1 _ (List.mem_of_getElem? (i := 67) rfl)) rfl
theorem qf_X0_9 : Cond.fieldLink RX0 9 "LiftNovel$Course" "hour" "I" ∈ lw_all := lw_mem (mt_1 _ (List.mem_of_getElem? (i := 69) rfl)) rfl
theorem qf_X0_15 : Cond.fieldLink RX0 15 "LiftNovel$Course" "at" "I" ∈ lw_all := lw_mem (mt_1 _ (List.mem_of_getElem? (i := 71) rfl)) rfl
theorem qf_X0_18 : Cond.fieldLink RX0 18 "LiftNovel$Course" "way" "I" ∈ lw_all := lw_mem (mt_1 _ (List.mem_of_getElem? (i := 73) rfl)) rfl
theorem qf_X0_21 : Cond.fieldLink RX0 21 "LiftNovel$Course" "stuck" "I" ∈ lw_all := lw_mem (mt_1 _ (List.mem_of_getElem? (i := 75) rfl)) rfl
theorem qf_X0_24 : Cond.fieldLink RX0 24 "LiftNovel$Course" "wear" "I" ∈ lw_all := lw_mem (mt_1 _ (List.mem_of_getElem? (i := 77) rfl)) rfl
theorem qf_X0_27 : Cond.fieldLink RX0 27 "LiftNovel$Course" "suspense" "I" ∈ lw_all := lw_mem (mt_1 _ (List.mem_of_getElem? (i := 79) rfl)) rfl
theorem qf_X0_30 : Cond.fieldLink RX0 30 "LiftNovel$Course" "lastThrill" "I" ∈ lw_all := lw_mem (mt_1 _ (List.mem_of_getElem? (i := 81) rfl)) rfl
theorem qy_boolean : Cond.arrayClass .boolean ∈ lw_all := lw_mem (mt_1 _ (List.mem_of_getElem? (i := 123) rfl)) rfl
theorem qf_X0_33 : Cond.fieldLink RX0 33 "LiftNovel$Course" "called" "[Z" ∈ lw_all := lw_mem (mt_1 _ (List.mem_of_getElem? (i := 82) rfl)) rfl
theorem qf_X0_37 : Cond.fieldLink RX0 37 "LiftNovel$Course" "next" "[I" ∈ lw_all := lw_mem (mt_1 _ (List.mem_of_getElem? (i := 84) rfl)) rfl
theorem qf_X0_41 : Cond.fieldLink RX0 41 "LiftNovel$Course" "cut" "[I" ∈ lw_all := lw_mem (mt_1 _ (List.mem_of_getElem? (i := 86) rfl)) rfl
theorem qf_X0_44 : Cond.fieldLink RX0 44 "LiftNovel$Course" "forbidden" "[Z" ∈ lw_all := lw_mem (mt_1 _ (List.mem_of_getElem? (i := 88) rfl)) rfl
theorem qf_X0_47 : Cond.fieldLink RX0 47 "LiftNovel$Course" "warmths" "[I" ∈ lw_all := lw_mem (mt_1 _ (List.mem_of_getElem? (i := 90) rfl)) rfl
theorem qf_X0_50 : Cond.fieldLink RX0 50 "LiftNovel$Course" "subscribed" "[Z" ∈ lw_all := lw_mem (mt_1 _ (List.mem_of_getElem? (i := 92) rfl)) rfl
theorem qf_X0_53 : Cond.fieldLink RX0 53 "LiftNovel$Course" "house" "LLiftNovel$House;" ∈ lw_all := lw_mem (mt_1 _ (List.mem_of_getElem? (i := 68) rfl)) rfl
theorem qi_X2_init : Cond.instanceMethod yX2_init ∈ lw_all := lw_mem (mt_1 _ (List.mem_of_getElem? (i := 127) rfl)) rfl
theorem qc_X2_init : Cond.code yX2_init cX2_init 1 none ∈ lw_all := lw_mem (mt_1 _ (List.mem_of_getElem? (i := 128) rfl)) rfl
theorem qm_X2_3 : Cond.methodLink RX2 3 objectInit ∈ lw_all := lw_mem (mt_1 _ (List.mem_of_getElem? (i := 129) rfl)) rfl
theorem qf_X2_9 : Cond.fieldLink RX2 9 "LiftNovel$Instalments" "count" "I" ∈ lw_all := lw_mem (mt_1 _ (List.mem_of_getElem? (i := 130) rfl)) rfl
theorem qf_X2_15 : Cond.fieldLink RX2 15 "LiftNovel$Instalments" "floors" "[I" ∈ lw_all := lw_mem (mt_1 _ (List.mem_of_getElem? (i := 132) rfl)) rfl
theorem qf_X2_19 : Cond.fieldLink RX2 19 "LiftNovel$Instalments" "paragraphs" "[I" ∈ lw_all := lw_mem (mt_1 _ (List.mem_of_getElem? (i := 134) rfl)) rfl
theorem qf_X2_22 : Cond.fieldLink RX2 22 "LiftNovel$Instalments" "thrills" "[I" ∈ lw_all := lw_mem (mt_1 _ (List.mem_of_getElem? (i := 136) rfl)) rfl
theorem qf_X2_25 : Cond.fieldLink RX2 25 "LiftNovel$Instalments" "hours" "[I" ∈ lw_all := lw_mem (mt_1 _ (List.mem_of_getElem? (i := 138) rfl)) rfl
theorem qi_X3_init : Cond.instanceMethod yX3_init ∈ lw_all := lw_mem (mt_1 _ (List.mem_of_getElem? (i := 154) rfl)) rfl
theorem qc_X3_init : Cond.code yX3_init cX3_init 1 none ∈ lw_all := lw_mem (mt_1 _ (List.mem_of_getElem? (i := 155) rfl)) rfl
theorem qm_X3_3 : Cond.methodLink RX3 3 objectInit ∈ lw_all := lw_mem (mt_1 _ (List.mem_of_getElem? (i := 156) rfl)) rfl
theorem qf_X3_9 : Cond.fieldLink RX3 9 "LiftNovel$Mirrors" "count" "I" ∈ lw_all := lw_mem (mt_1 _ (List.mem_of_getElem? (i := 157) rfl)) rfl
theorem qf_X3_15 : Cond.fieldLink RX3 15 "LiftNovel$Mirrors" "likes" "[I" ∈ lw_all := lw_mem (mt_1 _ (List.mem_of_getElem? (i := 159) rfl)) rfl
theorem qf_X3_19 : Cond.fieldLink RX3 19 "LiftNovel$Mirrors" "dislikes" "[I" ∈ lw_all := lw_mem (mt_1 _ (List.mem_of_getElem? (i := 160) rfl)) rfl
theorem qm_L_115 : Cond.methodLink RL 115 yX5_init ∈ lw_all := lw_mem (mt_4 _ (List.mem_of_getElem? (i := 133) rfl)) rfl
theorem qi_X5_init : Cond.instanceMethod yX5_init ∈ lw_all := lw_mem (mt_4 _ (List.mem_of_getElem? (i := 134) rfl)) rfl
theorem qc_X5_init : Cond.code yX5_init cX5_init 1 none ∈ lw_all := lw_mem (mt_4 _ (List.mem_of_getElem? (i := 135) rfl)) rfl
theorem qm_X5_1 : Cond.methodLink RX5 1 objectInit ∈ lw_all := lw_mem (mt_4 _ (List.mem_of_getElem? (i := 136) rfl)) rfl
theorem qf_X5_7 : Cond.fieldLink RX5 7 "LiftNovelModel" "floors" "I" ∈ lw_all := lw_mem (mt_4 _ (List.mem_of_getElem? (i := 138) rfl)) rfl
theorem qf_X5_13 : Cond.fieldLink RX5 13 "LiftNovelModel" "limit" "I" ∈ lw_all := lw_mem (mt_4 _ (List.mem_of_getElem? (i := 139) rfl)) rfl
theorem qf_X5_16 : Cond.fieldLink RX5 16 "LiftNovelModel" "paragraphs" "[I" ∈ lw_all := lw_mem (mt_4 _ (List.mem_of_getElem? (i := 141) rfl)) rfl
theorem qf_X5_20 : Cond.fieldLink RX5 20 "LiftNovelModel" "topic" "[I" ∈ lw_all := lw_mem (mt_4 _ (List.mem_of_getElem? (i := 142) rfl)) rfl
theorem qf_X5_23 : Cond.fieldLink RX5 23 "LiftNovelModel" "thrill" "[I" ∈ lw_all := lw_mem (mt_4 _ (List.mem_of_getElem? (i := 143) rfl)) rfl
theorem qf_X5_26 : Cond.fieldLink RX5 26 "LiftNovelModel" "taste" "[I" ∈ lw_all := lw_mem (mt_4 _ (List.mem_of_getElem? (i := 145) rfl)) rfl
theorem qf_X5_29 : Cond.fieldLink RX5 29 "LiftNovelModel" "likes" "[I" ∈ lw_all := lw_mem (mt_4 _ (List.mem_of_getElem? (i := 147) rfl)) rfl
theorem qf_X5_32 : Cond.fieldLink RX5 32 "LiftNovelModel" "dislikes" "[I" ∈ lw_all := lw_mem (mt_4 _ (List.mem_of_getElem? (i := 148) rfl)) rfl
theorem qf_X5_35 : Cond.fieldLink RX5 35 "LiftNovelModel" "told" "[I" ∈ lw_all := lw_mem (mt_4 _ (List.mem_of_getElem? (i := 149) rfl)) rfl
theorem qf_X5_38 : Cond.fieldLink RX5 38 "LiftNovelModel" "thrills" "[I" ∈ lw_all := lw_mem (mt_4 _ (List.mem_of_getElem? (i := 150) rfl)) rfl
theorem qf_X5_41 : Cond.fieldLink RX5 41 "LiftNovelModel" "hours" "[I" ∈ lw_all := lw_mem (mt_4 _ (List.mem_of_getElem? (i := 151) rfl)) rfl
theorem qf_X5_44 : Cond.fieldLink RX5 44 "LiftNovelModel" "now" "[I" ∈ lw_all := lw_mem (mt_4 _ (List.mem_of_getElem? (i := 152) rfl)) rfl
theorem qf_X5_47 : Cond.fieldLink RX5 47 "LiftNovelModel" "kept" "[I" ∈ lw_all := lw_mem (mt_4 _ (List.mem_of_getElem? (i := 153) rfl)) rfl
theorem qm_L_116 : Cond.methodLink RL 116 yL_begin ∈ lw_all := lw_mem (mt_3 _ (List.mem_of_getElem? (i := 158) rfl)) rfl
theorem qt_L_begin : Cond.static yL_begin ∈ lw_all := lw_mem (mt_3 _ (List.mem_of_getElem? (i := 159) rfl)) rfl
theorem qn_L : Cond.initialized RL ∈ lw_all := lw_mem (mt_1 _ (List.mem_of_getElem? (i := 0) rfl)) rfl
theorem qc_L_begin : Cond.codeWith yL_begin cL_begin 4 (some .int) [(0, 9, 12, 13)] ∈ lw_all := lw_mem (mt_3 _ (List.mem_of_getElem? (i := 160) rfl)) rfl
theorem qk_L_13 : Cond.classLink RL 13 "java/lang/IllegalArgumentException" ∈ lw_all := lw_mem (mt_3 _ (List.mem_of_getElem? (i := 161) rfl)) rfl
theorem qm_L_7 : Cond.methodLink RL 7 yX4_begin ∈ lw_all := lw_mem (mt_3 _ (List.mem_of_getElem? (i := 162) rfl)) rfl
theorem qi_X4_begin : Cond.instanceMethod yX4_begin ∈ lw_all := lw_mem (mt_3 _ (List.mem_of_getElem? (i := 163) rfl)) rfl
theorem qs_X4_begin : Cond.selects RX4 yX4_begin yX4_begin ∈ lw_all := lw_mem (mt_3 _ (List.mem_of_getElem? (i := 164) rfl)) rfl
theorem qc_X4_begin : Cond.code yX4_begin cX4_begin 2 (some .int) ∈ lw_all := lw_mem (mt_3 _ (List.mem_of_getElem? (i := 165) rfl)) rfl
theorem qk_X4_42 : Cond.classLink RX4 42 "java/lang/IllegalArgumentException" ∈ lw_all := lw_mem (mt_2 _ (List.mem_of_getElem? (i := 184) rfl)) rfl
theorem qn_IAE : Cond.initialized "java/lang/IllegalArgumentException" ∈ lw_all := lw_mem (mt_1 _ (List.mem_of_getElem? (i := 10) rfl)) rfl
theorem qf_X4_56 : Cond.fieldLink RX4 56 "LiftNovel$Instalments" "count" "I" ∈ lw_all := lw_mem (mt_1 _ (List.mem_of_getElem? (i := 131) rfl)) rfl
theorem qm_X4_49 : Cond.methodLink RX4 49 yX1_clear ∈ lw_all := lw_mem (mt_3 _ (List.mem_of_getElem? (i := 167) rfl)) rfl
theorem qi_X1_clear : Cond.instanceMethod yX1_clear ∈ lw_all := lw_mem (mt_3 _ (List.mem_of_getElem? (i := 168) rfl)) rfl
theorem qs_X1_clear : Cond.selects RX1 yX1_clear yX1_clear ∈ lw_all := lw_mem (mt_3 _ (List.mem_of_getElem? (i := 169) rfl)) rfl
theorem qc_X1_clear : Cond.code yX1_clear cX1_clear 3 none ∈ lw_all := lw_mem (mt_3 _ (List.mem_of_getElem? (i := 170) rfl)) rfl
theorem qm_X4_53 : Cond.methodLink RX4 53 yX0_startOver ∈ lw_all := lw_mem (mt_3 _ (List.mem_of_getElem? (i := 171) rfl)) rfl
theorem qi_X0_startOver : Cond.instanceMethod yX0_startOver ∈ lw_all := lw_mem (mt_3 _ (List.mem_of_getElem? (i := 172) rfl)) rfl
theorem qs_X0_startOver : Cond.selects RX0 yX0_startOver yX0_startOver ∈ lw_all := lw_mem (mt_3 _ (List.mem_of_getElem? (i := 173) rfl)) rfl
theorem qc_X0_startOver : Cond.code yX0_startOver cX0_startOver 2 none ∈ lw_all := lw_mem (mt_3 _ (List.mem_of_getElem? (i := 174) rfl)) rfl
theorem qm_X4_60 : Cond.methodLink RX4 60 yX0_countSubscribers ∈ lw_all := lw_mem (mt_2 _ (List.mem_of_getElem? (i := 35) rfl)) rfl
theorem qi_X0_countSubscribers : Cond.instanceMethod yX0_countSubscribers ∈ lw_all := lw_mem (mt_2 _ (List.mem_of_getElem? (i := 36) rfl)) rfl
theorem qs_X0_countSubscribers : Cond.selects RX0 yX0_countSubscribers yX0_countSubscribers ∈ lw_all := lw_mem (mt_2 _ (List.mem_of_getElem? (i := 37) rfl)) rfl
theorem qc_X0_countSubscribers : Cond.code yX0_countSubscribers cX0_countSubscribers 3 (some .int) ∈ lw_all := lw_mem (mt_2 _ (List.mem_of_getElem? (i := 38) rfl)) rfl
theorem qf_X0_108 : Cond.fieldLink RX0 108 "LiftNovel$House" "readers" "I" ∈ lw_all := lw_mem (mt_1 _ (List.mem_of_getElem? (i := 37) rfl)) rfl
theorem qm_L_121 : Cond.methodLink RL 121 yX5_begin ∈ lw_all := lw_mem (mt_4 _ (List.mem_of_getElem? (i := 196) rfl)) rfl
theorem qi_X5_begin : Cond.instanceMethod yX5_begin ∈ lw_all := lw_mem (mt_4 _ (List.mem_of_getElem? (i := 197) rfl)) rfl
theorem qs_X5_begin : Cond.selects RX5 yX5_begin yX5_begin ∈ lw_all := lw_mem (mt_4 _ (List.mem_of_getElem? (i := 198) rfl)) rfl
theorem qc_X5_begin : Cond.code yX5_begin cX5_begin 3 (some .int) ∈ lw_all := lw_mem (mt_4 _ (List.mem_of_getElem? (i := 199) rfl)) rfl
theorem qf_X5_50 : Cond.fieldLink RX5 50 "LiftNovelModel" "thrown" "I" ∈ lw_all := lw_mem (mt_4 _ (List.mem_of_getElem? (i := 137) rfl)) rfl
theorem qm_X5_53 : Cond.methodLink RX5 53 yX5_isIn ∈ lw_all := lw_mem (mt_4 _ (List.mem_of_getElem? (i := 200) rfl)) rfl
theorem qt_X5_isIn : Cond.static yX5_isIn ∈ lw_all := lw_mem (mt_4 _ (List.mem_of_getElem? (i := 201) rfl)) rfl
theorem qc_X5_isIn : Cond.code yX5_isIn cX5_isIn 3 (some .boolean) ∈ lw_all := lw_mem (mt_4 _ (List.mem_of_getElem? (i := 202) rfl)) rfl
theorem qm_X5_112 : Cond.methodLink RX5 112 yX5_fail ∈ lw_all := lw_mem (mt_4 _ (List.mem_of_getElem? (i := 203) rfl)) rfl
theorem qi_X5_fail : Cond.instanceMethod yX5_fail ∈ lw_all := lw_mem (mt_4 _ (List.mem_of_getElem? (i := 205) rfl)) rfl
theorem qs_X5_fail : Cond.selects RX5 yX5_fail yX5_fail ∈ lw_all := lw_mem (mt_0 _ (List.mem_of_getElem? (i := 15) rfl)) rfl
theorem qc_X5_fail : Cond.code yX5_fail cX5_fail 2 (some .int) ∈ lw_all := lw_mem (mt_4 _ (List.mem_of_getElem? (i := 206) rfl)) rfl
theorem qm_X5_116 : Cond.methodLink RX5 116 yX5_ones ∈ lw_all := lw_mem (mt_4 _ (List.mem_of_getElem? (i := 207) rfl)) rfl
theorem qt_X5_ones : Cond.static yX5_ones ∈ lw_all := lw_mem (mt_4 _ (List.mem_of_getElem? (i := 208) rfl)) rfl
theorem qc_X5_ones : Cond.code yX5_ones cX5_ones 3 (some .int) ∈ lw_all := lw_mem (mt_4 _ (List.mem_of_getElem? (i := 209) rfl)) rfl
theorem qm_L_122 : Cond.methodLink RL 122 yX5_thrown ∈ lw_all := lw_mem (mt_4 _ (List.mem_of_getElem? (i := 192) rfl)) rfl
theorem qi_X5_thrown : Cond.instanceMethod yX5_thrown ∈ lw_all := lw_mem (mt_4 _ (List.mem_of_getElem? (i := 193) rfl)) rfl
theorem qs_X5_thrown : Cond.selects RX5 yX5_thrown yX5_thrown ∈ lw_all := lw_mem (mt_4 _ (List.mem_of_getElem? (i := 194) rfl)) rfl
theorem qc_X5_thrown : Cond.code yX5_thrown cX5_thrown 1 (some .int) ∈ lw_all := lw_mem (mt_4 _ (List.mem_of_getElem? (i := 195) rfl)) rfl
theorem qm_L_126 : Cond.methodLink RL 126 yL_addParagraph ∈ lw_all := lw_mem (mt_3 _ (List.mem_of_getElem? (i := 175) rfl)) rfl
theorem qt_L_addParagraph : Cond.static yL_addParagraph ∈ lw_all := lw_mem (mt_3 _ (List.mem_of_getElem? (i := 176) rfl)) rfl
theorem qc_L_addParagraph : Cond.codeWith yL_addParagraph cL_addParagraph 6 (some .int) [(0, 12, 15, 19), (0, 12, 19, 13), (0, 12, 23, 21)] ∈ lw_all := lw_mem (mt_3 _ (List.mem_of_getElem? (i := 177) rfl)) rfl
theorem qk_L_19 : Cond.classLink RL 19 "java/lang/IndexOutOfBoundsException" ∈ lw_all := lw_mem (mt_3 _ (List.mem_of_getElem? (i := 178) rfl)) rfl
theorem qk_L_21 : Cond.classLink RL 21 "java/lang/IllegalStateException" ∈ lw_all := lw_mem (mt_3 _ (List.mem_of_getElem? (i := 179) rfl)) rfl
theorem qm_L_15 : Cond.methodLink RL 15 yX4_addParagraph ∈ lw_all := lw_mem (mt_3 _ (List.mem_of_getElem? (i := 180) rfl)) rfl
theorem qi_X4_addParagraph : Cond.instanceMethod yX4_addParagraph ∈ lw_all := lw_mem (mt_3 _ (List.mem_of_getElem? (i := 181) rfl)) rfl
theorem qs_X4_addParagraph : Cond.selects RX4 yX4_addParagraph yX4_addParagraph ∈ lw_all := lw_mem (mt_3 _ (List.mem_of_getElem? (i := 182) rfl)) rfl
theorem qc_X4_addParagraph : Cond.code yX4_addParagraph cX4_addParagraph 4 (some .int) ∈ lw_all := lw_mem (mt_3 _ (List.mem_of_getElem? (i := 183) rfl)) rfl
theorem qk_X4_77 : Cond.classLink RX4 77 "java/lang/IllegalStateException" ∈ lw_all := lw_mem (mt_3 _ (List.mem_of_getElem? (i := 185) rfl)) rfl
theorem qn_ISE : Cond.initialized "java/lang/IllegalStateException" ∈ lw_all := lw_mem (mt_1 _ (List.mem_of_getElem? (i := 12) rfl)) rfl
theorem qf_X4_73 : Cond.fieldLink RX4 73 "LiftNovel$House" "lengths" "[I" ∈ lw_all := lw_mem (mt_1 _ (List.mem_of_getElem? (i := 39) rfl)) rfl
theorem qm_X4_64 : Cond.methodLink RX4 64 yX4_needFloor ∈ lw_all := lw_mem (mt_3 _ (List.mem_of_getElem? (i := 37) rfl)) rfl
theorem qi_X4_needFloor : Cond.instanceMethod yX4_needFloor ∈ lw_all := lw_mem (mt_3 _ (List.mem_of_getElem? (i := 39) rfl)) rfl
theorem qs_X4_needFloor : Cond.selects RX4 yX4_needFloor yX4_needFloor ∈ lw_all := lw_mem (mt_0 _ (List.mem_of_getElem? (i := 6) rfl)) rfl
theorem qc_X4_needFloor : Cond.code yX4_needFloor cX4_needFloor 2 none ∈ lw_all := lw_mem (mt_3 _ (List.mem_of_getElem? (i := 40) rfl)) rfl
theorem qk_X4_372 : Cond.classLink RX4 372 "java/lang/IndexOutOfBoundsException" ∈ lw_all := lw_mem (mt_3 _ (List.mem_of_getElem? (i := 41) rfl)) rfl
theorem qn_IOB : Cond.initialized "java/lang/IndexOutOfBoundsException" ∈ lw_all := lw_mem (mt_1 _ (List.mem_of_getElem? (i := 11) rfl)) rfl
theorem qf_X4_148 : Cond.fieldLink RX4 148 "LiftNovel$House" "floors" "I" ∈ lw_all := lw_mem (mt_1 _ (List.mem_of_getElem? (i := 30) rfl)) rfl
theorem qm_X4_67 : Cond.methodLink RX4 67 yX4_isTopic ∈ lw_all := lw_mem (mt_3 _ (List.mem_of_getElem? (i := 87) rfl)) rfl
theorem qt_X4_isTopic : Cond.static yX4_isTopic ∈ lw_all := lw_mem (mt_3 _ (List.mem_of_getElem? (i := 88) rfl)) rfl
theorem qc_X4_isTopic : Cond.code yX4_isTopic cX4_isTopic 1 (some .boolean) ∈ lw_all := lw_mem (mt_3 _ (List.mem_of_getElem? (i := 89) rfl)) rfl
theorem qm_X4_82 : Cond.methodLink RX4 82 yX1_append ∈ lw_all := lw_mem (mt_3 _ (List.mem_of_getElem? (i := 201) rfl)) rfl
theorem qi_X1_append : Cond.instanceMethod yX1_append ∈ lw_all := lw_mem (mt_3 _ (List.mem_of_getElem? (i := 202) rfl)) rfl
theorem qs_X1_append : Cond.selects RX1 yX1_append yX1_append ∈ lw_all := lw_mem (mt_3 _ (List.mem_of_getElem? (i := 203) rfl)) rfl
theorem qc_X1_append : Cond.code yX1_append cX1_append 5 (some .int) ∈ lw_all := lw_mem (mt_3 _ (List.mem_of_getElem? (i := 204) rfl)) rfl
theorem qm_L_129 : Cond.methodLink RL 129 yX5_addParagraph ∈ lw_all := lw_mem (mt_4 _ (List.mem_of_getElem? (i := 210) rfl)) rfl
theorem qi_X5_addParagraph : Cond.instanceMethod yX5_addParagraph ∈ lw_all := lw_mem (mt_4 _ (List.mem_of_getElem? (i := 211) rfl)) rfl
theorem qs_X5_addParagraph : Cond.selects RX5 yX5_addParagraph yX5_addParagraph ∈ lw_all := lw_mem (mt_4 _ (List.mem_of_getElem? (i := 212) rfl)) rfl
theorem qc_X5_addParagraph : Cond.code yX5_addParagraph cX5_addParagraph 5 (some .int) ∈ lw_all := lw_mem (mt_4 _ (List.mem_of_getElem? (i := 213) rfl)) rfl
theorem qm_X5_93 : Cond.methodLink RX5 93 yX5_isFloor ∈ lw_all := lw_mem (mt_4 _ (List.mem_of_getElem? (i := 214) rfl)) rfl
theorem qi_X5_isFloor : Cond.instanceMethod yX5_isFloor ∈ lw_all := lw_mem (mt_4 _ (List.mem_of_getElem? (i := 216) rfl)) rfl
theorem qs_X5_isFloor : Cond.selects RX5 yX5_isFloor yX5_isFloor ∈ lw_all := lw_mem (mt_0 _ (List.mem_of_getElem? (i := 16) rfl)) rfl
theorem qc_X5_isFloor : Cond.code yX5_isFloor cX5_isFloor 2 (some .boolean) ∈ lw_all := lw_mem (mt_4 _ (List.mem_of_getElem? (i := 217) rfl)) rfl
theorem qm_X5_119 : Cond.methodLink RX5 119 yX5_isTopic ∈ lw_all := lw_mem (mt_4 _ (List.mem_of_getElem? (i := 218) rfl)) rfl
theorem qt_X5_isTopic : Cond.static yX5_isTopic ∈ lw_all := lw_mem (mt_4 _ (List.mem_of_getElem? (i := 219) rfl)) rfl
theorem qc_X5_isTopic : Cond.code yX5_isTopic cX5_isTopic 1 (some .boolean) ∈ lw_all := lw_mem (mt_4 _ (List.mem_of_getElem? (i := 220) rfl)) rfl
theorem qm_L_130 : Cond.methodLink RL 130 yL_turnTopic ∈ lw_all := lw_mem (mt_3 _ (List.mem_of_getElem? (i := 205) rfl)) rfl
theorem qt_L_turnTopic : Cond.static yL_turnTopic ∈ lw_all := lw_mem (mt_3 _ (List.mem_of_getElem? (i := 206) rfl)) rfl
theorem qc_L_turnTopic : Cond.codeWith yL_turnTopic cL_turnTopic 4 (some .int) [(0, 16, 19, 19)] ∈ lw_all := lw_mem (mt_3 _ (List.mem_of_getElem? (i := 207) rfl)) rfl
theorem qm_L_23 : Cond.methodLink RL 23 yX4_turnTopic ∈ lw_all := lw_mem (mt_3 _ (List.mem_of_getElem? (i := 208) rfl)) rfl
theorem qi_X4_turnTopic : Cond.instanceMethod yX4_turnTopic ∈ lw_all := lw_mem (mt_3 _ (List.mem_of_getElem? (i := 209) rfl)) rfl
theorem qs_X4_turnTopic : Cond.selects RX4 yX4_turnTopic yX4_turnTopic ∈ lw_all := lw_mem (mt_3 _ (List.mem_of_getElem? (i := 210) rfl)) rfl
theorem qc_X4_turnTopic : Cond.code yX4_turnTopic cX4_turnTopic 2 (some .boolean) ∈ lw_all := lw_mem (mt_3 _ (List.mem_of_getElem? (i := 211) rfl)) rfl
theorem qf_X4_89 : Cond.fieldLink RX4 89 "LiftNovel$Course" "forbidden" "[Z" ∈ lw_all := lw_mem (mt_1 _ (List.mem_of_getElem? (i := 89) rfl)) rfl
theorem qm_X4_86 : Cond.methodLink RX4 86 yX4_needTopic ∈ lw_all := lw_mem (mt_3 _ (List.mem_of_getElem? (i := 84) rfl)) rfl
theorem qt_X4_needTopic : Cond.static yX4_needTopic ∈ lw_all := lw_mem (mt_3 _ (List.mem_of_getElem? (i := 85) rfl)) rfl
theorem qc_X4_needTopic : Cond.code yX4_needTopic cX4_needTopic 1 none ∈ lw_all := lw_mem (mt_3 _ (List.mem_of_getElem? (i := 86) rfl)) rfl
theorem qm_L_132 : Cond.methodLink RL 132 yX5_turnTopic ∈ lw_all := lw_mem (mt_4 _ (List.mem_of_getElem? (i := 221) rfl)) rfl
theorem qi_X5_turnTopic : Cond.instanceMethod yX5_turnTopic ∈ lw_all := lw_mem (mt_4 _ (List.mem_of_getElem? (i := 222) rfl)) rfl
theorem qs_X5_turnTopic : Cond.selects RX5 yX5_turnTopic yX5_turnTopic ∈ lw_all := lw_mem (mt_4 _ (List.mem_of_getElem? (i := 223) rfl)) rfl
theorem qc_X5_turnTopic : Cond.code yX5_turnTopic cX5_turnTopic 2 (some .boolean) ∈ lw_all := lw_mem (mt_4 _ (List.mem_of_getElem? (i := 224) rfl)) rfl
theorem qf_X5_86 : Cond.fieldLink RX5 86 "LiftNovelModel" "forbidden" "I" ∈ lw_all := lw_mem (mt_4 _ (List.mem_of_getElem? (i := 140) rfl)) rfl
theorem qm_X5_69 : Cond.methodLink RX5 69 yX5_has ∈ lw_all := lw_mem (mt_4 _ (List.mem_of_getElem? (i := 225) rfl)) rfl
theorem qt_X5_has : Cond.static yX5_has ∈ lw_all := lw_mem (mt_4 _ (List.mem_of_getElem? (i := 226) rfl)) rfl
theorem qc_X5_has : Cond.code yX5_has cX5_has 2 (some .boolean) ∈ lw_all := lw_mem (mt_4 _ (List.mem_of_getElem? (i := 227) rfl)) rfl
theorem qm_L_133 : Cond.methodLink RL 133 yL_setLimit ∈ lw_all := lw_mem (mt_3 _ (List.mem_of_getElem? (i := 212) rfl)) rfl
theorem qt_L_setLimit : Cond.static yL_setLimit ∈ lw_all := lw_mem (mt_3 _ (List.mem_of_getElem? (i := 213) rfl)) rfl
theorem qc_L_setLimit : Cond.codeWith yL_setLimit cL_setLimit 4 (some .int) [(0, 9, 12, 13)] ∈ lw_all := lw_mem (mt_3 _ (List.mem_of_getElem? (i := 214) rfl)) rfl
theorem qm_L_27 : Cond.methodLink RL 27 yX4_setLimit ∈ lw_all := lw_mem (mt_3 _ (List.mem_of_getElem? (i := 215) rfl)) rfl
theorem qi_X4_setLimit : Cond.instanceMethod yX4_setLimit ∈ lw_all := lw_mem (mt_3 _ (List.mem_of_getElem? (i := 216) rfl)) rfl
theorem qs_X4_setLimit : Cond.selects RX4 yX4_setLimit yX4_setLimit ∈ lw_all := lw_mem (mt_3 _ (List.mem_of_getElem? (i := 217) rfl)) rfl
theorem qc_X4_setLimit : Cond.code yX4_setLimit cX4_setLimit 3 (some .int) ∈ lw_all := lw_mem (mt_3 _ (List.mem_of_getElem? (i := 218) rfl)) rfl
theorem qf_X4_95 : Cond.fieldLink RX4 95 "LiftNovel$House" "limit" "I" ∈ lw_all := lw_mem (mt_1 _ (List.mem_of_getElem? (i := 33) rfl)) rfl
theorem qm_L_135 : Cond.methodLink RL 135 yX5_setLimit ∈ lw_all := lw_mem (mt_4 _ (List.mem_of_getElem? (i := 228) rfl)) rfl
theorem qi_X5_setLimit : Cond.instanceMethod yX5_setLimit ∈ lw_all := lw_mem (mt_4 _ (List.mem_of_getElem? (i := 229) rfl)) rfl
theorem qs_X5_setLimit : Cond.selects RX5 yX5_setLimit yX5_setLimit ∈ lw_all := lw_mem (mt_4 _ (List.mem_of_getElem? (i := 230) rfl)) rfl
theorem qc_X5_setLimit : Cond.code yX5_setLimit cX5_setLimit 3 (some .int) ∈ lw_all := lw_mem (mt_4 _ (List.mem_of_getElem? (i := 231) rfl)) rfl
theorem qm_L_136 : Cond.methodLink RL 136 yL_addReader ∈ lw_all := lw_mem (mt_3 _ (List.mem_of_getElem? (i := 220) rfl)) rfl
theorem qt_L_addReader : Cond.static yL_addReader ∈ lw_all := lw_mem (mt_3 _ (List.mem_of_getElem? (i := 221) rfl)) rfl
theorem qc_L_addReader : Cond.codeWith yL_addReader cL_addReader 5 (some .int) [(0, 10, 13, 13), (0, 10, 17, 21)] ∈ lw_all := lw_mem (mt_3 _ (List.mem_of_getElem? (i := 222) rfl)) rfl
theorem qm_L_30 : Cond.methodLink RL 30 yX4_addReader ∈ lw_all := lw_mem (mt_3 _ (List.mem_of_getElem? (i := 223) rfl)) rfl
theorem qi_X4_addReader : Cond.instanceMethod yX4_addReader ∈ lw_all := lw_mem (mt_3 _ (List.mem_of_getElem? (i := 224) rfl)) rfl
theorem qs_X4_addReader : Cond.selects RX4 yX4_addReader yX4_addReader ∈ lw_all := lw_mem (mt_3 _ (List.mem_of_getElem? (i := 225) rfl)) rfl
theorem qc_X4_addReader : Cond.code yX4_addReader cX4_addReader 4 (some .int) ∈ lw_all := lw_mem (mt_3 _ (List.mem_of_getElem? (i := 226) rfl)) rfl
theorem qf_X4_100 : Cond.fieldLink RX4 100 "LiftNovel$House" "readers" "I" ∈ lw_all := lw_mem (mt_1 _ (List.mem_of_getElem? (i := 36) rfl)) rfl
theorem qf_X4_105 : Cond.fieldLink RX4 105 "LiftNovel$House" "tastes" "[I" ∈ lw_all := lw_mem (mt_1 _ (List.mem_of_getElem? (i := 44) rfl)) rfl
theorem qf_X4_108 : Cond.fieldLink RX4 108 "LiftNovel$Course" "warmths" "[I" ∈ lw_all := lw_mem (mt_1 _ (List.mem_of_getElem? (i := 91) rfl)) rfl
theorem qf_X4_111 : Cond.fieldLink RX4 111 "LiftNovel$Course" "subscribed" "[Z" ∈ lw_all := lw_mem (mt_1 _ (List.mem_of_getElem? (i := 93) rfl)) rfl
theorem qm_L_139 : Cond.methodLink RL 139 yX5_addReader ∈ lw_all := lw_mem (mt_4 _ (List.mem_of_getElem? (i := 232) rfl)) rfl
theorem qi_X5_addReader : Cond.instanceMethod yX5_addReader ∈ lw_all := lw_mem (mt_4 _ (List.mem_of_getElem? (i := 233) rfl)) rfl
theorem qs_X5_addReader : Cond.selects RX5 yX5_addReader yX5_addReader ∈ lw_all := lw_mem (mt_4 _ (List.mem_of_getElem? (i := 234) rfl)) rfl
theorem qc_X5_addReader : Cond.code yX5_addReader cX5_addReader 3 (some .int) ∈ lw_all := lw_mem (mt_4 _ (List.mem_of_getElem? (i := 235) rfl)) rfl
theorem qf_X5_57 : Cond.fieldLink RX5 57 "LiftNovelModel" "readers" "I" ∈ lw_all := lw_mem (mt_4 _ (List.mem_of_getElem? (i := 144) rfl)) rfl
theorem qm_L_140 : Cond.methodLink RL 140 yL_addMirror ∈ lw_all := lw_mem (mt_3 _ (List.mem_of_getElem? (i := 229) rfl)) rfl
theorem qt_L_addMirror : Cond.static yL_addMirror ∈ lw_all := lw_mem (mt_3 _ (List.mem_of_getElem? (i := 230) rfl)) rfl
theorem qc_L_addMirror : Cond.codeWith yL_addMirror cL_addMirror 5 (some .int) [(0, 10, 13, 13), (0, 10, 17, 21)] ∈ lw_all := lw_mem (mt_3 _ (List.mem_of_getElem? (i := 231) rfl)) rfl
theorem qm_L_34 : Cond.methodLink RL 34 yX4_addMirror ∈ lw_all := lw_mem (mt_3 _ (List.mem_of_getElem? (i := 232) rfl)) rfl
theorem qi_X4_addMirror : Cond.instanceMethod yX4_addMirror ∈ lw_all := lw_mem (mt_3 _ (List.mem_of_getElem? (i := 233) rfl)) rfl
theorem qs_X4_addMirror : Cond.selects RX4 yX4_addMirror yX4_addMirror ∈ lw_all := lw_mem (mt_3 _ (List.mem_of_getElem? (i := 234) rfl)) rfl
theorem qc_X4_addMirror : Cond.code yX4_addMirror cX4_addMirror 3 (some .int) ∈ lw_all := lw_mem (mt_3 _ (List.mem_of_getElem? (i := 235) rfl)) rfl
theorem qf_X4_116 : Cond.fieldLink RX4 116 "LiftNovel$Mirrors" "count" "I" ∈ lw_all := lw_mem (mt_1 _ (List.mem_of_getElem? (i := 158) rfl)) rfl
theorem qm_X4_119 : Cond.methodLink RX4 119 yX3_append ∈ lw_all := lw_mem (mt_3 _ (List.mem_of_getElem? (i := 238) rfl)) rfl
theorem qi_X3_append : Cond.instanceMethod yX3_append ∈ lw_all := lw_mem (mt_3 _ (List.mem_of_getElem? (i := 239) rfl)) rfl
theorem qs_X3_append : Cond.selects RX3 yX3_append yX3_append ∈ lw_all := lw_mem (mt_4 _ (List.mem_of_getElem? (i := 0) rfl)) rfl
theorem qc_X3_append : Cond.code yX3_append cX3_append 4 (some .int) ∈ lw_all := lw_mem (mt_4 _ (List.mem_of_getElem? (i := 1) rfl)) rfl
theorem qm_L_142 : Cond.methodLink RL 142 yX5_addMirror ∈ lw_all := lw_mem (mt_4 _ (List.mem_of_getElem? (i := 236) rfl)) rfl
theorem qi_X5_addMirror : Cond.instanceMethod yX5_addMirror ∈ lw_all := lw_mem (mt_4 _ (List.mem_of_getElem? (i := 237) rfl)) rfl
theorem qs_X5_addMirror : Cond.selects RX5 yX5_addMirror yX5_addMirror ∈ lw_all := lw_mem (mt_4 _ (List.mem_of_getElem? (i := 238) rfl)) rfl
theorem qc_X5_addMirror : Cond.code yX5_addMirror cX5_addMirror 3 (some .int) ∈ lw_all := lw_mem (mt_4 _ (List.mem_of_getElem? (i := 239) rfl)) rfl
theorem qf_X5_60 : Cond.fieldLink RX5 60 "LiftNovelModel" "mirrors" "I" ∈ lw_all := lw_mem (mt_4 _ (List.mem_of_getElem? (i := 146) rfl)) rfl
theorem qm_L_143 : Cond.methodLink RL 143 yL_call ∈ lw_all := lw_mem (mt_4 _ (List.mem_of_getElem? (i := 2) rfl)) rfl
theorem qt_L_call : Cond.static yL_call ∈ lw_all := lw_mem (mt_4 _ (List.mem_of_getElem? (i := 3) rfl)) rfl
theorem qc_L_call : Cond.codeWith yL_call cL_call 4 (some .int) [(0, 16, 19, 19)] ∈ lw_all := lw_mem (mt_4 _ (List.mem_of_getElem? (i := 4) rfl)) rfl
theorem qm_L_37 : Cond.methodLink RL 37 yX4_call ∈ lw_all := lw_mem (mt_4 _ (List.mem_of_getElem? (i := 5) rfl)) rfl
theorem qi_X4_call : Cond.instanceMethod yX4_call ∈ lw_all := lw_mem (mt_4 _ (List.mem_of_getElem? (i := 6) rfl)) rfl
theorem qs_X4_call : Cond.selects RX4 yX4_call yX4_call ∈ lw_all := lw_mem (mt_4 _ (List.mem_of_getElem? (i := 7) rfl)) rfl
theorem qc_X4_call : Cond.code yX4_call cX4_call 3 (some .boolean) ∈ lw_all := lw_mem (mt_4 _ (List.mem_of_getElem? (i := 8) rfl)) rfl
theorem qf_X4_122 : Cond.fieldLink RX4 122 "LiftNovel$Course" "called" "[Z" ∈ lw_all := lw_mem (mt_1 _ (List.mem_of_getElem? (i := 83) rfl)) rfl
theorem qm_L_145 : Cond.methodLink RL 145 yX5_call ∈ lw_all := lw_mem (mt_5 _ (List.mem_of_getElem? (i := 0) rfl)) rfl
theorem qi_X5_call : Cond.instanceMethod yX5_call ∈ lw_all := lw_mem (mt_5 _ (List.mem_of_getElem? (i := 1) rfl)) rfl
theorem qs_X5_call : Cond.selects RX5 yX5_call yX5_call ∈ lw_all := lw_mem (mt_5 _ (List.mem_of_getElem? (i := 2) rfl)) rfl
theorem qc_X5_call : Cond.code yX5_call cX5_call 3 (some .boolean) ∈ lw_all := lw_mem (mt_5 _ (List.mem_of_getElem? (i := 3) rfl)) rfl
theorem qm_L_146 : Cond.methodLink RL 146 yX4_repair ∈ lw_all := lw_mem (mt_1 _ (List.mem_of_getElem? (i := 184) rfl)) rfl
theorem qi_X4_repair : Cond.instanceMethod yX4_repair ∈ lw_all := lw_mem (mt_1 _ (List.mem_of_getElem? (i := 185) rfl)) rfl
theorem qs_X4_repair : Cond.selects RX4 yX4_repair yX4_repair ∈ lw_all := lw_mem (mt_1 _ (List.mem_of_getElem? (i := 186) rfl)) rfl
theorem qc_X4_repair : Cond.code yX4_repair cX4_repair 2 (some .int) ∈ lw_all := lw_mem (mt_1 _ (List.mem_of_getElem? (i := 187) rfl)) rfl
theorem qf_X4_125 : Cond.fieldLink RX4 125 "LiftNovel$Course" "stuck" "I" ∈ lw_all := lw_mem (mt_1 _ (List.mem_of_getElem? (i := 76) rfl)) rfl
theorem qf_X4_128 : Cond.fieldLink RX4 128 "LiftNovel$Course" "wear" "I" ∈ lw_all := lw_mem (mt_1 _ (List.mem_of_getElem? (i := 78) rfl)) rfl
theorem qm_L_149 : Cond.methodLink RL 149 yX5_repair ∈ lw_all := lw_mem (mt_5 _ (List.mem_of_getElem? (i := 4) rfl)) rfl
theorem qi_X5_repair : Cond.instanceMethod yX5_repair ∈ lw_all := lw_mem (mt_5 _ (List.mem_of_getElem? (i := 5) rfl)) rfl
theorem qs_X5_repair : Cond.selects RX5 yX5_repair yX5_repair ∈ lw_all := lw_mem (mt_5 _ (List.mem_of_getElem? (i := 6) rfl)) rfl
theorem qc_X5_repair : Cond.code yX5_repair cX5_repair 2 (some .int) ∈ lw_all := lw_mem (mt_5 _ (List.mem_of_getElem? (i := 7) rfl)) rfl
theorem qm_L_150 : Cond.methodLink RL 150 yL_passHours ∈ lw_all := lw_mem (mt_4 _ (List.mem_of_getElem? (i := 9) rfl)) rfl
theorem qt_L_passHours : Cond.static yL_passHours ∈ lw_all := lw_mem (mt_4 _ (List.mem_of_getElem? (i := 10) rfl)) rfl
theorem qc_L_passHours : Cond.codeWith yL_passHours cL_passHours 4 (some .int) [(0, 9, 12, 13)] ∈ lw_all := lw_mem (mt_4 _ (List.mem_of_getElem? (i := 11) rfl)) rfl
theorem qm_L_40 : Cond.methodLink RL 40 yX4_passHours ∈ lw_all := lw_mem (mt_4 _ (List.mem_of_getElem? (i := 12) rfl)) rfl
theorem qi_X4_passHours : Cond.instanceMethod yX4_passHours ∈ lw_all := lw_mem (mt_4 _ (List.mem_of_getElem? (i := 13) rfl)) rfl
theorem qs_X4_passHours : Cond.selects RX4 yX4_passHours yX4_passHours ∈ lw_all := lw_mem (mt_4 _ (List.mem_of_getElem? (i := 14) rfl)) rfl
theorem qc_X4_passHours : Cond.code yX4_passHours cX4_passHours 6 (some .int) ∈ lw_all := lw_mem (mt_4 _ (List.mem_of_getElem? (i := 15) rfl)) rfl
theorem qf_X4_133 : Cond.fieldLink RX4 133 "LiftNovel$Course" "hour" "I" ∈ lw_all := lw_mem (mt_1 _ (List.mem_of_getElem? (i := 70) rfl)) rfl
theorem qf_X4_139 : Cond.fieldLink RX4 139 "LiftNovel$Course" "at" "I" ∈ lw_all := lw_mem (mt_1 _ (List.mem_of_getElem? (i := 72) rfl)) rfl
theorem qf_X4_142 : Cond.fieldLink RX4 142 "LiftNovel$Course" "next" "[I" ∈ lw_all := lw_mem (mt_1 _ (List.mem_of_getElem? (i := 85) rfl)) rfl
theorem qm_X4_136 : Cond.methodLink RX4 136 yX0_passHour ∈ lw_all := lw_mem (mt_2 _ (List.mem_of_getElem? (i := 83) rfl)) rfl
theorem qi_X0_passHour : Cond.instanceMethod yX0_passHour ∈ lw_all := lw_mem (mt_2 _ (List.mem_of_getElem? (i := 84) rfl)) rfl
theorem qs_X0_passHour : Cond.selects RX0 yX0_passHour yX0_passHour ∈ lw_all := lw_mem (mt_2 _ (List.mem_of_getElem? (i := 85) rfl)) rfl
theorem qc_X0_passHour : Cond.code yX0_passHour cX0_passHour 2 (some .int) ∈ lw_all := lw_mem (mt_2 _ (List.mem_of_getElem? (i := 86) rfl)) rfl
theorem qm_X0_57 : Cond.methodLink RX0 57 yX0_waitStuck ∈ lw_all := lw_mem (mt_2 _ (List.mem_of_getElem? (i := 87) rfl)) rfl
theorem qi_X0_waitStuck : Cond.instanceMethod yX0_waitStuck ∈ lw_all := lw_mem (mt_2 _ (List.mem_of_getElem? (i := 88) rfl)) rfl
theorem qs_X0_waitStuck : Cond.selects RX0 yX0_waitStuck yX0_waitStuck ∈ lw_all := lw_mem (mt_2 _ (List.mem_of_getElem? (i := 89) rfl)) rfl
theorem qc_X0_waitStuck : Cond.code yX0_waitStuck cX0_waitStuck 1 none ∈ lw_all := lw_mem (mt_2 _ (List.mem_of_getElem? (i := 90) rfl)) rfl
theorem qm_X0_60 : Cond.methodLink RX0 60 yX0_countCalled ∈ lw_all := lw_mem (mt_2 _ (List.mem_of_getElem? (i := 91) rfl)) rfl
theorem qi_X0_countCalled : Cond.instanceMethod yX0_countCalled ∈ lw_all := lw_mem (mt_1 _ (List.mem_of_getElem? (i := 209) rfl)) rfl
theorem qs_X0_countCalled : Cond.selects RX0 yX0_countCalled yX0_countCalled ∈ lw_all := lw_mem (mt_1 _ (List.mem_of_getElem? (i := 210) rfl)) rfl
theorem qc_X0_countCalled : Cond.code yX0_countCalled cX0_countCalled 3 (some .int) ∈ lw_all := lw_mem (mt_1 _ (List.mem_of_getElem? (i := 211) rfl)) rfl
theorem qm_X0_64 : Cond.methodLink RX0 64 yX0_ride ∈ lw_all := lw_mem (mt_2 _ (List.mem_of_getElem? (i := 92) rfl)) rfl
theorem qi_X0_ride : Cond.instanceMethod yX0_ride ∈ lw_all := lw_mem (mt_2 _ (List.mem_of_getElem? (i := 93) rfl)) rfl
theorem qs_X0_ride : Cond.selects RX0 yX0_ride yX0_ride ∈ lw_all := lw_mem (mt_2 _ (List.mem_of_getElem? (i := 94) rfl)) rfl
theorem qc_X0_ride : Cond.code yX0_ride cX0_ride 2 none ∈ lw_all := lw_mem (mt_2 _ (List.mem_of_getElem? (i := 95) rfl)) rfl
theorem qm_X0_79 : Cond.methodLink RX0 79 yX0_hasCall ∈ lw_all := lw_mem (mt_2 _ (List.mem_of_getElem? (i := 96) rfl)) rfl
theorem qi_X0_hasCall : Cond.instanceMethod yX0_hasCall ∈ lw_all := lw_mem (mt_2 _ (List.mem_of_getElem? (i := 97) rfl)) rfl
theorem qs_X0_hasCall : Cond.selects RX0 yX0_hasCall yX0_hasCall ∈ lw_all := lw_mem (mt_2 _ (List.mem_of_getElem? (i := 98) rfl)) rfl
theorem qc_X0_hasCall : Cond.code yX0_hasCall cX0_hasCall 2 (some .boolean) ∈ lw_all := lw_mem (mt_2 _ (List.mem_of_getElem? (i := 99) rfl)) rfl
theorem qm_X0_83 : Cond.methodLink RX0 83 yX0_hasCallAbove ∈ lw_all := lw_mem (mt_2 _ (List.mem_of_getElem? (i := 100) rfl)) rfl
theorem qi_X0_hasCallAbove : Cond.instanceMethod yX0_hasCallAbove ∈ lw_all := lw_mem (mt_2 _ (List.mem_of_getElem? (i := 101) rfl)) rfl
theorem qs_X0_hasCallAbove : Cond.selects RX0 yX0_hasCallAbove yX0_hasCallAbove ∈ lw_all := lw_mem (mt_2 _ (List.mem_of_getElem? (i := 102) rfl)) rfl
theorem qc_X0_hasCallAbove : Cond.code yX0_hasCallAbove cX0_hasCallAbove 2 (some .boolean) ∈ lw_all := lw_mem (mt_2 _ (List.mem_of_getElem? (i := 103) rfl)) rfl
theorem qm_X0_87 : Cond.methodLink RX0 87 yX0_hasCallBelow ∈ lw_all := lw_mem (mt_2 _ (List.mem_of_getElem? (i := 104) rfl)) rfl
theorem qi_X0_hasCallBelow : Cond.instanceMethod yX0_hasCallBelow ∈ lw_all := lw_mem (mt_2 _ (List.mem_of_getElem? (i := 105) rfl)) rfl
theorem qs_X0_hasCallBelow : Cond.selects RX0 yX0_hasCallBelow yX0_hasCallBelow ∈ lw_all := lw_mem (mt_2 _ (List.mem_of_getElem? (i := 106) rfl)) rfl
theorem qc_X0_hasCallBelow : Cond.code yX0_hasCallBelow cX0_hasCallBelow 2 (some .boolean) ∈ lw_all := lw_mem (mt_2 _ (List.mem_of_getElem? (i := 107) rfl)) rfl
theorem qm_X0_90 : Cond.methodLink RX0 90 yX0_wayToNearestCall ∈ lw_all := lw_mem (mt_2 _ (List.mem_of_getElem? (i := 108) rfl)) rfl
theorem qi_X0_wayToNearestCall : Cond.instanceMethod yX0_wayToNearestCall ∈ lw_all := lw_mem (mt_2 _ (List.mem_of_getElem? (i := 109) rfl)) rfl
theorem qs_X0_wayToNearestCall : Cond.selects RX0 yX0_wayToNearestCall yX0_wayToNearestCall ∈ lw_all := lw_mem (mt_2 _ (List.mem_of_getElem? (i := 110) rfl)) rfl
theorem qc_X0_wayToNearestCall : Cond.code yX0_wayToNearestCall cX0_wayToNearestCall 2 (some .int) ∈ lw_all := lw_mem (mt_2 _ (List.mem_of_getElem? (i := 111) rfl)) rfl
theorem qm_X0_67 : Cond.methodLink RX0 67 yX0_stopIfCalled ∈ lw_all := lw_mem (mt_2 _ (List.mem_of_getElem? (i := 112) rfl)) rfl
theorem qi_X0_stopIfCalled : Cond.instanceMethod yX0_stopIfCalled ∈ lw_all := lw_mem (mt_2 _ (List.mem_of_getElem? (i := 113) rfl)) rfl
theorem qs_X0_stopIfCalled : Cond.selects RX0 yX0_stopIfCalled yX0_stopIfCalled ∈ lw_all := lw_mem (mt_2 _ (List.mem_of_getElem? (i := 114) rfl)) rfl
theorem qc_X0_stopIfCalled : Cond.code yX0_stopIfCalled cX0_stopIfCalled 3 (some .int) ∈ lw_all := lw_mem (mt_2 _ (List.mem_of_getElem? (i := 115) rfl)) rfl
theorem qf_X0_93 : Cond.fieldLink RX0 93 "LiftNovel$House" "lengths" "[I" ∈ lw_all := lw_mem (mt_1 _ (List.mem_of_getElem? (i := 40) rfl)) rfl
theorem qm_X0_98 : Cond.methodLink RX0 98 yX1_topicAt ∈ lw_all := lw_mem (mt_2 _ (List.mem_of_getElem? (i := 116) rfl)) rfl
theorem qi_X1_topicAt : Cond.instanceMethod yX1_topicAt ∈ lw_all := lw_mem (mt_2 _ (List.mem_of_getElem? (i := 64) rfl)) rfl
theorem qs_X1_topicAt : Cond.selects RX1 yX1_topicAt yX1_topicAt ∈ lw_all := lw_mem (mt_2 _ (List.mem_of_getElem? (i := 65) rfl)) rfl
theorem qc_X1_topicAt : Cond.code yX1_topicAt cX1_topicAt 3 (some .int) ∈ lw_all := lw_mem (mt_2 _ (List.mem_of_getElem? (i := 66) rfl)) rfl
theorem qm_X0_102 : Cond.methodLink RX0 102 yX1_thrillAt ∈ lw_all := lw_mem (mt_2 _ (List.mem_of_getElem? (i := 117) rfl)) rfl
theorem qi_X1_thrillAt : Cond.instanceMethod yX1_thrillAt ∈ lw_all := lw_mem (mt_2 _ (List.mem_of_getElem? (i := 118) rfl)) rfl
theorem qs_X1_thrillAt : Cond.selects RX1 yX1_thrillAt yX1_thrillAt ∈ lw_all := lw_mem (mt_2 _ (List.mem_of_getElem? (i := 119) rfl)) rfl
theorem qc_X1_thrillAt : Cond.code yX1_thrillAt cX1_thrillAt 3 (some .int) ∈ lw_all := lw_mem (mt_2 _ (List.mem_of_getElem? (i := 120) rfl)) rfl
theorem qm_X0_105 : Cond.methodLink RX0 105 yX0_print ∈ lw_all := lw_mem (mt_2 _ (List.mem_of_getElem? (i := 121) rfl)) rfl
theorem qi_X0_print : Cond.instanceMethod yX0_print ∈ lw_all := lw_mem (mt_2 _ (List.mem_of_getElem? (i := 122) rfl)) rfl
theorem qs_X0_print : Cond.selects RX0 yX0_print yX0_print ∈ lw_all := lw_mem (mt_2 _ (List.mem_of_getElem? (i := 123) rfl)) rfl
theorem qc_X0_print : Cond.code yX0_print cX0_print 6 (some .int) ∈ lw_all := lw_mem (mt_2 _ (List.mem_of_getElem? (i := 124) rfl)) rfl
theorem qf_X0_111 : Cond.fieldLink RX0 111 "LiftNovel$House" "tastes" "[I" ∈ lw_all := lw_mem (mt_1 _ (List.mem_of_getElem? (i := 45) rfl)) rfl
theorem qm_X0_114 : Cond.methodLink RX0 114 Lib.Math.min.name ∈ lw_all := lw_mem (mt_2 _ (List.mem_of_getElem? (i := 125) rfl)) rfl
theorem qt_Math_min : Cond.static Lib.Math.min.name ∈ lw_all := lw_mem (mt_2 _ (List.mem_of_getElem? (i := 72) rfl)) rfl
theorem qn_Math : Cond.initialized "java/lang/Math" ∈ lw_all := lw_mem (mt_1 _ (List.mem_of_getElem? (i := 13) rfl)) rfl
theorem qc_Math_min : Cond.code Lib.Math.min.name Lib.Math.min.code 2 (some .int) ∈ lw_all := lw_mem (mt_2 _ (List.mem_of_getElem? (i := 73) rfl)) rfl
theorem qm_X0_70 : Cond.methodLink RX0 70 yX0_coolReaders ∈ lw_all := lw_mem (mt_2 _ (List.mem_of_getElem? (i := 126) rfl)) rfl
theorem qi_X0_coolReaders : Cond.instanceMethod yX0_coolReaders ∈ lw_all := lw_mem (mt_2 _ (List.mem_of_getElem? (i := 127) rfl)) rfl
theorem qs_X0_coolReaders : Cond.selects RX0 yX0_coolReaders yX0_coolReaders ∈ lw_all := lw_mem (mt_2 _ (List.mem_of_getElem? (i := 128) rfl)) rfl
theorem qc_X0_coolReaders : Cond.code yX0_coolReaders cX0_coolReaders 2 none ∈ lw_all := lw_mem (mt_2 _ (List.mem_of_getElem? (i := 129) rfl)) rfl
theorem qm_X0_73 : Cond.methodLink RX0 73 yX0_getStuckIfWorn ∈ lw_all := lw_mem (mt_2 _ (List.mem_of_getElem? (i := 130) rfl)) rfl
theorem qi_X0_getStuckIfWorn : Cond.instanceMethod yX0_getStuckIfWorn ∈ lw_all := lw_mem (mt_2 _ (List.mem_of_getElem? (i := 131) rfl)) rfl
theorem qs_X0_getStuckIfWorn : Cond.selects RX0 yX0_getStuckIfWorn yX0_getStuckIfWorn ∈ lw_all := lw_mem (mt_2 _ (List.mem_of_getElem? (i := 132) rfl)) rfl
theorem qc_X0_getStuckIfWorn : Cond.code yX0_getStuckIfWorn cX0_getStuckIfWorn 1 none ∈ lw_all := lw_mem (mt_2 _ (List.mem_of_getElem? (i := 133) rfl)) rfl
theorem qf_X0_119 : Cond.fieldLink RX0 119 "LiftNovel$House" "limit" "I" ∈ lw_all := lw_mem (mt_1 _ (List.mem_of_getElem? (i := 34) rfl)) rfl
theorem qm_X4_145 : Cond.methodLink RX4 145 yX2_append ∈ lw_all := lw_mem (mt_4 _ (List.mem_of_getElem? (i := 17) rfl)) rfl
theorem qi_X2_append : Cond.instanceMethod yX2_append ∈ lw_all := lw_mem (mt_4 _ (List.mem_of_getElem? (i := 18) rfl)) rfl
theorem qs_X2_append : Cond.selects RX2 yX2_append yX2_append ∈ lw_all := lw_mem (mt_4 _ (List.mem_of_getElem? (i := 19) rfl)) rfl
theorem qc_X2_append : Cond.code yX2_append cX2_append 5 none ∈ lw_all := lw_mem (mt_4 _ (List.mem_of_getElem? (i := 20) rfl)) rfl
theorem qm_L_152 : Cond.methodLink RL 152 yX5_passHours ∈ lw_all := lw_mem (mt_5 _ (List.mem_of_getElem? (i := 8) rfl)) rfl
theorem qi_X5_passHours : Cond.instanceMethod yX5_passHours ∈ lw_all := lw_mem (mt_5 _ (List.mem_of_getElem? (i := 9) rfl)) rfl
theorem qs_X5_passHours : Cond.selects RX5 yX5_passHours yX5_passHours ∈ lw_all := lw_mem (mt_5 _ (List.mem_of_getElem? (i := 10) rfl)) rfl
theorem qc_X5_passHours : Cond.code yX5_passHours cX5_passHours 3 (some .int) ∈ lw_all := lw_mem (mt_5 _ (List.mem_of_getElem? (i := 11) rfl)) rfl
theorem qm_X5_122 : Cond.methodLink RX5 122 yX5_hoursOn ∈ lw_all := lw_mem (mt_5 _ (List.mem_of_getElem? (i := 12) rfl)) rfl
theorem qi_X5_hoursOn : Cond.instanceMethod yX5_hoursOn ∈ lw_all := lw_mem (mt_5 _ (List.mem_of_getElem? (i := 14) rfl)) rfl
theorem qs_X5_hoursOn : Cond.selects RX5 yX5_hoursOn yX5_hoursOn ∈ lw_all := lw_mem (mt_0 _ (List.mem_of_getElem? (i := 17) rfl)) rfl
theorem qc_X5_hoursOn : Cond.code yX5_hoursOn cX5_hoursOn 3 none ∈ lw_all := lw_mem (mt_5 _ (List.mem_of_getElem? (i := 15) rfl)) rfl
theorem qm_X5_109 : Cond.methodLink RX5 109 yX5_hourOn ∈ lw_all := lw_mem (mt_5 _ (List.mem_of_getElem? (i := 16) rfl)) rfl
theorem qi_X5_hourOn : Cond.instanceMethod yX5_hourOn ∈ lw_all := lw_mem (mt_5 _ (List.mem_of_getElem? (i := 18) rfl)) rfl
theorem qs_X5_hourOn : Cond.selects RX5 yX5_hourOn yX5_hourOn ∈ lw_all := lw_mem (mt_0 _ (List.mem_of_getElem? (i := 18) rfl)) rfl
theorem qc_X5_hourOn : Cond.code yX5_hourOn cX5_hourOn 3 none ∈ lw_all := lw_mem (mt_5 _ (List.mem_of_getElem? (i := 19) rfl)) rfl
theorem qf_X5_83 : Cond.fieldLink RX5 83 "LiftNovelModel" "stopped" "I" ∈ lw_all := lw_mem (mt_4 _ (List.mem_of_getElem? (i := 154) rfl)) rfl
theorem qm_X5_106 : Cond.methodLink RX5 106 yX5_ride ∈ lw_all := lw_mem (mt_5 _ (List.mem_of_getElem? (i := 20) rfl)) rfl
theorem qi_X5_ride : Cond.instanceMethod yX5_ride ∈ lw_all := lw_mem (mt_5 _ (List.mem_of_getElem? (i := 22) rfl)) rfl
theorem qs_X5_ride : Cond.selects RX5 yX5_ride yX5_ride ∈ lw_all := lw_mem (mt_0 _ (List.mem_of_getElem? (i := 19) rfl)) rfl
theorem qc_X5_ride : Cond.code yX5_ride cX5_ride 1 none ∈ lw_all := lw_mem (mt_5 _ (List.mem_of_getElem? (i := 23) rfl)) rfl
theorem qm_X5_96 : Cond.methodLink RX5 96 yX5_isWay ∈ lw_all := lw_mem (mt_5 _ (List.mem_of_getElem? (i := 24) rfl)) rfl
theorem qi_X5_isWay : Cond.instanceMethod yX5_isWay ∈ lw_all := lw_mem (mt_5 _ (List.mem_of_getElem? (i := 26) rfl)) rfl
theorem qs_X5_isWay : Cond.selects RX5 yX5_isWay yX5_isWay ∈ lw_all := lw_mem (mt_0 _ (List.mem_of_getElem? (i := 20) rfl)) rfl
theorem qc_X5_isWay : Cond.code yX5_isWay cX5_isWay 3 (some .boolean) ∈ lw_all := lw_mem (mt_5 _ (List.mem_of_getElem? (i := 27) rfl)) rfl
theorem qm_X5_99 : Cond.methodLink RX5 99 yX5_wayToNearest ∈ lw_all := lw_mem (mt_5 _ (List.mem_of_getElem? (i := 28) rfl)) rfl
theorem qi_X5_wayToNearest : Cond.instanceMethod yX5_wayToNearest ∈ lw_all := lw_mem (mt_5 _ (List.mem_of_getElem? (i := 30) rfl)) rfl
theorem qs_X5_wayToNearest : Cond.selects RX5 yX5_wayToNearest yX5_wayToNearest ∈ lw_all := lw_mem (mt_0 _ (List.mem_of_getElem? (i := 21) rfl)) rfl
theorem qc_X5_wayToNearest : Cond.code yX5_wayToNearest cX5_wayToNearest 2 (some .int) ∈ lw_all := lw_mem (mt_5 _ (List.mem_of_getElem? (i := 31) rfl)) rfl
theorem qm_X5_103 : Cond.methodLink RX5 103 yX5_stop ∈ lw_all := lw_mem (mt_5 _ (List.mem_of_getElem? (i := 32) rfl)) rfl
theorem qi_X5_stop : Cond.instanceMethod yX5_stop ∈ lw_all := lw_mem (mt_5 _ (List.mem_of_getElem? (i := 34) rfl)) rfl
theorem qs_X5_stop : Cond.selects RX5 yX5_stop yX5_stop ∈ lw_all := lw_mem (mt_0 _ (List.mem_of_getElem? (i := 22) rfl)) rfl
theorem qc_X5_stop : Cond.code yX5_stop cX5_stop 3 none ∈ lw_all := lw_mem (mt_5 _ (List.mem_of_getElem? (i := 35) rfl)) rfl
theorem qm_X5_89 : Cond.methodLink RX5 89 yX5_print ∈ lw_all := lw_mem (mt_5 _ (List.mem_of_getElem? (i := 36) rfl)) rfl
theorem qi_X5_print : Cond.instanceMethod yX5_print ∈ lw_all := lw_mem (mt_5 _ (List.mem_of_getElem? (i := 38) rfl)) rfl
theorem qs_X5_print : Cond.selects RX5 yX5_print yX5_print ∈ lw_all := lw_mem (mt_0 _ (List.mem_of_getElem? (i := 23) rfl)) rfl
theorem qc_X5_print : Cond.code yX5_print cX5_print 4 none ∈ lw_all := lw_mem (mt_5 _ (List.mem_of_getElem? (i := 39) rfl)) rfl
theorem qm_X5_77 : Cond.methodLink RX5 77 Lib.Math.min.name ∈ lw_all := lw_mem (mt_5 _ (List.mem_of_getElem? (i := 44) rfl)) rfl
theorem qm_X5_73 : Cond.methodLink RX5 73 yX5_reads ∈ lw_all := lw_mem (mt_5 _ (List.mem_of_getElem? (i := 40) rfl)) rfl
theorem qi_X5_reads : Cond.instanceMethod yX5_reads ∈ lw_all := lw_mem (mt_5 _ (List.mem_of_getElem? (i := 42) rfl)) rfl
theorem qs_X5_reads : Cond.selects RX5 yX5_reads yX5_reads ∈ lw_all := lw_mem (mt_0 _ (List.mem_of_getElem? (i := 24) rfl)) rfl
theorem qc_X5_reads : Cond.code yX5_reads cX5_reads 2 (some .boolean) ∈ lw_all := lw_mem (mt_5 _ (List.mem_of_getElem? (i := 43) rfl)) rfl
theorem qm_L_153 : Cond.methodLink RL 153 yX4_floors ∈ lw_all := lw_mem (mt_1 _ (List.mem_of_getElem? (i := 188) rfl)) rfl
theorem qi_X4_floors : Cond.instanceMethod yX4_floors ∈ lw_all := lw_mem (mt_1 _ (List.mem_of_getElem? (i := 189) rfl)) rfl
theorem qs_X4_floors : Cond.selects RX4 yX4_floors yX4_floors ∈ lw_all := lw_mem (mt_1 _ (List.mem_of_getElem? (i := 190) rfl)) rfl
theorem qc_X4_floors : Cond.code yX4_floors cX4_floors 1 (some .int) ∈ lw_all := lw_mem (mt_1 _ (List.mem_of_getElem? (i := 191) rfl)) rfl
theorem qm_L_156 : Cond.methodLink RL 156 yX5_floors ∈ lw_all := lw_mem (mt_5 _ (List.mem_of_getElem? (i := 45) rfl)) rfl
theorem qi_X5_floors : Cond.instanceMethod yX5_floors ∈ lw_all := lw_mem (mt_5 _ (List.mem_of_getElem? (i := 46) rfl)) rfl
theorem qs_X5_floors : Cond.selects RX5 yX5_floors yX5_floors ∈ lw_all := lw_mem (mt_5 _ (List.mem_of_getElem? (i := 47) rfl)) rfl
theorem qc_X5_floors : Cond.code yX5_floors cX5_floors 1 (some .int) ∈ lw_all := lw_mem (mt_5 _ (List.mem_of_getElem? (i := 48) rfl)) rfl
theorem qm_X5_125 : Cond.methodLink RX5 125 yX5_told ∈ lw_all := lw_mem (mt_5 _ (List.mem_of_getElem? (i := 49) rfl)) rfl
theorem qi_X5_told : Cond.instanceMethod yX5_told ∈ lw_all := lw_mem (mt_5 _ (List.mem_of_getElem? (i := 51) rfl)) rfl
theorem qs_X5_told : Cond.selects RX5 yX5_told yX5_told ∈ lw_all := lw_mem (mt_0 _ (List.mem_of_getElem? (i := 25) rfl)) rfl
theorem qc_X5_told : Cond.code yX5_told cX5_told 2 (some .int) ∈ lw_all := lw_mem (mt_5 _ (List.mem_of_getElem? (i := 52) rfl)) rfl
theorem qm_L_157 : Cond.methodLink RL 157 yX4_hours ∈ lw_all := lw_mem (mt_1 _ (List.mem_of_getElem? (i := 192) rfl)) rfl
theorem qi_X4_hours : Cond.instanceMethod yX4_hours ∈ lw_all := lw_mem (mt_1 _ (List.mem_of_getElem? (i := 193) rfl)) rfl
theorem qs_X4_hours : Cond.selects RX4 yX4_hours yX4_hours ∈ lw_all := lw_mem (mt_1 _ (List.mem_of_getElem? (i := 194) rfl)) rfl
theorem qc_X4_hours : Cond.code yX4_hours cX4_hours 1 (some .int) ∈ lw_all := lw_mem (mt_1 _ (List.mem_of_getElem? (i := 195) rfl)) rfl
theorem qm_L_160 : Cond.methodLink RL 160 yX5_hours ∈ lw_all := lw_mem (mt_5 _ (List.mem_of_getElem? (i := 53) rfl)) rfl
theorem qi_X5_hours : Cond.instanceMethod yX5_hours ∈ lw_all := lw_mem (mt_5 _ (List.mem_of_getElem? (i := 54) rfl)) rfl
theorem qs_X5_hours : Cond.selects RX5 yX5_hours yX5_hours ∈ lw_all := lw_mem (mt_5 _ (List.mem_of_getElem? (i := 55) rfl)) rfl
theorem qc_X5_hours : Cond.code yX5_hours cX5_hours 1 (some .int) ∈ lw_all := lw_mem (mt_5 _ (List.mem_of_getElem? (i := 56) rfl)) rfl
theorem qm_L_161 : Cond.methodLink RL 161 yX4_liftAt ∈ lw_all := lw_mem (mt_1 _ (List.mem_of_getElem? (i := 196) rfl)) rfl
theorem qi_X4_liftAt : Cond.instanceMethod yX4_liftAt ∈ lw_all := lw_mem (mt_1 _ (List.mem_of_getElem? (i := 197) rfl)) rfl
theorem qs_X4_liftAt : Cond.selects RX4 yX4_liftAt yX4_liftAt ∈ lw_all := lw_mem (mt_1 _ (List.mem_of_getElem? (i := 198) rfl)) rfl
theorem qc_X4_liftAt : Cond.code yX4_liftAt cX4_liftAt 1 (some .int) ∈ lw_all := lw_mem (mt_1 _ (List.mem_of_getElem? (i := 199) rfl)) rfl
theorem qm_L_164 : Cond.methodLink RL 164 yX5_liftAt ∈ lw_all := lw_mem (mt_5 _ (List.mem_of_getElem? (i := 57) rfl)) rfl
theorem qi_X5_liftAt : Cond.instanceMethod yX5_liftAt ∈ lw_all := lw_mem (mt_5 _ (List.mem_of_getElem? (i := 58) rfl)) rfl
theorem qs_X5_liftAt : Cond.selects RX5 yX5_liftAt yX5_liftAt ∈ lw_all := lw_mem (mt_5 _ (List.mem_of_getElem? (i := 59) rfl)) rfl
theorem qc_X5_liftAt : Cond.code yX5_liftAt cX5_liftAt 1 (some .int) ∈ lw_all := lw_mem (mt_5 _ (List.mem_of_getElem? (i := 60) rfl)) rfl
theorem qm_L_165 : Cond.methodLink RL 165 yX4_goes ∈ lw_all := lw_mem (mt_1 _ (List.mem_of_getElem? (i := 200) rfl)) rfl
theorem qi_X4_goes : Cond.instanceMethod yX4_goes ∈ lw_all := lw_mem (mt_1 _ (List.mem_of_getElem? (i := 201) rfl)) rfl
theorem qs_X4_goes : Cond.selects RX4 yX4_goes yX4_goes ∈ lw_all := lw_mem (mt_1 _ (List.mem_of_getElem? (i := 202) rfl)) rfl
theorem qc_X4_goes : Cond.code yX4_goes cX4_goes 1 (some .int) ∈ lw_all := lw_mem (mt_1 _ (List.mem_of_getElem? (i := 203) rfl)) rfl
theorem qf_X4_151 : Cond.fieldLink RX4 151 "LiftNovel$Course" "way" "I" ∈ lw_all := lw_mem (mt_1 _ (List.mem_of_getElem? (i := 74) rfl)) rfl
theorem qm_L_168 : Cond.methodLink RL 168 yX5_goes ∈ lw_all := lw_mem (mt_5 _ (List.mem_of_getElem? (i := 61) rfl)) rfl
theorem qi_X5_goes : Cond.instanceMethod yX5_goes ∈ lw_all := lw_mem (mt_5 _ (List.mem_of_getElem? (i := 62) rfl)) rfl
theorem qs_X5_goes : Cond.selects RX5 yX5_goes yX5_goes ∈ lw_all := lw_mem (mt_5 _ (List.mem_of_getElem? (i := 63) rfl)) rfl
theorem qc_X5_goes : Cond.code yX5_goes cX5_goes 1 (some .int) ∈ lw_all := lw_mem (mt_5 _ (List.mem_of_getElem? (i := 64) rfl)) rfl
theorem qm_L_169 : Cond.methodLink RL 169 yL_isCalled ∈ lw_all := lw_mem (mt_4 _ (List.mem_of_getElem? (i := 21) rfl)) rfl
theorem qt_L_isCalled : Cond.static yL_isCalled ∈ lw_all := lw_mem (mt_4 _ (List.mem_of_getElem? (i := 22) rfl)) rfl
theorem qc_L_isCalled : Cond.codeWith yL_isCalled cL_isCalled 4 (some .int) [(0, 16, 19, 19)] ∈ lw_all := lw_mem (mt_4 _ (List.mem_of_getElem? (i := 23) rfl)) rfl
theorem qm_L_43 : Cond.methodLink RL 43 yX4_isCalled ∈ lw_all := lw_mem (mt_4 _ (List.mem_of_getElem? (i := 24) rfl)) rfl
theorem qi_X4_isCalled : Cond.instanceMethod yX4_isCalled ∈ lw_all := lw_mem (mt_3 _ (List.mem_of_getElem? (i := 34) rfl)) rfl
theorem qs_X4_isCalled : Cond.selects RX4 yX4_isCalled yX4_isCalled ∈ lw_all := lw_mem (mt_3 _ (List.mem_of_getElem? (i := 35) rfl)) rfl
theorem qc_X4_isCalled : Cond.code yX4_isCalled cX4_isCalled 2 (some .boolean) ∈ lw_all := lw_mem (mt_3 _ (List.mem_of_getElem? (i := 36) rfl)) rfl
theorem qm_L_171 : Cond.methodLink RL 171 yX5_isCalled ∈ lw_all := lw_mem (mt_5 _ (List.mem_of_getElem? (i := 65) rfl)) rfl
theorem qi_X5_isCalled : Cond.instanceMethod yX5_isCalled ∈ lw_all := lw_mem (mt_5 _ (List.mem_of_getElem? (i := 66) rfl)) rfl
theorem qs_X5_isCalled : Cond.selects RX5 yX5_isCalled yX5_isCalled ∈ lw_all := lw_mem (mt_5 _ (List.mem_of_getElem? (i := 67) rfl)) rfl
theorem qc_X5_isCalled : Cond.code yX5_isCalled cX5_isCalled 2 (some .boolean) ∈ lw_all := lw_mem (mt_5 _ (List.mem_of_getElem? (i := 68) rfl)) rfl
theorem qm_L_172 : Cond.methodLink RL 172 yX4_calls ∈ lw_all := lw_mem (mt_1 _ (List.mem_of_getElem? (i := 204) rfl)) rfl
theorem qi_X4_calls : Cond.instanceMethod yX4_calls ∈ lw_all := lw_mem (mt_1 _ (List.mem_of_getElem? (i := 205) rfl)) rfl
theorem qs_X4_calls : Cond.selects RX4 yX4_calls yX4_calls ∈ lw_all := lw_mem (mt_1 _ (List.mem_of_getElem? (i := 206) rfl)) rfl
theorem qc_X4_calls : Cond.code yX4_calls cX4_calls 1 (some .int) ∈ lw_all := lw_mem (mt_1 _ (List.mem_of_getElem? (i := 207) rfl)) rfl
theorem qm_X4_154 : Cond.methodLink RX4 154 yX0_countCalled ∈ lw_all := lw_mem (mt_1 _ (List.mem_of_getElem? (i := 208) rfl)) rfl
theorem qm_L_175 : Cond.methodLink RL 175 yX5_calls ∈ lw_all := lw_mem (mt_5 _ (List.mem_of_getElem? (i := 69) rfl)) rfl
theorem qi_X5_calls : Cond.instanceMethod yX5_calls ∈ lw_all := lw_mem (mt_5 _ (List.mem_of_getElem? (i := 70) rfl)) rfl
theorem qs_X5_calls : Cond.selects RX5 yX5_calls yX5_calls ∈ lw_all := lw_mem (mt_5 _ (List.mem_of_getElem? (i := 71) rfl)) rfl
theorem qc_X5_calls : Cond.code yX5_calls cX5_calls 1 (some .int) ∈ lw_all := lw_mem (mt_5 _ (List.mem_of_getElem? (i := 72) rfl)) rfl
theorem qm_L_176 : Cond.methodLink RL 176 yX4_stuckFor ∈ lw_all := lw_mem (mt_1 _ (List.mem_of_getElem? (i := 212) rfl)) rfl
theorem qi_X4_stuckFor : Cond.instanceMethod yX4_stuckFor ∈ lw_all := lw_mem (mt_1 _ (List.mem_of_getElem? (i := 213) rfl)) rfl
theorem qs_X4_stuckFor : Cond.selects RX4 yX4_stuckFor yX4_stuckFor ∈ lw_all := lw_mem (mt_1 _ (List.mem_of_getElem? (i := 214) rfl)) rfl
theorem qc_X4_stuckFor : Cond.code yX4_stuckFor cX4_stuckFor 1 (some .int) ∈ lw_all := lw_mem (mt_1 _ (List.mem_of_getElem? (i := 215) rfl)) rfl
theorem qm_L_179 : Cond.methodLink RL 179 yX5_stuckFor ∈ lw_all := lw_mem (mt_5 _ (List.mem_of_getElem? (i := 73) rfl)) rfl
theorem qi_X5_stuckFor : Cond.instanceMethod yX5_stuckFor ∈ lw_all := lw_mem (mt_5 _ (List.mem_of_getElem? (i := 74) rfl)) rfl
theorem qs_X5_stuckFor : Cond.selects RX5 yX5_stuckFor yX5_stuckFor ∈ lw_all := lw_mem (mt_5 _ (List.mem_of_getElem? (i := 75) rfl)) rfl
theorem qc_X5_stuckFor : Cond.code yX5_stuckFor cX5_stuckFor 1 (some .int) ∈ lw_all := lw_mem (mt_5 _ (List.mem_of_getElem? (i := 76) rfl)) rfl
theorem qm_L_180 : Cond.methodLink RL 180 yX4_wear ∈ lw_all := lw_mem (mt_1 _ (List.mem_of_getElem? (i := 216) rfl)) rfl
theorem qi_X4_wear : Cond.instanceMethod yX4_wear ∈ lw_all := lw_mem (mt_1 _ (List.mem_of_getElem? (i := 217) rfl)) rfl
theorem qs_X4_wear : Cond.selects RX4 yX4_wear yX4_wear ∈ lw_all := lw_mem (mt_1 _ (List.mem_of_getElem? (i := 218) rfl)) rfl
theorem qc_X4_wear : Cond.code yX4_wear cX4_wear 1 (some .int) ∈ lw_all := lw_mem (mt_1 _ (List.mem_of_getElem? (i := 219) rfl)) rfl
theorem qm_L_183 : Cond.methodLink RL 183 yX5_wear ∈ lw_all := lw_mem (mt_5 _ (List.mem_of_getElem? (i := 77) rfl)) rfl
theorem qi_X5_wear : Cond.instanceMethod yX5_wear ∈ lw_all := lw_mem (mt_5 _ (List.mem_of_getElem? (i := 78) rfl)) rfl
theorem qs_X5_wear : Cond.selects RX5 yX5_wear yX5_wear ∈ lw_all := lw_mem (mt_5 _ (List.mem_of_getElem? (i := 79) rfl)) rfl
theorem qc_X5_wear : Cond.code yX5_wear cX5_wear 1 (some .int) ∈ lw_all := lw_mem (mt_5 _ (List.mem_of_getElem? (i := 80) rfl)) rfl
theorem qm_L_184 : Cond.methodLink RL 184 yX4_limit ∈ lw_all := lw_mem (mt_1 _ (List.mem_of_getElem? (i := 220) rfl)) rfl
theorem qi_X4_limit : Cond.instanceMethod yX4_limit ∈ lw_all := lw_mem (mt_1 _ (List.mem_of_getElem? (i := 221) rfl)) rfl
theorem qs_X4_limit : Cond.selects RX4 yX4_limit yX4_limit ∈ lw_all := lw_mem (mt_1 _ (List.mem_of_getElem? (i := 222) rfl)) rfl
theorem qc_X4_limit : Cond.code yX4_limit cX4_limit 1 (some .int) ∈ lw_all := lw_mem (mt_1 _ (List.mem_of_getElem? (i := 223) rfl)) rfl
theorem qm_L_187 : Cond.methodLink RL 187 yX5_limit ∈ lw_all := lw_mem (mt_5 _ (List.mem_of_getElem? (i := 81) rfl)) rfl
theorem qi_X5_limit : Cond.instanceMethod yX5_limit ∈ lw_all := lw_mem (mt_5 _ (List.mem_of_getElem? (i := 82) rfl)) rfl
theorem qs_X5_limit : Cond.selects RX5 yX5_limit yX5_limit ∈ lw_all := lw_mem (mt_5 _ (List.mem_of_getElem? (i := 83) rfl)) rfl
theorem qc_X5_limit : Cond.code yX5_limit cX5_limit 1 (some .int) ∈ lw_all := lw_mem (mt_5 _ (List.mem_of_getElem? (i := 84) rfl)) rfl
theorem qm_L_188 : Cond.methodLink RL 188 yX4_suspense ∈ lw_all := lw_mem (mt_1 _ (List.mem_of_getElem? (i := 224) rfl)) rfl
theorem qi_X4_suspense : Cond.instanceMethod yX4_suspense ∈ lw_all := lw_mem (mt_1 _ (List.mem_of_getElem? (i := 225) rfl)) rfl
theorem qs_X4_suspense : Cond.selects RX4 yX4_suspense yX4_suspense ∈ lw_all := lw_mem (mt_1 _ (List.mem_of_getElem? (i := 226) rfl)) rfl
theorem qc_X4_suspense : Cond.code yX4_suspense cX4_suspense 1 (some .int) ∈ lw_all := lw_mem (mt_1 _ (List.mem_of_getElem? (i := 227) rfl)) rfl
theorem qf_X4_157 : Cond.fieldLink RX4 157 "LiftNovel$Course" "suspense" "I" ∈ lw_all := lw_mem (mt_1 _ (List.mem_of_getElem? (i := 80) rfl)) rfl
theorem qm_L_191 : Cond.methodLink RL 191 yX5_suspense ∈ lw_all := lw_mem (mt_5 _ (List.mem_of_getElem? (i := 85) rfl)) rfl
theorem qi_X5_suspense : Cond.instanceMethod yX5_suspense ∈ lw_all := lw_mem (mt_5 _ (List.mem_of_getElem? (i := 86) rfl)) rfl
theorem qs_X5_suspense : Cond.selects RX5 yX5_suspense yX5_suspense ∈ lw_all := lw_mem (mt_5 _ (List.mem_of_getElem? (i := 87) rfl)) rfl
theorem qc_X5_suspense : Cond.code yX5_suspense cX5_suspense 1 (some .int) ∈ lw_all := lw_mem (mt_5 _ (List.mem_of_getElem? (i := 88) rfl)) rfl
theorem qm_L_192 : Cond.methodLink RL 192 yL_paragraphs ∈ lw_all := lw_mem (mt_4 _ (List.mem_of_getElem? (i := 25) rfl)) rfl
theorem qt_L_paragraphs : Cond.static yL_paragraphs ∈ lw_all := lw_mem (mt_4 _ (List.mem_of_getElem? (i := 26) rfl)) rfl
theorem qc_L_paragraphs : Cond.codeWith yL_paragraphs cL_paragraphs 4 (some .int) [(0, 9, 12, 19)] ∈ lw_all := lw_mem (mt_4 _ (List.mem_of_getElem? (i := 27) rfl)) rfl
theorem qm_L_46 : Cond.methodLink RL 46 yX4_paragraphs ∈ lw_all := lw_mem (mt_4 _ (List.mem_of_getElem? (i := 28) rfl)) rfl
theorem qi_X4_paragraphs : Cond.instanceMethod yX4_paragraphs ∈ lw_all := lw_mem (mt_3 _ (List.mem_of_getElem? (i := 61) rfl)) rfl
theorem qs_X4_paragraphs : Cond.selects RX4 yX4_paragraphs yX4_paragraphs ∈ lw_all := lw_mem (mt_3 _ (List.mem_of_getElem? (i := 62) rfl)) rfl
theorem qc_X4_paragraphs : Cond.code yX4_paragraphs cX4_paragraphs 2 (some .int) ∈ lw_all := lw_mem (mt_3 _ (List.mem_of_getElem? (i := 63) rfl)) rfl
theorem qm_L_194 : Cond.methodLink RL 194 yX5_paragraphs ∈ lw_all := lw_mem (mt_5 _ (List.mem_of_getElem? (i := 89) rfl)) rfl
theorem qi_X5_paragraphs : Cond.instanceMethod yX5_paragraphs ∈ lw_all := lw_mem (mt_5 _ (List.mem_of_getElem? (i := 90) rfl)) rfl
theorem qs_X5_paragraphs : Cond.selects RX5 yX5_paragraphs yX5_paragraphs ∈ lw_all := lw_mem (mt_5 _ (List.mem_of_getElem? (i := 91) rfl)) rfl
theorem qc_X5_paragraphs : Cond.code yX5_paragraphs cX5_paragraphs 2 (some .int) ∈ lw_all := lw_mem (mt_5 _ (List.mem_of_getElem? (i := 92) rfl)) rfl
theorem qm_L_195 : Cond.methodLink RL 195 yL_nextParagraph ∈ lw_all := lw_mem (mt_4 _ (List.mem_of_getElem? (i := 29) rfl)) rfl
theorem qt_L_nextParagraph : Cond.static yL_nextParagraph ∈ lw_all := lw_mem (mt_4 _ (List.mem_of_getElem? (i := 30) rfl)) rfl
theorem qc_L_nextParagraph : Cond.codeWith yL_nextParagraph cL_nextParagraph 4 (some .int) [(0, 9, 12, 19)] ∈ lw_all := lw_mem (mt_4 _ (List.mem_of_getElem? (i := 31) rfl)) rfl
theorem qm_L_49 : Cond.methodLink RL 49 yX4_nextParagraph ∈ lw_all := lw_mem (mt_4 _ (List.mem_of_getElem? (i := 32) rfl)) rfl
theorem qi_X4_nextParagraph : Cond.instanceMethod yX4_nextParagraph ∈ lw_all := lw_mem (mt_3 _ (List.mem_of_getElem? (i := 65) rfl)) rfl
theorem qs_X4_nextParagraph : Cond.selects RX4 yX4_nextParagraph yX4_nextParagraph ∈ lw_all := lw_mem (mt_3 _ (List.mem_of_getElem? (i := 66) rfl)) rfl
theorem qc_X4_nextParagraph : Cond.code yX4_nextParagraph cX4_nextParagraph 2 (some .int) ∈ lw_all := lw_mem (mt_3 _ (List.mem_of_getElem? (i := 67) rfl)) rfl
theorem qm_L_197 : Cond.methodLink RL 197 yX5_nextParagraph ∈ lw_all := lw_mem (mt_5 _ (List.mem_of_getElem? (i := 93) rfl)) rfl
theorem qi_X5_nextParagraph : Cond.instanceMethod yX5_nextParagraph ∈ lw_all := lw_mem (mt_5 _ (List.mem_of_getElem? (i := 94) rfl)) rfl
theorem qs_X5_nextParagraph : Cond.selects RX5 yX5_nextParagraph yX5_nextParagraph ∈ lw_all := lw_mem (mt_5 _ (List.mem_of_getElem? (i := 95) rfl)) rfl
theorem qc_X5_nextParagraph : Cond.code yX5_nextParagraph cX5_nextParagraph 2 (some .int) ∈ lw_all := lw_mem (mt_5 _ (List.mem_of_getElem? (i := 96) rfl)) rfl
theorem qm_X5_127 : Cond.methodLink RX5 127 yX5_next ∈ lw_all := lw_mem (mt_5 _ (List.mem_of_getElem? (i := 97) rfl)) rfl
theorem qi_X5_next : Cond.instanceMethod yX5_next ∈ lw_all := lw_mem (mt_5 _ (List.mem_of_getElem? (i := 99) rfl)) rfl
theorem qs_X5_next : Cond.selects RX5 yX5_next yX5_next ∈ lw_all := lw_mem (mt_0 _ (List.mem_of_getElem? (i := 26) rfl)) rfl
theorem qc_X5_next : Cond.code yX5_next cX5_next 2 (some .int) ∈ lw_all := lw_mem (mt_5 _ (List.mem_of_getElem? (i := 100) rfl)) rfl
theorem qm_L_198 : Cond.methodLink RL 198 yL_topicOf ∈ lw_all := lw_mem (mt_4 _ (List.mem_of_getElem? (i := 33) rfl)) rfl
theorem qt_L_topicOf : Cond.static yL_topicOf ∈ lw_all := lw_mem (mt_4 _ (List.mem_of_getElem? (i := 34) rfl)) rfl
theorem qc_L_topicOf : Cond.codeWith yL_topicOf cL_topicOf 5 (some .int) [(0, 10, 13, 19)] ∈ lw_all := lw_mem (mt_4 _ (List.mem_of_getElem? (i := 35) rfl)) rfl
theorem qm_L_52 : Cond.methodLink RL 52 yX4_topicOf ∈ lw_all := lw_mem (mt_4 _ (List.mem_of_getElem? (i := 36) rfl)) rfl
theorem qi_X4_topicOf : Cond.instanceMethod yX4_topicOf ∈ lw_all := lw_mem (mt_4 _ (List.mem_of_getElem? (i := 37) rfl)) rfl
theorem qs_X4_topicOf : Cond.selects RX4 yX4_topicOf yX4_topicOf ∈ lw_all := lw_mem (mt_4 _ (List.mem_of_getElem? (i := 38) rfl)) rfl
theorem qc_X4_topicOf : Cond.code yX4_topicOf cX4_topicOf 3 (some .int) ∈ lw_all := lw_mem (mt_4 _ (List.mem_of_getElem? (i := 39) rfl)) rfl
theorem qm_X4_160 : Cond.methodLink RX4 160 yX4_needParagraph ∈ lw_all := lw_mem (mt_4 _ (List.mem_of_getElem? (i := 40) rfl)) rfl
theorem qi_X4_needParagraph : Cond.instanceMethod yX4_needParagraph ∈ lw_all := lw_mem (mt_4 _ (List.mem_of_getElem? (i := 42) rfl)) rfl
theorem qs_X4_needParagraph : Cond.selects RX4 yX4_needParagraph yX4_needParagraph ∈ lw_all := lw_mem (mt_0 _ (List.mem_of_getElem? (i := 14) rfl)) rfl
theorem qc_X4_needParagraph : Cond.code yX4_needParagraph cX4_needParagraph 3 none ∈ lw_all := lw_mem (mt_4 _ (List.mem_of_getElem? (i := 43) rfl)) rfl
theorem qm_X4_164 : Cond.methodLink RX4 164 yX1_topicAt ∈ lw_all := lw_mem (mt_2 _ (List.mem_of_getElem? (i := 63) rfl)) rfl
theorem qm_L_200 : Cond.methodLink RL 200 yX5_topicOf ∈ lw_all := lw_mem (mt_5 _ (List.mem_of_getElem? (i := 101) rfl)) rfl
theorem qi_X5_topicOf : Cond.instanceMethod yX5_topicOf ∈ lw_all := lw_mem (mt_5 _ (List.mem_of_getElem? (i := 102) rfl)) rfl
theorem qs_X5_topicOf : Cond.selects RX5 yX5_topicOf yX5_topicOf ∈ lw_all := lw_mem (mt_5 _ (List.mem_of_getElem? (i := 103) rfl)) rfl
theorem qc_X5_topicOf : Cond.code yX5_topicOf cX5_topicOf 3 (some .int) ∈ lw_all := lw_mem (mt_5 _ (List.mem_of_getElem? (i := 104) rfl)) rfl
theorem qm_X5_130 : Cond.methodLink RX5 130 yX5_of ∈ lw_all := lw_mem (mt_5 _ (List.mem_of_getElem? (i := 105) rfl)) rfl
theorem qi_X5_of : Cond.instanceMethod yX5_of ∈ lw_all := lw_mem (mt_5 _ (List.mem_of_getElem? (i := 107) rfl)) rfl
theorem qs_X5_of : Cond.selects RX5 yX5_of yX5_of ∈ lw_all := lw_mem (mt_0 _ (List.mem_of_getElem? (i := 27) rfl)) rfl
theorem qc_X5_of : Cond.code yX5_of cX5_of 4 (some .int) ∈ lw_all := lw_mem (mt_5 _ (List.mem_of_getElem? (i := 108) rfl)) rfl
theorem qm_L_201 : Cond.methodLink RL 201 yL_thrillOf ∈ lw_all := lw_mem (mt_4 _ (List.mem_of_getElem? (i := 45) rfl)) rfl
theorem qt_L_thrillOf : Cond.static yL_thrillOf ∈ lw_all := lw_mem (mt_4 _ (List.mem_of_getElem? (i := 46) rfl)) rfl
theorem qc_L_thrillOf : Cond.codeWith yL_thrillOf cL_thrillOf 5 (some .int) [(0, 10, 13, 19)] ∈ lw_all := lw_mem (mt_4 _ (List.mem_of_getElem? (i := 47) rfl)) rfl
theorem qm_L_55 : Cond.methodLink RL 55 yX4_thrillOf ∈ lw_all := lw_mem (mt_4 _ (List.mem_of_getElem? (i := 48) rfl)) rfl
theorem qi_X4_thrillOf : Cond.instanceMethod yX4_thrillOf ∈ lw_all := lw_mem (mt_4 _ (List.mem_of_getElem? (i := 49) rfl)) rfl
theorem qs_X4_thrillOf : Cond.selects RX4 yX4_thrillOf yX4_thrillOf ∈ lw_all := lw_mem (mt_4 _ (List.mem_of_getElem? (i := 50) rfl)) rfl
theorem qc_X4_thrillOf : Cond.code yX4_thrillOf cX4_thrillOf 3 (some .int) ∈ lw_all := lw_mem (mt_4 _ (List.mem_of_getElem? (i := 51) rfl)) rfl
theorem qm_X4_167 : Cond.methodLink RX4 167 yX1_thrillAt ∈ lw_all := lw_mem (mt_4 _ (List.mem_of_getElem? (i := 52) rfl)) rfl
theorem qm_L_203 : Cond.methodLink RL 203 yX5_thrillOf ∈ lw_all := lw_mem (mt_5 _ (List.mem_of_getElem? (i := 109) rfl)) rfl
theorem qi_X5_thrillOf : Cond.instanceMethod yX5_thrillOf ∈ lw_all := lw_mem (mt_5 _ (List.mem_of_getElem? (i := 110) rfl)) rfl
theorem qs_X5_thrillOf : Cond.selects RX5 yX5_thrillOf yX5_thrillOf ∈ lw_all := lw_mem (mt_5 _ (List.mem_of_getElem? (i := 111) rfl)) rfl
theorem qc_X5_thrillOf : Cond.code yX5_thrillOf cX5_thrillOf 3 (some .int) ∈ lw_all := lw_mem (mt_5 _ (List.mem_of_getElem? (i := 112) rfl)) rfl
theorem qm_L_204 : Cond.methodLink RL 204 yL_cutOn ∈ lw_all := lw_mem (mt_4 _ (List.mem_of_getElem? (i := 53) rfl)) rfl
theorem qt_L_cutOn : Cond.static yL_cutOn ∈ lw_all := lw_mem (mt_4 _ (List.mem_of_getElem? (i := 54) rfl)) rfl
theorem qc_L_cutOn : Cond.codeWith yL_cutOn cL_cutOn 4 (some .int) [(0, 9, 12, 19)] ∈ lw_all := lw_mem (mt_4 _ (List.mem_of_getElem? (i := 55) rfl)) rfl
theorem qm_L_58 : Cond.methodLink RL 58 yX4_cutOn ∈ lw_all := lw_mem (mt_4 _ (List.mem_of_getElem? (i := 56) rfl)) rfl
theorem qi_X4_cutOn : Cond.instanceMethod yX4_cutOn ∈ lw_all := lw_mem (mt_3 _ (List.mem_of_getElem? (i := 69) rfl)) rfl
theorem qs_X4_cutOn : Cond.selects RX4 yX4_cutOn yX4_cutOn ∈ lw_all := lw_mem (mt_3 _ (List.mem_of_getElem? (i := 70) rfl)) rfl
theorem qc_X4_cutOn : Cond.code yX4_cutOn cX4_cutOn 2 (some .int) ∈ lw_all := lw_mem (mt_3 _ (List.mem_of_getElem? (i := 71) rfl)) rfl
theorem qf_X4_170 : Cond.fieldLink RX4 170 "LiftNovel$Course" "cut" "[I" ∈ lw_all := lw_mem (mt_1 _ (List.mem_of_getElem? (i := 87) rfl)) rfl
theorem qm_L_206 : Cond.methodLink RL 206 yX5_cutOn ∈ lw_all := lw_mem (mt_5 _ (List.mem_of_getElem? (i := 113) rfl)) rfl
theorem qi_X5_cutOn : Cond.instanceMethod yX5_cutOn ∈ lw_all := lw_mem (mt_5 _ (List.mem_of_getElem? (i := 114) rfl)) rfl
theorem qs_X5_cutOn : Cond.selects RX5 yX5_cutOn yX5_cutOn ∈ lw_all := lw_mem (mt_5 _ (List.mem_of_getElem? (i := 115) rfl)) rfl
theorem qc_X5_cutOn : Cond.code yX5_cutOn cX5_cutOn 2 (some .int) ∈ lw_all := lw_mem (mt_5 _ (List.mem_of_getElem? (i := 116) rfl)) rfl
theorem qm_L_207 : Cond.methodLink RL 207 yL_isForbidden ∈ lw_all := lw_mem (mt_4 _ (List.mem_of_getElem? (i := 57) rfl)) rfl
theorem qt_L_isForbidden : Cond.static yL_isForbidden ∈ lw_all := lw_mem (mt_4 _ (List.mem_of_getElem? (i := 58) rfl)) rfl
theorem qc_L_isForbidden : Cond.codeWith yL_isForbidden cL_isForbidden 4 (some .int) [(0, 16, 19, 19)] ∈ lw_all := lw_mem (mt_4 _ (List.mem_of_getElem? (i := 59) rfl)) rfl
theorem qm_L_61 : Cond.methodLink RL 61 yX4_isForbidden ∈ lw_all := lw_mem (mt_4 _ (List.mem_of_getElem? (i := 60) rfl)) rfl
theorem qi_X4_isForbidden : Cond.instanceMethod yX4_isForbidden ∈ lw_all := lw_mem (mt_3 _ (List.mem_of_getElem? (i := 81) rfl)) rfl
theorem qs_X4_isForbidden : Cond.selects RX4 yX4_isForbidden yX4_isForbidden ∈ lw_all := lw_mem (mt_3 _ (List.mem_of_getElem? (i := 82) rfl)) rfl
theorem qc_X4_isForbidden : Cond.code yX4_isForbidden cX4_isForbidden 2 (some .boolean) ∈ lw_all := lw_mem (mt_3 _ (List.mem_of_getElem? (i := 83) rfl)) rfl
theorem qm_L_209 : Cond.methodLink RL 209 yX5_isForbidden ∈ lw_all := lw_mem (mt_5 _ (List.mem_of_getElem? (i := 117) rfl)) rfl
theorem qi_X5_isForbidden : Cond.instanceMethod yX5_isForbidden ∈ lw_all := lw_mem (mt_5 _ (List.mem_of_getElem? (i := 118) rfl)) rfl
theorem qs_X5_isForbidden : Cond.selects RX5 yX5_isForbidden yX5_isForbidden ∈ lw_all := lw_mem (mt_5 _ (List.mem_of_getElem? (i := 119) rfl)) rfl
theorem qc_X5_isForbidden : Cond.code yX5_isForbidden cX5_isForbidden 2 (some .boolean) ∈ lw_all := lw_mem (mt_5 _ (List.mem_of_getElem? (i := 120) rfl)) rfl
theorem qm_L_210 : Cond.methodLink RL 210 yX4_cuts ∈ lw_all := lw_mem (mt_1 _ (List.mem_of_getElem? (i := 228) rfl)) rfl
theorem qi_X4_cuts : Cond.instanceMethod yX4_cuts ∈ lw_all := lw_mem (mt_1 _ (List.mem_of_getElem? (i := 229) rfl)) rfl
theorem qs_X4_cuts : Cond.selects RX4 yX4_cuts yX4_cuts ∈ lw_all := lw_mem (mt_1 _ (List.mem_of_getElem? (i := 230) rfl)) rfl
theorem qc_X4_cuts : Cond.code yX4_cuts cX4_cuts 1 (some .int) ∈ lw_all := lw_mem (mt_1 _ (List.mem_of_getElem? (i := 231) rfl)) rfl
theorem qm_X4_173 : Cond.methodLink RX4 173 yX0_countCut ∈ lw_all := lw_mem (mt_1 _ (List.mem_of_getElem? (i := 232) rfl)) rfl
theorem qi_X0_countCut : Cond.instanceMethod yX0_countCut ∈ lw_all := lw_mem (mt_1 _ (List.mem_of_getElem? (i := 233) rfl)) rfl
theorem qs_X0_countCut : Cond.selects RX0 yX0_countCut yX0_countCut ∈ lw_all := lw_mem (mt_1 _ (List.mem_of_getElem? (i := 234) rfl)) rfl
theorem qc_X0_countCut : Cond.code yX0_countCut cX0_countCut 3 (some .int) ∈ lw_all := lw_mem (mt_1 _ (List.mem_of_getElem? (i := 235) rfl)) rfl
theorem qm_L_213 : Cond.methodLink RL 213 yX5_cuts ∈ lw_all := lw_mem (mt_5 _ (List.mem_of_getElem? (i := 121) rfl)) rfl
theorem qi_X5_cuts : Cond.instanceMethod yX5_cuts ∈ lw_all := lw_mem (mt_5 _ (List.mem_of_getElem? (i := 122) rfl)) rfl
theorem qs_X5_cuts : Cond.selects RX5 yX5_cuts yX5_cuts ∈ lw_all := lw_mem (mt_5 _ (List.mem_of_getElem? (i := 123) rfl)) rfl
theorem qc_X5_cuts : Cond.code yX5_cuts cX5_cuts 1 (some .int) ∈ lw_all := lw_mem (mt_5 _ (List.mem_of_getElem? (i := 124) rfl)) rfl
theorem qm_X5_134 : Cond.methodLink RX5 134 yX5_cut ∈ lw_all := lw_mem (mt_5 _ (List.mem_of_getElem? (i := 125) rfl)) rfl
theorem qi_X5_cut : Cond.instanceMethod yX5_cut ∈ lw_all := lw_mem (mt_5 _ (List.mem_of_getElem? (i := 127) rfl)) rfl
theorem qs_X5_cut : Cond.selects RX5 yX5_cut yX5_cut ∈ lw_all := lw_mem (mt_0 _ (List.mem_of_getElem? (i := 28) rfl)) rfl
theorem qc_X5_cut : Cond.code yX5_cut cX5_cut 3 (some .int) ∈ lw_all := lw_mem (mt_5 _ (List.mem_of_getElem? (i := 128) rfl)) rfl
theorem qm_L_214 : Cond.methodLink RL 214 yL_toCome ∈ lw_all := lw_mem (mt_4 _ (List.mem_of_getElem? (i := 61) rfl)) rfl
theorem qt_L_toCome : Cond.static yL_toCome ∈ lw_all := lw_mem (mt_4 _ (List.mem_of_getElem? (i := 62) rfl)) rfl
theorem qc_L_toCome : Cond.codeWith yL_toCome cL_toCome 4 (some .int) [(0, 9, 12, 19)] ∈ lw_all := lw_mem (mt_4 _ (List.mem_of_getElem? (i := 63) rfl)) rfl
theorem qm_L_64 : Cond.methodLink RL 64 yX4_toCome ∈ lw_all := lw_mem (mt_4 _ (List.mem_of_getElem? (i := 64) rfl)) rfl
theorem qi_X4_toCome : Cond.instanceMethod yX4_toCome ∈ lw_all := lw_mem (mt_3 _ (List.mem_of_getElem? (i := 92) rfl)) rfl
theorem qs_X4_toCome : Cond.selects RX4 yX4_toCome yX4_toCome ∈ lw_all := lw_mem (mt_3 _ (List.mem_of_getElem? (i := 93) rfl)) rfl
theorem qc_X4_toCome : Cond.code yX4_toCome cX4_toCome 2 (some .int) ∈ lw_all := lw_mem (mt_3 _ (List.mem_of_getElem? (i := 94) rfl)) rfl
theorem qm_X4_176 : Cond.methodLink RX4 176 yX0_countToCome ∈ lw_all := lw_mem (mt_3 _ (List.mem_of_getElem? (i := 95) rfl)) rfl
theorem qi_X0_countToCome : Cond.instanceMethod yX0_countToCome ∈ lw_all := lw_mem (mt_3 _ (List.mem_of_getElem? (i := 96) rfl)) rfl
theorem qs_X0_countToCome : Cond.selects RX0 yX0_countToCome yX0_countToCome ∈ lw_all := lw_mem (mt_3 _ (List.mem_of_getElem? (i := 97) rfl)) rfl
theorem qc_X0_countToCome : Cond.code yX0_countToCome cX0_countToCome 5 (some .int) ∈ lw_all := lw_mem (mt_3 _ (List.mem_of_getElem? (i := 98) rfl)) rfl
theorem qf_X0_122 : Cond.fieldLink RX0 122 "LiftNovel$House" "floors" "I" ∈ lw_all := lw_mem (mt_1 _ (List.mem_of_getElem? (i := 31) rfl)) rfl
theorem qm_L_216 : Cond.methodLink RL 216 yX5_toCome ∈ lw_all := lw_mem (mt_5 _ (List.mem_of_getElem? (i := 129) rfl)) rfl
theorem qi_X5_toCome : Cond.instanceMethod yX5_toCome ∈ lw_all := lw_mem (mt_5 _ (List.mem_of_getElem? (i := 130) rfl)) rfl
theorem qs_X5_toCome : Cond.selects RX5 yX5_toCome yX5_toCome ∈ lw_all := lw_mem (mt_5 _ (List.mem_of_getElem? (i := 131) rfl)) rfl
theorem qc_X5_toCome : Cond.code yX5_toCome cX5_toCome 2 (some .int) ∈ lw_all := lw_mem (mt_5 _ (List.mem_of_getElem? (i := 132) rfl)) rfl
theorem qm_X5_137 : Cond.methodLink RX5 137 yX5_comes ∈ lw_all := lw_mem (mt_5 _ (List.mem_of_getElem? (i := 133) rfl)) rfl
theorem qi_X5_comes : Cond.instanceMethod yX5_comes ∈ lw_all := lw_mem (mt_5 _ (List.mem_of_getElem? (i := 135) rfl)) rfl
theorem qs_X5_comes : Cond.selects RX5 yX5_comes yX5_comes ∈ lw_all := lw_mem (mt_0 _ (List.mem_of_getElem? (i := 29) rfl)) rfl
theorem qc_X5_comes : Cond.code yX5_comes cX5_comes 5 (some .int) ∈ lw_all := lw_mem (mt_5 _ (List.mem_of_getElem? (i := 136) rfl)) rfl
theorem qm_L_217 : Cond.methodLink RL 217 yX4_instalments ∈ lw_all := lw_mem (mt_1 _ (List.mem_of_getElem? (i := 236) rfl)) rfl
theorem qi_X4_instalments : Cond.instanceMethod yX4_instalments ∈ lw_all := lw_mem (mt_1 _ (List.mem_of_getElem? (i := 237) rfl)) rfl
theorem qs_X4_instalments : Cond.selects RX4 yX4_instalments yX4_instalments ∈ lw_all := lw_mem (mt_1 _ (List.mem_of_getElem? (i := 238) rfl)) rfl
theorem qc_X4_instalments : Cond.code yX4_instalments cX4_instalments 1 (some .int) ∈ lw_all := lw_mem (mt_1 _ (List.mem_of_getElem? (i := 239) rfl)) rfl
theorem qm_L_220 : Cond.methodLink RL 220 yX5_instalments ∈ lw_all := lw_mem (mt_5 _ (List.mem_of_getElem? (i := 137) rfl)) rfl
theorem qi_X5_instalments : Cond.instanceMethod yX5_instalments ∈ lw_all := lw_mem (mt_5 _ (List.mem_of_getElem? (i := 138) rfl)) rfl
theorem qs_X5_instalments : Cond.selects RX5 yX5_instalments yX5_instalments ∈ lw_all := lw_mem (mt_5 _ (List.mem_of_getElem? (i := 139) rfl)) rfl
theorem qc_X5_instalments : Cond.code yX5_instalments cX5_instalments 1 (some .int) ∈ lw_all := lw_mem (mt_5 _ (List.mem_of_getElem? (i := 140) rfl)) rfl
theorem qm_L_221 : Cond.methodLink RL 221 yL_floorIn ∈ lw_all := lw_mem (mt_4 _ (List.mem_of_getElem? (i := 65) rfl)) rfl
theorem qt_L_floorIn : Cond.static yL_floorIn ∈ lw_all := lw_mem (mt_4 _ (List.mem_of_getElem? (i := 66) rfl)) rfl
theorem qc_L_floorIn : Cond.codeWith yL_floorIn cL_floorIn 4 (some .int) [(0, 9, 12, 19)] ∈ lw_all := lw_mem (mt_4 _ (List.mem_of_getElem? (i := 67) rfl)) rfl
theorem qm_L_67 : Cond.methodLink RL 67 yX4_floorIn ∈ lw_all := lw_mem (mt_4 _ (List.mem_of_getElem? (i := 68) rfl)) rfl
theorem qi_X4_floorIn : Cond.instanceMethod yX4_floorIn ∈ lw_all := lw_mem (mt_3 _ (List.mem_of_getElem? (i := 104) rfl)) rfl
theorem qs_X4_floorIn : Cond.selects RX4 yX4_floorIn yX4_floorIn ∈ lw_all := lw_mem (mt_3 _ (List.mem_of_getElem? (i := 105) rfl)) rfl
theorem qc_X4_floorIn : Cond.code yX4_floorIn cX4_floorIn 2 (some .int) ∈ lw_all := lw_mem (mt_3 _ (List.mem_of_getElem? (i := 106) rfl)) rfl
theorem qf_X4_183 : Cond.fieldLink RX4 183 "LiftNovel$Instalments" "floors" "[I" ∈ lw_all := lw_mem (mt_1 _ (List.mem_of_getElem? (i := 133) rfl)) rfl
theorem qm_X4_180 : Cond.methodLink RX4 180 yX4_needInstalment ∈ lw_all := lw_mem (mt_3 _ (List.mem_of_getElem? (i := 107) rfl)) rfl
theorem qi_X4_needInstalment : Cond.instanceMethod yX4_needInstalment ∈ lw_all := lw_mem (mt_3 _ (List.mem_of_getElem? (i := 109) rfl)) rfl
theorem qs_X4_needInstalment : Cond.selects RX4 yX4_needInstalment yX4_needInstalment ∈ lw_all := lw_mem (mt_0 _ (List.mem_of_getElem? (i := 9) rfl)) rfl
theorem qc_X4_needInstalment : Cond.code yX4_needInstalment cX4_needInstalment 2 none ∈ lw_all := lw_mem (mt_3 _ (List.mem_of_getElem? (i := 110) rfl)) rfl
theorem qm_L_223 : Cond.methodLink RL 223 yX5_floorIn ∈ lw_all := lw_mem (mt_5 _ (List.mem_of_getElem? (i := 141) rfl)) rfl
theorem qi_X5_floorIn : Cond.instanceMethod yX5_floorIn ∈ lw_all := lw_mem (mt_5 _ (List.mem_of_getElem? (i := 142) rfl)) rfl
theorem qs_X5_floorIn : Cond.selects RX5 yX5_floorIn yX5_floorIn ∈ lw_all := lw_mem (mt_5 _ (List.mem_of_getElem? (i := 143) rfl)) rfl
theorem qc_X5_floorIn : Cond.code yX5_floorIn cX5_floorIn 2 (some .int) ∈ lw_all := lw_mem (mt_5 _ (List.mem_of_getElem? (i := 144) rfl)) rfl
theorem qm_X5_140 : Cond.methodLink RX5 140 yX5_isInstalment ∈ lw_all := lw_mem (mt_5 _ (List.mem_of_getElem? (i := 145) rfl)) rfl
theorem qi_X5_isInstalment : Cond.instanceMethod yX5_isInstalment ∈ lw_all := lw_mem (mt_5 _ (List.mem_of_getElem? (i := 147) rfl)) rfl
theorem qs_X5_isInstalment : Cond.selects RX5 yX5_isInstalment yX5_isInstalment ∈ lw_all := lw_mem (mt_0 _ (List.mem_of_getElem? (i := 30) rfl)) rfl
theorem qc_X5_isInstalment : Cond.code yX5_isInstalment cX5_isInstalment 2 (some .boolean) ∈ lw_all := lw_mem (mt_5 _ (List.mem_of_getElem? (i := 148) rfl)) rfl
theorem qm_L_224 : Cond.methodLink RL 224 yL_paragraphIn ∈ lw_all := lw_mem (mt_4 _ (List.mem_of_getElem? (i := 69) rfl)) rfl
theorem qt_L_paragraphIn : Cond.static yL_paragraphIn ∈ lw_all := lw_mem (mt_4 _ (List.mem_of_getElem? (i := 70) rfl)) rfl
theorem qc_L_paragraphIn : Cond.codeWith yL_paragraphIn cL_paragraphIn 4 (some .int) [(0, 9, 12, 19)] ∈ lw_all := lw_mem (mt_4 _ (List.mem_of_getElem? (i := 71) rfl)) rfl
theorem qm_L_70 : Cond.methodLink RL 70 yX4_paragraphIn ∈ lw_all := lw_mem (mt_4 _ (List.mem_of_getElem? (i := 72) rfl)) rfl
theorem qi_X4_paragraphIn : Cond.instanceMethod yX4_paragraphIn ∈ lw_all := lw_mem (mt_3 _ (List.mem_of_getElem? (i := 113) rfl)) rfl
theorem qs_X4_paragraphIn : Cond.selects RX4 yX4_paragraphIn yX4_paragraphIn ∈ lw_all := lw_mem (mt_3 _ (List.mem_of_getElem? (i := 114) rfl)) rfl
theorem qc_X4_paragraphIn : Cond.code yX4_paragraphIn cX4_paragraphIn 2 (some .int) ∈ lw_all := lw_mem (mt_3 _ (List.mem_of_getElem? (i := 115) rfl)) rfl
theorem qf_X4_185 : Cond.fieldLink RX4 185 "LiftNovel$Instalments" "paragraphs" "[I" ∈ lw_all := lw_mem (mt_1 _ (List.mem_of_getElem? (i := 135) rfl)) rfl
theorem qm_L_226 : Cond.methodLink RL 226 yX5_paragraphIn ∈ lw_all := lw_mem (mt_5 _ (List.mem_of_getElem? (i := 149) rfl)) rfl
theorem qi_X5_paragraphIn : Cond.instanceMethod yX5_paragraphIn ∈ lw_all := lw_mem (mt_5 _ (List.mem_of_getElem? (i := 150) rfl)) rfl
theorem qs_X5_paragraphIn : Cond.selects RX5 yX5_paragraphIn yX5_paragraphIn ∈ lw_all := lw_mem (mt_5 _ (List.mem_of_getElem? (i := 151) rfl)) rfl
theorem qc_X5_paragraphIn : Cond.code yX5_paragraphIn cX5_paragraphIn 2 (some .int) ∈ lw_all := lw_mem (mt_5 _ (List.mem_of_getElem? (i := 152) rfl)) rfl
theorem qm_L_227 : Cond.methodLink RL 227 yL_thrillIn ∈ lw_all := lw_mem (mt_4 _ (List.mem_of_getElem? (i := 73) rfl)) rfl
theorem qt_L_thrillIn : Cond.static yL_thrillIn ∈ lw_all := lw_mem (mt_4 _ (List.mem_of_getElem? (i := 74) rfl)) rfl
theorem qc_L_thrillIn : Cond.codeWith yL_thrillIn cL_thrillIn 4 (some .int) [(0, 9, 12, 19)] ∈ lw_all := lw_mem (mt_4 _ (List.mem_of_getElem? (i := 75) rfl)) rfl
theorem qm_L_73 : Cond.methodLink RL 73 yX4_thrillIn ∈ lw_all := lw_mem (mt_4 _ (List.mem_of_getElem? (i := 76) rfl)) rfl
theorem qi_X4_thrillIn : Cond.instanceMethod yX4_thrillIn ∈ lw_all := lw_mem (mt_3 _ (List.mem_of_getElem? (i := 117) rfl)) rfl
theorem qs_X4_thrillIn : Cond.selects RX4 yX4_thrillIn yX4_thrillIn ∈ lw_all := lw_mem (mt_3 _ (List.mem_of_getElem? (i := 118) rfl)) rfl
theorem qc_X4_thrillIn : Cond.code yX4_thrillIn cX4_thrillIn 2 (some .int) ∈ lw_all := lw_mem (mt_3 _ (List.mem_of_getElem? (i := 119) rfl)) rfl
theorem qf_X4_188 : Cond.fieldLink RX4 188 "LiftNovel$Instalments" "thrills" "[I" ∈ lw_all := lw_mem (mt_1 _ (List.mem_of_getElem? (i := 137) rfl)) rfl
theorem qm_L_229 : Cond.methodLink RL 229 yX5_thrillIn ∈ lw_all := lw_mem (mt_5 _ (List.mem_of_getElem? (i := 153) rfl)) rfl
theorem qi_X5_thrillIn : Cond.instanceMethod yX5_thrillIn ∈ lw_all := lw_mem (mt_5 _ (List.mem_of_getElem? (i := 154) rfl)) rfl
theorem qs_X5_thrillIn : Cond.selects RX5 yX5_thrillIn yX5_thrillIn ∈ lw_all := lw_mem (mt_5 _ (List.mem_of_getElem? (i := 155) rfl)) rfl
theorem qc_X5_thrillIn : Cond.code yX5_thrillIn cX5_thrillIn 2 (some .int) ∈ lw_all := lw_mem (mt_5 _ (List.mem_of_getElem? (i := 156) rfl)) rfl
theorem qm_L_230 : Cond.methodLink RL 230 yL_hourIn ∈ lw_all := lw_mem (mt_4 _ (List.mem_of_getElem? (i := 77) rfl)) rfl
theorem qt_L_hourIn : Cond.static yL_hourIn ∈ lw_all := lw_mem (mt_4 _ (List.mem_of_getElem? (i := 78) rfl)) rfl
theorem qc_L_hourIn : Cond.codeWith yL_hourIn cL_hourIn 4 (some .int) [(0, 9, 12, 19)] ∈ lw_all := lw_mem (mt_4 _ (List.mem_of_getElem? (i := 79) rfl)) rfl
theorem qm_L_76 : Cond.methodLink RL 76 yX4_hourIn ∈ lw_all := lw_mem (mt_4 _ (List.mem_of_getElem? (i := 80) rfl)) rfl
theorem qi_X4_hourIn : Cond.instanceMethod yX4_hourIn ∈ lw_all := lw_mem (mt_3 _ (List.mem_of_getElem? (i := 121) rfl)) rfl
theorem qs_X4_hourIn : Cond.selects RX4 yX4_hourIn yX4_hourIn ∈ lw_all := lw_mem (mt_3 _ (List.mem_of_getElem? (i := 122) rfl)) rfl
theorem qc_X4_hourIn : Cond.code yX4_hourIn cX4_hourIn 2 (some .int) ∈ lw_all := lw_mem (mt_3 _ (List.mem_of_getElem? (i := 123) rfl)) rfl
theorem qf_X4_191 : Cond.fieldLink RX4 191 "LiftNovel$Instalments" "hours" "[I" ∈ lw_all := lw_mem (mt_1 _ (List.mem_of_getElem? (i := 139) rfl)) rfl
theorem qm_L_232 : Cond.methodLink RL 232 yX5_hourIn ∈ lw_all := lw_mem (mt_5 _ (List.mem_of_getElem? (i := 157) rfl)) rfl
theorem qi_X5_hourIn : Cond.instanceMethod yX5_hourIn ∈ lw_all := lw_mem (mt_5 _ (List.mem_of_getElem? (i := 158) rfl)) rfl
theorem qs_X5_hourIn : Cond.selects RX5 yX5_hourIn yX5_hourIn ∈ lw_all := lw_mem (mt_5 _ (List.mem_of_getElem? (i := 159) rfl)) rfl
theorem qc_X5_hourIn : Cond.code yX5_hourIn cX5_hourIn 2 (some .int) ∈ lw_all := lw_mem (mt_5 _ (List.mem_of_getElem? (i := 160) rfl)) rfl
theorem qm_L_233 : Cond.methodLink RL 233 yX4_mostThrilling ∈ lw_all := lw_mem (mt_2 _ (List.mem_of_getElem? (i := 0) rfl)) rfl
theorem qi_X4_mostThrilling : Cond.instanceMethod yX4_mostThrilling ∈ lw_all := lw_mem (mt_2 _ (List.mem_of_getElem? (i := 1) rfl)) rfl
theorem qs_X4_mostThrilling : Cond.selects RX4 yX4_mostThrilling yX4_mostThrilling ∈ lw_all := lw_mem (mt_2 _ (List.mem_of_getElem? (i := 2) rfl)) rfl
theorem qc_X4_mostThrilling : Cond.code yX4_mostThrilling cX4_mostThrilling 1 (some .int) ∈ lw_all := lw_mem (mt_2 _ (List.mem_of_getElem? (i := 3) rfl)) rfl
theorem qm_X4_194 : Cond.methodLink RX4 194 yX2_findMostThrilling ∈ lw_all := lw_mem (mt_2 _ (List.mem_of_getElem? (i := 4) rfl)) rfl
theorem qi_X2_findMostThrilling : Cond.instanceMethod yX2_findMostThrilling ∈ lw_all := lw_mem (mt_2 _ (List.mem_of_getElem? (i := 5) rfl)) rfl
theorem qs_X2_findMostThrilling : Cond.selects RX2 yX2_findMostThrilling yX2_findMostThrilling ∈ lw_all := lw_mem (mt_2 _ (List.mem_of_getElem? (i := 6) rfl)) rfl
theorem qc_X2_findMostThrilling : Cond.code yX2_findMostThrilling cX2_findMostThrilling 3 (some .int) ∈ lw_all := lw_mem (mt_2 _ (List.mem_of_getElem? (i := 7) rfl)) rfl
theorem qm_L_236 : Cond.methodLink RL 236 yX5_mostThrilling ∈ lw_all := lw_mem (mt_5 _ (List.mem_of_getElem? (i := 161) rfl)) rfl
theorem qi_X5_mostThrilling : Cond.instanceMethod yX5_mostThrilling ∈ lw_all := lw_mem (mt_5 _ (List.mem_of_getElem? (i := 162) rfl)) rfl
theorem qs_X5_mostThrilling : Cond.selects RX5 yX5_mostThrilling yX5_mostThrilling ∈ lw_all := lw_mem (mt_5 _ (List.mem_of_getElem? (i := 163) rfl)) rfl
theorem qc_X5_mostThrilling : Cond.code yX5_mostThrilling cX5_mostThrilling 1 (some .int) ∈ lw_all := lw_mem (mt_5 _ (List.mem_of_getElem? (i := 164) rfl)) rfl
theorem qm_X5_143 : Cond.methodLink RX5 143 yX5_thrilling ∈ lw_all := lw_mem (mt_5 _ (List.mem_of_getElem? (i := 165) rfl)) rfl
theorem qi_X5_thrilling : Cond.instanceMethod yX5_thrilling ∈ lw_all := lw_mem (mt_5 _ (List.mem_of_getElem? (i := 167) rfl)) rfl
theorem qs_X5_thrilling : Cond.selects RX5 yX5_thrilling yX5_thrilling ∈ lw_all := lw_mem (mt_0 _ (List.mem_of_getElem? (i := 31) rfl)) rfl
theorem qc_X5_thrilling : Cond.code yX5_thrilling cX5_thrilling 3 (some .int) ∈ lw_all := lw_mem (mt_5 _ (List.mem_of_getElem? (i := 168) rfl)) rfl
theorem qm_L_237 : Cond.methodLink RL 237 yX4_longestWait ∈ lw_all := lw_mem (mt_2 _ (List.mem_of_getElem? (i := 8) rfl)) rfl
theorem qi_X4_longestWait : Cond.instanceMethod yX4_longestWait ∈ lw_all := lw_mem (mt_2 _ (List.mem_of_getElem? (i := 9) rfl)) rfl
theorem qs_X4_longestWait : Cond.selects RX4 yX4_longestWait yX4_longestWait ∈ lw_all := lw_mem (mt_2 _ (List.mem_of_getElem? (i := 10) rfl)) rfl
theorem qc_X4_longestWait : Cond.code yX4_longestWait cX4_longestWait 1 (some .int) ∈ lw_all := lw_mem (mt_2 _ (List.mem_of_getElem? (i := 11) rfl)) rfl
theorem qm_X4_197 : Cond.methodLink RX4 197 yX2_findLongestWait ∈ lw_all := lw_mem (mt_2 _ (List.mem_of_getElem? (i := 12) rfl)) rfl
theorem qi_X2_findLongestWait : Cond.instanceMethod yX2_findLongestWait ∈ lw_all := lw_mem (mt_2 _ (List.mem_of_getElem? (i := 13) rfl)) rfl
theorem qs_X2_findLongestWait : Cond.selects RX2 yX2_findLongestWait yX2_findLongestWait ∈ lw_all := lw_mem (mt_2 _ (List.mem_of_getElem? (i := 14) rfl)) rfl
theorem qc_X2_findLongestWait : Cond.code yX2_findLongestWait cX2_findLongestWait 3 (some .int) ∈ lw_all := lw_mem (mt_2 _ (List.mem_of_getElem? (i := 15) rfl)) rfl
theorem qm_X2_28 : Cond.methodLink RX2 28 Lib.Math.max.name ∈ lw_all := lw_mem (mt_2 _ (List.mem_of_getElem? (i := 16) rfl)) rfl
theorem qt_Math_max : Cond.static Lib.Math.max.name ∈ lw_all := lw_mem (mt_2 _ (List.mem_of_getElem? (i := 17) rfl)) rfl
theorem qc_Math_max : Cond.code Lib.Math.max.name Lib.Math.max.code 2 (some .int) ∈ lw_all := lw_mem (mt_2 _ (List.mem_of_getElem? (i := 18) rfl)) rfl
theorem qm_L_240 : Cond.methodLink RL 240 yX5_longestWait ∈ lw_all := lw_mem (mt_5 _ (List.mem_of_getElem? (i := 169) rfl)) rfl
theorem qi_X5_longestWait : Cond.instanceMethod yX5_longestWait ∈ lw_all := lw_mem (mt_5 _ (List.mem_of_getElem? (i := 170) rfl)) rfl
theorem qs_X5_longestWait : Cond.selects RX5 yX5_longestWait yX5_longestWait ∈ lw_all := lw_mem (mt_5 _ (List.mem_of_getElem? (i := 171) rfl)) rfl
theorem qc_X5_longestWait : Cond.code yX5_longestWait cX5_longestWait 1 (some .int) ∈ lw_all := lw_mem (mt_5 _ (List.mem_of_getElem? (i := 172) rfl)) rfl
theorem qm_X5_149 : Cond.methodLink RX5 149 yX5_waits ∈ lw_all := lw_mem (mt_5 _ (List.mem_of_getElem? (i := 173) rfl)) rfl
theorem qi_X5_waits : Cond.instanceMethod yX5_waits ∈ lw_all := lw_mem (mt_5 _ (List.mem_of_getElem? (i := 175) rfl)) rfl
theorem qs_X5_waits : Cond.selects RX5 yX5_waits yX5_waits ∈ lw_all := lw_mem (mt_0 _ (List.mem_of_getElem? (i := 32) rfl)) rfl
theorem qc_X5_waits : Cond.code yX5_waits cX5_waits 3 (some .int) ∈ lw_all := lw_mem (mt_5 _ (List.mem_of_getElem? (i := 176) rfl)) rfl
theorem qm_X5_146 : Cond.methodLink RX5 146 Lib.Math.max.name ∈ lw_all := lw_mem (mt_5 _ (List.mem_of_getElem? (i := 177) rfl)) rfl
theorem qm_L_241 : Cond.methodLink RL 241 yX4_climbs ∈ lw_all := lw_mem (mt_2 _ (List.mem_of_getElem? (i := 19) rfl)) rfl
theorem qi_X4_climbs : Cond.instanceMethod yX4_climbs ∈ lw_all := lw_mem (mt_2 _ (List.mem_of_getElem? (i := 20) rfl)) rfl
theorem qs_X4_climbs : Cond.selects RX4 yX4_climbs yX4_climbs ∈ lw_all := lw_mem (mt_2 _ (List.mem_of_getElem? (i := 21) rfl)) rfl
theorem qc_X4_climbs : Cond.code yX4_climbs cX4_climbs 1 (some .int) ∈ lw_all := lw_mem (mt_2 _ (List.mem_of_getElem? (i := 22) rfl)) rfl
theorem qm_X4_200 : Cond.methodLink RX4 200 yX2_countClimbs ∈ lw_all := lw_mem (mt_2 _ (List.mem_of_getElem? (i := 23) rfl)) rfl
theorem qi_X2_countClimbs : Cond.instanceMethod yX2_countClimbs ∈ lw_all := lw_mem (mt_2 _ (List.mem_of_getElem? (i := 24) rfl)) rfl
theorem qs_X2_countClimbs : Cond.selects RX2 yX2_countClimbs yX2_countClimbs ∈ lw_all := lw_mem (mt_2 _ (List.mem_of_getElem? (i := 25) rfl)) rfl
theorem qc_X2_countClimbs : Cond.code yX2_countClimbs cX2_countClimbs 3 (some .int) ∈ lw_all := lw_mem (mt_2 _ (List.mem_of_getElem? (i := 26) rfl)) rfl
theorem qm_L_244 : Cond.methodLink RL 244 yX5_climbs ∈ lw_all := lw_mem (mt_5 _ (List.mem_of_getElem? (i := 178) rfl)) rfl
theorem qi_X5_climbs : Cond.instanceMethod yX5_climbs ∈ lw_all := lw_mem (mt_5 _ (List.mem_of_getElem? (i := 179) rfl)) rfl
theorem qs_X5_climbs : Cond.selects RX5 yX5_climbs yX5_climbs ∈ lw_all := lw_mem (mt_5 _ (List.mem_of_getElem? (i := 180) rfl)) rfl
theorem qc_X5_climbs : Cond.code yX5_climbs cX5_climbs 1 (some .int) ∈ lw_all := lw_mem (mt_5 _ (List.mem_of_getElem? (i := 181) rfl)) rfl
theorem qm_X5_152 : Cond.methodLink RX5 152 yX5_rises ∈ lw_all := lw_mem (mt_5 _ (List.mem_of_getElem? (i := 182) rfl)) rfl
theorem qi_X5_rises : Cond.instanceMethod yX5_rises ∈ lw_all := lw_mem (mt_5 _ (List.mem_of_getElem? (i := 184) rfl)) rfl
theorem qs_X5_rises : Cond.selects RX5 yX5_rises yX5_rises ∈ lw_all := lw_mem (mt_0 _ (List.mem_of_getElem? (i := 33) rfl)) rfl
theorem qc_X5_rises : Cond.code yX5_rises cX5_rises 3 (some .int) ∈ lw_all := lw_mem (mt_5 _ (List.mem_of_getElem? (i := 185) rfl)) rfl
theorem qm_L_245 : Cond.methodLink RL 245 yX4_readers ∈ lw_all := lw_mem (mt_2 _ (List.mem_of_getElem? (i := 27) rfl)) rfl
theorem qi_X4_readers : Cond.instanceMethod yX4_readers ∈ lw_all := lw_mem (mt_2 _ (List.mem_of_getElem? (i := 28) rfl)) rfl
theorem qs_X4_readers : Cond.selects RX4 yX4_readers yX4_readers ∈ lw_all := lw_mem (mt_2 _ (List.mem_of_getElem? (i := 29) rfl)) rfl
theorem qc_X4_readers : Cond.code yX4_readers cX4_readers 1 (some .int) ∈ lw_all := lw_mem (mt_2 _ (List.mem_of_getElem? (i := 30) rfl)) rfl
theorem qm_L_248 : Cond.methodLink RL 248 yX5_readers ∈ lw_all := lw_mem (mt_5 _ (List.mem_of_getElem? (i := 186) rfl)) rfl
theorem qi_X5_readers : Cond.instanceMethod yX5_readers ∈ lw_all := lw_mem (mt_5 _ (List.mem_of_getElem? (i := 187) rfl)) rfl
theorem qs_X5_readers : Cond.selects RX5 yX5_readers yX5_readers ∈ lw_all := lw_mem (mt_5 _ (List.mem_of_getElem? (i := 188) rfl)) rfl
theorem qc_X5_readers : Cond.code yX5_readers cX5_readers 1 (some .int) ∈ lw_all := lw_mem (mt_5 _ (List.mem_of_getElem? (i := 189) rfl)) rfl
theorem qm_L_249 : Cond.methodLink RL 249 yX4_subscribers ∈ lw_all := lw_mem (mt_2 _ (List.mem_of_getElem? (i := 31) rfl)) rfl
theorem qi_X4_subscribers : Cond.instanceMethod yX4_subscribers ∈ lw_all := lw_mem (mt_2 _ (List.mem_of_getElem? (i := 32) rfl)) rfl
theorem qs_X4_subscribers : Cond.selects RX4 yX4_subscribers yX4_subscribers ∈ lw_all := lw_mem (mt_2 _ (List.mem_of_getElem? (i := 33) rfl)) rfl
theorem qc_X4_subscribers : Cond.code yX4_subscribers cX4_subscribers 1 (some .int) ∈ lw_all := lw_mem (mt_2 _ (List.mem_of_getElem? (i := 34) rfl)) rfl
theorem qm_L_252 : Cond.methodLink RL 252 yX5_subscribers ∈ lw_all := lw_mem (mt_5 _ (List.mem_of_getElem? (i := 190) rfl)) rfl
theorem qi_X5_subscribers : Cond.instanceMethod yX5_subscribers ∈ lw_all := lw_mem (mt_5 _ (List.mem_of_getElem? (i := 191) rfl)) rfl
theorem qs_X5_subscribers : Cond.selects RX5 yX5_subscribers yX5_subscribers ∈ lw_all := lw_mem (mt_5 _ (List.mem_of_getElem? (i := 192) rfl)) rfl
theorem qc_X5_subscribers : Cond.code yX5_subscribers cX5_subscribers 1 (some .int) ∈ lw_all := lw_mem (mt_5 _ (List.mem_of_getElem? (i := 193) rfl)) rfl
theorem qm_L_253 : Cond.methodLink RL 253 yL_tasteOf ∈ lw_all := lw_mem (mt_4 _ (List.mem_of_getElem? (i := 81) rfl)) rfl
theorem qt_L_tasteOf : Cond.static yL_tasteOf ∈ lw_all := lw_mem (mt_4 _ (List.mem_of_getElem? (i := 82) rfl)) rfl
theorem qc_L_tasteOf : Cond.codeWith yL_tasteOf cL_tasteOf 4 (some .int) [(0, 9, 12, 19)] ∈ lw_all := lw_mem (mt_4 _ (List.mem_of_getElem? (i := 83) rfl)) rfl
theorem qm_L_79 : Cond.methodLink RL 79 yX4_tasteOf ∈ lw_all := lw_mem (mt_4 _ (List.mem_of_getElem? (i := 84) rfl)) rfl
theorem qi_X4_tasteOf : Cond.instanceMethod yX4_tasteOf ∈ lw_all := lw_mem (mt_4 _ (List.mem_of_getElem? (i := 85) rfl)) rfl
theorem qs_X4_tasteOf : Cond.selects RX4 yX4_tasteOf yX4_tasteOf ∈ lw_all := lw_mem (mt_4 _ (List.mem_of_getElem? (i := 86) rfl)) rfl
theorem qc_X4_tasteOf : Cond.code yX4_tasteOf cX4_tasteOf 2 (some .int) ∈ lw_all := lw_mem (mt_4 _ (List.mem_of_getElem? (i := 87) rfl)) rfl
theorem qm_X4_203 : Cond.methodLink RX4 203 yX4_needReader ∈ lw_all := lw_mem (mt_3 _ (List.mem_of_getElem? (i := 132) rfl)) rfl
theorem qi_X4_needReader : Cond.instanceMethod yX4_needReader ∈ lw_all := lw_mem (mt_3 _ (List.mem_of_getElem? (i := 134) rfl)) rfl
theorem qs_X4_needReader : Cond.selects RX4 yX4_needReader yX4_needReader ∈ lw_all := lw_mem (mt_0 _ (List.mem_of_getElem? (i := 11) rfl)) rfl
theorem qc_X4_needReader : Cond.code yX4_needReader cX4_needReader 2 none ∈ lw_all := lw_mem (mt_3 _ (List.mem_of_getElem? (i := 135) rfl)) rfl
theorem qm_L_255 : Cond.methodLink RL 255 yX5_tasteOf ∈ lw_all := lw_mem (mt_5 _ (List.mem_of_getElem? (i := 194) rfl)) rfl
theorem qi_X5_tasteOf : Cond.instanceMethod yX5_tasteOf ∈ lw_all := lw_mem (mt_5 _ (List.mem_of_getElem? (i := 195) rfl)) rfl
theorem qs_X5_tasteOf : Cond.selects RX5 yX5_tasteOf yX5_tasteOf ∈ lw_all := lw_mem (mt_5 _ (List.mem_of_getElem? (i := 196) rfl)) rfl
theorem qc_X5_tasteOf : Cond.code yX5_tasteOf cX5_tasteOf 2 (some .int) ∈ lw_all := lw_mem (mt_5 _ (List.mem_of_getElem? (i := 197) rfl)) rfl
theorem qm_X5_155 : Cond.methodLink RX5 155 yX5_isReader ∈ lw_all := lw_mem (mt_5 _ (List.mem_of_getElem? (i := 198) rfl)) rfl
theorem qi_X5_isReader : Cond.instanceMethod yX5_isReader ∈ lw_all := lw_mem (mt_5 _ (List.mem_of_getElem? (i := 200) rfl)) rfl
theorem qs_X5_isReader : Cond.selects RX5 yX5_isReader yX5_isReader ∈ lw_all := lw_mem (mt_0 _ (List.mem_of_getElem? (i := 34) rfl)) rfl
theorem qc_X5_isReader : Cond.code yX5_isReader cX5_isReader 2 (some .boolean) ∈ lw_all := lw_mem (mt_5 _ (List.mem_of_getElem? (i := 201) rfl)) rfl
theorem qm_L_256 : Cond.methodLink RL 256 yL_warmthOf ∈ lw_all := lw_mem (mt_4 _ (List.mem_of_getElem? (i := 88) rfl)) rfl
theorem qt_L_warmthOf : Cond.static yL_warmthOf ∈ lw_all := lw_mem (mt_4 _ (List.mem_of_getElem? (i := 89) rfl)) rfl
theorem qc_L_warmthOf : Cond.codeWith yL_warmthOf cL_warmthOf 4 (some .int) [(0, 9, 12, 19)] ∈ lw_all := lw_mem (mt_4 _ (List.mem_of_getElem? (i := 90) rfl)) rfl
theorem qm_L_82 : Cond.methodLink RL 82 yX4_warmthOf ∈ lw_all := lw_mem (mt_4 _ (List.mem_of_getElem? (i := 91) rfl)) rfl
theorem qi_X4_warmthOf : Cond.instanceMethod yX4_warmthOf ∈ lw_all := lw_mem (mt_3 _ (List.mem_of_getElem? (i := 129) rfl)) rfl
theorem qs_X4_warmthOf : Cond.selects RX4 yX4_warmthOf yX4_warmthOf ∈ lw_all := lw_mem (mt_3 _ (List.mem_of_getElem? (i := 130) rfl)) rfl
theorem qc_X4_warmthOf : Cond.code yX4_warmthOf cX4_warmthOf 2 (some .int) ∈ lw_all := lw_mem (mt_3 _ (List.mem_of_getElem? (i := 131) rfl)) rfl
theorem qm_L_258 : Cond.methodLink RL 258 yX5_warmthOf ∈ lw_all := lw_mem (mt_5 _ (List.mem_of_getElem? (i := 202) rfl)) rfl
theorem qi_X5_warmthOf : Cond.instanceMethod yX5_warmthOf ∈ lw_all := lw_mem (mt_5 _ (List.mem_of_getElem? (i := 203) rfl)) rfl
theorem qs_X5_warmthOf : Cond.selects RX5 yX5_warmthOf yX5_warmthOf ∈ lw_all := lw_mem (mt_5 _ (List.mem_of_getElem? (i := 204) rfl)) rfl
theorem qc_X5_warmthOf : Cond.code yX5_warmthOf cX5_warmthOf 2 (some .int) ∈ lw_all := lw_mem (mt_5 _ (List.mem_of_getElem? (i := 205) rfl)) rfl
theorem qm_X5_158 : Cond.methodLink RX5 158 yX5_warm ∈ lw_all := lw_mem (mt_5 _ (List.mem_of_getElem? (i := 206) rfl)) rfl
theorem qi_X5_warm : Cond.instanceMethod yX5_warm ∈ lw_all := lw_mem (mt_5 _ (List.mem_of_getElem? (i := 208) rfl)) rfl
theorem qs_X5_warm : Cond.selects RX5 yX5_warm yX5_warm ∈ lw_all := lw_mem (mt_0 _ (List.mem_of_getElem? (i := 35) rfl)) rfl
theorem qc_X5_warm : Cond.code yX5_warm cX5_warm 2 (some .int) ∈ lw_all := lw_mem (mt_5 _ (List.mem_of_getElem? (i := 209) rfl)) rfl
theorem qm_L_259 : Cond.methodLink RL 259 yL_isSubscriber ∈ lw_all := lw_mem (mt_4 _ (List.mem_of_getElem? (i := 92) rfl)) rfl
theorem qt_L_isSubscriber : Cond.static yL_isSubscriber ∈ lw_all := lw_mem (mt_4 _ (List.mem_of_getElem? (i := 93) rfl)) rfl
theorem qc_L_isSubscriber : Cond.codeWith yL_isSubscriber cL_isSubscriber 4 (some .int) [(0, 16, 19, 19)] ∈ lw_all := lw_mem (mt_4 _ (List.mem_of_getElem? (i := 94) rfl)) rfl
theorem qm_L_85 : Cond.methodLink RL 85 yX4_isSubscriber ∈ lw_all := lw_mem (mt_4 _ (List.mem_of_getElem? (i := 95) rfl)) rfl
theorem qi_X4_isSubscriber : Cond.instanceMethod yX4_isSubscriber ∈ lw_all := lw_mem (mt_3 _ (List.mem_of_getElem? (i := 138) rfl)) rfl
theorem qs_X4_isSubscriber : Cond.selects RX4 yX4_isSubscriber yX4_isSubscriber ∈ lw_all := lw_mem (mt_3 _ (List.mem_of_getElem? (i := 139) rfl)) rfl
theorem qc_X4_isSubscriber : Cond.code yX4_isSubscriber cX4_isSubscriber 2 (some .boolean) ∈ lw_all := lw_mem (mt_3 _ (List.mem_of_getElem? (i := 140) rfl)) rfl
theorem qm_L_261 : Cond.methodLink RL 261 yX5_isSubscriber ∈ lw_all := lw_mem (mt_5 _ (List.mem_of_getElem? (i := 210) rfl)) rfl
theorem qi_X5_isSubscriber : Cond.instanceMethod yX5_isSubscriber ∈ lw_all := lw_mem (mt_5 _ (List.mem_of_getElem? (i := 211) rfl)) rfl
theorem qs_X5_isSubscriber : Cond.selects RX5 yX5_isSubscriber yX5_isSubscriber ∈ lw_all := lw_mem (mt_5 _ (List.mem_of_getElem? (i := 212) rfl)) rfl
theorem qc_X5_isSubscriber : Cond.code yX5_isSubscriber cX5_isSubscriber 2 (some .boolean) ∈ lw_all := lw_mem (mt_5 _ (List.mem_of_getElem? (i := 213) rfl)) rfl
theorem qm_L_262 : Cond.methodLink RL 262 yX4_warmest ∈ lw_all := lw_mem (mt_2 _ (List.mem_of_getElem? (i := 39) rfl)) rfl
theorem qi_X4_warmest : Cond.instanceMethod yX4_warmest ∈ lw_all := lw_mem (mt_2 _ (List.mem_of_getElem? (i := 40) rfl)) rfl
theorem qs_X4_warmest : Cond.selects RX4 yX4_warmest yX4_warmest ∈ lw_all := lw_mem (mt_2 _ (List.mem_of_getElem? (i := 41) rfl)) rfl
theorem qc_X4_warmest : Cond.code yX4_warmest cX4_warmest 1 (some .int) ∈ lw_all := lw_mem (mt_2 _ (List.mem_of_getElem? (i := 42) rfl)) rfl
theorem qm_X4_206 : Cond.methodLink RX4 206 yX0_findWarmest ∈ lw_all := lw_mem (mt_2 _ (List.mem_of_getElem? (i := 43) rfl)) rfl
theorem qi_X0_findWarmest : Cond.instanceMethod yX0_findWarmest ∈ lw_all := lw_mem (mt_2 _ (List.mem_of_getElem? (i := 44) rfl)) rfl
theorem qs_X0_findWarmest : Cond.selects RX0 yX0_findWarmest yX0_findWarmest ∈ lw_all := lw_mem (mt_2 _ (List.mem_of_getElem? (i := 45) rfl)) rfl
theorem qc_X0_findWarmest : Cond.code yX0_findWarmest cX0_findWarmest 3 (some .int) ∈ lw_all := lw_mem (mt_2 _ (List.mem_of_getElem? (i := 46) rfl)) rfl
theorem qm_L_265 : Cond.methodLink RL 265 yX5_warmest ∈ lw_all := lw_mem (mt_5 _ (List.mem_of_getElem? (i := 214) rfl)) rfl
theorem qi_X5_warmest : Cond.instanceMethod yX5_warmest ∈ lw_all := lw_mem (mt_5 _ (List.mem_of_getElem? (i := 215) rfl)) rfl
theorem qs_X5_warmest : Cond.selects RX5 yX5_warmest yX5_warmest ∈ lw_all := lw_mem (mt_5 _ (List.mem_of_getElem? (i := 216) rfl)) rfl
theorem qc_X5_warmest : Cond.code yX5_warmest cX5_warmest 1 (some .int) ∈ lw_all := lw_mem (mt_5 _ (List.mem_of_getElem? (i := 217) rfl)) rfl
theorem qm_X5_161 : Cond.methodLink RX5 161 yX5_hottest ∈ lw_all := lw_mem (mt_5 _ (List.mem_of_getElem? (i := 218) rfl)) rfl
theorem qi_X5_hottest : Cond.instanceMethod yX5_hottest ∈ lw_all := lw_mem (mt_5 _ (List.mem_of_getElem? (i := 220) rfl)) rfl
theorem qs_X5_hottest : Cond.selects RX5 yX5_hottest yX5_hottest ∈ lw_all := lw_mem (mt_0 _ (List.mem_of_getElem? (i := 36) rfl)) rfl
theorem qc_X5_hottest : Cond.code yX5_hottest cX5_hottest 3 (some .int) ∈ lw_all := lw_mem (mt_5 _ (List.mem_of_getElem? (i := 221) rfl)) rfl
theorem qm_L_266 : Cond.methodLink RL 266 yX4_mirrors ∈ lw_all := lw_mem (mt_2 _ (List.mem_of_getElem? (i := 47) rfl)) rfl
theorem qi_X4_mirrors : Cond.instanceMethod yX4_mirrors ∈ lw_all := lw_mem (mt_2 _ (List.mem_of_getElem? (i := 48) rfl)) rfl
theorem qs_X4_mirrors : Cond.selects RX4 yX4_mirrors yX4_mirrors ∈ lw_all := lw_mem (mt_2 _ (List.mem_of_getElem? (i := 49) rfl)) rfl
theorem qc_X4_mirrors : Cond.code yX4_mirrors cX4_mirrors 1 (some .int) ∈ lw_all := lw_mem (mt_2 _ (List.mem_of_getElem? (i := 50) rfl)) rfl
theorem qm_L_269 : Cond.methodLink RL 269 yX5_mirrors ∈ lw_all := lw_mem (mt_5 _ (List.mem_of_getElem? (i := 222) rfl)) rfl
theorem qi_X5_mirrors : Cond.instanceMethod yX5_mirrors ∈ lw_all := lw_mem (mt_5 _ (List.mem_of_getElem? (i := 223) rfl)) rfl
theorem qs_X5_mirrors : Cond.selects RX5 yX5_mirrors yX5_mirrors ∈ lw_all := lw_mem (mt_5 _ (List.mem_of_getElem? (i := 224) rfl)) rfl
theorem qc_X5_mirrors : Cond.code yX5_mirrors cX5_mirrors 1 (some .int) ∈ lw_all := lw_mem (mt_5 _ (List.mem_of_getElem? (i := 225) rfl)) rfl
theorem qm_L_270 : Cond.methodLink RL 270 yL_grade ∈ lw_all := lw_mem (mt_4 _ (List.mem_of_getElem? (i := 96) rfl)) rfl
theorem qt_L_grade : Cond.static yL_grade ∈ lw_all := lw_mem (mt_4 _ (List.mem_of_getElem? (i := 97) rfl)) rfl
theorem qc_L_grade : Cond.codeWith yL_grade cL_grade 5 (some .int) [(0, 10, 13, 19)] ∈ lw_all := lw_mem (mt_4 _ (List.mem_of_getElem? (i := 98) rfl)) rfl
theorem qm_L_88 : Cond.methodLink RL 88 yX4_grade ∈ lw_all := lw_mem (mt_4 _ (List.mem_of_getElem? (i := 99) rfl)) rfl
theorem qi_X4_grade : Cond.instanceMethod yX4_grade ∈ lw_all := lw_mem (mt_4 _ (List.mem_of_getElem? (i := 100) rfl)) rfl
theorem qs_X4_grade : Cond.selects RX4 yX4_grade yX4_grade ∈ lw_all := lw_mem (mt_4 _ (List.mem_of_getElem? (i := 101) rfl)) rfl
theorem qc_X4_grade : Cond.code yX4_grade cX4_grade 3 (some .int) ∈ lw_all := lw_mem (mt_4 _ (List.mem_of_getElem? (i := 102) rfl)) rfl
theorem qm_X4_209 : Cond.methodLink RX4 209 yX4_needMirror ∈ lw_all := lw_mem (mt_3 _ (List.mem_of_getElem? (i := 149) rfl)) rfl
theorem qi_X4_needMirror : Cond.instanceMethod yX4_needMirror ∈ lw_all := lw_mem (mt_3 _ (List.mem_of_getElem? (i := 151) rfl)) rfl
theorem qs_X4_needMirror : Cond.selects RX4 yX4_needMirror yX4_needMirror ∈ lw_all := lw_mem (mt_0 _ (List.mem_of_getElem? (i := 13) rfl)) rfl
theorem qc_X4_needMirror : Cond.code yX4_needMirror cX4_needMirror 2 none ∈ lw_all := lw_mem (mt_3 _ (List.mem_of_getElem? (i := 152) rfl)) rfl
theorem qm_X4_212 : Cond.methodLink RX4 212 yX4_judge ∈ lw_all := lw_mem (mt_2 _ (List.mem_of_getElem? (i := 59) rfl)) rfl
theorem qi_X4_judge : Cond.instanceMethod yX4_judge ∈ lw_all := lw_mem (mt_2 _ (List.mem_of_getElem? (i := 61) rfl)) rfl
theorem qs_X4_judge : Cond.selects RX4 yX4_judge yX4_judge ∈ lw_all := lw_mem (mt_0 _ (List.mem_of_getElem? (i := 1) rfl)) rfl
theorem qc_X4_judge : Cond.code yX4_judge cX4_judge 4 (some .int) ∈ lw_all := lw_mem (mt_2 _ (List.mem_of_getElem? (i := 62) rfl)) rfl
theorem qm_X4_370 : Cond.methodLink RX4 370 yX3_judge ∈ lw_all := lw_mem (mt_2 _ (List.mem_of_getElem? (i := 67) rfl)) rfl
theorem qi_X3_judge : Cond.instanceMethod yX3_judge ∈ lw_all := lw_mem (mt_2 _ (List.mem_of_getElem? (i := 68) rfl)) rfl
theorem qs_X3_judge : Cond.selects RX3 yX3_judge yX3_judge ∈ lw_all := lw_mem (mt_2 _ (List.mem_of_getElem? (i := 69) rfl)) rfl
theorem qc_X3_judge : Cond.code yX3_judge cX3_judge 5 (some .int) ∈ lw_all := lw_mem (mt_2 _ (List.mem_of_getElem? (i := 70) rfl)) rfl
theorem qm_X3_22 : Cond.methodLink RX3 22 Lib.Math.min.name ∈ lw_all := lw_mem (mt_2 _ (List.mem_of_getElem? (i := 71) rfl)) rfl
theorem qm_X3_28 : Cond.methodLink RX3 28 Lib.Math.max.name ∈ lw_all := lw_mem (mt_2 _ (List.mem_of_getElem? (i := 74) rfl)) rfl
theorem qm_L_272 : Cond.methodLink RL 272 yX5_grade ∈ lw_all := lw_mem (mt_5 _ (List.mem_of_getElem? (i := 226) rfl)) rfl
theorem qi_X5_grade : Cond.instanceMethod yX5_grade ∈ lw_all := lw_mem (mt_5 _ (List.mem_of_getElem? (i := 227) rfl)) rfl
theorem qs_X5_grade : Cond.selects RX5 yX5_grade yX5_grade ∈ lw_all := lw_mem (mt_5 _ (List.mem_of_getElem? (i := 228) rfl)) rfl
theorem qc_X5_grade : Cond.code yX5_grade cX5_grade 3 (some .int) ∈ lw_all := lw_mem (mt_5 _ (List.mem_of_getElem? (i := 229) rfl)) rfl
theorem qm_X5_164 : Cond.methodLink RX5 164 yX5_isMirror ∈ lw_all := lw_mem (mt_5 _ (List.mem_of_getElem? (i := 230) rfl)) rfl
theorem qi_X5_isMirror : Cond.instanceMethod yX5_isMirror ∈ lw_all := lw_mem (mt_5 _ (List.mem_of_getElem? (i := 232) rfl)) rfl
theorem qs_X5_isMirror : Cond.selects RX5 yX5_isMirror yX5_isMirror ∈ lw_all := lw_mem (mt_0 _ (List.mem_of_getElem? (i := 37) rfl)) rfl
theorem qc_X5_isMirror : Cond.code yX5_isMirror cX5_isMirror 2 (some .boolean) ∈ lw_all := lw_mem (mt_5 _ (List.mem_of_getElem? (i := 233) rfl)) rfl
theorem qm_X5_167 : Cond.methodLink RX5 167 yX5_graded ∈ lw_all := lw_mem (mt_5 _ (List.mem_of_getElem? (i := 234) rfl)) rfl
theorem qi_X5_graded : Cond.instanceMethod yX5_graded ∈ lw_all := lw_mem (mt_5 _ (List.mem_of_getElem? (i := 236) rfl)) rfl
theorem qs_X5_graded : Cond.selects RX5 yX5_graded yX5_graded ∈ lw_all := lw_mem (mt_0 _ (List.mem_of_getElem? (i := 38) rfl)) rfl
theorem qc_X5_graded : Cond.code yX5_graded cX5_graded 5 (some .int) ∈ lw_all := lw_mem (mt_5 _ (List.mem_of_getElem? (i := 237) rfl)) rfl
theorem qm_L_273 : Cond.methodLink RL 273 yL_gradesBy ∈ lw_all := lw_mem (mt_4 _ (List.mem_of_getElem? (i := 103) rfl)) rfl
theorem qt_L_gradesBy : Cond.static yL_gradesBy ∈ lw_all := lw_mem (mt_4 _ (List.mem_of_getElem? (i := 104) rfl)) rfl
theorem qc_L_gradesBy : Cond.codeWith yL_gradesBy cL_gradesBy 4 (some .int) [(0, 9, 12, 19)] ∈ lw_all := lw_mem (mt_4 _ (List.mem_of_getElem? (i := 105) rfl)) rfl
theorem qm_L_91 : Cond.methodLink RL 91 yX4_gradesBy ∈ lw_all := lw_mem (mt_4 _ (List.mem_of_getElem? (i := 106) rfl)) rfl
theorem qi_X4_gradesBy : Cond.instanceMethod yX4_gradesBy ∈ lw_all := lw_mem (mt_3 _ (List.mem_of_getElem? (i := 146) rfl)) rfl
theorem qs_X4_gradesBy : Cond.selects RX4 yX4_gradesBy yX4_gradesBy ∈ lw_all := lw_mem (mt_3 _ (List.mem_of_getElem? (i := 147) rfl)) rfl
theorem qc_X4_gradesBy : Cond.code yX4_gradesBy cX4_gradesBy 2 (some .int) ∈ lw_all := lw_mem (mt_3 _ (List.mem_of_getElem? (i := 148) rfl)) rfl
theorem qm_X4_215 : Cond.methodLink RX4 215 yX4_sumOfGrades ∈ lw_all := lw_mem (mt_2 _ (List.mem_of_getElem? (i := 55) rfl)) rfl
theorem qi_X4_sumOfGrades : Cond.instanceMethod yX4_sumOfGrades ∈ lw_all := lw_mem (mt_2 _ (List.mem_of_getElem? (i := 57) rfl)) rfl
theorem qs_X4_sumOfGrades : Cond.selects RX4 yX4_sumOfGrades yX4_sumOfGrades ∈ lw_all := lw_mem (mt_0 _ (List.mem_of_getElem? (i := 0) rfl)) rfl
theorem qc_X4_sumOfGrades : Cond.code yX4_sumOfGrades cX4_sumOfGrades 4 (some .int) ∈ lw_all := lw_mem (mt_2 _ (List.mem_of_getElem? (i := 58) rfl)) rfl
theorem qm_L_275 : Cond.methodLink RL 275 yX5_gradesBy ∈ lw_all := lw_mem (mt_5 _ (List.mem_of_getElem? (i := 238) rfl)) rfl
theorem qi_X5_gradesBy : Cond.instanceMethod yX5_gradesBy ∈ lw_all := lw_mem (mt_5 _ (List.mem_of_getElem? (i := 239) rfl)) rfl
theorem qs_X5_gradesBy : Cond.selects RX5 yX5_gradesBy yX5_gradesBy ∈ lw_all := lw_mem (mt_6 _ (List.mem_of_getElem? (i := 0) rfl)) rfl
theorem qc_X5_gradesBy : Cond.code yX5_gradesBy cX5_gradesBy 2 (some .int) ∈ lw_all := lw_mem (mt_6 _ (List.mem_of_getElem? (i := 1) rfl)) rfl
theorem qm_X5_170 : Cond.methodLink RX5 170 yX5_sumBy ∈ lw_all := lw_mem (mt_6 _ (List.mem_of_getElem? (i := 2) rfl)) rfl
theorem qi_X5_sumBy : Cond.instanceMethod yX5_sumBy ∈ lw_all := lw_mem (mt_6 _ (List.mem_of_getElem? (i := 4) rfl)) rfl
theorem qs_X5_sumBy : Cond.selects RX5 yX5_sumBy yX5_sumBy ∈ lw_all := lw_mem (mt_0 _ (List.mem_of_getElem? (i := 39) rfl)) rfl
theorem qc_X5_sumBy : Cond.code yX5_sumBy cX5_sumBy 4 (some .int) ∈ lw_all := lw_mem (mt_6 _ (List.mem_of_getElem? (i := 5) rfl)) rfl
theorem qm_L_276 : Cond.methodLink RL 276 yL_favouriteOf ∈ lw_all := lw_mem (mt_4 _ (List.mem_of_getElem? (i := 107) rfl)) rfl
theorem qt_L_favouriteOf : Cond.static yL_favouriteOf ∈ lw_all := lw_mem (mt_4 _ (List.mem_of_getElem? (i := 108) rfl)) rfl
theorem qc_L_favouriteOf : Cond.codeWith yL_favouriteOf cL_favouriteOf 4 (some .int) [(0, 9, 12, 19)] ∈ lw_all := lw_mem (mt_4 _ (List.mem_of_getElem? (i := 109) rfl)) rfl
theorem qm_L_94 : Cond.methodLink RL 94 yX4_favouriteOf ∈ lw_all := lw_mem (mt_4 _ (List.mem_of_getElem? (i := 110) rfl)) rfl
theorem qi_X4_favouriteOf : Cond.instanceMethod yX4_favouriteOf ∈ lw_all := lw_mem (mt_3 _ (List.mem_of_getElem? (i := 155) rfl)) rfl
theorem qs_X4_favouriteOf : Cond.selects RX4 yX4_favouriteOf yX4_favouriteOf ∈ lw_all := lw_mem (mt_3 _ (List.mem_of_getElem? (i := 156) rfl)) rfl
theorem qc_X4_favouriteOf : Cond.code yX4_favouriteOf cX4_favouriteOf 6 (some .int) ∈ lw_all := lw_mem (mt_3 _ (List.mem_of_getElem? (i := 157) rfl)) rfl
theorem qm_L_278 : Cond.methodLink RL 278 yX5_favouriteOf ∈ lw_all := lw_mem (mt_6 _ (List.mem_of_getElem? (i := 6) rfl)) rfl
theorem qi_X5_favouriteOf : Cond.instanceMethod yX5_favouriteOf ∈ lw_all := lw_mem (mt_6 _ (List.mem_of_getElem? (i := 7) rfl)) rfl
theorem qs_X5_favouriteOf : Cond.selects RX5 yX5_favouriteOf yX5_favouriteOf ∈ lw_all := lw_mem (mt_6 _ (List.mem_of_getElem? (i := 8) rfl)) rfl
theorem qc_X5_favouriteOf : Cond.code yX5_favouriteOf cX5_favouriteOf 2 (some .int) ∈ lw_all := lw_mem (mt_6 _ (List.mem_of_getElem? (i := 9) rfl)) rfl
theorem qm_X5_173 : Cond.methodLink RX5 173 yX5_liked ∈ lw_all := lw_mem (mt_6 _ (List.mem_of_getElem? (i := 10) rfl)) rfl
theorem qi_X5_liked : Cond.instanceMethod yX5_liked ∈ lw_all := lw_mem (mt_6 _ (List.mem_of_getElem? (i := 12) rfl)) rfl
theorem qs_X5_liked : Cond.selects RX5 yX5_liked yX5_liked ∈ lw_all := lw_mem (mt_0 _ (List.mem_of_getElem? (i := 40) rfl)) rfl
theorem qc_X5_liked : Cond.code yX5_liked cX5_liked 4 (some .int) ∈ lw_all := lw_mem (mt_6 _ (List.mem_of_getElem? (i := 13) rfl)) rfl
theorem qm_L_279 : Cond.methodLink RL 279 yX4_kindest ∈ lw_all := lw_mem (mt_2 _ (List.mem_of_getElem? (i := 51) rfl)) rfl
theorem qi_X4_kindest : Cond.instanceMethod yX4_kindest ∈ lw_all := lw_mem (mt_2 _ (List.mem_of_getElem? (i := 52) rfl)) rfl
theorem qs_X4_kindest : Cond.selects RX4 yX4_kindest yX4_kindest ∈ lw_all := lw_mem (mt_2 _ (List.mem_of_getElem? (i := 53) rfl)) rfl
theorem qc_X4_kindest : Cond.code yX4_kindest cX4_kindest 5 (some .int) ∈ lw_all := lw_mem (mt_2 _ (List.mem_of_getElem? (i := 54) rfl)) rfl
theorem qm_L_282 : Cond.methodLink RL 282 yX5_kindest ∈ lw_all := lw_mem (mt_6 _ (List.mem_of_getElem? (i := 14) rfl)) rfl
theorem qi_X5_kindest : Cond.instanceMethod yX5_kindest ∈ lw_all := lw_mem (mt_6 _ (List.mem_of_getElem? (i := 15) rfl)) rfl
theorem qs_X5_kindest : Cond.selects RX5 yX5_kindest yX5_kindest ∈ lw_all := lw_mem (mt_6 _ (List.mem_of_getElem? (i := 16) rfl)) rfl
theorem qc_X5_kindest : Cond.code yX5_kindest cX5_kindest 1 (some .int) ∈ lw_all := lw_mem (mt_6 _ (List.mem_of_getElem? (i := 17) rfl)) rfl
theorem qm_X5_176 : Cond.methodLink RX5 176 yX5_kind ∈ lw_all := lw_mem (mt_6 _ (List.mem_of_getElem? (i := 18) rfl)) rfl
theorem qi_X5_kind : Cond.instanceMethod yX5_kind ∈ lw_all := lw_mem (mt_6 _ (List.mem_of_getElem? (i := 20) rfl)) rfl
theorem qs_X5_kind : Cond.selects RX5 yX5_kind yX5_kind ∈ lw_all := lw_mem (mt_0 _ (List.mem_of_getElem? (i := 41) rfl)) rfl
theorem qc_X5_kind : Cond.code yX5_kind cX5_kind 3 (some .int) ∈ lw_all := lw_mem (mt_6 _ (List.mem_of_getElem? (i := 21) rfl)) rfl
theorem qm_L_283 : Cond.methodLink RL 283 yL_hoursUntilStop ∈ lw_all := lw_mem (mt_4 _ (List.mem_of_getElem? (i := 111) rfl)) rfl
theorem qt_L_hoursUntilStop : Cond.static yL_hoursUntilStop ∈ lw_all := lw_mem (mt_4 _ (List.mem_of_getElem? (i := 112) rfl)) rfl
theorem qc_L_hoursUntilStop : Cond.codeWith yL_hoursUntilStop cL_hoursUntilStop 4 (some .int) [(0, 9, 12, 19)] ∈ lw_all := lw_mem (mt_4 _ (List.mem_of_getElem? (i := 113) rfl)) rfl
theorem qm_L_97 : Cond.methodLink RL 97 yX4_hoursUntilStop ∈ lw_all := lw_mem (mt_4 _ (List.mem_of_getElem? (i := 114) rfl)) rfl
theorem qi_X4_hoursUntilStop : Cond.instanceMethod yX4_hoursUntilStop ∈ lw_all := lw_mem (mt_3 _ (List.mem_of_getElem? (i := 73) rfl)) rfl
theorem qs_X4_hoursUntilStop : Cond.selects RX4 yX4_hoursUntilStop yX4_hoursUntilStop ∈ lw_all := lw_mem (mt_3 _ (List.mem_of_getElem? (i := 74) rfl)) rfl
theorem qc_X4_hoursUntilStop : Cond.code yX4_hoursUntilStop cX4_hoursUntilStop 3 (some .int) ∈ lw_all := lw_mem (mt_3 _ (List.mem_of_getElem? (i := 75) rfl)) rfl
theorem qm_X4_218 : Cond.methodLink RX4 218 yX0_copy ∈ lw_all := lw_mem (mt_2 _ (List.mem_of_getElem? (i := 79) rfl)) rfl
theorem qi_X0_copy : Cond.instanceMethod yX0_copy ∈ lw_all := lw_mem (mt_2 _ (List.mem_of_getElem? (i := 80) rfl)) rfl
theorem qs_X0_copy : Cond.selects RX0 yX0_copy yX0_copy ∈ lw_all := lw_mem (mt_2 _ (List.mem_of_getElem? (i := 81) rfl)) rfl
theorem qc_X0_copy : Cond.code yX0_copy cX0_copy 3 none ∈ lw_all := lw_mem (mt_2 _ (List.mem_of_getElem? (i := 82) rfl)) rfl
theorem qm_L_285 : Cond.methodLink RL 285 yX5_hoursUntilStop ∈ lw_all := lw_mem (mt_6 _ (List.mem_of_getElem? (i := 22) rfl)) rfl
theorem qi_X5_hoursUntilStop : Cond.instanceMethod yX5_hoursUntilStop ∈ lw_all := lw_mem (mt_6 _ (List.mem_of_getElem? (i := 23) rfl)) rfl
theorem qs_X5_hoursUntilStop : Cond.selects RX5 yX5_hoursUntilStop yX5_hoursUntilStop ∈ lw_all := lw_mem (mt_6 _ (List.mem_of_getElem? (i := 24) rfl)) rfl
theorem qc_X5_hoursUntilStop : Cond.code yX5_hoursUntilStop cX5_hoursUntilStop 2 (some .int) ∈ lw_all := lw_mem (mt_6 _ (List.mem_of_getElem? (i := 25) rfl)) rfl
theorem qm_X5_185 : Cond.methodLink RX5 185 yX5_untilStop ∈ lw_all := lw_mem (mt_6 _ (List.mem_of_getElem? (i := 26) rfl)) rfl
theorem qi_X5_untilStop : Cond.instanceMethod yX5_untilStop ∈ lw_all := lw_mem (mt_6 _ (List.mem_of_getElem? (i := 28) rfl)) rfl
theorem qs_X5_untilStop : Cond.selects RX5 yX5_untilStop yX5_untilStop ∈ lw_all := lw_mem (mt_0 _ (List.mem_of_getElem? (i := 42) rfl)) rfl
theorem qc_X5_untilStop : Cond.code yX5_untilStop cX5_untilStop 4 (some .int) ∈ lw_all := lw_mem (mt_6 _ (List.mem_of_getElem? (i := 29) rfl)) rfl
theorem qm_X5_179 : Cond.methodLink RX5 179 yX5_keep ∈ lw_all := lw_mem (mt_6 _ (List.mem_of_getElem? (i := 30) rfl)) rfl
theorem qi_X5_keep : Cond.instanceMethod yX5_keep ∈ lw_all := lw_mem (mt_6 _ (List.mem_of_getElem? (i := 32) rfl)) rfl
theorem qs_X5_keep : Cond.selects RX5 yX5_keep yX5_keep ∈ lw_all := lw_mem (mt_0 _ (List.mem_of_getElem? (i := 43) rfl)) rfl
theorem qc_X5_keep : Cond.code yX5_keep cX5_keep 1 none ∈ lw_all := lw_mem (mt_6 _ (List.mem_of_getElem? (i := 33) rfl)) rfl
theorem qm_X5_63 : Cond.methodLink RX5 63 arraycopyName ∈ lw_all := lw_mem (mt_6 _ (List.mem_of_getElem? (i := 34) rfl)) rfl
theorem qz_Cond_native_arraycopyName : Cond.native arraycopyName ∈ lw_all := lw_mem (mt_6 _ (List.mem_of_getElem? (i := 36) rfl)) rfl
theorem qt_arraycopyName : Cond.static arraycopyName ∈ lw_all := lw_mem (mt_6 _ (List.mem_of_getElem? (i := 35) rfl)) rfl
theorem qn_System : Cond.initialized "java/lang/System" ∈ lw_all := lw_mem (mt_1 _ (List.mem_of_getElem? (i := 14) rfl)) rfl
theorem qm_X5_182 : Cond.methodLink RX5 182 yX5_bringBack ∈ lw_all := lw_mem (mt_6 _ (List.mem_of_getElem? (i := 37) rfl)) rfl
theorem qi_X5_bringBack : Cond.instanceMethod yX5_bringBack ∈ lw_all := lw_mem (mt_6 _ (List.mem_of_getElem? (i := 39) rfl)) rfl
theorem qs_X5_bringBack : Cond.selects RX5 yX5_bringBack yX5_bringBack ∈ lw_all := lw_mem (mt_0 _ (List.mem_of_getElem? (i := 44) rfl)) rfl
theorem qc_X5_bringBack : Cond.code yX5_bringBack cX5_bringBack 1 none ∈ lw_all := lw_mem (mt_6 _ (List.mem_of_getElem? (i := 40) rfl)) rfl
theorem qm_L_286 : Cond.methodLink RL 286 yX4_hoursUntilStuck ∈ lw_all := lw_mem (mt_2 _ (List.mem_of_getElem? (i := 75) rfl)) rfl
theorem qi_X4_hoursUntilStuck : Cond.instanceMethod yX4_hoursUntilStuck ∈ lw_all := lw_mem (mt_2 _ (List.mem_of_getElem? (i := 76) rfl)) rfl
theorem qs_X4_hoursUntilStuck : Cond.selects RX4 yX4_hoursUntilStuck yX4_hoursUntilStuck ∈ lw_all := lw_mem (mt_2 _ (List.mem_of_getElem? (i := 77) rfl)) rfl
theorem qc_X4_hoursUntilStuck : Cond.code yX4_hoursUntilStuck cX4_hoursUntilStuck 2 (some .int) ∈ lw_all := lw_mem (mt_2 _ (List.mem_of_getElem? (i := 78) rfl)) rfl
theorem qm_L_289 : Cond.methodLink RL 289 yX5_hoursUntilStuck ∈ lw_all := lw_mem (mt_6 _ (List.mem_of_getElem? (i := 41) rfl)) rfl
theorem qi_X5_hoursUntilStuck : Cond.instanceMethod yX5_hoursUntilStuck ∈ lw_all := lw_mem (mt_6 _ (List.mem_of_getElem? (i := 42) rfl)) rfl
theorem qs_X5_hoursUntilStuck : Cond.selects RX5 yX5_hoursUntilStuck yX5_hoursUntilStuck ∈ lw_all := lw_mem (mt_6 _ (List.mem_of_getElem? (i := 43) rfl)) rfl
theorem qc_X5_hoursUntilStuck : Cond.code yX5_hoursUntilStuck cX5_hoursUntilStuck 1 (some .int) ∈ lw_all := lw_mem (mt_6 _ (List.mem_of_getElem? (i := 44) rfl)) rfl
theorem qm_X5_188 : Cond.methodLink RX5 188 yX5_untilStuck ∈ lw_all := lw_mem (mt_6 _ (List.mem_of_getElem? (i := 45) rfl)) rfl
theorem qi_X5_untilStuck : Cond.instanceMethod yX5_untilStuck ∈ lw_all := lw_mem (mt_6 _ (List.mem_of_getElem? (i := 47) rfl)) rfl
theorem qs_X5_untilStuck : Cond.selects RX5 yX5_untilStuck yX5_untilStuck ∈ lw_all := lw_mem (mt_0 _ (List.mem_of_getElem? (i := 45) rfl)) rfl
theorem qc_X5_untilStuck : Cond.code yX5_untilStuck cX5_untilStuck 2 (some .int) ∈ lw_all := lw_mem (mt_6 _ (List.mem_of_getElem? (i := 48) rfl)) rfl
theorem qm_L_290 : Cond.methodLink RL 290 yL_printedIn ∈ lw_all := lw_mem (mt_4 _ (List.mem_of_getElem? (i := 115) rfl)) rfl
theorem qt_L_printedIn : Cond.static yL_printedIn ∈ lw_all := lw_mem (mt_4 _ (List.mem_of_getElem? (i := 116) rfl)) rfl
theorem qc_L_printedIn : Cond.codeWith yL_printedIn cL_printedIn 4 (some .int) [(0, 9, 12, 13)] ∈ lw_all := lw_mem (mt_4 _ (List.mem_of_getElem? (i := 117) rfl)) rfl
theorem qm_L_100 : Cond.methodLink RL 100 yX4_printedIn ∈ lw_all := lw_mem (mt_4 _ (List.mem_of_getElem? (i := 118) rfl)) rfl
theorem qi_X4_printedIn : Cond.instanceMethod yX4_printedIn ∈ lw_all := lw_mem (mt_2 _ (List.mem_of_getElem? (i := 178) rfl)) rfl
theorem qs_X4_printedIn : Cond.selects RX4 yX4_printedIn yX4_printedIn ∈ lw_all := lw_mem (mt_2 _ (List.mem_of_getElem? (i := 179) rfl)) rfl
theorem qc_X4_printedIn : Cond.code yX4_printedIn cX4_printedIn 2 (some .int) ∈ lw_all := lw_mem (mt_2 _ (List.mem_of_getElem? (i := 180) rfl)) rfl
theorem qm_X4_222 : Cond.methodLink RX4 222 yX4_needForeseeable ∈ lw_all := lw_mem (mt_2 _ (List.mem_of_getElem? (i := 181) rfl)) rfl
theorem qt_X4_needForeseeable : Cond.static yX4_needForeseeable ∈ lw_all := lw_mem (mt_2 _ (List.mem_of_getElem? (i := 182) rfl)) rfl
theorem qc_X4_needForeseeable : Cond.code yX4_needForeseeable cX4_needForeseeable 1 none ∈ lw_all := lw_mem (mt_2 _ (List.mem_of_getElem? (i := 183) rfl)) rfl
theorem qm_X4_225 : Cond.methodLink RX4 225 yX0_passAndCountPrinted ∈ lw_all := lw_mem (mt_3 _ (List.mem_of_getElem? (i := 12) rfl)) rfl
theorem qi_X0_passAndCountPrinted : Cond.instanceMethod yX0_passAndCountPrinted ∈ lw_all := lw_mem (mt_3 _ (List.mem_of_getElem? (i := 13) rfl)) rfl
theorem qs_X0_passAndCountPrinted : Cond.selects RX0 yX0_passAndCountPrinted yX0_passAndCountPrinted ∈ lw_all := lw_mem (mt_3 _ (List.mem_of_getElem? (i := 14) rfl)) rfl
theorem qc_X0_passAndCountPrinted : Cond.code yX0_passAndCountPrinted cX0_passAndCountPrinted 4 (some .int) ∈ lw_all := lw_mem (mt_3 _ (List.mem_of_getElem? (i := 15) rfl)) rfl
theorem qm_X0_76 : Cond.methodLink RX0 76 yX0_passHour ∈ lw_all := lw_mem (mt_3 _ (List.mem_of_getElem? (i := 16) rfl)) rfl
theorem qm_L_292 : Cond.methodLink RL 292 yX5_printedIn ∈ lw_all := lw_mem (mt_6 _ (List.mem_of_getElem? (i := 49) rfl)) rfl
theorem qi_X5_printedIn : Cond.instanceMethod yX5_printedIn ∈ lw_all := lw_mem (mt_6 _ (List.mem_of_getElem? (i := 50) rfl)) rfl
theorem qs_X5_printedIn : Cond.selects RX5 yX5_printedIn yX5_printedIn ∈ lw_all := lw_mem (mt_6 _ (List.mem_of_getElem? (i := 51) rfl)) rfl
theorem qc_X5_printedIn : Cond.code yX5_printedIn cX5_printedIn 2 (some .int) ∈ lw_all := lw_mem (mt_6 _ (List.mem_of_getElem? (i := 52) rfl)) rfl
theorem qm_X5_194 : Cond.methodLink RX5 194 yX5_then ∈ lw_all := lw_mem (mt_6 _ (List.mem_of_getElem? (i := 53) rfl)) rfl
theorem qi_X5_then : Cond.instanceMethod yX5_then ∈ lw_all := lw_mem (mt_6 _ (List.mem_of_getElem? (i := 55) rfl)) rfl
theorem qs_X5_then : Cond.selects RX5 yX5_then yX5_then ∈ lw_all := lw_mem (mt_0 _ (List.mem_of_getElem? (i := 46) rfl)) rfl
theorem qc_X5_then : Cond.code yX5_then cX5_then 4 (some .int) ∈ lw_all := lw_mem (mt_6 _ (List.mem_of_getElem? (i := 56) rfl)) rfl
theorem qm_X5_191 : Cond.methodLink RX5 191 yX5_warmth ∈ lw_all := lw_mem (mt_6 _ (List.mem_of_getElem? (i := 57) rfl)) rfl
theorem qi_X5_warmth : Cond.instanceMethod yX5_warmth ∈ lw_all := lw_mem (mt_6 _ (List.mem_of_getElem? (i := 59) rfl)) rfl
theorem qs_X5_warmth : Cond.selects RX5 yX5_warmth yX5_warmth ∈ lw_all := lw_mem (mt_0 _ (List.mem_of_getElem? (i := 47) rfl)) rfl
theorem qc_X5_warmth : Cond.code yX5_warmth cX5_warmth 3 (some .int) ∈ lw_all := lw_mem (mt_6 _ (List.mem_of_getElem? (i := 60) rfl)) rfl
theorem qm_L_293 : Cond.methodLink RL 293 yL_subscribersIn ∈ lw_all := lw_mem (mt_4 _ (List.mem_of_getElem? (i := 119) rfl)) rfl
theorem qt_L_subscribersIn : Cond.static yL_subscribersIn ∈ lw_all := lw_mem (mt_4 _ (List.mem_of_getElem? (i := 120) rfl)) rfl
theorem qc_L_subscribersIn : Cond.codeWith yL_subscribersIn cL_subscribersIn 4 (some .int) [(0, 9, 12, 13)] ∈ lw_all := lw_mem (mt_4 _ (List.mem_of_getElem? (i := 121) rfl)) rfl
theorem qm_L_103 : Cond.methodLink RL 103 yX4_subscribersIn ∈ lw_all := lw_mem (mt_4 _ (List.mem_of_getElem? (i := 122) rfl)) rfl
theorem qi_X4_subscribersIn : Cond.instanceMethod yX4_subscribersIn ∈ lw_all := lw_mem (mt_3 _ (List.mem_of_getElem? (i := 18) rfl)) rfl
theorem qs_X4_subscribersIn : Cond.selects RX4 yX4_subscribersIn yX4_subscribersIn ∈ lw_all := lw_mem (mt_3 _ (List.mem_of_getElem? (i := 19) rfl)) rfl
theorem qc_X4_subscribersIn : Cond.code yX4_subscribersIn cX4_subscribersIn 2 (some .int) ∈ lw_all := lw_mem (mt_3 _ (List.mem_of_getElem? (i := 20) rfl)) rfl
theorem qm_L_295 : Cond.methodLink RL 295 yX5_subscribersIn ∈ lw_all := lw_mem (mt_6 _ (List.mem_of_getElem? (i := 61) rfl)) rfl
theorem qi_X5_subscribersIn : Cond.instanceMethod yX5_subscribersIn ∈ lw_all := lw_mem (mt_6 _ (List.mem_of_getElem? (i := 62) rfl)) rfl
theorem qs_X5_subscribersIn : Cond.selects RX5 yX5_subscribersIn yX5_subscribersIn ∈ lw_all := lw_mem (mt_6 _ (List.mem_of_getElem? (i := 63) rfl)) rfl
theorem qc_X5_subscribersIn : Cond.code yX5_subscribersIn cX5_subscribersIn 2 (some .int) ∈ lw_all := lw_mem (mt_6 _ (List.mem_of_getElem? (i := 64) rfl)) rfl
theorem qm_L_296 : Cond.methodLink RL 296 yL_bestToCall ∈ lw_all := lw_mem (mt_4 _ (List.mem_of_getElem? (i := 123) rfl)) rfl
theorem qt_L_bestToCall : Cond.static yL_bestToCall ∈ lw_all := lw_mem (mt_4 _ (List.mem_of_getElem? (i := 124) rfl)) rfl
theorem qc_L_bestToCall : Cond.codeWith yL_bestToCall cL_bestToCall 4 (some .int) [(0, 9, 12, 13)] ∈ lw_all := lw_mem (mt_4 _ (List.mem_of_getElem? (i := 125) rfl)) rfl
theorem qm_L_106 : Cond.methodLink RL 106 yX4_bestToCall ∈ lw_all := lw_mem (mt_4 _ (List.mem_of_getElem? (i := 126) rfl)) rfl
theorem qi_X4_bestToCall : Cond.instanceMethod yX4_bestToCall ∈ lw_all := lw_mem (mt_3 _ (List.mem_of_getElem? (i := 22) rfl)) rfl
theorem qs_X4_bestToCall : Cond.selects RX4 yX4_bestToCall yX4_bestToCall ∈ lw_all := lw_mem (mt_3 _ (List.mem_of_getElem? (i := 23) rfl)) rfl
theorem qc_X4_bestToCall : Cond.code yX4_bestToCall cX4_bestToCall 6 (some .int) ∈ lw_all := lw_mem (mt_3 _ (List.mem_of_getElem? (i := 24) rfl)) rfl
theorem qm_X4_228 : Cond.methodLink RX4 228 yX0_sumOfWarmths ∈ lw_all := lw_mem (mt_2 _ (List.mem_of_getElem? (i := 138) rfl)) rfl
theorem qi_X0_sumOfWarmths : Cond.instanceMethod yX0_sumOfWarmths ∈ lw_all := lw_mem (mt_2 _ (List.mem_of_getElem? (i := 139) rfl)) rfl
theorem qs_X0_sumOfWarmths : Cond.selects RX0 yX0_sumOfWarmths yX0_sumOfWarmths ∈ lw_all := lw_mem (mt_2 _ (List.mem_of_getElem? (i := 140) rfl)) rfl
theorem qc_X0_sumOfWarmths : Cond.code yX0_sumOfWarmths cX0_sumOfWarmths 3 (some .int) ∈ lw_all := lw_mem (mt_2 _ (List.mem_of_getElem? (i := 141) rfl)) rfl
theorem qm_L_298 : Cond.methodLink RL 298 yX5_bestToCall ∈ lw_all := lw_mem (mt_6 _ (List.mem_of_getElem? (i := 65) rfl)) rfl
theorem qi_X5_bestToCall : Cond.instanceMethod yX5_bestToCall ∈ lw_all := lw_mem (mt_6 _ (List.mem_of_getElem? (i := 66) rfl)) rfl
theorem qs_X5_bestToCall : Cond.selects RX5 yX5_bestToCall yX5_bestToCall ∈ lw_all := lw_mem (mt_6 _ (List.mem_of_getElem? (i := 67) rfl)) rfl
theorem qc_X5_bestToCall : Cond.code yX5_bestToCall cX5_bestToCall 2 (some .int) ∈ lw_all := lw_mem (mt_6 _ (List.mem_of_getElem? (i := 68) rfl)) rfl
theorem qm_X5_197 : Cond.methodLink RX5 197 yX5_callBest ∈ lw_all := lw_mem (mt_6 _ (List.mem_of_getElem? (i := 69) rfl)) rfl
theorem qi_X5_callBest : Cond.instanceMethod yX5_callBest ∈ lw_all := lw_mem (mt_6 _ (List.mem_of_getElem? (i := 71) rfl)) rfl
theorem qs_X5_callBest : Cond.selects RX5 yX5_callBest yX5_callBest ∈ lw_all := lw_mem (mt_0 _ (List.mem_of_getElem? (i := 48) rfl)) rfl
theorem qc_X5_callBest : Cond.code yX5_callBest cX5_callBest 7 (some .int) ∈ lw_all := lw_mem (mt_6 _ (List.mem_of_getElem? (i := 72) rfl)) rfl
theorem qm_L_299 : Cond.methodLink RL 299 yL_bestToAllow ∈ lw_all := lw_mem (mt_4 _ (List.mem_of_getElem? (i := 127) rfl)) rfl
theorem qt_L_bestToAllow : Cond.static yL_bestToAllow ∈ lw_all := lw_mem (mt_4 _ (List.mem_of_getElem? (i := 128) rfl)) rfl
theorem qc_L_bestToAllow : Cond.codeWith yL_bestToAllow cL_bestToAllow 4 (some .int) [(0, 9, 12, 13)] ∈ lw_all := lw_mem (mt_4 _ (List.mem_of_getElem? (i := 129) rfl)) rfl
theorem qm_L_109 : Cond.methodLink RL 109 yX4_bestToAllow ∈ lw_all := lw_mem (mt_4 _ (List.mem_of_getElem? (i := 130) rfl)) rfl
theorem qi_X4_bestToAllow : Cond.instanceMethod yX4_bestToAllow ∈ lw_all := lw_mem (mt_3 _ (List.mem_of_getElem? (i := 26) rfl)) rfl
theorem qs_X4_bestToAllow : Cond.selects RX4 yX4_bestToAllow yX4_bestToAllow ∈ lw_all := lw_mem (mt_3 _ (List.mem_of_getElem? (i := 27) rfl)) rfl
theorem qc_X4_bestToAllow : Cond.code yX4_bestToAllow cX4_bestToAllow 6 (some .int) ∈ lw_all := lw_mem (mt_3 _ (List.mem_of_getElem? (i := 28) rfl)) rfl
theorem qm_L_301 : Cond.methodLink RL 301 yX5_bestToAllow ∈ lw_all := lw_mem (mt_6 _ (List.mem_of_getElem? (i := 73) rfl)) rfl
theorem qi_X5_bestToAllow : Cond.instanceMethod yX5_bestToAllow ∈ lw_all := lw_mem (mt_6 _ (List.mem_of_getElem? (i := 74) rfl)) rfl
theorem qs_X5_bestToAllow : Cond.selects RX5 yX5_bestToAllow yX5_bestToAllow ∈ lw_all := lw_mem (mt_6 _ (List.mem_of_getElem? (i := 75) rfl)) rfl
theorem qc_X5_bestToAllow : Cond.code yX5_bestToAllow cX5_bestToAllow 2 (some .int) ∈ lw_all := lw_mem (mt_6 _ (List.mem_of_getElem? (i := 76) rfl)) rfl
theorem qm_X5_200 : Cond.methodLink RX5 200 yX5_allowBest ∈ lw_all := lw_mem (mt_6 _ (List.mem_of_getElem? (i := 77) rfl)) rfl
theorem qi_X5_allowBest : Cond.instanceMethod yX5_allowBest ∈ lw_all := lw_mem (mt_6 _ (List.mem_of_getElem? (i := 79) rfl)) rfl
theorem qs_X5_allowBest : Cond.selects RX5 yX5_allowBest yX5_allowBest ∈ lw_all := lw_mem (mt_0 _ (List.mem_of_getElem? (i := 49) rfl)) rfl
theorem qc_X5_allowBest : Cond.code yX5_allowBest cX5_allowBest 7 (some .int) ∈ lw_all := lw_mem (mt_6 _ (List.mem_of_getElem? (i := 80) rfl)) rfl
theorem qm_L_302 : Cond.methodLink RL 302 yX4_meanWarmth ∈ lw_all := lw_mem (mt_2 _ (List.mem_of_getElem? (i := 134) rfl)) rfl
theorem qi_X4_meanWarmth : Cond.instanceMethod yX4_meanWarmth ∈ lw_all := lw_mem (mt_2 _ (List.mem_of_getElem? (i := 135) rfl)) rfl
theorem qs_X4_meanWarmth : Cond.selects RX4 yX4_meanWarmth yX4_meanWarmth ∈ lw_all := lw_mem (mt_2 _ (List.mem_of_getElem? (i := 136) rfl)) rfl
theorem qc_X4_meanWarmth : Cond.code yX4_meanWarmth cX4_meanWarmth 2 (some .double) ∈ lw_all := lw_mem (mt_2 _ (List.mem_of_getElem? (i := 137) rfl)) rfl
theorem qm_L_306 : Cond.methodLink RL 306 yX5_meanWarmth ∈ lw_all := lw_mem (mt_6 _ (List.mem_of_getElem? (i := 81) rfl)) rfl
theorem qi_X5_meanWarmth : Cond.instanceMethod yX5_meanWarmth ∈ lw_all := lw_mem (mt_6 _ (List.mem_of_getElem? (i := 82) rfl)) rfl
theorem qs_X5_meanWarmth : Cond.selects RX5 yX5_meanWarmth yX5_meanWarmth ∈ lw_all := lw_mem (mt_6 _ (List.mem_of_getElem? (i := 83) rfl)) rfl
theorem qc_X5_meanWarmth : Cond.code yX5_meanWarmth cX5_meanWarmth 2 (some .double) ∈ lw_all := lw_mem (mt_6 _ (List.mem_of_getElem? (i := 84) rfl)) rfl
theorem qm_L_307 : Cond.methodLink RL 307 yX4_digest ∈ lw_all := lw_mem (mt_2 _ (List.mem_of_getElem? (i := 142) rfl)) rfl
theorem qi_X4_digest : Cond.instanceMethod yX4_digest ∈ lw_all := lw_mem (mt_2 _ (List.mem_of_getElem? (i := 143) rfl)) rfl
theorem qs_X4_digest : Cond.selects RX4 yX4_digest yX4_digest ∈ lw_all := lw_mem (mt_2 _ (List.mem_of_getElem? (i := 144) rfl)) rfl
theorem qc_X4_digest : Cond.code yX4_digest cX4_digest 3 (some .long) ∈ lw_all := lw_mem (mt_2 _ (List.mem_of_getElem? (i := 145) rfl)) rfl
theorem ql_X4_231 : Cond.constantLong RX4 231 (2293) ∈ lw_all := lw_mem (mt_2 _ (List.mem_of_getElem? (i := 146) rfl)) rfl
theorem qm_X4_233 : Cond.methodLink RX4 233 yX4_foldLift ∈ lw_all := lw_mem (mt_2 _ (List.mem_of_getElem? (i := 147) rfl)) rfl
theorem qi_X4_foldLift : Cond.instanceMethod yX4_foldLift ∈ lw_all := lw_mem (mt_2 _ (List.mem_of_getElem? (i := 149) rfl)) rfl
theorem qs_X4_foldLift : Cond.selects RX4 yX4_foldLift yX4_foldLift ∈ lw_all := lw_mem (mt_0 _ (List.mem_of_getElem? (i := 2) rfl)) rfl
theorem qc_X4_foldLift : Cond.code yX4_foldLift cX4_foldLift 5 (some .long) ∈ lw_all := lw_mem (mt_2 _ (List.mem_of_getElem? (i := 150) rfl)) rfl
theorem qm_X4_255 : Cond.methodLink RX4 255 yX4_floors ∈ lw_all := lw_mem (mt_2 _ (List.mem_of_getElem? (i := 151) rfl)) rfl
theorem qm_X4_257 : Cond.methodLink RX4 257 yX4_fold ∈ lw_all := lw_mem (mt_2 _ (List.mem_of_getElem? (i := 152) rfl)) rfl
theorem qt_X4_fold : Cond.static yX4_fold ∈ lw_all := lw_mem (mt_2 _ (List.mem_of_getElem? (i := 153) rfl)) rfl
theorem qc_X4_fold : Cond.code yX4_fold cX4_fold 3 (some .long) ∈ lw_all := lw_mem (mt_2 _ (List.mem_of_getElem? (i := 154) rfl)) rfl
theorem ql_X4_368 : Cond.constantLong RX4 368 (31) ∈ lw_all := lw_mem (mt_2 _ (List.mem_of_getElem? (i := 155) rfl)) rfl
theorem qm_X4_261 : Cond.methodLink RX4 261 yX4_hours ∈ lw_all := lw_mem (mt_2 _ (List.mem_of_getElem? (i := 156) rfl)) rfl
theorem qm_X4_263 : Cond.methodLink RX4 263 yX4_liftAt ∈ lw_all := lw_mem (mt_2 _ (List.mem_of_getElem? (i := 157) rfl)) rfl
theorem qm_X4_266 : Cond.methodLink RX4 266 yX4_goes ∈ lw_all := lw_mem (mt_2 _ (List.mem_of_getElem? (i := 158) rfl)) rfl
theorem qm_X4_269 : Cond.methodLink RX4 269 yX4_calls ∈ lw_all := lw_mem (mt_2 _ (List.mem_of_getElem? (i := 159) rfl)) rfl
theorem qm_X4_272 : Cond.methodLink RX4 272 yX4_stuckFor ∈ lw_all := lw_mem (mt_2 _ (List.mem_of_getElem? (i := 160) rfl)) rfl
theorem qm_X4_275 : Cond.methodLink RX4 275 yX4_wear ∈ lw_all := lw_mem (mt_2 _ (List.mem_of_getElem? (i := 161) rfl)) rfl
theorem qm_X4_277 : Cond.methodLink RX4 277 yX4_limit ∈ lw_all := lw_mem (mt_2 _ (List.mem_of_getElem? (i := 162) rfl)) rfl
theorem qm_X4_279 : Cond.methodLink RX4 279 yX4_suspense ∈ lw_all := lw_mem (mt_2 _ (List.mem_of_getElem? (i := 163) rfl)) rfl
theorem qm_X4_281 : Cond.methodLink RX4 281 yX4_cuts ∈ lw_all := lw_mem (mt_2 _ (List.mem_of_getElem? (i := 164) rfl)) rfl
theorem qm_X4_284 : Cond.methodLink RX4 284 yX4_instalments ∈ lw_all := lw_mem (mt_2 _ (List.mem_of_getElem? (i := 165) rfl)) rfl
theorem qm_X4_287 : Cond.methodLink RX4 287 yX4_mostThrilling ∈ lw_all := lw_mem (mt_2 _ (List.mem_of_getElem? (i := 166) rfl)) rfl
theorem qm_X4_290 : Cond.methodLink RX4 290 yX4_longestWait ∈ lw_all := lw_mem (mt_2 _ (List.mem_of_getElem? (i := 167) rfl)) rfl
theorem qm_X4_293 : Cond.methodLink RX4 293 yX4_climbs ∈ lw_all := lw_mem (mt_2 _ (List.mem_of_getElem? (i := 168) rfl)) rfl
theorem qm_X4_296 : Cond.methodLink RX4 296 yX4_subscribers ∈ lw_all := lw_mem (mt_2 _ (List.mem_of_getElem? (i := 169) rfl)) rfl
theorem qm_X4_299 : Cond.methodLink RX4 299 yX4_warmest ∈ lw_all := lw_mem (mt_2 _ (List.mem_of_getElem? (i := 170) rfl)) rfl
theorem qm_X4_302 : Cond.methodLink RX4 302 yX4_kindest ∈ lw_all := lw_mem (mt_2 _ (List.mem_of_getElem? (i := 171) rfl)) rfl
theorem qm_X4_237 : Cond.methodLink RX4 237 yX4_foldForesight ∈ lw_all := lw_mem (mt_2 _ (List.mem_of_getElem? (i := 172) rfl)) rfl
theorem qi_X4_foldForesight : Cond.instanceMethod yX4_foldForesight ∈ lw_all := lw_mem (mt_2 _ (List.mem_of_getElem? (i := 174) rfl)) rfl
theorem qs_X4_foldForesight : Cond.selects RX4 yX4_foldForesight yX4_foldForesight ∈ lw_all := lw_mem (mt_0 _ (List.mem_of_getElem? (i := 3) rfl)) rfl
theorem qc_X4_foldForesight : Cond.code yX4_foldForesight cX4_foldForesight 5 (some .long) ∈ lw_all := lw_mem (mt_2 _ (List.mem_of_getElem? (i := 175) rfl)) rfl
theorem qm_X4_305 : Cond.methodLink RX4 305 yX4_hoursUntilStuck ∈ lw_all := lw_mem (mt_2 _ (List.mem_of_getElem? (i := 176) rfl)) rfl
theorem qm_X4_308 : Cond.methodLink RX4 308 yX4_printedIn ∈ lw_all := lw_mem (mt_2 _ (List.mem_of_getElem? (i := 177) rfl)) rfl
theorem qm_X4_311 : Cond.methodLink RX4 311 yX4_subscribersIn ∈ lw_all := lw_mem (mt_3 _ (List.mem_of_getElem? (i := 17) rfl)) rfl
theorem qm_X4_314 : Cond.methodLink RX4 314 yX4_bestToCall ∈ lw_all := lw_mem (mt_3 _ (List.mem_of_getElem? (i := 21) rfl)) rfl
theorem qm_X4_317 : Cond.methodLink RX4 317 yX4_bestToAllow ∈ lw_all := lw_mem (mt_3 _ (List.mem_of_getElem? (i := 25) rfl)) rfl
theorem qm_X4_240 : Cond.methodLink RX4 240 yX4_foldFloors ∈ lw_all := lw_mem (mt_3 _ (List.mem_of_getElem? (i := 29) rfl)) rfl
theorem qi_X4_foldFloors : Cond.instanceMethod yX4_foldFloors ∈ lw_all := lw_mem (mt_3 _ (List.mem_of_getElem? (i := 31) rfl)) rfl
theorem qs_X4_foldFloors : Cond.selects RX4 yX4_foldFloors yX4_foldFloors ∈ lw_all := lw_mem (mt_0 _ (List.mem_of_getElem? (i := 5) rfl)) rfl
theorem qc_X4_foldFloors : Cond.code yX4_foldFloors cX4_foldFloors 6 (some .long) ∈ lw_all := lw_mem (mt_3 _ (List.mem_of_getElem? (i := 32) rfl)) rfl
theorem qm_X4_320 : Cond.methodLink RX4 320 yX4_isCalled ∈ lw_all := lw_mem (mt_3 _ (List.mem_of_getElem? (i := 33) rfl)) rfl
theorem qm_X4_323 : Cond.methodLink RX4 323 yX4_bit ∈ lw_all := lw_mem (mt_3 _ (List.mem_of_getElem? (i := 57) rfl)) rfl
theorem qt_X4_bit : Cond.static yX4_bit ∈ lw_all := lw_mem (mt_3 _ (List.mem_of_getElem? (i := 58) rfl)) rfl
theorem qc_X4_bit : Cond.code yX4_bit cX4_bit 1 (some .int) ∈ lw_all := lw_mem (mt_3 _ (List.mem_of_getElem? (i := 59) rfl)) rfl
theorem qm_X4_327 : Cond.methodLink RX4 327 yX4_paragraphs ∈ lw_all := lw_mem (mt_3 _ (List.mem_of_getElem? (i := 60) rfl)) rfl
theorem qm_X4_329 : Cond.methodLink RX4 329 yX4_nextParagraph ∈ lw_all := lw_mem (mt_3 _ (List.mem_of_getElem? (i := 64) rfl)) rfl
theorem qm_X4_332 : Cond.methodLink RX4 332 yX4_cutOn ∈ lw_all := lw_mem (mt_3 _ (List.mem_of_getElem? (i := 68) rfl)) rfl
theorem qm_X4_335 : Cond.methodLink RX4 335 yX4_hoursUntilStop ∈ lw_all := lw_mem (mt_3 _ (List.mem_of_getElem? (i := 72) rfl)) rfl
theorem qm_X4_243 : Cond.methodLink RX4 243 yX4_foldTopics ∈ lw_all := lw_mem (mt_3 _ (List.mem_of_getElem? (i := 76) rfl)) rfl
theorem qi_X4_foldTopics : Cond.instanceMethod yX4_foldTopics ∈ lw_all := lw_mem (mt_3 _ (List.mem_of_getElem? (i := 78) rfl)) rfl
theorem qs_X4_foldTopics : Cond.selects RX4 yX4_foldTopics yX4_foldTopics ∈ lw_all := lw_mem (mt_0 _ (List.mem_of_getElem? (i := 7) rfl)) rfl
theorem qc_X4_foldTopics : Cond.code yX4_foldTopics cX4_foldTopics 6 (some .long) ∈ lw_all := lw_mem (mt_3 _ (List.mem_of_getElem? (i := 79) rfl)) rfl
theorem qm_X4_338 : Cond.methodLink RX4 338 yX4_isForbidden ∈ lw_all := lw_mem (mt_3 _ (List.mem_of_getElem? (i := 80) rfl)) rfl
theorem qm_X4_341 : Cond.methodLink RX4 341 yX4_toCome ∈ lw_all := lw_mem (mt_3 _ (List.mem_of_getElem? (i := 91) rfl)) rfl
theorem qm_X4_246 : Cond.methodLink RX4 246 yX4_foldInstalments ∈ lw_all := lw_mem (mt_3 _ (List.mem_of_getElem? (i := 99) rfl)) rfl
theorem qi_X4_foldInstalments : Cond.instanceMethod yX4_foldInstalments ∈ lw_all := lw_mem (mt_3 _ (List.mem_of_getElem? (i := 101) rfl)) rfl
theorem qs_X4_foldInstalments : Cond.selects RX4 yX4_foldInstalments yX4_foldInstalments ∈ lw_all := lw_mem (mt_0 _ (List.mem_of_getElem? (i := 8) rfl)) rfl
theorem qc_X4_foldInstalments : Cond.code yX4_foldInstalments cX4_foldInstalments 6 (some .long) ∈ lw_all := lw_mem (mt_3 _ (List.mem_of_getElem? (i := 102) rfl)) rfl
theorem qm_X4_344 : Cond.methodLink RX4 344 yX4_floorIn ∈ lw_all := lw_mem (mt_3 _ (List.mem_of_getElem? (i := 103) rfl)) rfl
theorem qm_X4_347 : Cond.methodLink RX4 347 yX4_paragraphIn ∈ lw_all := lw_mem (mt_3 _ (List.mem_of_getElem? (i := 112) rfl)) rfl
theorem qm_X4_350 : Cond.methodLink RX4 350 yX4_thrillIn ∈ lw_all := lw_mem (mt_3 _ (List.mem_of_getElem? (i := 116) rfl)) rfl
theorem qm_X4_353 : Cond.methodLink RX4 353 yX4_hourIn ∈ lw_all := lw_mem (mt_3 _ (List.mem_of_getElem? (i := 120) rfl)) rfl
theorem qm_X4_249 : Cond.methodLink RX4 249 yX4_foldReaders ∈ lw_all := lw_mem (mt_3 _ (List.mem_of_getElem? (i := 124) rfl)) rfl
theorem qi_X4_foldReaders : Cond.instanceMethod yX4_foldReaders ∈ lw_all := lw_mem (mt_3 _ (List.mem_of_getElem? (i := 126) rfl)) rfl
theorem qs_X4_foldReaders : Cond.selects RX4 yX4_foldReaders yX4_foldReaders ∈ lw_all := lw_mem (mt_0 _ (List.mem_of_getElem? (i := 10) rfl)) rfl
theorem qc_X4_foldReaders : Cond.code yX4_foldReaders cX4_foldReaders 6 (some .long) ∈ lw_all := lw_mem (mt_3 _ (List.mem_of_getElem? (i := 127) rfl)) rfl
theorem qm_X4_356 : Cond.methodLink RX4 356 yX4_warmthOf ∈ lw_all := lw_mem (mt_3 _ (List.mem_of_getElem? (i := 128) rfl)) rfl
theorem qm_X4_359 : Cond.methodLink RX4 359 yX4_isSubscriber ∈ lw_all := lw_mem (mt_3 _ (List.mem_of_getElem? (i := 137) rfl)) rfl
theorem qm_X4_252 : Cond.methodLink RX4 252 yX4_foldMirrors ∈ lw_all := lw_mem (mt_3 _ (List.mem_of_getElem? (i := 141) rfl)) rfl
theorem qi_X4_foldMirrors : Cond.instanceMethod yX4_foldMirrors ∈ lw_all := lw_mem (mt_3 _ (List.mem_of_getElem? (i := 143) rfl)) rfl
theorem qs_X4_foldMirrors : Cond.selects RX4 yX4_foldMirrors yX4_foldMirrors ∈ lw_all := lw_mem (mt_0 _ (List.mem_of_getElem? (i := 12) rfl)) rfl
theorem qc_X4_foldMirrors : Cond.code yX4_foldMirrors cX4_foldMirrors 6 (some .long) ∈ lw_all := lw_mem (mt_3 _ (List.mem_of_getElem? (i := 144) rfl)) rfl
theorem qm_X4_362 : Cond.methodLink RX4 362 yX4_gradesBy ∈ lw_all := lw_mem (mt_3 _ (List.mem_of_getElem? (i := 145) rfl)) rfl
theorem qm_X4_365 : Cond.methodLink RX4 365 yX4_favouriteOf ∈ lw_all := lw_mem (mt_3 _ (List.mem_of_getElem? (i := 154) rfl)) rfl
theorem qm_L_311 : Cond.methodLink RL 311 yX5_digest ∈ lw_all := lw_mem (mt_6 _ (List.mem_of_getElem? (i := 85) rfl)) rfl
theorem qi_X5_digest : Cond.instanceMethod yX5_digest ∈ lw_all := lw_mem (mt_6 _ (List.mem_of_getElem? (i := 86) rfl)) rfl
theorem qs_X5_digest : Cond.selects RX5 yX5_digest yX5_digest ∈ lw_all := lw_mem (mt_6 _ (List.mem_of_getElem? (i := 87) rfl)) rfl
theorem qc_X5_digest : Cond.code yX5_digest cX5_digest 10 (some .long) ∈ lw_all := lw_mem (mt_6 _ (List.mem_of_getElem? (i := 88) rfl)) rfl
theorem ql_X5_203 : Cond.constantLong RX5 203 (2293) ∈ lw_all := lw_mem (mt_6 _ (List.mem_of_getElem? (i := 89) rfl)) rfl
theorem ql_X5_205 : Cond.constantLong RX5 205 (31) ∈ lw_all := lw_mem (mt_6 _ (List.mem_of_getElem? (i := 90) rfl)) rfl
theorem qw_X0_0 : u_lay RX0 TX0 0 ∈ lw_all := lw_mem (mt_1 _ (List.mem_of_getElem? (i := 94) rfl)) rfl
theorem qw_X0_1 : u_lay RX0 TX0 1 ∈ lw_all := lw_mem (mt_1 _ (List.mem_of_getElem? (i := 96) rfl)) rfl
theorem qw_X0_2 : u_lay RX0 TX0 2 ∈ lw_all := lw_mem (mt_1 _ (List.mem_of_getElem? (i := 98) rfl)) rfl
theorem qw_X0_3 : u_lay RX0 TX0 3 ∈ lw_all := lw_mem (mt_1 _ (List.mem_of_getElem? (i := 100) rfl)) rfl
theorem qw_X0_4 : u_lay RX0 TX0 4 ∈ lw_all := lw_mem (mt_1 _ (List.mem_of_getElem? (i := 102) rfl)) rfl
theorem qw_X0_5 : u_lay RX0 TX0 5 ∈ lw_all := lw_mem (mt_1 _ (List.mem_of_getElem? (i := 104) rfl)) rfl
theorem qw_X0_6 : u_lay RX0 TX0 6 ∈ lw_all := lw_mem (mt_1 _ (List.mem_of_getElem? (i := 106) rfl)) rfl
theorem qw_X0_7 : u_lay RX0 TX0 7 ∈ lw_all := lw_mem (mt_1 _ (List.mem_of_getElem? (i := 108) rfl)) rfl
theorem qw_X0_8 : u_lay RX0 TX0 8 ∈ lw_all := lw_mem (mt_1 _ (List.mem_of_getElem? (i := 110) rfl)) rfl
theorem qw_X0_9 : u_lay RX0 TX0 9 ∈ lw_all := lw_mem (mt_1 _ (List.mem_of_getElem? (i := 112) rfl)) rfl
theorem qw_X0_10 : u_lay RX0 TX0 10 ∈ lw_all := lw_mem (mt_1 _ (List.mem_of_getElem? (i := 114) rfl)) rfl
theorem qw_X0_11 : u_lay RX0 TX0 11 ∈ lw_all := lw_mem (mt_1 _ (List.mem_of_getElem? (i := 116) rfl)) rfl
theorem qw_X0_12 : u_lay RX0 TX0 12 ∈ lw_all := lw_mem (mt_1 _ (List.mem_of_getElem? (i := 118) rfl)) rfl
theorem qw_X0_13 : u_lay RX0 TX0 13 ∈ lw_all := lw_mem (mt_1 _ (List.mem_of_getElem? (i := 120) rfl)) rfl
theorem inX0 : ∀ w ∈ wsX00, w ∈ lw_all := List.forall_mem_cons.mpr ⟨qw_X0_0, List.forall_mem_cons.mpr ⟨qw_X0_1, List.forall_mem_cons.mpr ⟨qw_X0_2, List.forall_mem_cons.mpr ⟨qw_X0_3, List.forall_mem_cons.mpr ⟨qw_X0_4, List.forall_mem_cons.mpr ⟨qw_X0_5, List.forall_mem_cons.mpr ⟨qw_X0_6, List.forall_mem_cons.mpr ⟨qw_X0_7, List.forall_mem_cons.mpr ⟨qw_X0_8, List.forall_mem_cons.mpr ⟨qw_X0_9, List.forall_mem_cons.mpr ⟨qw_X0_10, List.forall_mem_cons.mpr ⟨qw_X0_11, List.forall_mem_cons.mpr ⟨qw_X0_12, List.forall_mem_cons.mpr ⟨qw_X0_13, fun _ h => absurd h List.not_mem_nil⟩⟩⟩⟩⟩⟩⟩⟩⟩⟩⟩⟩⟩⟩
theorem qw_X1_0 : u_lay RX1 TX1 0 ∈ lw_all := lw_mem (mt_1 _ (List.mem_of_getElem? (i := 46) rfl)) rfl
theorem qw_X1_1 : u_lay RX1 TX1 1 ∈ lw_all := lw_mem (mt_1 _ (List.mem_of_getElem? (i := 48) rfl)) rfl
theorem qw_X1_2 : u_lay RX1 TX1 2 ∈ lw_all := lw_mem (mt_1 _ (List.mem_of_getElem? (i := 50) rfl)) rfl
theorem qw_X1_3 : u_lay RX1 TX1 3 ∈ lw_all := lw_mem (mt_1 _ (List.mem_of_getElem? (i := 52) rfl)) rfl
theorem qw_X1_4 : u_lay RX1 TX1 4 ∈ lw_all := lw_mem (mt_1 _ (List.mem_of_getElem? (i := 54) rfl)) rfl
theorem qw_X1_5 : u_lay RX1 TX1 5 ∈ lw_all := lw_mem (mt_1 _ (List.mem_of_getElem? (i := 56) rfl)) rfl
theorem qw_X1_6 : u_lay RX1 TX1 6 ∈ lw_all := lw_mem (mt_1 _ (List.mem_of_getElem? (i := 58) rfl)) rfl
theorem inX1 : ∀ w ∈ wsX10, w ∈ lw_all := List.forall_mem_cons.mpr ⟨qw_X1_0, List.forall_mem_cons.mpr ⟨qw_X1_1, List.forall_mem_cons.mpr ⟨qw_X1_2, List.forall_mem_cons.mpr ⟨qw_X1_3, List.forall_mem_cons.mpr ⟨qw_X1_4, List.forall_mem_cons.mpr ⟨qw_X1_5, List.forall_mem_cons.mpr ⟨qw_X1_6, fun _ h => absurd h List.not_mem_nil⟩⟩⟩⟩⟩⟩⟩
theorem qw_X2_0 : u_lay RX2 TX2 0 ∈ lw_all := lw_mem (mt_1 _ (List.mem_of_getElem? (i := 140) rfl)) rfl
theorem qw_X2_1 : u_lay RX2 TX2 1 ∈ lw_all := lw_mem (mt_1 _ (List.mem_of_getElem? (i := 142) rfl)) rfl
theorem qw_X2_2 : u_lay RX2 TX2 2 ∈ lw_all := lw_mem (mt_1 _ (List.mem_of_getElem? (i := 144) rfl)) rfl
theorem qw_X2_3 : u_lay RX2 TX2 3 ∈ lw_all := lw_mem (mt_1 _ (List.mem_of_getElem? (i := 146) rfl)) rfl
theorem qw_X2_4 : u_lay RX2 TX2 4 ∈ lw_all := lw_mem (mt_1 _ (List.mem_of_getElem? (i := 148) rfl)) rfl
theorem inX2 : ∀ w ∈ wsX20, w ∈ lw_all := List.forall_mem_cons.mpr ⟨qw_X2_0, List.forall_mem_cons.mpr ⟨qw_X2_1, List.forall_mem_cons.mpr ⟨qw_X2_2, List.forall_mem_cons.mpr ⟨qw_X2_3, List.forall_mem_cons.mpr ⟨qw_X2_4, fun _ h => absurd h List.not_mem_nil⟩⟩⟩⟩⟩
theorem qw_X3_0 : u_lay RX3 TX3 0 ∈ lw_all := lw_mem (mt_1 _ (List.mem_of_getElem? (i := 161) rfl)) rfl
theorem qw_X3_1 : u_lay RX3 TX3 1 ∈ lw_all := lw_mem (mt_1 _ (List.mem_of_getElem? (i := 163) rfl)) rfl
theorem qw_X3_2 : u_lay RX3 TX3 2 ∈ lw_all := lw_mem (mt_1 _ (List.mem_of_getElem? (i := 165) rfl)) rfl
theorem inX3 : ∀ w ∈ wsX30, w ∈ lw_all := List.forall_mem_cons.mpr ⟨qw_X3_0, List.forall_mem_cons.mpr ⟨qw_X3_1, List.forall_mem_cons.mpr ⟨qw_X3_2, fun _ h => absurd h List.not_mem_nil⟩⟩⟩
theorem qw_X4_0 : u_lay RX4 TX4 0 ∈ lw_all := lw_mem (mt_1 _ (List.mem_of_getElem? (i := 173) rfl)) rfl
theorem qw_X4_1 : u_lay RX4 TX4 1 ∈ lw_all := lw_mem (mt_1 _ (List.mem_of_getElem? (i := 175) rfl)) rfl
theorem qw_X4_2 : u_lay RX4 TX4 2 ∈ lw_all := lw_mem (mt_1 _ (List.mem_of_getElem? (i := 177) rfl)) rfl
theorem qw_X4_3 : u_lay RX4 TX4 3 ∈ lw_all := lw_mem (mt_1 _ (List.mem_of_getElem? (i := 179) rfl)) rfl
theorem qw_X4_4 : u_lay RX4 TX4 4 ∈ lw_all := lw_mem (mt_1 _ (List.mem_of_getElem? (i := 181) rfl)) rfl
theorem inX4 : ∀ w ∈ wsX40, w ∈ lw_all := List.forall_mem_cons.mpr ⟨qw_X4_0, List.forall_mem_cons.mpr ⟨qw_X4_1, List.forall_mem_cons.mpr ⟨qw_X4_2, List.forall_mem_cons.mpr ⟨qw_X4_3, List.forall_mem_cons.mpr ⟨qw_X4_4, fun _ h => absurd h List.not_mem_nil⟩⟩⟩⟩⟩
theorem qw_X5_0 : u_lay RX5 TX5 0 ∈ lw_all := lw_mem (mt_4 _ (List.mem_of_getElem? (i := 155) rfl)) rfl
theorem qw_X5_1 : u_lay RX5 TX5 1 ∈ lw_all := lw_mem (mt_4 _ (List.mem_of_getElem? (i := 157) rfl)) rfl
theorem qw_X5_2 : u_lay RX5 TX5 2 ∈ lw_all := lw_mem (mt_4 _ (List.mem_of_getElem? (i := 159) rfl)) rfl
theorem qw_X5_3 : u_lay RX5 TX5 3 ∈ lw_all := lw_mem (mt_4 _ (List.mem_of_getElem? (i := 161) rfl)) rfl
theorem qw_X5_4 : u_lay RX5 TX5 4 ∈ lw_all := lw_mem (mt_4 _ (List.mem_of_getElem? (i := 163) rfl)) rfl
theorem qw_X5_5 : u_lay RX5 TX5 5 ∈ lw_all := lw_mem (mt_4 _ (List.mem_of_getElem? (i := 165) rfl)) rfl
theorem qw_X5_6 : u_lay RX5 TX5 6 ∈ lw_all := lw_mem (mt_4 _ (List.mem_of_getElem? (i := 167) rfl)) rfl
theorem qw_X5_7 : u_lay RX5 TX5 7 ∈ lw_all := lw_mem (mt_4 _ (List.mem_of_getElem? (i := 169) rfl)) rfl
theorem qw_X5_8 : u_lay RX5 TX5 8 ∈ lw_all := lw_mem (mt_4 _ (List.mem_of_getElem? (i := 171) rfl)) rfl
theorem qw_X5_9 : u_lay RX5 TX5 9 ∈ lw_all := lw_mem (mt_4 _ (List.mem_of_getElem? (i := 173) rfl)) rfl
theorem qw_X5_10 : u_lay RX5 TX5 10 ∈ lw_all := lw_mem (mt_4 _ (List.mem_of_getElem? (i := 175) rfl)) rfl
theorem qw_X5_11 : u_lay RX5 TX5 11 ∈ lw_all := lw_mem (mt_4 _ (List.mem_of_getElem? (i := 177) rfl)) rfl
theorem qw_X5_12 : u_lay RX5 TX5 12 ∈ lw_all := lw_mem (mt_4 _ (List.mem_of_getElem? (i := 179) rfl)) rfl
theorem qw_X5_13 : u_lay RX5 TX5 13 ∈ lw_all := lw_mem (mt_4 _ (List.mem_of_getElem? (i := 181) rfl)) rfl
theorem qw_X5_14 : u_lay RX5 TX5 14 ∈ lw_all := lw_mem (mt_4 _ (List.mem_of_getElem? (i := 183) rfl)) rfl
theorem qw_X5_15 : u_lay RX5 TX5 15 ∈ lw_all := lw_mem (mt_4 _ (List.mem_of_getElem? (i := 185) rfl)) rfl
theorem qw_X5_16 : u_lay RX5 TX5 16 ∈ lw_all := lw_mem (mt_4 _ (List.mem_of_getElem? (i := 187) rfl)) rfl
theorem qw_X5_17 : u_lay RX5 TX5 17 ∈ lw_all := lw_mem (mt_4 _ (List.mem_of_getElem? (i := 189) rfl)) rfl
theorem inX5 : ∀ w ∈ wsX50, w ∈ lw_all := List.forall_mem_cons.mpr ⟨qw_X5_0, List.forall_mem_cons.mpr ⟨qw_X5_1, List.forall_mem_cons.mpr ⟨qw_X5_2, List.forall_mem_cons.mpr ⟨qw_X5_3, List.forall_mem_cons.mpr ⟨qw_X5_4, List.forall_mem_cons.mpr ⟨qw_X5_5, List.forall_mem_cons.mpr ⟨qw_X5_6, List.forall_mem_cons.mpr ⟨qw_X5_7, List.forall_mem_cons.mpr ⟨qw_X5_8, List.forall_mem_cons.mpr ⟨qw_X5_9, List.forall_mem_cons.mpr ⟨qw_X5_10, List.forall_mem_cons.mpr ⟨qw_X5_11, List.forall_mem_cons.mpr ⟨qw_X5_12, List.forall_mem_cons.mpr ⟨qw_X5_13, List.forall_mem_cons.mpr ⟨qw_X5_14, List.forall_mem_cons.mpr ⟨qw_X5_15, List.forall_mem_cons.mpr ⟨qw_X5_16, List.forall_mem_cons.mpr ⟨qw_X5_17, fun _ h => absurd h List.not_mem_nil⟩⟩⟩⟩⟩⟩⟩⟩⟩⟩⟩⟩⟩⟩⟩⟩⟩⟩
theorem lw_gc {c : Cond} (hc : c ∈ lw_all) : GoodIn lw_all (c :: lw_all) := fun w h => (List.mem_cons.mp h).elim (fun e => by rw [e]; exact ⟨hc, good_of_word (lw_good _ hc)⟩) (fun h => ⟨h, good_of_word (lw_good _ h)⟩)
theorem lw_g1 {a : Cond} {l : List Cond} (ha : a ∈ lw_all) (h : GoodIn lw_all l) : GoodIn lw_all (a :: l) := fun w hw => (List.mem_cons.mp hw).elim (fun e => by rw [e]; exact ⟨ha, good_of_word (lw_good _ ha)⟩) (fun e => h w e)
/-- a virtual call's words -/
theorem lw_V {own C : String} {idx : Nat} {y : MethodName} {c : Cond} (h1 : Cond.methodLink own idx y ∈ lw_all) (h2 : Cond.instanceMethod y ∈ lw_all) (h3 : Cond.selects C y y ∈ lw_all) (h4 : Cond.initialized C ∈ lw_all) (h5 : c ∈ lw_all) : GoodIn lw_all (wsV own idx C y (c :: lw_all)) := lw_g1 h1 (lw_g1 h2 (lw_g1 h3 (lw_g1 h4 (lw_gc h5))))
theorem lw_S {own : String} {idx : Nat} {y : MethodName} {c : Cond} (h1 : Cond.methodLink own idx y ∈ lw_all) (h2 : Cond.static y ∈ lw_all) (h4 : Cond.initialized y.cls ∈ lw_all) (h5 : c ∈ lw_all) : GoodIn lw_all (va_wsS own idx y (c :: lw_all)) := lw_g1 h1 (lw_g1 h2 (lw_g1 h4 (lw_gc h5)))
end
section
/-! BASE: pure combinators of the methods' pictures (an option: none where an index is out of its row), the contracts' shapes, the entries, ends and calls in one row each -/
theorem ip {c : Prop} [Decidable c] {α : Type} {a b z : α} (h : (if c then a else b) = z) (hc : c) : a = z := (if_pos hc).symm.trans h
theorem iq {c : Prop} [Decidable c] {α : Type} {a b z : α} (h : (if c then a else b) = z) (hc : ¬ c) : b = z := (if_neg hc).symm.trans h
def gd {α : Type} (i : Int32) (n : Nat) (k : Option α) : Option α := if ¬ (i < 0 ∨ n ≤ i.toNatClampNeg) then k else none
theorem gd_some {α : Type} {i : Int32} {n : Nat} {k : Option α} {z : α} (h : gd i n k = some z) : vp_in i n ∧ k = some z := by
  unfold gd at h
  by_cases hc : ¬ (i < 0 ∨ n ≤ i.toNatClampNeg)
  · rw [if_pos hc] at h; exact ⟨hc, h⟩
  · rw [if_neg hc] at h; cases h
theorem gd_in {α : Type} {i : Int32} {n : Nat} {k : Option α} (h : vp_in i n) : gd i n k = k := if_pos h
def gq {α : Type} (c : Prop) [Decidable c] (k : Option α) : Option α := if c then k else none
theorem gq_some {α : Type} {c : Prop} [Decidable c] {k : Option α} {z : α} (h : gq c k = some z) : c ∧ k = some z := by
  unfold gq at h
  by_cases hc : c
  · rw [if_pos hc] at h; exact ⟨hc, h⟩
  · rw [if_neg hc] at h; cases h
theorem gq_in {α : Type} {c : Prop} [Decidable c] {k : Option α} (h : c) : gq c k = k := if_pos h
def bd {α β : Type} (x : Option α) (f : α → Option β) : Option β := match x with
  | some a => f a
  | none => none
theorem bd_some {α β : Type} {x : Option α} {f : α → Option β} {z : β} (h : bd x f = some z) : ∃ a, x = some a ∧ f a = some z := by
  cases x with
  | none => cases h
  | some a => exact ⟨a, rfl, h⟩
theorem bd_of {α β : Type} {x : Option α} {f : α → Option β} {a : α} (h : x = some a) : bd x f = f a := by rw [h]; rfl
/-- what throws (its class's name) or answers -/
def bK {α β : Type} (z : String ⊕ α) (f : α → Option (String ⊕ β)) : Option (String ⊕ β) := match z with
  | .inr a => f a
  | .inl E => some (.inl E)
def bT {α β : Type} (x : Option (String ⊕ α)) (f : α → Option (String ⊕ β)) : Option (String ⊕ β) := match x with
  | some z => bK z f
  | none => none
theorem bT_some {α β : Type} {x : Option (String ⊕ α)} {f : α → Option (String ⊕ β)} {y : String ⊕ β} (h : bT x f = some y) : ∃ z, x = some z ∧ bK z f = some y := by
  cases x with
  | none => cases h
  | some a => exact ⟨a, rfl, h⟩
theorem bK_r {α β : Type} {f : α → Option (String ⊕ β)} {z : String ⊕ α} {y : String ⊕ β} {a : α} (h : bK z f = some y) (e : z = .inr a) : f a = some y := by rw [e] at h; exact h
theorem bK_l {α β : Type} {f : α → Option (String ⊕ β)} {z : String ⊕ α} {y : String ⊕ β} {E : String} (h : bK z f = some y) (e : z = .inl E) : y = .inl E := by rw [e] at h; exact (Option.some.inj h).symm
theorem bT_r {α β : Type} {x : Option (String ⊕ α)} {f : α → Option (String ⊕ β)} {a : α} (h : x = some (.inr a)) : bT x f = f a := by rw [h]; rfl
theorem bT_l {α β : Type} {x : Option (String ⊕ α)} {f : α → Option (String ⊕ β)} {E : String} (h : x = some (.inl E)) : bT x f = some (.inl E) := by rw [h]; rfl
/-- .. where it may not throw -/
def bN {α β : Type} (x : Option (String ⊕ α)) (f : α → Option β) : Option β := match x with
  | some (.inr a) => f a
  | _ => none
theorem bN_some {α β : Type} {x : Option (String ⊕ α)} {f : α → Option β} {y : β} (h : bN x f = some y) : ∃ a, x = some (.inr a) ∧ f a = some y := by
  cases x with
  | none => cases h
  | some z => cases z with
    | inl E => cases h
    | inr a => exact ⟨a, rfl, h⟩
theorem bN_r {α β : Type} {x : Option (String ⊕ α)} {f : α → Option β} {a : α} (h : x = some (.inr a)) : bN x f = f a := by rw [h]; rfl
/-- .. where a caller catches -/
def bC {α β : Type} (x : Option (String ⊕ α)) (f : α → Option β) (g : String → Option β) : Option β := match x with
  | some (.inr a) => f a
  | some (.inl E) => g E
  | none => none
def bCk {α β : Type} (z : String ⊕ α) (f : α → Option β) (g : String → Option β) : Option β := match z with
  | .inr a => f a
  | .inl E => g E
theorem bC_some {α β : Type} {x : Option (String ⊕ α)} {f : α → Option β} {g : String → Option β} {y : β} (h : bC x f g = some y) : ∃ z, x = some z ∧ bCk z f g = some y := by
  cases x with
  | none => cases h
  | some z => cases z with
    | inl E => exact ⟨.inl E, rfl, h⟩
    | inr a => exact ⟨.inr a, rfl, h⟩
theorem bC_r {α β : Type} {x : Option (String ⊕ α)} {f : α → Option β} {g : String → Option β} {a : α} (h : x = some (.inr a)) : bC x f g = f a := by rw [h]; rfl
theorem bC_l {α β : Type} {x : Option (String ⊕ α)} {f : α → Option β} {g : String → Option β} {E : String} (h : x = some (.inl E)) : bC x f g = g E := by rw [h]; rfl
/-! the contracts' shapes. R: reads alone; W: writes in its world; X: may throw (the Throwable's statics and the texts at hand) -/
def prR (D : va_G) (cl : List vw_C) (tys : List (ClassId × FieldType)) (ws : va_W) (av : List Value) : Array Value → State → Prop := va_Pc av (fun U => va_P D cl ws U.heap ∧ va_K D cl tys U)
theorem prR_fb {D : va_G} {cl : List vw_C} {tys : List (ClassId × FieldType)} {ws : va_W} {av : List Value} : FrameBlind (prR D cl tys ws av) := fun a U g mk q => ⟨q.1, q.2.1, va_K.moved (u := U) (U := U.calling g mk a) (Vm.Alike.refl U.vm) q.2.2⟩
theorem prR_of {D : va_G} {cl : List vw_C} {tys : List (ClassId × FieldType)} {ws : va_W} {av : List Value} {s : State} {H : Heap} (hP : va_P D cl ws H) (hK : va_K D cl tys s) : ∀ U : State, U.heap = H → s.WarmedH U.vm → prR D cl tys ws av av.toArray U := fun U hU hW => ⟨rfl, by rw [hU]; exact hP, va_K.moved hW.alike hK⟩
def prW (D : va_G) (cl : List vw_C) (tys : List (ClassId × FieldType)) (ws : va_W) (sz : Nat) (av : List Value) : Array Value → State → Prop := va_Pc av (fun U => U.heap.size = sz ∧ va_P D cl ws U.heap ∧ va_K D cl tys U ∧ va_D (fun _ => True) ws)
theorem prW_fb {D : va_G} {cl : List vw_C} {tys : List (ClassId × FieldType)} {ws : va_W} {sz : Nat} {av : List Value} : FrameBlind (prW D cl tys ws sz av) := fun a U g mk q => ⟨q.1, q.2.1, q.2.2.1, va_K.moved (u := U) (U := U.calling g mk a) (Vm.Alike.refl U.vm) q.2.2.2.1, q.2.2.2.2⟩
theorem prW_of {D : va_G} {cl : List vw_C} {tys : List (ClassId × FieldType)} {ws : va_W} {av : List Value} {s : State} {H : Heap} {A : Nat → Prop} (hP : va_P D cl ws H) (hK : va_K D cl tys s) (hD : va_D A ws) : ∀ U : State, U.heap = H → s.WarmedH U.vm → prW D cl tys ws H.size av av.toArray U := fun U hU hW => ⟨rfl, by rw [hU], by rw [hU]; exact hP, va_K.moved hW.alike hK, hD.weaken (fun _ _ _ _ => trivial)⟩
/-- the same addresses -/
theorem va_Dsame {A : Nat → Prop} {ws ws' : va_W} (h : ws'.map (fun q => q.1) = ws.map (fun q => q.1)) (hD : va_D A ws) : va_D A ws' := by
  have key : ∀ (k : Nat) (q : Nat × va_E), ws'[k]? = some q → ∃ q', ws[k]? = some q' ∧ q'.1 = q.1 := by
    intro k q hk
    have h1 : (ws'.map (fun q => q.1))[k]? = some q.1 := by rw [List.getElem?_map, hk]; rfl
    rw [h, List.getElem?_map] at h1
    cases hq : ws[k]? with
    | none => rw [hq] at h1; cases h1
    | some q' => rw [hq] at h1; exact ⟨q', rfl, Option.some.inj h1⟩
  refine ⟨fun i j p q hp hq he => ?_, fun k q hk => ?_⟩
  · obtain ⟨p', h1, h2⟩ := key i p hp
    obtain ⟨q', h3, h4⟩ := key j q hq
    exact hD.1 i j p' q' h1 h3 (by rw [h2, h4, he])
  · obtain ⟨q', h1, h2⟩ := key k q hk
    rw [← h2]
    exact hD.2 k q' h1
theorem va_Aof {A : Nat → Prop} {ws : va_W} {H0 H : Heap} {locs : List Loc} (hD : va_D A ws) (hS : va_S A H0 H locs) (hA : ∀ q, H0.size ≤ q → A q) : ∀ q, va_A ws H.size q → A q := by
  intro q h
  rcases h with ⟨k, e, h⟩ | h
  · exact hD.2 k (q, e) h
  · exact hA q (Nat.le_trans hS.1 h)
/-- nothing old has changed: the world stands -/
theorem va_Pkept {D : va_G} {cl : List vw_C} {ws : va_W} {H H1 : Heap} (h : va_P D cl ws H) (hk : ∀ q : Nat, q < H.size → ¬ (fun _ : Nat => False) q → H1[q]? = H[q]?) : va_P D cl ws H1 := h.kept fun k q hq => hk q.1 ((h k q hq).lt) (fun z => z)
/-- some cells of a world put anew, by their places -/
def va_ups (ws : va_W) : List Nat → va_W → va_W
  | i :: is, q :: qs => (va_ups ws is qs).set i q
  | _, _ => ws
theorem va_ups_len (ws : va_W) : ∀ (is : List Nat) (qs : va_W), (va_ups ws is qs).length = ws.length
  | [], _ => rfl
  | _ :: _, [] => rfl
  | i :: is, q :: qs => by show ((va_ups ws is qs).set i q).length = _; rw [List.length_set]; exact va_ups_len ws is qs
theorem va_ups_at (ws : va_W) : ∀ (is : List Nat) (qs : va_W), is.length = qs.length → ∀ (k : Nat) (q : Nat × va_E), (va_ups ws is qs)[k]? = some q → (∃ j : Nat, is[j]? = some k ∧ qs[j]? = some q) ∨ (k ∉ is ∧ ws[k]? = some q)
  | [], [], _, k, q, h => Or.inr ⟨List.not_mem_nil, h⟩
  | [], _ :: _, h0, _, _, _ => by cases h0
  | _ :: _, [], h0, _, _, _ => by cases h0
  | i :: is, p :: qs, h0, k, q, h => by
    have h : ((va_ups ws is qs).set i p)[k]? = some q := h
    rw [List.getElem?_set] at h
    by_cases hk : i = k
    · rw [if_pos hk] at h
      by_cases hl : i < (va_ups ws is qs).length
      · rw [if_pos hl] at h
        exact Or.inl ⟨0, by rw [← hk]; rfl, h⟩
      · rw [if_neg hl] at h; cases h
    · rw [if_neg hk] at h
      rcases va_ups_at ws is qs (Nat.succ.inj h0) k q h with ⟨j, h1, h2⟩ | ⟨h1, h2⟩
      · exact Or.inl ⟨j + 1, h1, h2⟩
      · exact Or.inr ⟨fun hm => (List.mem_cons.mp hm).elim (fun e => hk e.symm) h1, h2⟩
/-- behind a call: the callee's cells as they are then, the others as before -/
theorem fr_join {A : Nat → Prop} {D : va_G} {cl : List vw_C} {ws wc wc' ws' : va_W} {H H1 : Heap} (hP : va_P D cl ws H) (hD : va_D A ws) (isC : List Nat) (hC : isC.map (fun i => ws[i]?) = wc.map some) (hw : wc'.map (fun q => q.1) = wc.map (fun q => q.1)) (hws : va_ups ws isC wc' = ws') (hk : ∀ q : Nat, q < H.size → ¬ va_A wc H.size q → H1[q]? = H[q]?) (hP1 : va_P D cl wc' H1) : va_P D cl ws' H1 := by
  subst hws
  have hlen : isC.length = wc'.length := by
    have h1 := congrArg List.length hC
    have h2 := congrArg List.length hw
    rw [List.length_map, List.length_map] at h1 h2
    rw [h1, h2]
  intro k q hkq
  rcases va_ups_at ws isC wc' hlen k q hkq with ⟨j, -, h2⟩ | ⟨h1, h2⟩
  · exact hP1 j q h2
  · have hlt : q.1 < H.size := (hP k q h2).lt
    refine (hP k q h2).kept (hk q.1 hlt (fun hA => ?_))
    rcases hA with ⟨j, e, hj⟩ | hge
    · have h3 : (isC.map (fun i => ws[i]?))[j]? = some (some (q.1, e)) := by rw [hC, List.getElem?_map, hj]; rfl
      rw [List.getElem?_map] at h3
      cases hi : isC[j]? with
      | none => rw [hi] at h3; cases h3
      | some i =>
        rw [hi] at h3
        have h4 : ws[i]? = some (q.1, e) := Option.some.inj h3
        have h5 := hD.1 i k (q.1, e) q h4 h2 rfl
        exact h1 (h5 ▸ List.mem_of_getElem? hi)
    · exact absurd hlt (Nat.not_lt.mpr hge)
/-! entries -/
theorem oM {l : Launch} {y : MethodName} {bytes : ByteArray} {maxL : Nat} {ret : Option FieldType} {rm : Room} {av : List Value} {B : State → Prop} {Qc : Array Value → State → Outcome → State → Prop} {mc ms : Nat} {free0 : Addr → Prop} (hy : plainName y.cls = true) (hlen : (lg_sl av).length ≤ maxL)
    (k : ∀ (p : Program) (e : Env) (s : State) (m : MethodId) (args : Array Value) (below : List Frame) (meth : Method) (c : Code), CallFix p m c bytes maxL s args lw_all y.cls → meth.sig.returnType = ret → meth.locks = false → meth.name = y.name → B s → ∀ ls : Array Slot, lv_has ls maxL (lv_args 0 av) → W p l e rm s m args below meth c s.heap [] 0 0 (MQ below Qc args s mc ms free0) (F0 m 0 ls [])) :
    Met l y (Cond.code y bytes maxL ret :: lw_all) rm (va_Pc av B) Qc mc ms free0 := by
  refine Met.ofW (cc := bytes) (maxL := maxL) (ret := ret) hy rfl ?_
  intro p e s m args below meth c s₁ B0 hml hv
  obtain ⟨rfl, hB⟩ := hv
  have hts := atoms_spec (ws := Cond.code y bytes maxL ret :: lw_all) B0.pre
  have hl := lv_entry av (n := maxL) hlen
  rw [lg_entry_eq]
  generalize (lg_sl av ++ List.replicate (maxL - (lg_sl av).length) Slot.unset).toArray = ls at hl ⊢
  exact k p e s m _ below meth c ⟨B0.exec, B0.bytes, hml, findClass_of_methodNamed B0.named, fun w h => hts w (List.mem_cons_of_mem _ h)⟩ B0.returns B0.notSynchronized (name_of_methodNamed B0.named B0.method).1 hB ls hl
theorem oX {l : Launch} {y : MethodName} {bytes : ByteArray} {maxL : Nat} {ret : Option FieldType} {rm : Room} {av : List Value} {B : State → Prop} {Qc : Array Value → State → Outcome → State → Prop} {XC : String → State → State → Prop} {mc ms : Nat} {free0 : Addr → Prop} (hy : plainName y.cls = true) (hlen : (lg_sl av).length ≤ maxL)
    (k : ∀ (p : Program) (e : Env) (s : State) (m : MethodId) (args : Array Value) (below : List Frame) (meth : Method) (c : Code), CallFix p m c bytes maxL s args lw_all y.cls → meth.sig.returnType = ret → meth.locks = false → (∀ x ∈ c.exceptionTable.toList, False) → B s → ∀ ls : Array Slot, lv_has ls maxL (lv_args 0 av) → W p l e rm s m args below meth c s.heap [] 0 0 (vx_MQ below Qc XC args s mc ms free0) (F0 m 0 ls [])) :
    vx_Met l y (Cond.code y bytes maxL ret :: lw_all) rm (va_Pc av B) Qc XC mc ms free0 := by
  refine vx_ofW (cc := bytes) (maxL := maxL) (ret := ret) hy rfl ?_
  intro p e s m args below meth c s₁ B0 hml hex hv
  obtain ⟨rfl, hB⟩ := hv
  have hts := atoms_spec (ws := Cond.code y bytes maxL ret :: lw_all) B0.pre
  have hl := lv_entry av (n := maxL) hlen
  rw [lg_entry_eq]
  generalize (lg_sl av ++ List.replicate (maxL - (lg_sl av).length) Slot.unset).toArray = ls at hl ⊢
  exact k p e s m _ below meth c ⟨B0.exec, B0.bytes, hml, findClass_of_methodNamed B0.named, fun w h => hts w (List.mem_cons_of_mem _ h)⟩ B0.returns B0.notSynchronized hex hB ls hl
end
section
/-! ENDS: the answer is the one that the picture says -/
theorem eRi {p : Program} {l : Launch} {e : Env} {R : Room} {s : State} {m : MethodId} {args : Array Value} {below : List Frame} {meth : Method} {c : Code} {bytes : ByteArray} {maxL pc : Nat} {own : String} {ls : Array Slot} (S : CallFix p m c bytes maxL s args lw_all own) (hr : meth.sig.returnType = some .int) (hlk : meth.locks = false) {v r0 : Int32} (h : v = r0) (hdg : decode bytes pc = .ok (.ireturn, 1)) : W p l e R s m args below meth c s.heap [] 0 0 (MQ below (vp_Si (fun r => r = r0)) args s 0 0 (fun _ => False)) (F0 m pc ls [.int v]) := W.iret S.1 S.2.1 hr (fun t ht _ => ⟨v, rfl, h, ht⟩) (fun q hq => absurd hq List.not_mem_nil) hdg hlk
theorem eWi {p : Program} {l : Launch} {e : Env} {R : Room} {s : State} {m : MethodId} {args : Array Value} {below : List Frame} {meth : Method} {c : Code} {bytes : ByteArray} {maxL pc : Nat} {own : String} {ls : Array Slot} {H : Heap} {locs : List Loc} {cells slots mc ms : Nat} {A : Nat → Prop} {D : va_G} {cl : List vw_C} {ws : va_W} (S : CallFix p m c bytes maxL s args lw_all own) (hr : meth.sig.returnType = some .int) (hlk : meth.locks = false) {v r0 : Int32} (h : v = r0) (hP : va_P D cl ws H) (hS : va_S A s.heap H locs) (hc : cells ≤ mc) (hs : slots ≤ ms) (hdg : decode bytes pc = .ok (.ireturn, 1)) : W p l e R s m args below meth c H locs cells slots (MQ below (va_Qi (fun (r : Int32) (_ : Unit) => r = r0) (fun _ t => va_P D cl ws t.heap) A) args s mc ms A) (F0 m pc ls [.int v]) := W.widen hc hs (W.iret S.1 S.2.1 hr (fun t ht _ => ⟨⟨v, (), rfl, h, (show va_P D cl ws t.heap by rw [ht]; exact hP)⟩, hS.F ht⟩) hS.2.2 hdg hlk)
theorem eXi {p : Program} {l : Launch} {e : Env} {R : Room} {s : State} {m : MethodId} {args : Array Value} {below : List Frame} {meth : Method} {c : Code} {bytes : ByteArray} {maxL pc : Nat} {own : String} {ls : Array Slot} {H : Heap} {locs : List Loc} {cells slots mc ms : Nat} {A : Nat → Prop} {D : va_G} {cl : List vw_C} {Z : Type} {z : String ⊕ Z} {rf : Z → Int32} {wsf : Z → va_W} {XC : String → State → State → Prop} (S : CallFix p m c bytes maxL s args lw_all own) (hr : meth.sig.returnType = some .int) (hlk : meth.locks = false) {v : Int32} (a : Z) (hz : z = .inr a) (h : v = rf a) (hP : va_P D cl (wsf a) H) (hS : va_S A s.heap H locs) (hc : cells ≤ mc) (hs : slots ≤ ms) (hdg : decode bytes pc = .ok (.ireturn, 1)) : W p l e R s m args below meth c H locs cells slots (vx_MQ below (va_Qi (fun (r : Int32) (a : Z) => z = .inr a ∧ r = rf a) (fun a t => va_P D cl (wsf a) t.heap) A) XC args s mc ms A) (F0 m pc ls [.int v]) := vx_ret (W.widen hc hs (W.iret S.1 S.2.1 hr (fun t ht _ => ⟨⟨v, a, rfl, ⟨hz, h⟩, (show va_P D cl (wsf a) t.heap by rw [ht]; exact hP)⟩, hS.F ht⟩) hS.2.2 hdg hlk))
theorem eRz {p : Program} {l : Launch} {e : Env} {R : Room} {s : State} {m : MethodId} {args : Array Value} {below : List Frame} {meth : Method} {c : Code} {bytes : ByteArray} {maxL pc : Nat} {own : String} {ls : Array Slot} (S : CallFix p m c bytes maxL s args lw_all own) (hr : meth.sig.returnType = some .boolean) (hlk : meth.locks = false) {v r0 : Int32} (hn : v &&& 1 = v) (h : v = r0) (hdg : decode bytes pc = .ok (.ireturn, 1)) : W p l e R s m args below meth c s.heap [] 0 0 (MQ below (vp_Si (fun r => r = r0)) args s 0 0 (fun _ => False)) (F0 m pc ls [.int v]) := W.zret S.1 S.2.1 hr (congrArg Value.int hn) (fun t ht _ => ⟨v, rfl, h, ht⟩) (fun q hq => absurd hq List.not_mem_nil) hdg hlk
theorem eWz {p : Program} {l : Launch} {e : Env} {R : Room} {s : State} {m : MethodId} {args : Array Value} {below : List Frame} {meth : Method} {c : Code} {bytes : ByteArray} {maxL pc : Nat} {own : String} {ls : Array Slot} {H : Heap} {locs : List Loc} {cells slots mc ms : Nat} {A : Nat → Prop} {D : va_G} {cl : List vw_C} {ws : va_W} (S : CallFix p m c bytes maxL s args lw_all own) (hr : meth.sig.returnType = some .boolean) (hlk : meth.locks = false) {v r0 : Int32} (hn : v &&& 1 = v) (h : v = r0) (hP : va_P D cl ws H) (hS : va_S A s.heap H locs) (hc : cells ≤ mc) (hs : slots ≤ ms) (hdg : decode bytes pc = .ok (.ireturn, 1)) : W p l e R s m args below meth c H locs cells slots (MQ below (va_Qi (fun (r : Int32) (_ : Unit) => r = r0) (fun _ t => va_P D cl ws t.heap) A) args s mc ms A) (F0 m pc ls [.int v]) := W.widen hc hs (W.zret S.1 S.2.1 hr (congrArg Value.int hn) (fun t ht _ => ⟨⟨v, (), rfl, h, (show va_P D cl ws t.heap by rw [ht]; exact hP)⟩, hS.F ht⟩) hS.2.2 hdg hlk)
theorem eXz {p : Program} {l : Launch} {e : Env} {R : Room} {s : State} {m : MethodId} {args : Array Value} {below : List Frame} {meth : Method} {c : Code} {bytes : ByteArray} {maxL pc : Nat} {own : String} {ls : Array Slot} {H : Heap} {locs : List Loc} {cells slots mc ms : Nat} {A : Nat → Prop} {D : va_G} {cl : List vw_C} {Z : Type} {z : String ⊕ Z} {rf : Z → Int32} {wsf : Z → va_W} {XC : String → State → State → Prop} (S : CallFix p m c bytes maxL s args lw_all own) (hr : meth.sig.returnType = some .boolean) (hlk : meth.locks = false) {v : Int32} (hn : v &&& 1 = v) (a : Z) (hz : z = .inr a) (h : v = rf a) (hP : va_P D cl (wsf a) H) (hS : va_S A s.heap H locs) (hc : cells ≤ mc) (hs : slots ≤ ms) (hdg : decode bytes pc = .ok (.ireturn, 1)) : W p l e R s m args below meth c H locs cells slots (vx_MQ below (va_Qi (fun (r : Int32) (a : Z) => z = .inr a ∧ r = rf a) (fun a t => va_P D cl (wsf a) t.heap) A) XC args s mc ms A) (F0 m pc ls [.int v]) := vx_ret (W.widen hc hs (W.zret S.1 S.2.1 hr (congrArg Value.int hn) (fun t ht _ => ⟨⟨v, a, rfl, ⟨hz, h⟩, (show va_P D cl (wsf a) t.heap by rw [ht]; exact hP)⟩, hS.F ht⟩) hS.2.2 hdg hlk))
theorem eRl {p : Program} {l : Launch} {e : Env} {R : Room} {s : State} {m : MethodId} {args : Array Value} {below : List Frame} {meth : Method} {c : Code} {bytes : ByteArray} {maxL pc : Nat} {own : String} {ls : Array Slot} (S : CallFix p m c bytes maxL s args lw_all own) (hr : meth.sig.returnType = some .long) (hlk : meth.locks = false) {v r0 : Int64} (h : v = r0) (hdg : decode bytes pc = .ok (.lreturn, 1)) : W p l e R s m args below meth c s.heap [] 0 0 (MQ below (vp_Sl (fun r => r = r0)) args s 0 0 (fun _ => False)) (F0 m pc ls [.long v]) := W.lret S.1 S.2.1 hr (fun t ht _ => ⟨v, rfl, h, ht⟩) (fun q hq => absurd hq List.not_mem_nil) hdg hlk
theorem eWl {p : Program} {l : Launch} {e : Env} {R : Room} {s : State} {m : MethodId} {args : Array Value} {below : List Frame} {meth : Method} {c : Code} {bytes : ByteArray} {maxL pc : Nat} {own : String} {ls : Array Slot} {H : Heap} {locs : List Loc} {cells slots mc ms : Nat} {A : Nat → Prop} {D : va_G} {cl : List vw_C} {ws : va_W} (S : CallFix p m c bytes maxL s args lw_all own) (hr : meth.sig.returnType = some .long) (hlk : meth.locks = false) {v r0 : Int64} (h : v = r0) (hP : va_P D cl ws H) (hS : va_S A s.heap H locs) (hc : cells ≤ mc) (hs : slots ≤ ms) (hdg : decode bytes pc = .ok (.lreturn, 1)) : W p l e R s m args below meth c H locs cells slots (MQ below (va_Ql (fun (r : Int64) (_ : Unit) => r = r0) (fun _ t => va_P D cl ws t.heap) A) args s mc ms A) (F0 m pc ls [.long v]) := W.widen hc hs (W.lret S.1 S.2.1 hr (fun t ht _ => ⟨⟨v, (), rfl, h, (show va_P D cl ws t.heap by rw [ht]; exact hP)⟩, hS.F ht⟩) hS.2.2 hdg hlk)
theorem eXl {p : Program} {l : Launch} {e : Env} {R : Room} {s : State} {m : MethodId} {args : Array Value} {below : List Frame} {meth : Method} {c : Code} {bytes : ByteArray} {maxL pc : Nat} {own : String} {ls : Array Slot} {H : Heap} {locs : List Loc} {cells slots mc ms : Nat} {A : Nat → Prop} {D : va_G} {cl : List vw_C} {Z : Type} {z : String ⊕ Z} {rf : Z → Int64} {wsf : Z → va_W} {XC : String → State → State → Prop} (S : CallFix p m c bytes maxL s args lw_all own) (hr : meth.sig.returnType = some .long) (hlk : meth.locks = false) {v : Int64} (a : Z) (hz : z = .inr a) (h : v = rf a) (hP : va_P D cl (wsf a) H) (hS : va_S A s.heap H locs) (hc : cells ≤ mc) (hs : slots ≤ ms) (hdg : decode bytes pc = .ok (.lreturn, 1)) : W p l e R s m args below meth c H locs cells slots (vx_MQ below (va_Ql (fun (r : Int64) (a : Z) => z = .inr a ∧ r = rf a) (fun a t => va_P D cl (wsf a) t.heap) A) XC args s mc ms A) (F0 m pc ls [.long v]) := vx_ret (W.widen hc hs (W.lret S.1 S.2.1 hr (fun t ht _ => ⟨⟨v, a, rfl, ⟨hz, h⟩, (show va_P D cl (wsf a) t.heap by rw [ht]; exact hP)⟩, hS.F ht⟩) hS.2.2 hdg hlk))
theorem eRd {p : Program} {l : Launch} {e : Env} {R : Room} {s : State} {m : MethodId} {args : Array Value} {below : List Frame} {meth : Method} {c : Code} {bytes : ByteArray} {maxL pc : Nat} {own : String} {ls : Array Slot} (S : CallFix p m c bytes maxL s args lw_all own) (hr : meth.sig.returnType = some .double) (hlk : meth.locks = false) {v r0 : UInt64} (h : v = r0) (hdg : decode bytes pc = .ok (.dreturn, 1)) : W p l e R s m args below meth c s.heap [] 0 0 (MQ below (vp_Sd (fun r => r = r0)) args s 0 0 (fun _ => False)) (F0 m pc ls [.double v]) := W.dret S.1 S.2.1 hr (fun t ht _ => ⟨v, rfl, h, ht⟩) (fun q hq => absurd hq List.not_mem_nil) hdg hlk
theorem eWd {p : Program} {l : Launch} {e : Env} {R : Room} {s : State} {m : MethodId} {args : Array Value} {below : List Frame} {meth : Method} {c : Code} {bytes : ByteArray} {maxL pc : Nat} {own : String} {ls : Array Slot} {H : Heap} {locs : List Loc} {cells slots mc ms : Nat} {A : Nat → Prop} {D : va_G} {cl : List vw_C} {ws : va_W} (S : CallFix p m c bytes maxL s args lw_all own) (hr : meth.sig.returnType = some .double) (hlk : meth.locks = false) {v r0 : UInt64} (h : v = r0) (hP : va_P D cl ws H) (hS : va_S A s.heap H locs) (hc : cells ≤ mc) (hs : slots ≤ ms) (hdg : decode bytes pc = .ok (.dreturn, 1)) : W p l e R s m args below meth c H locs cells slots (MQ below (va_Qd (fun (r : UInt64) (_ : Unit) => r = r0) (fun _ t => va_P D cl ws t.heap) A) args s mc ms A) (F0 m pc ls [.double v]) := W.widen hc hs (W.dret S.1 S.2.1 hr (fun t ht _ => ⟨⟨v, (), rfl, h, (show va_P D cl ws t.heap by rw [ht]; exact hP)⟩, hS.F ht⟩) hS.2.2 hdg hlk)
theorem eWv {p : Program} {l : Launch} {e : Env} {R : Room} {s : State} {m : MethodId} {args : Array Value} {below : List Frame} {meth : Method} {c : Code} {bytes : ByteArray} {maxL pc : Nat} {own : String} {ls : Array Slot} {H : Heap} {locs : List Loc} {cells slots mc ms : Nat} {A : Nat → Prop} {D : va_G} {cl : List vw_C} {ws : va_W} (S : CallFix p m c bytes maxL s args lw_all own) (hr : meth.sig.returnType = none) (hlk : meth.locks = false) (hP : va_P D cl ws H) (hS : va_S A s.heap H locs) (hc : cells ≤ mc) (hs : slots ≤ ms) (hdg : decode bytes pc = .ok (.return_, 1)) : W p l e R s m args below meth c H locs cells slots (MQ below (va_Qv (fun _ : Unit => True) (fun _ t => va_P D cl ws t.heap) A) args s mc ms A) (F0 m pc ls []) := W.widen hc hs (W.vret S.1 S.2.1 hr (fun t ht _ => ⟨⟨(), rfl, trivial, (show va_P D cl ws t.heap by rw [ht]; exact hP)⟩, hS.F ht⟩) hS.2.2 hdg hlk)
theorem eXv {p : Program} {l : Launch} {e : Env} {R : Room} {s : State} {m : MethodId} {args : Array Value} {below : List Frame} {meth : Method} {c : Code} {bytes : ByteArray} {maxL pc : Nat} {own : String} {ls : Array Slot} {H : Heap} {locs : List Loc} {cells slots mc ms : Nat} {A : Nat → Prop} {D : va_G} {cl : List vw_C} {Z : Type} {z : String ⊕ Z} {wsf : Z → va_W} {XC : String → State → State → Prop} (S : CallFix p m c bytes maxL s args lw_all own) (hr : meth.sig.returnType = none) (hlk : meth.locks = false) (a : Z) (hz : z = .inr a) (hP : va_P D cl (wsf a) H) (hS : va_S A s.heap H locs) (hc : cells ≤ mc) (hs : slots ≤ ms) (hdg : decode bytes pc = .ok (.return_, 1)) : W p l e R s m args below meth c H locs cells slots (vx_MQ below (va_Qv (fun a : Z => z = .inr a) (fun a t => va_P D cl (wsf a) t.heap) A) XC args s mc ms A) (F0 m pc ls []) := vx_ret (W.widen hc hs (W.vret S.1 S.2.1 hr (fun t ht _ => ⟨⟨a, rfl, hz, (show va_P D cl (wsf a) t.heap by rw [ht]; exact hP)⟩, hS.F ht⟩) hS.2.2 hdg hlk))
/-! THROWS -/
/-- what a throw needs of the heap: the Throwable's two statics outside of A, the texts, and that the three classes are themselves -/
def xb (A : Nat → Prop) (sa : Nat → Nat) (U : State) : Prop := vx_Zq Bundle.tN "UNASSIGNED_STACK" Bundle.steD A U U.heap ∧ vx_Zq Bundle.tN "SUPPRESSED_SENTINEL" Bundle.listD A U U.heap ∧ va_Nw (.castable "java/lang/IllegalArgumentException" "java/lang/IllegalArgumentException") U ∧ va_Nw (.castable "java/lang/IllegalStateException" "java/lang/IllegalStateException") U ∧ va_Nw (.castable "java/lang/IndexOutOfBoundsException" "java/lang/IndexOutOfBoundsException") U ∧ va_Nw (.declares (Bundle.initS "java/lang/RuntimeException")) U ∧ va_Nw (.declares (Bundle.initS "java/lang/Exception")) U ∧ va_Nw (.declares (Bundle.initS Bundle.tN)) U ∧ vk_R RX4 44 "floors is not 2 to 12" (sa 0) U ∧ vk_R RX4 71 "topic is not 0 to 7, or thrill is not 0 to 9" (sa 1) U ∧ vk_R RX4 79 "the chapter has 9 paragraphs" (sa 2) U ∧ vk_R RX4 93 "limit is not 1 to 99" (sa 3) U ∧ vk_R RX4 98 "taste is not 0 to 7, or warm is not 1 to 20" (sa 4) U ∧ vk_R RX4 103 "there are 8 readers" (sa 5) U ∧ vk_R RX4 114 "likes or dislikes is not 0 to 7, or both are the same" (sa 6) U ∧ vk_R RX4 117 "there are 4 mirrors" (sa 7) U ∧ vk_R RX4 131 "hours is not 1 to 60" (sa 8) U ∧ vk_R RX4 374 "there is no such floor" (sa 9) U ∧ vk_R RX4 377 "there is no such paragraph" (sa 10) U ∧ vk_R RX4 379 "topic is not 0 to 7" (sa 11) U ∧ vk_R RX4 381 "there is no such instalment" (sa 12) U ∧ vk_R RX4 383 "there is no such reader" (sa 13) U ∧ vk_R RX4 385 "there is no such mirror" (sa 14) U ∧ vk_R RX4 387 "hours is not 1 to 40" (sa 15) U
theorem xb_call {A B : Nat → Prop} {sa : Nat → Nat} {s U : State} (h : xb A sa s) (hk : ∀ a : Nat, a < s.heap.size → ¬ A a → U.heap[a]? = s.heap[a]?) (hAB : ∀ q, B q → A q) (hW : s.WarmedH U.vm) : xb B sa U := by
  obtain ⟨h1, h2, h3, h4, h5, d1, d2, d3, k0, k1, k2, k3, k4, k5, k6, k7, k8, k9, k10, k11, k12, k13, k14, k15⟩ := h
  exact ⟨((h1.kept hk).moved hW.alike).narrow hAB, ((h2.kept hk).moved hW.alike).narrow hAB, va_Nw.warmC hW h3, va_Nw.warmC hW h4, va_Nw.warmC hW h5, va_Nw.warmD hW d1, va_Nw.warmD hW d2, va_Nw.warmD hW d3, vk_R.warm hW k0, vk_R.warm hW k1, vk_R.warm hW k2, vk_R.warm hW k3, vk_R.warm hW k4, vk_R.warm hW k5, vk_R.warm hW k6, vk_R.warm hW k7, vk_R.warm hW k8, vk_R.warm hW k9, vk_R.warm hW k10, vk_R.warm hW k11, vk_R.warm hW k12, vk_R.warm hW k13, vk_R.warm hW k14, vk_R.warm hW k15⟩
theorem xb_same {A : Nat → Prop} {sa : Nat → Nat} {U V : State} (h : xb A sa U) (hh : V.heap = U.heap) (hv : V.vm = U.vm) : xb A sa V := by
  obtain ⟨h1, h2, h3, h4, h5, d1, d2, d3, k0, k1, k2, k3, k4, k5, k6, k7, k8, k9, k10, k11, k12, k13, k14, k15⟩ := h
  have ha : U.vm.Alike V.vm := by rw [hv]; exact Vm.Alike.refl U.vm
  exact ⟨by rw [hh]; exact h1.moved ha, by rw [hh]; exact h2.moved ha, va_Nw.same rfl hv.symm h3, va_Nw.same rfl hv.symm h4, va_Nw.same rfl hv.symm h5, va_Nw.same rfl hv.symm d1, va_Nw.same rfl hv.symm d2, va_Nw.same rfl hv.symm d3, vk_R.same hv k0, vk_R.same hv k1, vk_R.same hv k2, vk_R.same hv k3, vk_R.same hv k4, vk_R.same hv k5, vk_R.same hv k6, vk_R.same hv k7, vk_R.same hv k8, vk_R.same hv k9, vk_R.same hv k10, vk_R.same hv k11, vk_R.same hv k12, vk_R.same hv k13, vk_R.same hv k14, vk_R.same hv k15⟩
def prX (D : va_G) (cl : List vw_C) (tys : List (ClassId × FieldType)) (ws : va_W) (sz : Nat) (sa : Nat → Nat) (av : List Value) : Array Value → State → Prop := va_Pc av (fun U => U.heap.size = sz ∧ va_P D cl ws U.heap ∧ va_K D cl tys U ∧ va_D (fun _ => True) ws ∧ xb (va_A ws sz) sa U)
theorem prX_fb {D : va_G} {cl : List vw_C} {tys : List (ClassId × FieldType)} {ws : va_W} {sz : Nat} {sa : Nat → Nat} {av : List Value} : FrameBlind (prX D cl tys ws sz sa av) := fun a U g mk q => ⟨q.1, q.2.1, q.2.2.1, va_K.moved (u := U) (U := U.calling g mk a) (Vm.Alike.refl U.vm) q.2.2.2.1, q.2.2.2.2.1, xb_same (U := U) (V := U.calling g mk a) q.2.2.2.2.2 rfl rfl⟩
theorem prX_of {D : va_G} {cl : List vw_C} {tys : List (ClassId × FieldType)} {ws : va_W} {av : List Value} {s : State} {H : Heap} {A : Nat → Prop} {sa : Nat → Nat} {locs : List Loc} (hP : va_P D cl ws H) (hK : va_K D cl tys s) (hD : va_D A ws) (hX : xb A sa s) (hS : va_S A s.heap H locs) (hA : ∀ q, va_A ws H.size q → A q) : ∀ U : State, U.heap = H → s.WarmedH U.vm → prX D cl tys ws H.size sa av av.toArray U := fun U hU hW => ⟨rfl, by rw [hU], by rw [hU]; exact hP, va_K.moved hW.alike hK, hD.weaken (fun _ _ _ _ => trivial), xb_call hX (by rw [hU]; exact hS.2.1) hA hW⟩
theorem xl_IAE : ∀ w ∈ (vx_atS RX4 46 "java/lang/IllegalArgumentException" ["java/lang/RuntimeException", "java/lang/Exception"]).filter goodWord, w ∈ lw_tbl := by decide +kernel
theorem xm_IAE : ∀ w ∈ (vx_atS RX4 46 "java/lang/IllegalArgumentException" ["java/lang/RuntimeException", "java/lang/Exception"]).filter (fun w => !goodWord w), w ∈ [Cond.declares (Bundle.initS "java/lang/RuntimeException"), Cond.declares (Bundle.initS "java/lang/Exception"), Cond.declares (Bundle.initS Bundle.tN), Cond.castable "java/lang/IllegalArgumentException" "java/lang/IllegalArgumentException"] := by decide +kernel
theorem xg_IAE : ∀ w ∈ Cond.classLink RX4 42 "java/lang/IllegalArgumentException" :: Cond.initialized "java/lang/IllegalArgumentException" :: (vx_atS RX4 46 "java/lang/IllegalArgumentException" ["java/lang/RuntimeException", "java/lang/Exception"]), vx_ot w = true := by decide +kernel
theorem xa_IAE {args : Array Value} {s : State} {A : Nat → Prop} {sa : Nat → Nat} (hts : ∀ w ∈ lw_all, w.before args s = true) (hX : xb A sa s) : ∀ w ∈ (vx_atS RX4 46 "java/lang/IllegalArgumentException" ["java/lang/RuntimeException", "java/lang/Exception"]), w.before args s = true := vx_hat (fun w h => hts w (lw_mem (xl_IAE w h) (List.mem_filter.mp h).2)) xm_IAE (vx_c (va_Nw.use rfl hX.2.2.2.2.2.1) (vx_c (va_Nw.use rfl hX.2.2.2.2.2.2.1) (vx_c (va_Nw.use rfl hX.2.2.2.2.2.2.2.1) (vx_c (va_Nw.use rfl hX.2.2.1) vx_n))))
theorem xt_IAE {p : Program} {l : Launch} {e : Env} {R : Room} {s : State} {m : MethodId} {args : Array Value} {below : List Frame} {meth : Method} {c : Code} {bytes : ByteArray} {maxL pc : Nat} {ls : Array Slot} {st : List Value} {A : Nat → Prop} {sa : Nat → Nat} {is s0 : Nat} {text : String} {Z : Type} {z : String ⊕ Z} {Qc : Array Value → State → Outcome → State → Prop} {mc ms : Nat} (S : CallFix p m c bytes maxL s args lw_all RX4) (hlk : meth.locks = false) (hex : ∀ x ∈ c.exceptionTable.toList, False) (hlt : l.stackTraces = false) (hX : xb A sa s) (hstr : vk_R RX4 is text s0 s) (hz : z = .inl "java/lang/IllegalArgumentException") (hsz : ls.size = maxL) (hw : (st.map fun v => v.category).sum ≤ 8) (d0 : decode bytes pc = .ok (.new 42, 3)) (d3 : decode bytes (pc + 3) = .ok (.dup, 1)) (d4 : decode bytes (pc + 4) = .ok (.ldc is, 2)) (d6 : decode bytes (pc + 6) = .ok (.invokespecial 46, 3)) (d9 : decode bytes (pc + 9) = .ok (.athrow, 1)) (hR : 6 ≤ R.frames ∧ 90 ≤ R.locals ∧ 1 ≤ R.cells ∧ 6 ≤ R.slots) (hc : 1 ≤ mc ∧ 6 ≤ ms) : W p l e R s m args below meth c s.heap [] 0 0 (vx_MQ below Qc (vx_X (fun _ : Unit => True) (fun E _ _ => z = .inl E) (fun _ => False)) args s mc ms A) (F0 m pc ls st) :=
  vx_throwS (A := A) (names := ["java/lang/RuntimeException", "java/lang/Exception"]) S.1 S.2.1 hlt S.2.2.2.1 (by decide) (by decide) (S.2.2.2.2 _ qk_X4_42) (S.2.2.2.2 _ qn_IAE) hstr (xa_IAE S.2.2.2.2 hX) xg_IAE hX.1 hX.2.1 va_S.rf (hsz.trans S.2.2.1.symm) d0 d3 d4 d6 d9 (fun x hx => (hex x hx).elim) hR.1 (Nat.le_trans (by show _ + 82 ≤ 90; omega) hR.2.1) (by have := hR.2.2.1; omega) (by have := hR.2.2.2; omega) hlk (fun t _ h1 h2 => ⟨(), trivial, hz, h1, fun q hq _ => h2 q hq⟩) (fun q hq => absurd hq List.not_mem_nil) (by have := hc.1; omega) (by have := hc.2; omega)
theorem xtw_IAE {p : Program} {l : Launch} {e : Env} {R : Room} {s : State} {m : MethodId} {args : Array Value} {below : List Frame} {meth : Method} {c : Code} {bytes : ByteArray} {maxL pc : Nat} {ls : Array Slot} {st : List Value} {A : Nat → Prop} {sa : Nat → Nat} {is s0 : Nat} {text : String} {Z : Type} {z : String ⊕ Z} {Qc : Array Value → State → Outcome → State → Prop} {mc ms : Nat} (S : CallFix p m c bytes maxL s args lw_all RX4) (hlk : meth.locks = false) (hex : ∀ x ∈ c.exceptionTable.toList, False) (hlt : l.stackTraces = false) (hX : xb A sa s) (hstr : vk_R RX4 is text s0 s) (hz : z = .inl "java/lang/IllegalArgumentException") (hsz : ls.size = maxL) (hw : (st.map fun v => v.category).sum ≤ 8) (d0 : decode bytes pc = .ok (.new 42, 3)) (d3 : decode bytes (pc + 3) = .ok (.dup, 1)) (d4 : decode bytes (pc + 4) = .ok (.ldc_w is, 3)) (d6 : decode bytes (pc + 7) = .ok (.invokespecial 46, 3)) (d9 : decode bytes (pc + 10) = .ok (.athrow, 1)) (hR : 6 ≤ R.frames ∧ 90 ≤ R.locals ∧ 1 ≤ R.cells ∧ 6 ≤ R.slots) (hc : 1 ≤ mc ∧ 6 ≤ ms) : W p l e R s m args below meth c s.heap [] 0 0 (vx_MQ below Qc (vx_X (fun _ : Unit => True) (fun E _ _ => z = .inl E) (fun _ => False)) args s mc ms A) (F0 m pc ls st) :=
  vx_throwSW (A := A) (names := ["java/lang/RuntimeException", "java/lang/Exception"]) S.1 S.2.1 hlt S.2.2.2.1 (by decide) (by decide) (S.2.2.2.2 _ qk_X4_42) (S.2.2.2.2 _ qn_IAE) hstr (xa_IAE S.2.2.2.2 hX) xg_IAE hX.1 hX.2.1 va_S.rf (hsz.trans S.2.2.1.symm) d0 d3 d4 d6 d9 (fun x hx => (hex x hx).elim) hR.1 (Nat.le_trans (by show _ + 82 ≤ 90; omega) hR.2.1) (by have := hR.2.2.1; omega) (by have := hR.2.2.2; omega) hlk (fun t _ h1 h2 => ⟨(), trivial, hz, h1, fun q hq _ => h2 q hq⟩) (fun q hq => absurd hq List.not_mem_nil) (by have := hc.1; omega) (by have := hc.2; omega)
theorem xl_ISE : ∀ w ∈ (vx_atS RX4 81 "java/lang/IllegalStateException" ["java/lang/RuntimeException", "java/lang/Exception"]).filter goodWord, w ∈ lw_tbl := by decide +kernel
theorem xm_ISE : ∀ w ∈ (vx_atS RX4 81 "java/lang/IllegalStateException" ["java/lang/RuntimeException", "java/lang/Exception"]).filter (fun w => !goodWord w), w ∈ [Cond.declares (Bundle.initS "java/lang/RuntimeException"), Cond.declares (Bundle.initS "java/lang/Exception"), Cond.declares (Bundle.initS Bundle.tN), Cond.castable "java/lang/IllegalStateException" "java/lang/IllegalStateException"] := by decide +kernel
theorem xg_ISE : ∀ w ∈ Cond.classLink RX4 77 "java/lang/IllegalStateException" :: Cond.initialized "java/lang/IllegalStateException" :: (vx_atS RX4 81 "java/lang/IllegalStateException" ["java/lang/RuntimeException", "java/lang/Exception"]), vx_ot w = true := by decide +kernel
theorem xa_ISE {args : Array Value} {s : State} {A : Nat → Prop} {sa : Nat → Nat} (hts : ∀ w ∈ lw_all, w.before args s = true) (hX : xb A sa s) : ∀ w ∈ (vx_atS RX4 81 "java/lang/IllegalStateException" ["java/lang/RuntimeException", "java/lang/Exception"]), w.before args s = true := vx_hat (fun w h => hts w (lw_mem (xl_ISE w h) (List.mem_filter.mp h).2)) xm_ISE (vx_c (va_Nw.use rfl hX.2.2.2.2.2.1) (vx_c (va_Nw.use rfl hX.2.2.2.2.2.2.1) (vx_c (va_Nw.use rfl hX.2.2.2.2.2.2.2.1) (vx_c (va_Nw.use rfl hX.2.2.2.1) vx_n))))
theorem xt_ISE {p : Program} {l : Launch} {e : Env} {R : Room} {s : State} {m : MethodId} {args : Array Value} {below : List Frame} {meth : Method} {c : Code} {bytes : ByteArray} {maxL pc : Nat} {ls : Array Slot} {st : List Value} {A : Nat → Prop} {sa : Nat → Nat} {is s0 : Nat} {text : String} {Z : Type} {z : String ⊕ Z} {Qc : Array Value → State → Outcome → State → Prop} {mc ms : Nat} (S : CallFix p m c bytes maxL s args lw_all RX4) (hlk : meth.locks = false) (hex : ∀ x ∈ c.exceptionTable.toList, False) (hlt : l.stackTraces = false) (hX : xb A sa s) (hstr : vk_R RX4 is text s0 s) (hz : z = .inl "java/lang/IllegalStateException") (hsz : ls.size = maxL) (hw : (st.map fun v => v.category).sum ≤ 8) (d0 : decode bytes pc = .ok (.new 77, 3)) (d3 : decode bytes (pc + 3) = .ok (.dup, 1)) (d4 : decode bytes (pc + 4) = .ok (.ldc is, 2)) (d6 : decode bytes (pc + 6) = .ok (.invokespecial 81, 3)) (d9 : decode bytes (pc + 9) = .ok (.athrow, 1)) (hR : 6 ≤ R.frames ∧ 90 ≤ R.locals ∧ 1 ≤ R.cells ∧ 6 ≤ R.slots) (hc : 1 ≤ mc ∧ 6 ≤ ms) : W p l e R s m args below meth c s.heap [] 0 0 (vx_MQ below Qc (vx_X (fun _ : Unit => True) (fun E _ _ => z = .inl E) (fun _ => False)) args s mc ms A) (F0 m pc ls st) :=
  vx_throwS (A := A) (names := ["java/lang/RuntimeException", "java/lang/Exception"]) S.1 S.2.1 hlt S.2.2.2.1 (by decide) (by decide) (S.2.2.2.2 _ qk_X4_77) (S.2.2.2.2 _ qn_ISE) hstr (xa_ISE S.2.2.2.2 hX) xg_ISE hX.1 hX.2.1 va_S.rf (hsz.trans S.2.2.1.symm) d0 d3 d4 d6 d9 (fun x hx => (hex x hx).elim) hR.1 (Nat.le_trans (by show _ + 82 ≤ 90; omega) hR.2.1) (by have := hR.2.2.1; omega) (by have := hR.2.2.2; omega) hlk (fun t _ h1 h2 => ⟨(), trivial, hz, h1, fun q hq _ => h2 q hq⟩) (fun q hq => absurd hq List.not_mem_nil) (by have := hc.1; omega) (by have := hc.2; omega)
theorem xtw_ISE {p : Program} {l : Launch} {e : Env} {R : Room} {s : State} {m : MethodId} {args : Array Value} {below : List Frame} {meth : Method} {c : Code} {bytes : ByteArray} {maxL pc : Nat} {ls : Array Slot} {st : List Value} {A : Nat → Prop} {sa : Nat → Nat} {is s0 : Nat} {text : String} {Z : Type} {z : String ⊕ Z} {Qc : Array Value → State → Outcome → State → Prop} {mc ms : Nat} (S : CallFix p m c bytes maxL s args lw_all RX4) (hlk : meth.locks = false) (hex : ∀ x ∈ c.exceptionTable.toList, False) (hlt : l.stackTraces = false) (hX : xb A sa s) (hstr : vk_R RX4 is text s0 s) (hz : z = .inl "java/lang/IllegalStateException") (hsz : ls.size = maxL) (hw : (st.map fun v => v.category).sum ≤ 8) (d0 : decode bytes pc = .ok (.new 77, 3)) (d3 : decode bytes (pc + 3) = .ok (.dup, 1)) (d4 : decode bytes (pc + 4) = .ok (.ldc_w is, 3)) (d6 : decode bytes (pc + 7) = .ok (.invokespecial 81, 3)) (d9 : decode bytes (pc + 10) = .ok (.athrow, 1)) (hR : 6 ≤ R.frames ∧ 90 ≤ R.locals ∧ 1 ≤ R.cells ∧ 6 ≤ R.slots) (hc : 1 ≤ mc ∧ 6 ≤ ms) : W p l e R s m args below meth c s.heap [] 0 0 (vx_MQ below Qc (vx_X (fun _ : Unit => True) (fun E _ _ => z = .inl E) (fun _ => False)) args s mc ms A) (F0 m pc ls st) :=
  vx_throwSW (A := A) (names := ["java/lang/RuntimeException", "java/lang/Exception"]) S.1 S.2.1 hlt S.2.2.2.1 (by decide) (by decide) (S.2.2.2.2 _ qk_X4_77) (S.2.2.2.2 _ qn_ISE) hstr (xa_ISE S.2.2.2.2 hX) xg_ISE hX.1 hX.2.1 va_S.rf (hsz.trans S.2.2.1.symm) d0 d3 d4 d6 d9 (fun x hx => (hex x hx).elim) hR.1 (Nat.le_trans (by show _ + 82 ≤ 90; omega) hR.2.1) (by have := hR.2.2.1; omega) (by have := hR.2.2.2; omega) hlk (fun t _ h1 h2 => ⟨(), trivial, hz, h1, fun q hq _ => h2 q hq⟩) (fun q hq => absurd hq List.not_mem_nil) (by have := hc.1; omega) (by have := hc.2; omega)
theorem xl_IOB : ∀ w ∈ (vx_atS RX4 376 "java/lang/IndexOutOfBoundsException" ["java/lang/RuntimeException", "java/lang/Exception"]).filter goodWord, w ∈ lw_tbl := by decide +kernel
theorem xm_IOB : ∀ w ∈ (vx_atS RX4 376 "java/lang/IndexOutOfBoundsException" ["java/lang/RuntimeException", "java/lang/Exception"]).filter (fun w => !goodWord w), w ∈ [Cond.declares (Bundle.initS "java/lang/RuntimeException"), Cond.declares (Bundle.initS "java/lang/Exception"), Cond.declares (Bundle.initS Bundle.tN), Cond.castable "java/lang/IndexOutOfBoundsException" "java/lang/IndexOutOfBoundsException"] := by decide +kernel
theorem xg_IOB : ∀ w ∈ Cond.classLink RX4 372 "java/lang/IndexOutOfBoundsException" :: Cond.initialized "java/lang/IndexOutOfBoundsException" :: (vx_atS RX4 376 "java/lang/IndexOutOfBoundsException" ["java/lang/RuntimeException", "java/lang/Exception"]), vx_ot w = true := by decide +kernel
theorem xa_IOB {args : Array Value} {s : State} {A : Nat → Prop} {sa : Nat → Nat} (hts : ∀ w ∈ lw_all, w.before args s = true) (hX : xb A sa s) : ∀ w ∈ (vx_atS RX4 376 "java/lang/IndexOutOfBoundsException" ["java/lang/RuntimeException", "java/lang/Exception"]), w.before args s = true := vx_hat (fun w h => hts w (lw_mem (xl_IOB w h) (List.mem_filter.mp h).2)) xm_IOB (vx_c (va_Nw.use rfl hX.2.2.2.2.2.1) (vx_c (va_Nw.use rfl hX.2.2.2.2.2.2.1) (vx_c (va_Nw.use rfl hX.2.2.2.2.2.2.2.1) (vx_c (va_Nw.use rfl hX.2.2.2.2.1) vx_n))))
theorem xt_IOB {p : Program} {l : Launch} {e : Env} {R : Room} {s : State} {m : MethodId} {args : Array Value} {below : List Frame} {meth : Method} {c : Code} {bytes : ByteArray} {maxL pc : Nat} {ls : Array Slot} {st : List Value} {A : Nat → Prop} {sa : Nat → Nat} {is s0 : Nat} {text : String} {Z : Type} {z : String ⊕ Z} {Qc : Array Value → State → Outcome → State → Prop} {mc ms : Nat} (S : CallFix p m c bytes maxL s args lw_all RX4) (hlk : meth.locks = false) (hex : ∀ x ∈ c.exceptionTable.toList, False) (hlt : l.stackTraces = false) (hX : xb A sa s) (hstr : vk_R RX4 is text s0 s) (hz : z = .inl "java/lang/IndexOutOfBoundsException") (hsz : ls.size = maxL) (hw : (st.map fun v => v.category).sum ≤ 8) (d0 : decode bytes pc = .ok (.new 372, 3)) (d3 : decode bytes (pc + 3) = .ok (.dup, 1)) (d4 : decode bytes (pc + 4) = .ok (.ldc is, 2)) (d6 : decode bytes (pc + 6) = .ok (.invokespecial 376, 3)) (d9 : decode bytes (pc + 9) = .ok (.athrow, 1)) (hR : 6 ≤ R.frames ∧ 90 ≤ R.locals ∧ 1 ≤ R.cells ∧ 6 ≤ R.slots) (hc : 1 ≤ mc ∧ 6 ≤ ms) : W p l e R s m args below meth c s.heap [] 0 0 (vx_MQ below Qc (vx_X (fun _ : Unit => True) (fun E _ _ => z = .inl E) (fun _ => False)) args s mc ms A) (F0 m pc ls st) :=
  vx_throwS (A := A) (names := ["java/lang/RuntimeException", "java/lang/Exception"]) S.1 S.2.1 hlt S.2.2.2.1 (by decide) (by decide) (S.2.2.2.2 _ qk_X4_372) (S.2.2.2.2 _ qn_IOB) hstr (xa_IOB S.2.2.2.2 hX) xg_IOB hX.1 hX.2.1 va_S.rf (hsz.trans S.2.2.1.symm) d0 d3 d4 d6 d9 (fun x hx => (hex x hx).elim) hR.1 (Nat.le_trans (by show _ + 82 ≤ 90; omega) hR.2.1) (by have := hR.2.2.1; omega) (by have := hR.2.2.2; omega) hlk (fun t _ h1 h2 => ⟨(), trivial, hz, h1, fun q hq _ => h2 q hq⟩) (fun q hq => absurd hq List.not_mem_nil) (by have := hc.1; omega) (by have := hc.2; omega)
theorem xtw_IOB {p : Program} {l : Launch} {e : Env} {R : Room} {s : State} {m : MethodId} {args : Array Value} {below : List Frame} {meth : Method} {c : Code} {bytes : ByteArray} {maxL pc : Nat} {ls : Array Slot} {st : List Value} {A : Nat → Prop} {sa : Nat → Nat} {is s0 : Nat} {text : String} {Z : Type} {z : String ⊕ Z} {Qc : Array Value → State → Outcome → State → Prop} {mc ms : Nat} (S : CallFix p m c bytes maxL s args lw_all RX4) (hlk : meth.locks = false) (hex : ∀ x ∈ c.exceptionTable.toList, False) (hlt : l.stackTraces = false) (hX : xb A sa s) (hstr : vk_R RX4 is text s0 s) (hz : z = .inl "java/lang/IndexOutOfBoundsException") (hsz : ls.size = maxL) (hw : (st.map fun v => v.category).sum ≤ 8) (d0 : decode bytes pc = .ok (.new 372, 3)) (d3 : decode bytes (pc + 3) = .ok (.dup, 1)) (d4 : decode bytes (pc + 4) = .ok (.ldc_w is, 3)) (d6 : decode bytes (pc + 7) = .ok (.invokespecial 376, 3)) (d9 : decode bytes (pc + 10) = .ok (.athrow, 1)) (hR : 6 ≤ R.frames ∧ 90 ≤ R.locals ∧ 1 ≤ R.cells ∧ 6 ≤ R.slots) (hc : 1 ≤ mc ∧ 6 ≤ ms) : W p l e R s m args below meth c s.heap [] 0 0 (vx_MQ below Qc (vx_X (fun _ : Unit => True) (fun E _ _ => z = .inl E) (fun _ => False)) args s mc ms A) (F0 m pc ls st) :=
  vx_throwSW (A := A) (names := ["java/lang/RuntimeException", "java/lang/Exception"]) S.1 S.2.1 hlt S.2.2.2.1 (by decide) (by decide) (S.2.2.2.2 _ qk_X4_372) (S.2.2.2.2 _ qn_IOB) hstr (xa_IOB S.2.2.2.2 hX) xg_IOB hX.1 hX.2.1 va_S.rf (hsz.trans S.2.2.1.symm) d0 d3 d4 d6 d9 (fun x hx => (hex x hx).elim) hR.1 (Nat.le_trans (by show _ + 82 ≤ 90; omega) hR.2.1) (by have := hR.2.2.1; omega) (by have := hR.2.2.2; omega) hlk (fun t _ h1 h2 => ⟨(), trivial, hz, h1, fun q hq _ => h2 q hq⟩) (fun q hq => absurd hq List.not_mem_nil) (by have := hc.1; omega) (by have := hc.2; omega)
theorem xs_44 {A : Nat → Prop} {sa : Nat → Nat} {U : State} (h : xb A sa U) : vk_R RX4 44 "floors is not 2 to 12" (sa 0) U := h.2.2.2.2.2.2.2.2.1
theorem xs_71 {A : Nat → Prop} {sa : Nat → Nat} {U : State} (h : xb A sa U) : vk_R RX4 71 "topic is not 0 to 7, or thrill is not 0 to 9" (sa 1) U := h.2.2.2.2.2.2.2.2.2.1
theorem xs_79 {A : Nat → Prop} {sa : Nat → Nat} {U : State} (h : xb A sa U) : vk_R RX4 79 "the chapter has 9 paragraphs" (sa 2) U := h.2.2.2.2.2.2.2.2.2.2.1
theorem xs_93 {A : Nat → Prop} {sa : Nat → Nat} {U : State} (h : xb A sa U) : vk_R RX4 93 "limit is not 1 to 99" (sa 3) U := h.2.2.2.2.2.2.2.2.2.2.2.1
theorem xs_98 {A : Nat → Prop} {sa : Nat → Nat} {U : State} (h : xb A sa U) : vk_R RX4 98 "taste is not 0 to 7, or warm is not 1 to 20" (sa 4) U := h.2.2.2.2.2.2.2.2.2.2.2.2.1
theorem xs_103 {A : Nat → Prop} {sa : Nat → Nat} {U : State} (h : xb A sa U) : vk_R RX4 103 "there are 8 readers" (sa 5) U := h.2.2.2.2.2.2.2.2.2.2.2.2.2.1
theorem xs_114 {A : Nat → Prop} {sa : Nat → Nat} {U : State} (h : xb A sa U) : vk_R RX4 114 "likes or dislikes is not 0 to 7, or both are the same" (sa 6) U := h.2.2.2.2.2.2.2.2.2.2.2.2.2.2.1
theorem xs_117 {A : Nat → Prop} {sa : Nat → Nat} {U : State} (h : xb A sa U) : vk_R RX4 117 "there are 4 mirrors" (sa 7) U := h.2.2.2.2.2.2.2.2.2.2.2.2.2.2.2.1
theorem xs_131 {A : Nat → Prop} {sa : Nat → Nat} {U : State} (h : xb A sa U) : vk_R RX4 131 "hours is not 1 to 60" (sa 8) U := h.2.2.2.2.2.2.2.2.2.2.2.2.2.2.2.2.1
theorem xs_374 {A : Nat → Prop} {sa : Nat → Nat} {U : State} (h : xb A sa U) : vk_R RX4 374 "there is no such floor" (sa 9) U := h.2.2.2.2.2.2.2.2.2.2.2.2.2.2.2.2.2.1
theorem xs_377 {A : Nat → Prop} {sa : Nat → Nat} {U : State} (h : xb A sa U) : vk_R RX4 377 "there is no such paragraph" (sa 10) U := h.2.2.2.2.2.2.2.2.2.2.2.2.2.2.2.2.2.2.1
theorem xs_379 {A : Nat → Prop} {sa : Nat → Nat} {U : State} (h : xb A sa U) : vk_R RX4 379 "topic is not 0 to 7" (sa 11) U := h.2.2.2.2.2.2.2.2.2.2.2.2.2.2.2.2.2.2.2.1
theorem xs_381 {A : Nat → Prop} {sa : Nat → Nat} {U : State} (h : xb A sa U) : vk_R RX4 381 "there is no such instalment" (sa 12) U := h.2.2.2.2.2.2.2.2.2.2.2.2.2.2.2.2.2.2.2.2.1
theorem xs_383 {A : Nat → Prop} {sa : Nat → Nat} {U : State} (h : xb A sa U) : vk_R RX4 383 "there is no such reader" (sa 13) U := h.2.2.2.2.2.2.2.2.2.2.2.2.2.2.2.2.2.2.2.2.2.1
theorem xs_385 {A : Nat → Prop} {sa : Nat → Nat} {U : State} (h : xb A sa U) : vk_R RX4 385 "there is no such mirror" (sa 14) U := h.2.2.2.2.2.2.2.2.2.2.2.2.2.2.2.2.2.2.2.2.2.2.1
theorem xs_387 {A : Nat → Prop} {sa : Nat → Nat} {U : State} (h : xb A sa U) : vk_R RX4 387 "hours is not 1 to 40" (sa 15) U := h.2.2.2.2.2.2.2.2.2.2.2.2.2.2.2.2.2.2.2.2.2.2.2
end
section
/-! CALLS. R: the callee reads alone; W: it writes; X: it may throw. same world, or (U) a part of the caller's, by places -/
theorem va_Pnil {D : va_G} {cl : List vw_C} {H : Heap} : va_P D cl [] H := fun k q h => by simp at h
theorem va_Pcut {D : va_G} {cl : List vw_C} {ws wc : va_W} {H : Heap} {isC : List Nat} (hP : va_P D cl ws H) (hC : isC.map (fun i => ws[i]?) = wc.map some) : va_P D cl wc H := by
  intro k q hk
  have h3 : (isC.map (fun i => ws[i]?))[k]? = some (some q) := by rw [hC, List.getElem?_map, hk]; rfl
  rw [List.getElem?_map] at h3
  cases hi : isC[k]? with
  | none => rw [hi] at h3; cases h3
  | some i =>
    rw [hi] at h3
    exact hP i q (Option.some.inj h3)
/-- thrown on to the caller: nothing old has changed -/
theorem px {p : Program} {l : Launch} {e : Env} {R : Room} {s : State} {m : MethodId} {args : Array Value} {below : List Frame} {meth : Method} {c : Code} {H1 : Heap} {locs1 : List Loc} {cells slots mc ms pc : Nat} {ls : Array Slot} {rest : List Value} {A : Nat → Prop} {Qc : Array Value → State → Outcome → State → Prop} {Z : Type} {z : String ⊕ Z} {E : String} {ce : Cell} {q9 : Addr} (hex : ∀ x ∈ c.exceptionTable.toList, False) (hlk : meth.locks = false) (hz : z = .inl E) (h1 : s.heap.size ≤ H1.size) (h2 : ∀ q : Nat, q < s.heap.size → H1[q]? = s.heap[q]?) (hS : va_S A s.heap H1 locs1) (hce : H1[q9]? = some ce) (hcv : ce.vm = .none) (hcl : s.vm.findClass E = some ce.cls) (hc : cells ≤ mc) (hs : slots ≤ ms) : vx_W p l e R s m args below meth c H1 locs1 cells slots (vx_MQ below Qc (vx_X (fun _ : Unit => True) (fun E _ _ => z = .inl E) (fun _ => False)) args s mc ms A) (F0 m pc ls rest) q9 :=
  vx_out (fun x hx => (hex x hx).elim) hlk hce hcv hcl (fun t ht _ => ⟨(), trivial, hz, by rw [ht]; exact h1, fun q hq _ => by rw [ht]; exact h2 q hq⟩) hS.2.2 hc hs
theorem cRVi {p : Program} {l : Launch} {e : Env} {R : Room} {s : State} {m : MethodId} {args : Array Value} {below : List Frame} {meth : Method} {c : Code} {H : Heap} {locs : List Loc} {cells slots : Nat} {Q : State → Prop} {cc bytes : ByteArray} {nL pc idx maxL n q0 ci N : Nat} {ls : Array Slot} {own C : String} {y : MethodName} {ret : Option FieldType} {rm : Room} {D : va_G} {cl : List vw_C} {tys : List (ClassId × FieldType)} {b : Addr} {rest st0 : List Value} {fs : List Value} {T : u_T} {wc : va_W} {r0 : Int32} (As : List Value) (S : CallFix p m c cc nL s args lw_all own) (hK : va_K D cl tys s) (hP : va_P D cl wc H) (hM : Met l y (Cond.code y bytes maxL ret :: lw_all) rm (prR D cl tys wc (.ref b :: As)) (vp_Si (fun r => r = r0)) 0 0 (fun _ => False)) (hg : GoodIn lw_all (wsV own idx C y (Cond.code y bytes maxL ret :: lw_all))) (hd : y.cls = C ∧ y.cls ≠ "java/lang/invoke/MethodHandle" ∧ y.cls ≠ "java/lang/invoke/VarHandle" ∧ (parseMethodDescriptor y.desc).map (fun d => d.parameters.length) = some n) (hrm : rm.cells = 0 ∧ rm.slots = 0) (hR : rm.frames + 1 ≤ R.frames ∧ 8 + (maxL + 11) + rm.locals ≤ R.locals) (hf : cells ≤ R.cells ∧ slots ≤ R.slots) (hcl : cl[ci]? = some (C, T, N)) (he : wc[q0]? = some (b, .inr (ci, fs))) (hn : As.length = n) (hsz : ls.size = nL) (hw : (rest.map fun v => v.category).sum ≤ 8) (hst : st0 = As.reverse ++ .ref b :: rest) (hdg : decode cc pc = .ok (.invokevirtual idx, 3)) (kk : W p l e R s m args below meth c H locs cells slots Q (F0 m (pc + 3) ls (.int r0 :: rest))) : W p l e R s m args below meth c H locs cells slots Q (F0 m pc ls st0) := by
  subst hst
  refine vp_callSi (va_Run.run (va_runV (As := As) (rest := rest) S hM (cwV n S.2.2.2.2 hg rfl hrm.1 hrm.2 hd hR) ⟨prR_fb, va_recv hK hP hcl he, prR_of hP hK⟩ rfl hn hsz rfl (lv_room hw) hdg hf)) (fun r hr => by rw [hr]; exact kk)
theorem cRSi {p : Program} {l : Launch} {e : Env} {R : Room} {s : State} {m : MethodId} {args : Array Value} {below : List Frame} {meth : Method} {c : Code} {H : Heap} {locs : List Loc} {cells slots : Nat} {Q : State → Prop} {cc bytes : ByteArray} {nL pc idx maxL n : Nat} {ls : Array Slot} {own : String} {y : MethodName} {ret : Option FieldType} {rm : Room} {D : va_G} {cl : List vw_C} {tys : List (ClassId × FieldType)} {rest st0 : List Value} {wc : va_W} {r0 : Int32} (As : List Value) (S : CallFix p m c cc nL s args lw_all own) (hK : va_K D cl tys s) (hP : va_P D cl wc H) (hM : Met l y (Cond.code y bytes maxL ret :: lw_all) rm (prR D cl tys wc As) (vp_Si (fun r => r = r0)) 0 0 (fun _ => False)) (hg : GoodIn lw_all (va_wsS own idx y (Cond.code y bytes maxL ret :: lw_all))) (hd : y.cls ≠ "java/lang/invoke/MethodHandle" ∧ y.cls ≠ "java/lang/invoke/VarHandle" ∧ (parseMethodDescriptor y.desc).map (fun d => d.parameters.length) = some n) (hrm : rm.cells = 0 ∧ rm.slots = 0) (hR : rm.frames + 1 ≤ R.frames ∧ 8 + (maxL + 11) + rm.locals ≤ R.locals) (hf : cells ≤ R.cells ∧ slots ≤ R.slots) (hn : As.length = n) (hsz : ls.size = nL) (hw : (rest.map fun v => v.category).sum ≤ 8) (hst : st0 = As.reverse ++ rest) (hdg : decode cc pc = .ok (.invokestatic idx, 3)) (kk : W p l e R s m args below meth c H locs cells slots Q (F0 m (pc + 3) ls (.int r0 :: rest))) : W p l e R s m args below meth c H locs cells slots Q (F0 m pc ls st0) := by
  subst hst
  refine vp_callSi (va_Run.run (va_runS (As := As) (rest := rest) S hM (va_cwS n S.2.2.2.2 hg rfl hrm.1 hrm.2 hd hR) ⟨prR_fb, prR_of hP hK⟩ rfl hn hsz rfl (lv_room hw) hdg hf)) (fun r hr => by rw [hr]; exact kk)
theorem cRVl {p : Program} {l : Launch} {e : Env} {R : Room} {s : State} {m : MethodId} {args : Array Value} {below : List Frame} {meth : Method} {c : Code} {H : Heap} {locs : List Loc} {cells slots : Nat} {Q : State → Prop} {cc bytes : ByteArray} {nL pc idx maxL n q0 ci N : Nat} {ls : Array Slot} {own C : String} {y : MethodName} {ret : Option FieldType} {rm : Room} {D : va_G} {cl : List vw_C} {tys : List (ClassId × FieldType)} {b : Addr} {rest st0 : List Value} {fs : List Value} {T : u_T} {wc : va_W} {r0 : Int64} (As : List Value) (S : CallFix p m c cc nL s args lw_all own) (hK : va_K D cl tys s) (hP : va_P D cl wc H) (hM : Met l y (Cond.code y bytes maxL ret :: lw_all) rm (prR D cl tys wc (.ref b :: As)) (vp_Sl (fun r => r = r0)) 0 0 (fun _ => False)) (hg : GoodIn lw_all (wsV own idx C y (Cond.code y bytes maxL ret :: lw_all))) (hd : y.cls = C ∧ y.cls ≠ "java/lang/invoke/MethodHandle" ∧ y.cls ≠ "java/lang/invoke/VarHandle" ∧ (parseMethodDescriptor y.desc).map (fun d => d.parameters.length) = some n) (hrm : rm.cells = 0 ∧ rm.slots = 0) (hR : rm.frames + 1 ≤ R.frames ∧ 8 + (maxL + 11) + rm.locals ≤ R.locals) (hf : cells ≤ R.cells ∧ slots ≤ R.slots) (hcl : cl[ci]? = some (C, T, N)) (he : wc[q0]? = some (b, .inr (ci, fs))) (hn : As.length = n) (hsz : ls.size = nL) (hw : (rest.map fun v => v.category).sum ≤ 8) (hst : st0 = As.reverse ++ .ref b :: rest) (hdg : decode cc pc = .ok (.invokevirtual idx, 3)) (kk : W p l e R s m args below meth c H locs cells slots Q (F0 m (pc + 3) ls (.long r0 :: rest))) : W p l e R s m args below meth c H locs cells slots Q (F0 m pc ls st0) := by
  subst hst
  refine vp_callSl (va_Run.run (va_runV (As := As) (rest := rest) S hM (cwV n S.2.2.2.2 hg rfl hrm.1 hrm.2 hd hR) ⟨prR_fb, va_recv hK hP hcl he, prR_of hP hK⟩ rfl hn hsz rfl (lv_room hw) hdg hf)) (fun r hr => by rw [hr]; exact kk)
theorem cRSl {p : Program} {l : Launch} {e : Env} {R : Room} {s : State} {m : MethodId} {args : Array Value} {below : List Frame} {meth : Method} {c : Code} {H : Heap} {locs : List Loc} {cells slots : Nat} {Q : State → Prop} {cc bytes : ByteArray} {nL pc idx maxL n : Nat} {ls : Array Slot} {own : String} {y : MethodName} {ret : Option FieldType} {rm : Room} {D : va_G} {cl : List vw_C} {tys : List (ClassId × FieldType)} {rest st0 : List Value} {wc : va_W} {r0 : Int64} (As : List Value) (S : CallFix p m c cc nL s args lw_all own) (hK : va_K D cl tys s) (hP : va_P D cl wc H) (hM : Met l y (Cond.code y bytes maxL ret :: lw_all) rm (prR D cl tys wc As) (vp_Sl (fun r => r = r0)) 0 0 (fun _ => False)) (hg : GoodIn lw_all (va_wsS own idx y (Cond.code y bytes maxL ret :: lw_all))) (hd : y.cls ≠ "java/lang/invoke/MethodHandle" ∧ y.cls ≠ "java/lang/invoke/VarHandle" ∧ (parseMethodDescriptor y.desc).map (fun d => d.parameters.length) = some n) (hrm : rm.cells = 0 ∧ rm.slots = 0) (hR : rm.frames + 1 ≤ R.frames ∧ 8 + (maxL + 11) + rm.locals ≤ R.locals) (hf : cells ≤ R.cells ∧ slots ≤ R.slots) (hn : As.length = n) (hsz : ls.size = nL) (hw : (rest.map fun v => v.category).sum ≤ 8) (hst : st0 = As.reverse ++ rest) (hdg : decode cc pc = .ok (.invokestatic idx, 3)) (kk : W p l e R s m args below meth c H locs cells slots Q (F0 m (pc + 3) ls (.long r0 :: rest))) : W p l e R s m args below meth c H locs cells slots Q (F0 m pc ls st0) := by
  subst hst
  refine vp_callSl (va_Run.run (va_runS (As := As) (rest := rest) S hM (va_cwS n S.2.2.2.2 hg rfl hrm.1 hrm.2 hd hR) ⟨prR_fb, prR_of hP hK⟩ rfl hn hsz rfl (lv_room hw) hdg hf)) (fun r hr => by rw [hr]; exact kk)
theorem cRVd {p : Program} {l : Launch} {e : Env} {R : Room} {s : State} {m : MethodId} {args : Array Value} {below : List Frame} {meth : Method} {c : Code} {H : Heap} {locs : List Loc} {cells slots : Nat} {Q : State → Prop} {cc bytes : ByteArray} {nL pc idx maxL n q0 ci N : Nat} {ls : Array Slot} {own C : String} {y : MethodName} {ret : Option FieldType} {rm : Room} {D : va_G} {cl : List vw_C} {tys : List (ClassId × FieldType)} {b : Addr} {rest st0 : List Value} {fs : List Value} {T : u_T} {wc : va_W} {r0 : UInt64} (As : List Value) (S : CallFix p m c cc nL s args lw_all own) (hK : va_K D cl tys s) (hP : va_P D cl wc H) (hM : Met l y (Cond.code y bytes maxL ret :: lw_all) rm (prR D cl tys wc (.ref b :: As)) (vp_Sd (fun r => r = r0)) 0 0 (fun _ => False)) (hg : GoodIn lw_all (wsV own idx C y (Cond.code y bytes maxL ret :: lw_all))) (hd : y.cls = C ∧ y.cls ≠ "java/lang/invoke/MethodHandle" ∧ y.cls ≠ "java/lang/invoke/VarHandle" ∧ (parseMethodDescriptor y.desc).map (fun d => d.parameters.length) = some n) (hrm : rm.cells = 0 ∧ rm.slots = 0) (hR : rm.frames + 1 ≤ R.frames ∧ 8 + (maxL + 11) + rm.locals ≤ R.locals) (hf : cells ≤ R.cells ∧ slots ≤ R.slots) (hcl : cl[ci]? = some (C, T, N)) (he : wc[q0]? = some (b, .inr (ci, fs))) (hn : As.length = n) (hsz : ls.size = nL) (hw : (rest.map fun v => v.category).sum ≤ 8) (hst : st0 = As.reverse ++ .ref b :: rest) (hdg : decode cc pc = .ok (.invokevirtual idx, 3)) (kk : W p l e R s m args below meth c H locs cells slots Q (F0 m (pc + 3) ls (.double r0 :: rest))) : W p l e R s m args below meth c H locs cells slots Q (F0 m pc ls st0) := by
  subst hst
  refine vp_callSd (va_Run.run (va_runV (As := As) (rest := rest) S hM (cwV n S.2.2.2.2 hg rfl hrm.1 hrm.2 hd hR) ⟨prR_fb, va_recv hK hP hcl he, prR_of hP hK⟩ rfl hn hsz rfl (lv_room hw) hdg hf)) (fun r hr => by rw [hr]; exact kk)
theorem cRSd {p : Program} {l : Launch} {e : Env} {R : Room} {s : State} {m : MethodId} {args : Array Value} {below : List Frame} {meth : Method} {c : Code} {H : Heap} {locs : List Loc} {cells slots : Nat} {Q : State → Prop} {cc bytes : ByteArray} {nL pc idx maxL n : Nat} {ls : Array Slot} {own : String} {y : MethodName} {ret : Option FieldType} {rm : Room} {D : va_G} {cl : List vw_C} {tys : List (ClassId × FieldType)} {rest st0 : List Value} {wc : va_W} {r0 : UInt64} (As : List Value) (S : CallFix p m c cc nL s args lw_all own) (hK : va_K D cl tys s) (hP : va_P D cl wc H) (hM : Met l y (Cond.code y bytes maxL ret :: lw_all) rm (prR D cl tys wc As) (vp_Sd (fun r => r = r0)) 0 0 (fun _ => False)) (hg : GoodIn lw_all (va_wsS own idx y (Cond.code y bytes maxL ret :: lw_all))) (hd : y.cls ≠ "java/lang/invoke/MethodHandle" ∧ y.cls ≠ "java/lang/invoke/VarHandle" ∧ (parseMethodDescriptor y.desc).map (fun d => d.parameters.length) = some n) (hrm : rm.cells = 0 ∧ rm.slots = 0) (hR : rm.frames + 1 ≤ R.frames ∧ 8 + (maxL + 11) + rm.locals ≤ R.locals) (hf : cells ≤ R.cells ∧ slots ≤ R.slots) (hn : As.length = n) (hsz : ls.size = nL) (hw : (rest.map fun v => v.category).sum ≤ 8) (hst : st0 = As.reverse ++ rest) (hdg : decode cc pc = .ok (.invokestatic idx, 3)) (kk : W p l e R s m args below meth c H locs cells slots Q (F0 m (pc + 3) ls (.double r0 :: rest))) : W p l e R s m args below meth c H locs cells slots Q (F0 m pc ls st0) := by
  subst hst
  refine vp_callSd (va_Run.run (va_runS (As := As) (rest := rest) S hM (va_cwS n S.2.2.2.2 hg rfl hrm.1 hrm.2 hd hR) ⟨prR_fb, prR_of hP hK⟩ rfl hn hsz rfl (lv_room hw) hdg hf)) (fun r hr => by rw [hr]; exact kk)
theorem cWVi {p : Program} {l : Launch} {e : Env} {R : Room} {s : State} {m : MethodId} {args : Array Value} {below : List Frame} {meth : Method} {c : Code} {H : Heap} {locs : List Loc} {cells slots : Nat} {Q : State → Prop} {cc bytes : ByteArray} {nL pc idx maxL n q0 ci N : Nat} {ls : Array Slot} {own C : String} {y : MethodName} {ret : Option FieldType} {rm : Room} {D : va_G} {cl : List vw_C} {tys : List (ClassId × FieldType)} {b : Addr} {rest st0 : List Value} {fs : List Value} {T : u_T} {ws ws' : va_W} {A : Nat → Prop} {H0 : Heap} {mc ms : Nat} {r0 : Int32} (As : List Value) (S : CallFix p m c cc nL s args lw_all own) (hK : va_K D cl tys s) (hP : va_P D cl ws H) (hD : va_D A ws) (hS : va_S A H0 H locs) (hA : ∀ q, H0.size ≤ q → A q) (hM : Met l y (Cond.code y bytes maxL ret :: lw_all) rm (prW D cl tys ws H.size (.ref b :: As)) (va_Qi (fun (r : Int32) (_ : Unit) => r = r0) (fun _ t => va_P D cl ws' t.heap) (va_A ws H.size)) mc ms (va_A ws H.size)) (hg : GoodIn lw_all (wsV own idx C y (Cond.code y bytes maxL ret :: lw_all))) (hd : y.cls = C ∧ y.cls ≠ "java/lang/invoke/MethodHandle" ∧ y.cls ≠ "java/lang/invoke/VarHandle" ∧ (parseMethodDescriptor y.desc).map (fun d => d.parameters.length) = some n) (hrm : rm.cells = mc ∧ rm.slots = ms) (hR : rm.frames + 1 ≤ R.frames ∧ 8 + (maxL + 11) + rm.locals ≤ R.locals) (hf : cells + mc ≤ R.cells ∧ slots + ms ≤ R.slots) (hcl : cl[ci]? = some (C, T, N)) (he : ws[q0]? = some (b, .inr (ci, fs))) (hn : As.length = n) (hsz : ls.size = nL) (hw : (rest.map fun v => v.category).sum ≤ 8) (hst : st0 = As.reverse ++ .ref b :: rest) (hdg : decode cc pc = .ok (.invokevirtual idx, 3)) (ha : ws'.map (fun q => q.1) = ws.map (fun q => q.1)) (kk : ∀ (H1 : Heap) (locs1 : List Loc), va_P D cl ws' H1 → va_D A ws' → va_S A H0 H1 locs1 → W p l e R s m args below meth c H1 locs1 (cells + mc) (slots + ms) Q (F0 m (pc + 3) ls (.int r0 :: rest))) : W p l e R s m args below meth c H locs cells slots Q (F0 m pc ls st0) := by
  subst hst
  refine va_calli (va_runV (As := As) (rest := rest) S hM (cwV n S.2.2.2.2 hg rfl hrm.1 hrm.2 hd hR) ⟨prW_fb, va_recv hK hP hcl he, prW_of hP hK hD⟩ rfl hn hsz rfl (lv_room hw) hdg hf) hS (fun q _ h => va_Aof hD hS hA q h) (va_Aof hD hS hA) (fun r u t H1 locs1 ht hvm hw2 hB hz1 hk1 hS1 => ?_)
  rw [hw2]; exact kk H1 locs1 (by rw [← ht]; exact hB) (va_Dsame ha hD) hS1
theorem cUVi {p : Program} {l : Launch} {e : Env} {R : Room} {s : State} {m : MethodId} {args : Array Value} {below : List Frame} {meth : Method} {c : Code} {H : Heap} {locs : List Loc} {cells slots : Nat} {Q : State → Prop} {cc bytes : ByteArray} {nL pc idx maxL n q0 ci N : Nat} {ls : Array Slot} {own C : String} {y : MethodName} {ret : Option FieldType} {rm : Room} {D : va_G} {cl : List vw_C} {tys : List (ClassId × FieldType)} {b : Addr} {rest st0 : List Value} {fs : List Value} {T : u_T} {ws ws' wc wc' : va_W} {A : Nat → Prop} {H0 : Heap} {mc ms : Nat} {r0 : Int32} (As : List Value) (isC : List Nat) (S : CallFix p m c cc nL s args lw_all own) (hK : va_K D cl tys s) (hP : va_P D cl ws H) (hD : va_D A ws) (hS : va_S A H0 H locs) (hA : ∀ q, H0.size ≤ q → A q) (hM : Met l y (Cond.code y bytes maxL ret :: lw_all) rm (prW D cl tys wc H.size (.ref b :: As)) (va_Qi (fun (r : Int32) (_ : Unit) => r = r0) (fun _ t => va_P D cl wc' t.heap) (va_A wc H.size)) mc ms (va_A wc H.size)) (hg : GoodIn lw_all (wsV own idx C y (Cond.code y bytes maxL ret :: lw_all))) (hd : y.cls = C ∧ y.cls ≠ "java/lang/invoke/MethodHandle" ∧ y.cls ≠ "java/lang/invoke/VarHandle" ∧ (parseMethodDescriptor y.desc).map (fun d => d.parameters.length) = some n) (hrm : rm.cells = mc ∧ rm.slots = ms) (hR : rm.frames + 1 ≤ R.frames ∧ 8 + (maxL + 11) + rm.locals ≤ R.locals) (hf : cells + mc ≤ R.cells ∧ slots + ms ≤ R.slots) (hcl : cl[ci]? = some (C, T, N)) (he : wc[q0]? = some (b, .inr (ci, fs))) (hn : As.length = n) (hsz : ls.size = nL) (hw : (rest.map fun v => v.category).sum ≤ 8) (hst : st0 = As.reverse ++ .ref b :: rest) (hdg : decode cc pc = .ok (.invokevirtual idx, 3)) (hnd : va_nd isC = true) (hC : isC.map (fun i => ws[i]?) = wc.map some) (hwc : wc'.map (fun q => q.1) = wc.map (fun q => q.1)) (hws : va_ups ws isC wc' = ws') (ha : ws'.map (fun q => q.1) = ws.map (fun q => q.1)) (kk : ∀ (H1 : Heap) (locs1 : List Loc), va_P D cl ws' H1 → va_D A ws' → va_S A H0 H1 locs1 → W p l e R s m args below meth c H1 locs1 (cells + mc) (slots + ms) Q (F0 m (pc + 3) ls (.int r0 :: rest))) : W p l e R s m args below meth c H locs cells slots Q (F0 m pc ls st0) := by
  subst hst
  have hPc := va_Pcut hP hC
  have hDc := hD.sub isC hnd hC
  refine va_calli (va_runV (As := As) (rest := rest) S hM (cwV n S.2.2.2.2 hg rfl hrm.1 hrm.2 hd hR) ⟨prW_fb, va_recv hK hPc hcl he, prW_of hPc hK hDc⟩ rfl hn hsz rfl (lv_room hw) hdg hf) hS (fun q _ h => va_Aof hDc hS hA q h) (va_Aof hDc hS hA) (fun r u t H1 locs1 ht hvm hw2 hB hz1 hk1 hS1 => ?_)
  rw [hw2]; exact kk H1 locs1 (fr_join hP hD isC hC hwc hws hk1 (by rw [← ht]; exact hB)) (va_Dsame ha hD) hS1
theorem cWVl {p : Program} {l : Launch} {e : Env} {R : Room} {s : State} {m : MethodId} {args : Array Value} {below : List Frame} {meth : Method} {c : Code} {H : Heap} {locs : List Loc} {cells slots : Nat} {Q : State → Prop} {cc bytes : ByteArray} {nL pc idx maxL n q0 ci N : Nat} {ls : Array Slot} {own C : String} {y : MethodName} {ret : Option FieldType} {rm : Room} {D : va_G} {cl : List vw_C} {tys : List (ClassId × FieldType)} {b : Addr} {rest st0 : List Value} {fs : List Value} {T : u_T} {ws ws' : va_W} {A : Nat → Prop} {H0 : Heap} {mc ms : Nat} {r0 : Int64} (As : List Value) (S : CallFix p m c cc nL s args lw_all own) (hK : va_K D cl tys s) (hP : va_P D cl ws H) (hD : va_D A ws) (hS : va_S A H0 H locs) (hA : ∀ q, H0.size ≤ q → A q) (hM : Met l y (Cond.code y bytes maxL ret :: lw_all) rm (prW D cl tys ws H.size (.ref b :: As)) (va_Ql (fun (r : Int64) (_ : Unit) => r = r0) (fun _ t => va_P D cl ws' t.heap) (va_A ws H.size)) mc ms (va_A ws H.size)) (hg : GoodIn lw_all (wsV own idx C y (Cond.code y bytes maxL ret :: lw_all))) (hd : y.cls = C ∧ y.cls ≠ "java/lang/invoke/MethodHandle" ∧ y.cls ≠ "java/lang/invoke/VarHandle" ∧ (parseMethodDescriptor y.desc).map (fun d => d.parameters.length) = some n) (hrm : rm.cells = mc ∧ rm.slots = ms) (hR : rm.frames + 1 ≤ R.frames ∧ 8 + (maxL + 11) + rm.locals ≤ R.locals) (hf : cells + mc ≤ R.cells ∧ slots + ms ≤ R.slots) (hcl : cl[ci]? = some (C, T, N)) (he : ws[q0]? = some (b, .inr (ci, fs))) (hn : As.length = n) (hsz : ls.size = nL) (hw : (rest.map fun v => v.category).sum ≤ 8) (hst : st0 = As.reverse ++ .ref b :: rest) (hdg : decode cc pc = .ok (.invokevirtual idx, 3)) (ha : ws'.map (fun q => q.1) = ws.map (fun q => q.1)) (kk : ∀ (H1 : Heap) (locs1 : List Loc), va_P D cl ws' H1 → va_D A ws' → va_S A H0 H1 locs1 → W p l e R s m args below meth c H1 locs1 (cells + mc) (slots + ms) Q (F0 m (pc + 3) ls (.long r0 :: rest))) : W p l e R s m args below meth c H locs cells slots Q (F0 m pc ls st0) := by
  subst hst
  refine va_calll (va_runV (As := As) (rest := rest) S hM (cwV n S.2.2.2.2 hg rfl hrm.1 hrm.2 hd hR) ⟨prW_fb, va_recv hK hP hcl he, prW_of hP hK hD⟩ rfl hn hsz rfl (lv_room hw) hdg hf) hS (fun q _ h => va_Aof hD hS hA q h) (va_Aof hD hS hA) (fun r u t H1 locs1 ht hvm hw2 hB hz1 hk1 hS1 => ?_)
  rw [hw2]; exact kk H1 locs1 (by rw [← ht]; exact hB) (va_Dsame ha hD) hS1
theorem cUVl {p : Program} {l : Launch} {e : Env} {R : Room} {s : State} {m : MethodId} {args : Array Value} {below : List Frame} {meth : Method} {c : Code} {H : Heap} {locs : List Loc} {cells slots : Nat} {Q : State → Prop} {cc bytes : ByteArray} {nL pc idx maxL n q0 ci N : Nat} {ls : Array Slot} {own C : String} {y : MethodName} {ret : Option FieldType} {rm : Room} {D : va_G} {cl : List vw_C} {tys : List (ClassId × FieldType)} {b : Addr} {rest st0 : List Value} {fs : List Value} {T : u_T} {ws ws' wc wc' : va_W} {A : Nat → Prop} {H0 : Heap} {mc ms : Nat} {r0 : Int64} (As : List Value) (isC : List Nat) (S : CallFix p m c cc nL s args lw_all own) (hK : va_K D cl tys s) (hP : va_P D cl ws H) (hD : va_D A ws) (hS : va_S A H0 H locs) (hA : ∀ q, H0.size ≤ q → A q) (hM : Met l y (Cond.code y bytes maxL ret :: lw_all) rm (prW D cl tys wc H.size (.ref b :: As)) (va_Ql (fun (r : Int64) (_ : Unit) => r = r0) (fun _ t => va_P D cl wc' t.heap) (va_A wc H.size)) mc ms (va_A wc H.size)) (hg : GoodIn lw_all (wsV own idx C y (Cond.code y bytes maxL ret :: lw_all))) (hd : y.cls = C ∧ y.cls ≠ "java/lang/invoke/MethodHandle" ∧ y.cls ≠ "java/lang/invoke/VarHandle" ∧ (parseMethodDescriptor y.desc).map (fun d => d.parameters.length) = some n) (hrm : rm.cells = mc ∧ rm.slots = ms) (hR : rm.frames + 1 ≤ R.frames ∧ 8 + (maxL + 11) + rm.locals ≤ R.locals) (hf : cells + mc ≤ R.cells ∧ slots + ms ≤ R.slots) (hcl : cl[ci]? = some (C, T, N)) (he : wc[q0]? = some (b, .inr (ci, fs))) (hn : As.length = n) (hsz : ls.size = nL) (hw : (rest.map fun v => v.category).sum ≤ 8) (hst : st0 = As.reverse ++ .ref b :: rest) (hdg : decode cc pc = .ok (.invokevirtual idx, 3)) (hnd : va_nd isC = true) (hC : isC.map (fun i => ws[i]?) = wc.map some) (hwc : wc'.map (fun q => q.1) = wc.map (fun q => q.1)) (hws : va_ups ws isC wc' = ws') (ha : ws'.map (fun q => q.1) = ws.map (fun q => q.1)) (kk : ∀ (H1 : Heap) (locs1 : List Loc), va_P D cl ws' H1 → va_D A ws' → va_S A H0 H1 locs1 → W p l e R s m args below meth c H1 locs1 (cells + mc) (slots + ms) Q (F0 m (pc + 3) ls (.long r0 :: rest))) : W p l e R s m args below meth c H locs cells slots Q (F0 m pc ls st0) := by
  subst hst
  have hPc := va_Pcut hP hC
  have hDc := hD.sub isC hnd hC
  refine va_calll (va_runV (As := As) (rest := rest) S hM (cwV n S.2.2.2.2 hg rfl hrm.1 hrm.2 hd hR) ⟨prW_fb, va_recv hK hPc hcl he, prW_of hPc hK hDc⟩ rfl hn hsz rfl (lv_room hw) hdg hf) hS (fun q _ h => va_Aof hDc hS hA q h) (va_Aof hDc hS hA) (fun r u t H1 locs1 ht hvm hw2 hB hz1 hk1 hS1 => ?_)
  rw [hw2]; exact kk H1 locs1 (fr_join hP hD isC hC hwc hws hk1 (by rw [← ht]; exact hB)) (va_Dsame ha hD) hS1
theorem cWVv {p : Program} {l : Launch} {e : Env} {R : Room} {s : State} {m : MethodId} {args : Array Value} {below : List Frame} {meth : Method} {c : Code} {H : Heap} {locs : List Loc} {cells slots : Nat} {Q : State → Prop} {cc bytes : ByteArray} {nL pc idx maxL n q0 ci N : Nat} {ls : Array Slot} {own C : String} {y : MethodName} {ret : Option FieldType} {rm : Room} {D : va_G} {cl : List vw_C} {tys : List (ClassId × FieldType)} {b : Addr} {rest st0 : List Value} {fs : List Value} {T : u_T} {ws ws' : va_W} {A : Nat → Prop} {H0 : Heap} {mc ms : Nat} (As : List Value) (S : CallFix p m c cc nL s args lw_all own) (hK : va_K D cl tys s) (hP : va_P D cl ws H) (hD : va_D A ws) (hS : va_S A H0 H locs) (hA : ∀ q, H0.size ≤ q → A q) (hM : Met l y (Cond.code y bytes maxL ret :: lw_all) rm (prW D cl tys ws H.size (.ref b :: As)) (va_Qv (fun _ : Unit => True) (fun _ t => va_P D cl ws' t.heap) (va_A ws H.size)) mc ms (va_A ws H.size)) (hg : GoodIn lw_all (wsV own idx C y (Cond.code y bytes maxL ret :: lw_all))) (hd : y.cls = C ∧ y.cls ≠ "java/lang/invoke/MethodHandle" ∧ y.cls ≠ "java/lang/invoke/VarHandle" ∧ (parseMethodDescriptor y.desc).map (fun d => d.parameters.length) = some n) (hrm : rm.cells = mc ∧ rm.slots = ms) (hR : rm.frames + 1 ≤ R.frames ∧ 8 + (maxL + 11) + rm.locals ≤ R.locals) (hf : cells + mc ≤ R.cells ∧ slots + ms ≤ R.slots) (hcl : cl[ci]? = some (C, T, N)) (he : ws[q0]? = some (b, .inr (ci, fs))) (hn : As.length = n) (hsz : ls.size = nL) (hw : (rest.map fun v => v.category).sum ≤ 8) (hst : st0 = As.reverse ++ .ref b :: rest) (hdg : decode cc pc = .ok (.invokevirtual idx, 3)) (ha : ws'.map (fun q => q.1) = ws.map (fun q => q.1)) (kk : ∀ (H1 : Heap) (locs1 : List Loc), va_P D cl ws' H1 → va_D A ws' → va_S A H0 H1 locs1 → W p l e R s m args below meth c H1 locs1 (cells + mc) (slots + ms) Q (F0 m (pc + 3) ls rest)) : W p l e R s m args below meth c H locs cells slots Q (F0 m pc ls st0) := by
  subst hst
  refine va_callv (va_runV (As := As) (rest := rest) S hM (cwV n S.2.2.2.2 hg rfl hrm.1 hrm.2 hd hR) ⟨prW_fb, va_recv hK hP hcl he, prW_of hP hK hD⟩ rfl hn hsz rfl (lv_room hw) hdg hf) hS (fun q _ h => va_Aof hD hS hA q h) (va_Aof hD hS hA) (fun u t H1 locs1 ht hvm hw2 hB hz1 hk1 hS1 => ?_)
  exact kk H1 locs1 (by rw [← ht]; exact hB) (va_Dsame ha hD) hS1
theorem cUVv {p : Program} {l : Launch} {e : Env} {R : Room} {s : State} {m : MethodId} {args : Array Value} {below : List Frame} {meth : Method} {c : Code} {H : Heap} {locs : List Loc} {cells slots : Nat} {Q : State → Prop} {cc bytes : ByteArray} {nL pc idx maxL n q0 ci N : Nat} {ls : Array Slot} {own C : String} {y : MethodName} {ret : Option FieldType} {rm : Room} {D : va_G} {cl : List vw_C} {tys : List (ClassId × FieldType)} {b : Addr} {rest st0 : List Value} {fs : List Value} {T : u_T} {ws ws' wc wc' : va_W} {A : Nat → Prop} {H0 : Heap} {mc ms : Nat} (As : List Value) (isC : List Nat) (S : CallFix p m c cc nL s args lw_all own) (hK : va_K D cl tys s) (hP : va_P D cl ws H) (hD : va_D A ws) (hS : va_S A H0 H locs) (hA : ∀ q, H0.size ≤ q → A q) (hM : Met l y (Cond.code y bytes maxL ret :: lw_all) rm (prW D cl tys wc H.size (.ref b :: As)) (va_Qv (fun _ : Unit => True) (fun _ t => va_P D cl wc' t.heap) (va_A wc H.size)) mc ms (va_A wc H.size)) (hg : GoodIn lw_all (wsV own idx C y (Cond.code y bytes maxL ret :: lw_all))) (hd : y.cls = C ∧ y.cls ≠ "java/lang/invoke/MethodHandle" ∧ y.cls ≠ "java/lang/invoke/VarHandle" ∧ (parseMethodDescriptor y.desc).map (fun d => d.parameters.length) = some n) (hrm : rm.cells = mc ∧ rm.slots = ms) (hR : rm.frames + 1 ≤ R.frames ∧ 8 + (maxL + 11) + rm.locals ≤ R.locals) (hf : cells + mc ≤ R.cells ∧ slots + ms ≤ R.slots) (hcl : cl[ci]? = some (C, T, N)) (he : wc[q0]? = some (b, .inr (ci, fs))) (hn : As.length = n) (hsz : ls.size = nL) (hw : (rest.map fun v => v.category).sum ≤ 8) (hst : st0 = As.reverse ++ .ref b :: rest) (hdg : decode cc pc = .ok (.invokevirtual idx, 3)) (hnd : va_nd isC = true) (hC : isC.map (fun i => ws[i]?) = wc.map some) (hwc : wc'.map (fun q => q.1) = wc.map (fun q => q.1)) (hws : va_ups ws isC wc' = ws') (ha : ws'.map (fun q => q.1) = ws.map (fun q => q.1)) (kk : ∀ (H1 : Heap) (locs1 : List Loc), va_P D cl ws' H1 → va_D A ws' → va_S A H0 H1 locs1 → W p l e R s m args below meth c H1 locs1 (cells + mc) (slots + ms) Q (F0 m (pc + 3) ls rest)) : W p l e R s m args below meth c H locs cells slots Q (F0 m pc ls st0) := by
  subst hst
  have hPc := va_Pcut hP hC
  have hDc := hD.sub isC hnd hC
  refine va_callv (va_runV (As := As) (rest := rest) S hM (cwV n S.2.2.2.2 hg rfl hrm.1 hrm.2 hd hR) ⟨prW_fb, va_recv hK hPc hcl he, prW_of hPc hK hDc⟩ rfl hn hsz rfl (lv_room hw) hdg hf) hS (fun q _ h => va_Aof hDc hS hA q h) (va_Aof hDc hS hA) (fun u t H1 locs1 ht hvm hw2 hB hz1 hk1 hS1 => ?_)
  exact kk H1 locs1 (fr_join hP hD isC hC hwc hws hk1 (by rw [← ht]; exact hB)) (va_Dsame ha hD) hS1
theorem cXVi {p : Program} {l : Launch} {e : Env} {R : Room} {s : State} {m : MethodId} {args : Array Value} {below : List Frame} {meth : Method} {c : Code} {H : Heap} {locs : List Loc} {cells slots : Nat} {Q : State → Prop} {cc bytes : ByteArray} {nL pc idx maxL n q0 ci N : Nat} {ls : Array Slot} {own C : String} {y : MethodName} {ret : Option FieldType} {rm : Room} {D : va_G} {cl : List vw_C} {tys : List (ClassId × FieldType)} {b : Addr} {rest st0 : List Value} {fs : List Value} {T : u_T} {ws : va_W} {A : Nat → Prop} {mc ms : Nat} {sa : Nat → Nat} {Z : Type} {z : String ⊕ Z} {rf : Z → Int32} {wsf : Z → va_W} (As : List Value) (S : CallFix p m c cc nL s args lw_all own) (hK : va_K D cl tys s) (hP : va_P D cl ws H) (hD : va_D A ws) (hS : va_S A s.heap H locs) (hA : ∀ q, s.heap.size ≤ q → A q) (hX : xb A sa s) (hM : vx_Met l y (Cond.code y bytes maxL ret :: lw_all) rm (prX D cl tys ws H.size sa (.ref b :: As)) (va_Qi (fun (r : Int32) (a : Z) => z = .inr a ∧ r = rf a) (fun a t => va_P D cl (wsf a) t.heap) (va_A ws H.size)) (vx_X (fun _ : Unit => True) (fun E _ _ => z = .inl E) (fun _ => False)) mc ms (va_A ws H.size)) (hg : GoodIn lw_all (wsV own idx C y (Cond.code y bytes maxL ret :: lw_all))) (hd : y.cls = C ∧ y.cls ≠ "java/lang/invoke/MethodHandle" ∧ y.cls ≠ "java/lang/invoke/VarHandle" ∧ (parseMethodDescriptor y.desc).map (fun d => d.parameters.length) = some n) (hrm : rm.cells = mc ∧ rm.slots = ms) (hR : rm.frames + 1 ≤ R.frames ∧ 8 + (maxL + 11) + rm.locals ≤ R.locals) (hf : cells + mc ≤ R.cells ∧ slots + ms ≤ R.slots) (hcl : cl[ci]? = some (C, T, N)) (he : ws[q0]? = some (b, .inr (ci, fs))) (hn : As.length = n) (hsz : ls.size = nL) (hw : (rest.map fun v => v.category).sum ≤ 8) (hst : st0 = As.reverse ++ .ref b :: rest) (hdg : decode cc pc = .ok (.invokevirtual idx, 3)) (ha : ∀ a, (wsf a).map (fun q => q.1) = ws.map (fun q => q.1)) (kx : ∀ (E : String) (ce : Cell) (q9 : Addr) (H1 : Heap) (locs1 : List Loc), z = .inl E → H.size ≤ H1.size → (∀ q : Nat, q < H.size → H1[q]? = H[q]?) → va_S A s.heap H1 locs1 → H1[q9]? = some ce → ce.vm = .none → s.vm.findClass E = some ce.cls → vx_W p l e R s m args below meth c H1 locs1 (cells + mc) (slots + ms) Q (F0 m pc ls rest) q9) (kk : ∀ (a : Z) (H1 : Heap) (locs1 : List Loc), z = .inr a → va_P D cl (wsf a) H1 → va_D A (wsf a) → va_S A s.heap H1 locs1 → W p l e R s m args below meth c H1 locs1 (cells + mc) (slots + ms) Q (F0 m (pc + 3) ls (.int (rf a) :: rest))) : W p l e R s m args below meth c H locs cells slots Q (F0 m pc ls st0) := by
  subst hst
  refine vx_calli (vx_runV (As := As) (rest := rest) S hM (cwV n S.2.2.2.2 hg rfl hrm.1 hrm.2 hd hR) ⟨prX_fb, va_recv hK hP hcl he, prX_of hP hK hD hX hS (va_Aof hD hS hA)⟩ rfl hn hsz rfl (lv_room hw) hdg hf) hS (fun q _ h => va_Aof hD hS hA q h) (va_Aof hD hS hA) (fun q _ h => h.elim) (fun E ce q9 u t H1 locs1 ht hvm hw2 hB hz1 hk1 hS1 hce hcv hcl9 => kx E ce q9 H1 locs1 hB hz1 (fun q hq => hk1 q hq (fun h => h)) hS1 hce hcv hcl9) (fun r a t H1 locs1 ht hvm hw2 hB hz1 hk1 hS1 => ?_)
  rw [hw2.2]; exact kk a H1 locs1 hw2.1 (by rw [← ht]; exact hB) (va_Dsame (ha a) hD) hS1
theorem cXUi {p : Program} {l : Launch} {e : Env} {R : Room} {s : State} {m : MethodId} {args : Array Value} {below : List Frame} {meth : Method} {c : Code} {H : Heap} {locs : List Loc} {cells slots : Nat} {Q : State → Prop} {cc bytes : ByteArray} {nL pc idx maxL n q0 ci N : Nat} {ls : Array Slot} {own C : String} {y : MethodName} {ret : Option FieldType} {rm : Room} {D : va_G} {cl : List vw_C} {tys : List (ClassId × FieldType)} {b : Addr} {rest st0 : List Value} {fs : List Value} {T : u_T} {ws wc : va_W} {A : Nat → Prop} {mc ms : Nat} {sa : Nat → Nat} {Z : Type} {z : String ⊕ Z} {rf : Z → Int32} {wsf wsf' : Z → va_W} (As : List Value) (isC : List Nat) (S : CallFix p m c cc nL s args lw_all own) (hK : va_K D cl tys s) (hP : va_P D cl ws H) (hD : va_D A ws) (hS : va_S A s.heap H locs) (hA : ∀ q, s.heap.size ≤ q → A q) (hX : xb A sa s) (hM : vx_Met l y (Cond.code y bytes maxL ret :: lw_all) rm (prX D cl tys wc H.size sa (.ref b :: As)) (va_Qi (fun (r : Int32) (a : Z) => z = .inr a ∧ r = rf a) (fun a t => va_P D cl (wsf a) t.heap) (va_A wc H.size)) (vx_X (fun _ : Unit => True) (fun E _ _ => z = .inl E) (fun _ => False)) mc ms (va_A wc H.size)) (hg : GoodIn lw_all (wsV own idx C y (Cond.code y bytes maxL ret :: lw_all))) (hd : y.cls = C ∧ y.cls ≠ "java/lang/invoke/MethodHandle" ∧ y.cls ≠ "java/lang/invoke/VarHandle" ∧ (parseMethodDescriptor y.desc).map (fun d => d.parameters.length) = some n) (hrm : rm.cells = mc ∧ rm.slots = ms) (hR : rm.frames + 1 ≤ R.frames ∧ 8 + (maxL + 11) + rm.locals ≤ R.locals) (hf : cells + mc ≤ R.cells ∧ slots + ms ≤ R.slots) (hcl : cl[ci]? = some (C, T, N)) (he : wc[q0]? = some (b, .inr (ci, fs))) (hn : As.length = n) (hsz : ls.size = nL) (hw : (rest.map fun v => v.category).sum ≤ 8) (hst : st0 = As.reverse ++ .ref b :: rest) (hdg : decode cc pc = .ok (.invokevirtual idx, 3)) (hnd : va_nd isC = true) (hC : isC.map (fun i => ws[i]?) = wc.map some) (hwc : ∀ a, (wsf a).map (fun q => q.1) = wc.map (fun q => q.1)) (hws : ∀ a, va_ups ws isC (wsf a) = wsf' a) (ha : ∀ a, (wsf' a).map (fun q => q.1) = ws.map (fun q => q.1)) (kx : ∀ (E : String) (ce : Cell) (q9 : Addr) (H1 : Heap) (locs1 : List Loc), z = .inl E → H.size ≤ H1.size → (∀ q : Nat, q < H.size → H1[q]? = H[q]?) → va_S A s.heap H1 locs1 → H1[q9]? = some ce → ce.vm = .none → s.vm.findClass E = some ce.cls → vx_W p l e R s m args below meth c H1 locs1 (cells + mc) (slots + ms) Q (F0 m pc ls rest) q9) (kk : ∀ (a : Z) (H1 : Heap) (locs1 : List Loc), z = .inr a → va_P D cl (wsf' a) H1 → va_D A (wsf' a) → va_S A s.heap H1 locs1 → W p l e R s m args below meth c H1 locs1 (cells + mc) (slots + ms) Q (F0 m (pc + 3) ls (.int (rf a) :: rest))) : W p l e R s m args below meth c H locs cells slots Q (F0 m pc ls st0) := by
  subst hst
  have hPc := va_Pcut hP hC
  have hDc := hD.sub isC hnd hC
  refine vx_calli (vx_runV (As := As) (rest := rest) S hM (cwV n S.2.2.2.2 hg rfl hrm.1 hrm.2 hd hR) ⟨prX_fb, va_recv hK hPc hcl he, prX_of hPc hK hDc hX hS (va_Aof hDc hS hA)⟩ rfl hn hsz rfl (lv_room hw) hdg hf) hS (fun q _ h => va_Aof hDc hS hA q h) (va_Aof hDc hS hA) (fun q _ h => h.elim) (fun E ce q9 u t H1 locs1 ht hvm hw2 hB hz1 hk1 hS1 hce hcv hcl9 => kx E ce q9 H1 locs1 hB hz1 (fun q hq => hk1 q hq (fun h => h)) hS1 hce hcv hcl9) (fun r a t H1 locs1 ht hvm hw2 hB hz1 hk1 hS1 => ?_)
  rw [hw2.2]; exact kk a H1 locs1 hw2.1 (fr_join hP hD isC hC (hwc a) (hws a) hk1 (by rw [← ht]; exact hB)) (va_Dsame (ha a) hD) hS1
theorem cXVv {p : Program} {l : Launch} {e : Env} {R : Room} {s : State} {m : MethodId} {args : Array Value} {below : List Frame} {meth : Method} {c : Code} {H : Heap} {locs : List Loc} {cells slots : Nat} {Q : State → Prop} {cc bytes : ByteArray} {nL pc idx maxL n q0 ci N : Nat} {ls : Array Slot} {own C : String} {y : MethodName} {ret : Option FieldType} {rm : Room} {D : va_G} {cl : List vw_C} {tys : List (ClassId × FieldType)} {b : Addr} {rest st0 : List Value} {fs : List Value} {T : u_T} {ws : va_W} {A : Nat → Prop} {mc ms : Nat} {sa : Nat → Nat} {Z : Type} {z : String ⊕ Z} {wsf : Z → va_W} (As : List Value) (S : CallFix p m c cc nL s args lw_all own) (hK : va_K D cl tys s) (hP : va_P D cl ws H) (hD : va_D A ws) (hS : va_S A s.heap H locs) (hA : ∀ q, s.heap.size ≤ q → A q) (hX : xb A sa s) (hM : vx_Met l y (Cond.code y bytes maxL ret :: lw_all) rm (prX D cl tys ws H.size sa (.ref b :: As)) (va_Qv (fun a : Z => z = .inr a) (fun a t => va_P D cl (wsf a) t.heap) (va_A ws H.size)) (vx_X (fun _ : Unit => True) (fun E _ _ => z = .inl E) (fun _ => False)) mc ms (va_A ws H.size)) (hg : GoodIn lw_all (wsV own idx C y (Cond.code y bytes maxL ret :: lw_all))) (hd : y.cls = C ∧ y.cls ≠ "java/lang/invoke/MethodHandle" ∧ y.cls ≠ "java/lang/invoke/VarHandle" ∧ (parseMethodDescriptor y.desc).map (fun d => d.parameters.length) = some n) (hrm : rm.cells = mc ∧ rm.slots = ms) (hR : rm.frames + 1 ≤ R.frames ∧ 8 + (maxL + 11) + rm.locals ≤ R.locals) (hf : cells + mc ≤ R.cells ∧ slots + ms ≤ R.slots) (hcl : cl[ci]? = some (C, T, N)) (he : ws[q0]? = some (b, .inr (ci, fs))) (hn : As.length = n) (hsz : ls.size = nL) (hw : (rest.map fun v => v.category).sum ≤ 8) (hst : st0 = As.reverse ++ .ref b :: rest) (hdg : decode cc pc = .ok (.invokevirtual idx, 3)) (ha : ∀ a, (wsf a).map (fun q => q.1) = ws.map (fun q => q.1)) (kx : ∀ (E : String) (ce : Cell) (q9 : Addr) (H1 : Heap) (locs1 : List Loc), z = .inl E → H.size ≤ H1.size → (∀ q : Nat, q < H.size → H1[q]? = H[q]?) → va_S A s.heap H1 locs1 → H1[q9]? = some ce → ce.vm = .none → s.vm.findClass E = some ce.cls → vx_W p l e R s m args below meth c H1 locs1 (cells + mc) (slots + ms) Q (F0 m pc ls rest) q9) (kk : ∀ (a : Z) (H1 : Heap) (locs1 : List Loc), z = .inr a → va_P D cl (wsf a) H1 → va_D A (wsf a) → va_S A s.heap H1 locs1 → W p l e R s m args below meth c H1 locs1 (cells + mc) (slots + ms) Q (F0 m (pc + 3) ls rest)) : W p l e R s m args below meth c H locs cells slots Q (F0 m pc ls st0) := by
  subst hst
  refine vx_callv (vx_runV (As := As) (rest := rest) S hM (cwV n S.2.2.2.2 hg rfl hrm.1 hrm.2 hd hR) ⟨prX_fb, va_recv hK hP hcl he, prX_of hP hK hD hX hS (va_Aof hD hS hA)⟩ rfl hn hsz rfl (lv_room hw) hdg hf) hS (fun q _ h => va_Aof hD hS hA q h) (va_Aof hD hS hA) (fun q _ h => h.elim) (fun E ce q9 u t H1 locs1 ht hvm hw2 hB hz1 hk1 hS1 hce hcv hcl9 => kx E ce q9 H1 locs1 hB hz1 (fun q hq => hk1 q hq (fun h => h)) hS1 hce hcv hcl9) (fun a t H1 locs1 ht hvm hw2 hB hz1 hk1 hS1 => ?_)
  exact kk a H1 locs1 hw2 (by rw [← ht]; exact hB) (va_Dsame (ha a) hD) hS1
theorem cXUv {p : Program} {l : Launch} {e : Env} {R : Room} {s : State} {m : MethodId} {args : Array Value} {below : List Frame} {meth : Method} {c : Code} {H : Heap} {locs : List Loc} {cells slots : Nat} {Q : State → Prop} {cc bytes : ByteArray} {nL pc idx maxL n q0 ci N : Nat} {ls : Array Slot} {own C : String} {y : MethodName} {ret : Option FieldType} {rm : Room} {D : va_G} {cl : List vw_C} {tys : List (ClassId × FieldType)} {b : Addr} {rest st0 : List Value} {fs : List Value} {T : u_T} {ws wc : va_W} {A : Nat → Prop} {mc ms : Nat} {sa : Nat → Nat} {Z : Type} {z : String ⊕ Z} {wsf wsf' : Z → va_W} (As : List Value) (isC : List Nat) (S : CallFix p m c cc nL s args lw_all own) (hK : va_K D cl tys s) (hP : va_P D cl ws H) (hD : va_D A ws) (hS : va_S A s.heap H locs) (hA : ∀ q, s.heap.size ≤ q → A q) (hX : xb A sa s) (hM : vx_Met l y (Cond.code y bytes maxL ret :: lw_all) rm (prX D cl tys wc H.size sa (.ref b :: As)) (va_Qv (fun a : Z => z = .inr a) (fun a t => va_P D cl (wsf a) t.heap) (va_A wc H.size)) (vx_X (fun _ : Unit => True) (fun E _ _ => z = .inl E) (fun _ => False)) mc ms (va_A wc H.size)) (hg : GoodIn lw_all (wsV own idx C y (Cond.code y bytes maxL ret :: lw_all))) (hd : y.cls = C ∧ y.cls ≠ "java/lang/invoke/MethodHandle" ∧ y.cls ≠ "java/lang/invoke/VarHandle" ∧ (parseMethodDescriptor y.desc).map (fun d => d.parameters.length) = some n) (hrm : rm.cells = mc ∧ rm.slots = ms) (hR : rm.frames + 1 ≤ R.frames ∧ 8 + (maxL + 11) + rm.locals ≤ R.locals) (hf : cells + mc ≤ R.cells ∧ slots + ms ≤ R.slots) (hcl : cl[ci]? = some (C, T, N)) (he : wc[q0]? = some (b, .inr (ci, fs))) (hn : As.length = n) (hsz : ls.size = nL) (hw : (rest.map fun v => v.category).sum ≤ 8) (hst : st0 = As.reverse ++ .ref b :: rest) (hdg : decode cc pc = .ok (.invokevirtual idx, 3)) (hnd : va_nd isC = true) (hC : isC.map (fun i => ws[i]?) = wc.map some) (hwc : ∀ a, (wsf a).map (fun q => q.1) = wc.map (fun q => q.1)) (hws : ∀ a, va_ups ws isC (wsf a) = wsf' a) (ha : ∀ a, (wsf' a).map (fun q => q.1) = ws.map (fun q => q.1)) (kx : ∀ (E : String) (ce : Cell) (q9 : Addr) (H1 : Heap) (locs1 : List Loc), z = .inl E → H.size ≤ H1.size → (∀ q : Nat, q < H.size → H1[q]? = H[q]?) → va_S A s.heap H1 locs1 → H1[q9]? = some ce → ce.vm = .none → s.vm.findClass E = some ce.cls → vx_W p l e R s m args below meth c H1 locs1 (cells + mc) (slots + ms) Q (F0 m pc ls rest) q9) (kk : ∀ (a : Z) (H1 : Heap) (locs1 : List Loc), z = .inr a → va_P D cl (wsf' a) H1 → va_D A (wsf' a) → va_S A s.heap H1 locs1 → W p l e R s m args below meth c H1 locs1 (cells + mc) (slots + ms) Q (F0 m (pc + 3) ls rest)) : W p l e R s m args below meth c H locs cells slots Q (F0 m pc ls st0) := by
  subst hst
  have hPc := va_Pcut hP hC
  have hDc := hD.sub isC hnd hC
  refine vx_callv (vx_runV (As := As) (rest := rest) S hM (cwV n S.2.2.2.2 hg rfl hrm.1 hrm.2 hd hR) ⟨prX_fb, va_recv hK hPc hcl he, prX_of hPc hK hDc hX hS (va_Aof hDc hS hA)⟩ rfl hn hsz rfl (lv_room hw) hdg hf) hS (fun q _ h => va_Aof hDc hS hA q h) (va_Aof hDc hS hA) (fun q _ h => h.elim) (fun E ce q9 u t H1 locs1 ht hvm hw2 hB hz1 hk1 hS1 hce hcv hcl9 => kx E ce q9 H1 locs1 hB hz1 (fun q hq => hk1 q hq (fun h => h)) hS1 hce hcv hcl9) (fun a t H1 locs1 ht hvm hw2 hB hz1 hk1 hS1 => ?_)
  exact kk a H1 locs1 hw2 (fr_join hP hD isC hC (hwc a) (hws a) hk1 (by rw [← ht]; exact hB)) (va_Dsame (ha a) hD) hS1
theorem cXSv {p : Program} {l : Launch} {e : Env} {R : Room} {s : State} {m : MethodId} {args : Array Value} {below : List Frame} {meth : Method} {c : Code} {H : Heap} {locs : List Loc} {cells slots : Nat} {Q : State → Prop} {cc bytes : ByteArray} {nL pc idx maxL n : Nat} {ls : Array Slot} {own : String} {y : MethodName} {ret : Option FieldType} {rm : Room} {D : va_G} {cl : List vw_C} {tys : List (ClassId × FieldType)} {rest st0 : List Value} {ws : va_W} {A : Nat → Prop} {mc ms : Nat} {sa : Nat → Nat} {Z : Type} {z : String ⊕ Z} (As : List Value) (S : CallFix p m c cc nL s args lw_all own) (hK : va_K D cl tys s) (hP : va_P D cl ws H) (hS : va_S A s.heap H locs) (hA : ∀ q, s.heap.size ≤ q → A q) (hX : xb A sa s) (hM : vx_Met l y (Cond.code y bytes maxL ret :: lw_all) rm (prX D cl tys [] H.size sa As) (va_Qv (fun a : Z => z = .inr a) (fun _ t => va_P D cl [] t.heap) (va_A [] H.size)) (vx_X (fun _ : Unit => True) (fun E _ _ => z = .inl E) (fun _ => False)) mc ms (va_A [] H.size)) (hg : GoodIn lw_all (va_wsS own idx y (Cond.code y bytes maxL ret :: lw_all))) (hd : y.cls ≠ "java/lang/invoke/MethodHandle" ∧ y.cls ≠ "java/lang/invoke/VarHandle" ∧ (parseMethodDescriptor y.desc).map (fun d => d.parameters.length) = some n) (hrm : rm.cells = mc ∧ rm.slots = ms) (hR : rm.frames + 1 ≤ R.frames ∧ 8 + (maxL + 11) + rm.locals ≤ R.locals) (hf : cells + mc ≤ R.cells ∧ slots + ms ≤ R.slots) (hn : As.length = n) (hsz : ls.size = nL) (hw : (rest.map fun v => v.category).sum ≤ 8) (hst : st0 = As.reverse ++ rest) (hdg : decode cc pc = .ok (.invokestatic idx, 3)) (kx : ∀ (E : String) (ce : Cell) (q9 : Addr) (H1 : Heap) (locs1 : List Loc), z = .inl E → H.size ≤ H1.size → (∀ q : Nat, q < H.size → H1[q]? = H[q]?) → va_S A s.heap H1 locs1 → H1[q9]? = some ce → ce.vm = .none → s.vm.findClass E = some ce.cls → vx_W p l e R s m args below meth c H1 locs1 (cells + mc) (slots + ms) Q (F0 m pc ls rest) q9) (kk : ∀ (a : Z) (H1 : Heap) (locs1 : List Loc), z = .inr a → va_P D cl ws H1 → va_S A s.heap H1 locs1 → W p l e R s m args below meth c H1 locs1 (cells + mc) (slots + ms) Q (F0 m (pc + 3) ls rest)) : W p l e R s m args below meth c H locs cells slots Q (F0 m pc ls st0) := by
  subst hst
  have hDn : va_D A [] := ⟨fun i j p q h => by simp at h, fun k q h => by simp at h⟩
  refine vx_callv (vx_runS (As := As) (rest := rest) S hM (va_cwS n S.2.2.2.2 hg rfl hrm.1 hrm.2 hd hR) ⟨prX_fb, prX_of va_Pnil hK hDn hX hS (va_Aof hDn hS hA)⟩ rfl hn hsz rfl (lv_room hw) hdg hf) hS (fun q _ h => va_Aof hDn hS hA q h) (va_Aof hDn hS hA) (fun q _ h => h.elim) (fun E ce q9 u t H1 locs1 ht hvm hw2 hB hz1 hk1 hS1 hce hcv hcl9 => kx E ce q9 H1 locs1 hB hz1 (fun q hq => hk1 q hq (fun h => h)) hS1 hce hcv hcl9) (fun a t H1 locs1 ht hvm hw2 hB hz1 hk1 hS1 => ?_)
  exact kk a H1 locs1 hw2 (hP.kept fun k q hq => hk1 q.1 ((hP k q hq).lt) (fun h => h.elim (fun ⟨k9, e9, h9⟩ => by simp at h9) (fun h9 => absurd ((hP k q hq).lt) (Nat.not_lt.mpr h9)))) hS1
theorem cXVl {p : Program} {l : Launch} {e : Env} {R : Room} {s : State} {m : MethodId} {args : Array Value} {below : List Frame} {meth : Method} {c : Code} {H : Heap} {locs : List Loc} {cells slots : Nat} {Q : State → Prop} {cc bytes : ByteArray} {nL pc idx maxL n q0 ci N : Nat} {ls : Array Slot} {own C : String} {y : MethodName} {ret : Option FieldType} {rm : Room} {D : va_G} {cl : List vw_C} {tys : List (ClassId × FieldType)} {b : Addr} {rest st0 : List Value} {fs : List Value} {T : u_T} {ws : va_W} {A : Nat → Prop} {mc ms : Nat} {sa : Nat → Nat} {Z : Type} {z : String ⊕ Z} {rf : Z → Int64} {wsf : Z → va_W} (As : List Value) (S : CallFix p m c cc nL s args lw_all own) (hK : va_K D cl tys s) (hP : va_P D cl ws H) (hD : va_D A ws) (hS : va_S A s.heap H locs) (hA : ∀ q, s.heap.size ≤ q → A q) (hX : xb A sa s) (hM : vx_Met l y (Cond.code y bytes maxL ret :: lw_all) rm (prX D cl tys ws H.size sa (.ref b :: As)) (va_Ql (fun (r : Int64) (a : Z) => z = .inr a ∧ r = rf a) (fun a t => va_P D cl (wsf a) t.heap) (va_A ws H.size)) (vx_X (fun _ : Unit => True) (fun E _ _ => z = .inl E) (fun _ => False)) mc ms (va_A ws H.size)) (hg : GoodIn lw_all (wsV own idx C y (Cond.code y bytes maxL ret :: lw_all))) (hd : y.cls = C ∧ y.cls ≠ "java/lang/invoke/MethodHandle" ∧ y.cls ≠ "java/lang/invoke/VarHandle" ∧ (parseMethodDescriptor y.desc).map (fun d => d.parameters.length) = some n) (hrm : rm.cells = mc ∧ rm.slots = ms) (hR : rm.frames + 1 ≤ R.frames ∧ 8 + (maxL + 11) + rm.locals ≤ R.locals) (hf : cells + mc ≤ R.cells ∧ slots + ms ≤ R.slots) (hcl : cl[ci]? = some (C, T, N)) (he : ws[q0]? = some (b, .inr (ci, fs))) (hn : As.length = n) (hsz : ls.size = nL) (hw : (rest.map fun v => v.category).sum ≤ 8) (hst : st0 = As.reverse ++ .ref b :: rest) (hdg : decode cc pc = .ok (.invokevirtual idx, 3)) (ha : ∀ a, (wsf a).map (fun q => q.1) = ws.map (fun q => q.1)) (kx : ∀ (E : String) (ce : Cell) (q9 : Addr) (H1 : Heap) (locs1 : List Loc), z = .inl E → H.size ≤ H1.size → (∀ q : Nat, q < H.size → H1[q]? = H[q]?) → va_S A s.heap H1 locs1 → H1[q9]? = some ce → ce.vm = .none → s.vm.findClass E = some ce.cls → vx_W p l e R s m args below meth c H1 locs1 (cells + mc) (slots + ms) Q (F0 m pc ls rest) q9) (kk : ∀ (a : Z) (H1 : Heap) (locs1 : List Loc), z = .inr a → va_P D cl (wsf a) H1 → va_D A (wsf a) → va_S A s.heap H1 locs1 → W p l e R s m args below meth c H1 locs1 (cells + mc) (slots + ms) Q (F0 m (pc + 3) ls (.long (rf a) :: rest))) : W p l e R s m args below meth c H locs cells slots Q (F0 m pc ls st0) := by
  subst hst
  refine vx_calll (vx_runV (As := As) (rest := rest) S hM (cwV n S.2.2.2.2 hg rfl hrm.1 hrm.2 hd hR) ⟨prX_fb, va_recv hK hP hcl he, prX_of hP hK hD hX hS (va_Aof hD hS hA)⟩ rfl hn hsz rfl (lv_room hw) hdg hf) hS (fun q _ h => va_Aof hD hS hA q h) (va_Aof hD hS hA) (fun q _ h => h.elim) (fun E ce q9 u t H1 locs1 ht hvm hw2 hB hz1 hk1 hS1 hce hcv hcl9 => kx E ce q9 H1 locs1 hB hz1 (fun q hq => hk1 q hq (fun h => h)) hS1 hce hcv hcl9) (fun r a t H1 locs1 ht hvm hw2 hB hz1 hk1 hS1 => ?_)
  rw [hw2.2]; exact kk a H1 locs1 hw2.1 (by rw [← ht]; exact hB) (va_Dsame (ha a) hD) hS1
end
