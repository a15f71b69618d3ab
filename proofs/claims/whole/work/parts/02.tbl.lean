-- ===== PART A: goes FIRST, ahead of the names: the tables' words, and 'selects' of the private methods out of them =====
/-- a private method of a class that the tables say can be made, by its rows of tables_1 -/
def lw_okq (q : MethodName × Nat) : Prop := (q.1.cls ≠ "java/lang/invoke/MethodHandle" ∧ q.1.cls ≠ "java/lang/invoke/VarHandle") ∧ Cond.instantiable q.1.cls q.2 ∈ tables_1 ∧ Cond.privateMethod q.1 ∈ tables_1 ∧ Cond.instanceMethod q.1 ∈ tables_1
theorem lw_p0 : lw_okq (⟨"PensionSections$Reader", "goesTo", "(I)Z"⟩, 5) := ⟨⟨by decide +kernel, by decide +kernel⟩, List.mem_of_getElem? (i := 196) (by decide +kernel), List.mem_of_getElem? (i := 258) (by decide +kernel), List.mem_of_getElem? (i := 259) (by decide +kernel)⟩
theorem lw_p1 : lw_okq (⟨"PensionSections$Reader", "takesPayDigit", "(I)Z"⟩, 5) := ⟨⟨by decide +kernel, by decide +kernel⟩, List.mem_of_getElem? (i := 196) (by decide +kernel), List.mem_of_getElem? (i := 262) (by decide +kernel), List.mem_of_getElem? (i := 263) (by decide +kernel)⟩
theorem lw_p2 : lw_okq (⟨"PensionSections$Reader", "takesAmountDigit", "(I)Z"⟩, 5) := ⟨⟨by decide +kernel, by decide +kernel⟩, List.mem_of_getElem? (i := 196) (by decide +kernel), List.mem_of_getElem? (i := 269) (by decide +kernel), List.mem_of_getElem? (i := 270) (by decide +kernel)⟩
theorem lw_p3 : lw_okq (⟨"PensionSections$Scheme", "collectDues", "()V"⟩, 11) := ⟨⟨by decide +kernel, by decide +kernel⟩, List.mem_of_getElem? (i := 26) (by decide +kernel), List.mem_of_getElem? (i := 298) (by decide +kernel), List.mem_of_getElem? (i := 299) (by decide +kernel)⟩
theorem lw_p4 : lw_okq (⟨"PensionSections$Scheme", "dueOf", "(LPensionSections$Member;)I"⟩, 11) := ⟨⟨by decide +kernel, by decide +kernel⟩, List.mem_of_getElem? (i := 26) (by decide +kernel), List.mem_of_getElem? (i := 306) (by decide +kernel), List.mem_of_getElem? (i := 307) (by decide +kernel)⟩
theorem lw_p5 : lw_okq (⟨"PensionSections$LateMonths", "slot", "(I)I"⟩, 5) := ⟨⟨by decide +kernel, by decide +kernel⟩, List.mem_of_getElem? (i := 41) (by decide +kernel), List.mem_of_getElem? (i := 315) (by decide +kernel), List.mem_of_getElem? (i := 316) (by decide +kernel)⟩
theorem lw_p6 : lw_okq (⟨"PensionSections$Scheme", "lapseLate", "()V"⟩, 11) := ⟨⟨by decide +kernel, by decide +kernel⟩, List.mem_of_getElem? (i := 26) (by decide +kernel), List.mem_of_getElem? (i := 327) (by decide +kernel), List.mem_of_getElem? (i := 328) (by decide +kernel)⟩
theorem lw_p7 : lw_okq (⟨"PensionSections$Scheme", "payPensions", "()V"⟩, 11) := ⟨⟨by decide +kernel, by decide +kernel⟩, List.mem_of_getElem? (i := 26) (by decide +kernel), List.mem_of_getElem? (i := 335) (by decide +kernel), List.mem_of_getElem? (i := 336) (by decide +kernel)⟩
theorem lw_p8 : lw_okq (⟨"PensionSections$Scheme", "growOlder", "()I"⟩, 11) := ⟨⟨by decide +kernel, by decide +kernel⟩, List.mem_of_getElem? (i := 26) (by decide +kernel), List.mem_of_getElem? (i := 339) (by decide +kernel), List.mem_of_getElem? (i := 340) (by decide +kernel)⟩
theorem lw_p9 : lw_okq (⟨"PensionSections$Scheme", "wholePension", "(LPensionSections$Member;II)J"⟩, 11) := ⟨⟨by decide +kernel, by decide +kernel⟩, List.mem_of_getElem? (i := 26) (by decide +kernel), List.mem_of_getElem? (i := 358) (by decide +kernel), List.mem_of_getElem? (i := 359) (by decide +kernel)⟩
theorem lw_p10 : lw_okq (⟨"java/lang/Throwable", "fillInStackTrace", "(I)Ljava/lang/Throwable;"⟩, 6) := ⟨⟨by decide +kernel, by decide +kernel⟩, List.mem_of_getElem? (i := 433) (by decide +kernel), List.mem_of_getElem? (i := 431) (by decide +kernel), List.mem_of_getElem? (i := 432) (by decide +kernel)⟩
theorem lw_p11 : lw_okq (⟨"PensionSections", "mixedMembers", "(J)J"⟩, 5) := ⟨⟨by decide +kernel, by decide +kernel⟩, List.mem_of_getElem? (i := 18) (by decide +kernel), List.mem_of_getElem? (i := 515) (by decide +kernel), List.mem_of_getElem? (i := 516) (by decide +kernel)⟩
theorem lw_p12 : lw_okq (⟨"PensionSections", "mixedLate", "(JLPensionSections$LateMonths;)J"⟩, 5) := ⟨⟨by decide +kernel, by decide +kernel⟩, List.mem_of_getElem? (i := 18) (by decide +kernel), List.mem_of_getElem? (i := 531) (by decide +kernel), List.mem_of_getElem? (i := 532) (by decide +kernel)⟩
theorem lw_p13 : lw_okq (⟨"PensionSections", "triedValue", "(II)J"⟩, 5) := ⟨⟨by decide +kernel, by decide +kernel⟩, List.mem_of_getElem? (i := 18) (by decide +kernel), List.mem_of_getElem? (i := 555) (by decide +kernel), List.mem_of_getElem? (i := 556) (by decide +kernel)⟩
theorem lw_p14 : lw_okq (⟨"PensionSections$Scheme", "contributionsOf", "(LPensionSections$Member;)J"⟩, 11) := ⟨⟨by decide +kernel, by decide +kernel⟩, List.mem_of_getElem? (i := 26) (by decide +kernel), List.mem_of_getElem? (i := 647) (by decide +kernel), List.mem_of_getElem? (i := 648) (by decide +kernel)⟩
theorem lw_p15 : lw_okq (⟨"PensionSections$Scheme", "moveBehindAll", "(LPensionSections$Member;)V"⟩, 11) := ⟨⟨by decide +kernel, by decide +kernel⟩, List.mem_of_getElem? (i := 26) (by decide +kernel), List.mem_of_getElem? (i := 654) (by decide +kernel), List.mem_of_getElem? (i := 655) (by decide +kernel)⟩
def lw_privs_1 : List (MethodName × Nat) := [(⟨"PensionSections$Reader", "goesTo", "(I)Z"⟩, 5), (⟨"PensionSections$Reader", "takesPayDigit", "(I)Z"⟩, 5), (⟨"PensionSections$Reader", "takesAmountDigit", "(I)Z"⟩, 5), (⟨"PensionSections$Scheme", "collectDues", "()V"⟩, 11), (⟨"PensionSections$Scheme", "dueOf", "(LPensionSections$Member;)I"⟩, 11), (⟨"PensionSections$LateMonths", "slot", "(I)I"⟩, 5), (⟨"PensionSections$Scheme", "lapseLate", "()V"⟩, 11), (⟨"PensionSections$Scheme", "payPensions", "()V"⟩, 11), (⟨"PensionSections$Scheme", "growOlder", "()I"⟩, 11), (⟨"PensionSections$Scheme", "wholePension", "(LPensionSections$Member;II)J"⟩, 11), (⟨"java/lang/Throwable", "fillInStackTrace", "(I)Ljava/lang/Throwable;"⟩, 6), (⟨"PensionSections", "mixedMembers", "(J)J"⟩, 5), (⟨"PensionSections", "mixedLate", "(JLPensionSections$LateMonths;)J"⟩, 5), (⟨"PensionSections", "triedValue", "(II)J"⟩, 5), (⟨"PensionSections$Scheme", "contributionsOf", "(LPensionSections$Member;)J"⟩, 11), (⟨"PensionSections$Scheme", "moveBehindAll", "(LPensionSections$Member;)V"⟩, 11)]
theorem lw_r1 : ∀ q ∈ lw_privs_1, lw_okq q := List.forall_mem_cons.mpr ⟨lw_p0, List.forall_mem_cons.mpr ⟨lw_p1, List.forall_mem_cons.mpr ⟨lw_p2, List.forall_mem_cons.mpr ⟨lw_p3, List.forall_mem_cons.mpr ⟨lw_p4, List.forall_mem_cons.mpr ⟨lw_p5, List.forall_mem_cons.mpr ⟨lw_p6, List.forall_mem_cons.mpr ⟨lw_p7, List.forall_mem_cons.mpr ⟨lw_p8, List.forall_mem_cons.mpr ⟨lw_p9, List.forall_mem_cons.mpr ⟨lw_p10, List.forall_mem_cons.mpr ⟨lw_p11, List.forall_mem_cons.mpr ⟨lw_p12, List.forall_mem_cons.mpr ⟨lw_p13, List.forall_mem_cons.mpr ⟨lw_p14, List.forall_mem_cons.mpr ⟨lw_p15, fun _ h => absurd h List.not_mem_nil⟩⟩⟩⟩⟩⟩⟩⟩⟩⟩⟩⟩⟩⟩⟩⟩
theorem lw_p16 : lw_okq (⟨"PensionSections$Scheme", "monthsFor", "(LPensionSections$Member;I)I"⟩, 11) := ⟨⟨by decide +kernel, by decide +kernel⟩, List.mem_of_getElem? (i := 26) (by decide +kernel), List.mem_of_getElem? (i := 719) (by decide +kernel), List.mem_of_getElem? (i := 720) (by decide +kernel)⟩
theorem lw_p17 : lw_okq (⟨"PensionSections", "triesAllParts", "()Z"⟩, 5) := ⟨⟨by decide +kernel, by decide +kernel⟩, List.mem_of_getElem? (i := 18) (by decide +kernel), List.mem_of_getElem? (i := 798) (by decide +kernel), List.mem_of_getElem? (i := 799) (by decide +kernel)⟩
theorem lw_p18 : lw_okq (⟨"PensionSections", "triesPart", "()Z"⟩, 5) := ⟨⟨by decide +kernel, by decide +kernel⟩, List.mem_of_getElem? (i := 18) (by decide +kernel), List.mem_of_getElem? (i := 802) (by decide +kernel), List.mem_of_getElem? (i := 803) (by decide +kernel)⟩
theorem lw_p19 : lw_okq (⟨"PensionSectionsModel", "holds", "(I)Z"⟩, 17) := ⟨⟨by decide +kernel, by decide +kernel⟩, List.mem_of_getElem? (i := 884) (by decide +kernel), List.mem_of_getElem? (i := 956) (by decide +kernel), List.mem_of_getElem? (i := 957) (by decide +kernel)⟩
theorem lw_p20 : lw_okq (⟨"PensionSectionsModel", "save", "()V"⟩, 17) := ⟨⟨by decide +kernel, by decide +kernel⟩, List.mem_of_getElem? (i := 884) (by decide +kernel), List.mem_of_getElem? (i := 960) (by decide +kernel), List.mem_of_getElem? (i := 961) (by decide +kernel)⟩
theorem lw_p21 : lw_okq (⟨"PensionSectionsModel", "rate", "(I)I"⟩, 17) := ⟨⟨by decide +kernel, by decide +kernel⟩, List.mem_of_getElem? (i := 884) (by decide +kernel), List.mem_of_getElem? (i := 964) (by decide +kernel), List.mem_of_getElem? (i := 965) (by decide +kernel)⟩
theorem lw_p22 : lw_okq (⟨"PensionSectionsModel", "canJoin", "(I)Z"⟩, 17) := ⟨⟨by decide +kernel, by decide +kernel⟩, List.mem_of_getElem? (i := 884) (by decide +kernel), List.mem_of_getElem? (i := 976) (by decide +kernel), List.mem_of_getElem? (i := 977) (by decide +kernel)⟩
theorem lw_p23 : lw_okq (⟨"PensionSectionsModel", "isClosed", "(I)Z"⟩, 17) := ⟨⟨by decide +kernel, by decide +kernel⟩, List.mem_of_getElem? (i := 884) (by decide +kernel), List.mem_of_getElem? (i := 980) (by decide +kernel), List.mem_of_getElem? (i := 981) (by decide +kernel)⟩
theorem lw_p24 : lw_okq (⟨"PensionSectionsModel", "joins", "(III)I"⟩, 17) := ⟨⟨by decide +kernel, by decide +kernel⟩, List.mem_of_getElem? (i := 884) (by decide +kernel), List.mem_of_getElem? (i := 984) (by decide +kernel), List.mem_of_getElem? (i := 985) (by decide +kernel)⟩
theorem lw_p25 : lw_okq (⟨"PensionSectionsModel", "placeOf", "(I)I"⟩, 17) := ⟨⟨by decide +kernel, by decide +kernel⟩, List.mem_of_getElem? (i := 884) (by decide +kernel), List.mem_of_getElem? (i := 995) (by decide +kernel), List.mem_of_getElem? (i := 996) (by decide +kernel)⟩
theorem lw_p26 : lw_okq (⟨"PensionSectionsModel", "isRetired", "(I)Z"⟩, 17) := ⟨⟨by decide +kernel, by decide +kernel⟩, List.mem_of_getElem? (i := 884) (by decide +kernel), List.mem_of_getElem? (i := 1004) (by decide +kernel), List.mem_of_getElem? (i := 1005) (by decide +kernel)⟩
theorem lw_p27 : lw_okq (⟨"PensionSectionsModel", "costs", "(II)I"⟩, 17) := ⟨⟨by decide +kernel, by decide +kernel⟩, List.mem_of_getElem? (i := 884) (by decide +kernel), List.mem_of_getElem? (i := 1022) (by decide +kernel), List.mem_of_getElem? (i := 1023) (by decide +kernel)⟩
theorem lw_p28 : lw_okq (⟨"PensionSectionsModel", "due", "(II)I"⟩, 17) := ⟨⟨by decide +kernel, by decide +kernel⟩, List.mem_of_getElem? (i := 884) (by decide +kernel), List.mem_of_getElem? (i := 1026) (by decide +kernel), List.mem_of_getElem? (i := 1027) (by decide +kernel)⟩
theorem lw_p29 : lw_okq (⟨"PensionSectionsModel", "dueMonth", "(II)I"⟩, 17) := ⟨⟨by decide +kernel, by decide +kernel⟩, List.mem_of_getElem? (i := 884) (by decide +kernel), List.mem_of_getElem? (i := 1030) (by decide +kernel), List.mem_of_getElem? (i := 1031) (by decide +kernel)⟩
theorem lw_p30 : lw_okq (⟨"PensionSectionsModel", "dueSection", "(II)I"⟩, 17) := ⟨⟨by decide +kernel, by decide +kernel⟩, List.mem_of_getElem? (i := 884) (by decide +kernel), List.mem_of_getElem? (i := 1034) (by decide +kernel), List.mem_of_getElem? (i := 1035) (by decide +kernel)⟩
theorem lw_p31 : lw_okq (⟨"PensionSectionsModel", "dropLate", "(II)V"⟩, 17) := ⟨⟨by decide +kernel, by decide +kernel⟩, List.mem_of_getElem? (i := 884) (by decide +kernel), List.mem_of_getElem? (i := 1038) (by decide +kernel), List.mem_of_getElem? (i := 1039) (by decide +kernel)⟩
def lw_privs_2 : List (MethodName × Nat) := [(⟨"PensionSections$Scheme", "monthsFor", "(LPensionSections$Member;I)I"⟩, 11), (⟨"PensionSections", "triesAllParts", "()Z"⟩, 5), (⟨"PensionSections", "triesPart", "()Z"⟩, 5), (⟨"PensionSectionsModel", "holds", "(I)Z"⟩, 17), (⟨"PensionSectionsModel", "save", "()V"⟩, 17), (⟨"PensionSectionsModel", "rate", "(I)I"⟩, 17), (⟨"PensionSectionsModel", "canJoin", "(I)Z"⟩, 17), (⟨"PensionSectionsModel", "isClosed", "(I)Z"⟩, 17), (⟨"PensionSectionsModel", "joins", "(III)I"⟩, 17), (⟨"PensionSectionsModel", "placeOf", "(I)I"⟩, 17), (⟨"PensionSectionsModel", "isRetired", "(I)Z"⟩, 17), (⟨"PensionSectionsModel", "costs", "(II)I"⟩, 17), (⟨"PensionSectionsModel", "due", "(II)I"⟩, 17), (⟨"PensionSectionsModel", "dueMonth", "(II)I"⟩, 17), (⟨"PensionSectionsModel", "dueSection", "(II)I"⟩, 17), (⟨"PensionSectionsModel", "dropLate", "(II)V"⟩, 17)]
theorem lw_r2 : ∀ q ∈ lw_privs_2, lw_okq q := List.forall_mem_cons.mpr ⟨lw_p16, List.forall_mem_cons.mpr ⟨lw_p17, List.forall_mem_cons.mpr ⟨lw_p18, List.forall_mem_cons.mpr ⟨lw_p19, List.forall_mem_cons.mpr ⟨lw_p20, List.forall_mem_cons.mpr ⟨lw_p21, List.forall_mem_cons.mpr ⟨lw_p22, List.forall_mem_cons.mpr ⟨lw_p23, List.forall_mem_cons.mpr ⟨lw_p24, List.forall_mem_cons.mpr ⟨lw_p25, List.forall_mem_cons.mpr ⟨lw_p26, List.forall_mem_cons.mpr ⟨lw_p27, List.forall_mem_cons.mpr ⟨lw_p28, List.forall_mem_cons.mpr ⟨lw_p29, List.forall_mem_cons.mpr ⟨lw_p30, List.forall_mem_cons.mpr ⟨lw_p31, fun _ h => absurd h List.not_mem_nil⟩⟩⟩⟩⟩⟩⟩⟩⟩⟩⟩⟩⟩⟩⟩⟩
theorem lw_p32 : lw_okq (⟨"PensionSectionsModel", "canTransfer", "(II)Z"⟩, 17) := ⟨⟨by decide +kernel, by decide +kernel⟩, List.mem_of_getElem? (i := 884) (by decide +kernel), List.mem_of_getElem? (i := 1046) (by decide +kernel), List.mem_of_getElem? (i := 1047) (by decide +kernel)⟩
theorem lw_p33 : lw_okq (⟨"PensionSectionsModel", "transfers", "(II)I"⟩, 17) := ⟨⟨by decide +kernel, by decide +kernel⟩, List.mem_of_getElem? (i := 884) (by decide +kernel), List.mem_of_getElem? (i := 1050) (by decide +kernel), List.mem_of_getElem? (i := 1051) (by decide +kernel)⟩
theorem lw_p34 : lw_okq (⟨"PensionSectionsModel", "early", "(I)I"⟩, 17) := ⟨⟨by decide +kernel, by decide +kernel⟩, List.mem_of_getElem? (i := 884) (by decide +kernel), List.mem_of_getElem? (i := 1058) (by decide +kernel), List.mem_of_getElem? (i := 1059) (by decide +kernel)⟩
theorem lw_p35 : lw_okq (⟨"PensionSectionsModel", "retires", "(II)V"⟩, 17) := ⟨⟨by decide +kernel, by decide +kernel⟩, List.mem_of_getElem? (i := 884) (by decide +kernel), List.mem_of_getElem? (i := 1062) (by decide +kernel), List.mem_of_getElem? (i := 1063) (by decide +kernel)⟩
theorem lw_p36 : lw_okq (⟨"PensionSectionsModel", "pensionBy", "(IIII)I"⟩, 17) := ⟨⟨by decide +kernel, by decide +kernel⟩, List.mem_of_getElem? (i := 884) (by decide +kernel), List.mem_of_getElem? (i := 1066) (by decide +kernel), List.mem_of_getElem? (i := 1067) (by decide +kernel)⟩
theorem lw_p37 : lw_okq (⟨"PensionSectionsModel", "passes", "(I)I"⟩, 17) := ⟨⟨by decide +kernel, by decide +kernel⟩, List.mem_of_getElem? (i := 884) (by decide +kernel), List.mem_of_getElem? (i := 1079) (by decide +kernel), List.mem_of_getElem? (i := 1080) (by decide +kernel)⟩
theorem lw_p38 : lw_okq (⟨"PensionSectionsModel", "goOn", "()I"⟩, 17) := ⟨⟨by decide +kernel, by decide +kernel⟩, List.mem_of_getElem? (i := 884) (by decide +kernel), List.mem_of_getElem? (i := 1083) (by decide +kernel), List.mem_of_getElem? (i := 1084) (by decide +kernel)⟩
theorem lw_p39 : lw_okq (⟨"PensionSectionsModel", "contribute", "(I)V"⟩, 17) := ⟨⟨by decide +kernel, by decide +kernel⟩, List.mem_of_getElem? (i := 884) (by decide +kernel), List.mem_of_getElem? (i := 1087) (by decide +kernel), List.mem_of_getElem? (i := 1088) (by decide +kernel)⟩
theorem lw_p40 : lw_okq (⟨"PensionSectionsModel", "lapse", "(I)V"⟩, 17) := ⟨⟨by decide +kernel, by decide +kernel⟩, List.mem_of_getElem? (i := 884) (by decide +kernel), List.mem_of_getElem? (i := 1091) (by decide +kernel), List.mem_of_getElem? (i := 1092) (by decide +kernel)⟩
theorem lw_p41 : lw_okq (⟨"PensionSectionsModel", "payOut", "(I)V"⟩, 17) := ⟨⟨by decide +kernel, by decide +kernel⟩, List.mem_of_getElem? (i := 884) (by decide +kernel), List.mem_of_getElem? (i := 1095) (by decide +kernel), List.mem_of_getElem? (i := 1096) (by decide +kernel)⟩
theorem lw_p42 : lw_okq (⟨"PensionSectionsModel", "go", "(Z)Z"⟩, 17) := ⟨⟨by decide +kernel, by decide +kernel⟩, List.mem_of_getElem? (i := 884) (by decide +kernel), List.mem_of_getElem? (i := 1111) (by decide +kernel), List.mem_of_getElem? (i := 1112) (by decide +kernel)⟩
theorem lw_p43 : lw_okq (⟨"PensionSectionsModel", "part", "()V"⟩, 17) := ⟨⟨by decide +kernel, by decide +kernel⟩, List.mem_of_getElem? (i := 884) (by decide +kernel), List.mem_of_getElem? (i := 1115) (by decide +kernel), List.mem_of_getElem? (i := 1116) (by decide +kernel)⟩
theorem lw_p44 : lw_okq (⟨"PensionSectionsModel", "number", "(I)I"⟩, 17) := ⟨⟨by decide +kernel, by decide +kernel⟩, List.mem_of_getElem? (i := 884) (by decide +kernel), List.mem_of_getElem? (i := 1119) (by decide +kernel), List.mem_of_getElem? (i := 1120) (by decide +kernel)⟩
theorem lw_p45 : lw_okq (⟨"PensionSectionsModel", "sign", "(II)I"⟩, 17) := ⟨⟨by decide +kernel, by decide +kernel⟩, List.mem_of_getElem? (i := 884) (by decide +kernel), List.mem_of_getElem? (i := 1123) (by decide +kernel), List.mem_of_getElem? (i := 1124) (by decide +kernel)⟩
theorem lw_p46 : lw_okq (⟨"PensionSectionsModel", "isNext", "(II)Z"⟩, 17) := ⟨⟨by decide +kernel, by decide +kernel⟩, List.mem_of_getElem? (i := 884) (by decide +kernel), List.mem_of_getElem? (i := 1127) (by decide +kernel), List.mem_of_getElem? (i := 1128) (by decide +kernel)⟩
theorem lw_p47 : lw_okq (⟨"PensionSectionsModel", "takes", "()Z"⟩, 17) := ⟨⟨by decide +kernel, by decide +kernel⟩, List.mem_of_getElem? (i := 884) (by decide +kernel), List.mem_of_getElem? (i := 1131) (by decide +kernel), List.mem_of_getElem? (i := 1132) (by decide +kernel)⟩
def lw_privs_3 : List (MethodName × Nat) := [(⟨"PensionSectionsModel", "canTransfer", "(II)Z"⟩, 17), (⟨"PensionSectionsModel", "transfers", "(II)I"⟩, 17), (⟨"PensionSectionsModel", "early", "(I)I"⟩, 17), (⟨"PensionSectionsModel", "retires", "(II)V"⟩, 17), (⟨"PensionSectionsModel", "pensionBy", "(IIII)I"⟩, 17), (⟨"PensionSectionsModel", "passes", "(I)I"⟩, 17), (⟨"PensionSectionsModel", "goOn", "()I"⟩, 17), (⟨"PensionSectionsModel", "contribute", "(I)V"⟩, 17), (⟨"PensionSectionsModel", "lapse", "(I)V"⟩, 17), (⟨"PensionSectionsModel", "payOut", "(I)V"⟩, 17), (⟨"PensionSectionsModel", "go", "(Z)Z"⟩, 17), (⟨"PensionSectionsModel", "part", "()V"⟩, 17), (⟨"PensionSectionsModel", "number", "(I)I"⟩, 17), (⟨"PensionSectionsModel", "sign", "(II)I"⟩, 17), (⟨"PensionSectionsModel", "isNext", "(II)Z"⟩, 17), (⟨"PensionSectionsModel", "takes", "()Z"⟩, 17)]
theorem lw_r3 : ∀ q ∈ lw_privs_3, lw_okq q := List.forall_mem_cons.mpr ⟨lw_p32, List.forall_mem_cons.mpr ⟨lw_p33, List.forall_mem_cons.mpr ⟨lw_p34, List.forall_mem_cons.mpr ⟨lw_p35, List.forall_mem_cons.mpr ⟨lw_p36, List.forall_mem_cons.mpr ⟨lw_p37, List.forall_mem_cons.mpr ⟨lw_p38, List.forall_mem_cons.mpr ⟨lw_p39, List.forall_mem_cons.mpr ⟨lw_p40, List.forall_mem_cons.mpr ⟨lw_p41, List.forall_mem_cons.mpr ⟨lw_p42, List.forall_mem_cons.mpr ⟨lw_p43, List.forall_mem_cons.mpr ⟨lw_p44, List.forall_mem_cons.mpr ⟨lw_p45, List.forall_mem_cons.mpr ⟨lw_p46, List.forall_mem_cons.mpr ⟨lw_p47, fun _ h => absurd h List.not_mem_nil⟩⟩⟩⟩⟩⟩⟩⟩⟩⟩⟩⟩⟩⟩⟩⟩
theorem lw_p48 : lw_okq (⟨"PensionSectionsModel", "putAside", "()V"⟩, 17) := ⟨⟨by decide +kernel, by decide +kernel⟩, List.mem_of_getElem? (i := 884) (by decide +kernel), List.mem_of_getElem? (i := 1139) (by decide +kernel), List.mem_of_getElem? (i := 1140) (by decide +kernel)⟩
theorem lw_p49 : lw_okq (⟨"PensionSectionsModel", "putBack", "()V"⟩, 17) := ⟨⟨by decide +kernel, by decide +kernel⟩, List.mem_of_getElem? (i := 884) (by decide +kernel), List.mem_of_getElem? (i := 1143) (by decide +kernel), List.mem_of_getElem? (i := 1144) (by decide +kernel)⟩
theorem lw_p50 : lw_okq (⟨"PensionSectionsModel", "ofSection", "(II)I"⟩, 17) := ⟨⟨by decide +kernel, by decide +kernel⟩, List.mem_of_getElem? (i := 884) (by decide +kernel), List.mem_of_getElem? (i := 1155) (by decide +kernel), List.mem_of_getElem? (i := 1156) (by decide +kernel)⟩
theorem lw_p51 : lw_okq (⟨"PensionSectionsModel", "memberAt", "(II)I"⟩, 17) := ⟨⟨by decide +kernel, by decide +kernel⟩, List.mem_of_getElem? (i := 884) (by decide +kernel), List.mem_of_getElem? (i := 1163) (by decide +kernel), List.mem_of_getElem? (i := 1164) (by decide +kernel)⟩
theorem lw_p52 : lw_okq (⟨"PensionSectionsModel", "allCosts", "(I)I"⟩, 17) := ⟨⟨by decide +kernel, by decide +kernel⟩, List.mem_of_getElem? (i := 884) (by decide +kernel), List.mem_of_getElem? (i := 1167) (by decide +kernel), List.mem_of_getElem? (i := 1168) (by decide +kernel)⟩
theorem lw_p53 : lw_okq (⟨"PensionSectionsModel", "lateAt", "(III)I"⟩, 17) := ⟨⟨by decide +kernel, by decide +kernel⟩, List.mem_of_getElem? (i := 884) (by decide +kernel), List.mem_of_getElem? (i := 1175) (by decide +kernel), List.mem_of_getElem? (i := 1176) (by decide +kernel)⟩
theorem lw_p54 : lw_okq (⟨"PensionSectionsModel", "counted", "(I)I"⟩, 17) := ⟨⟨by decide +kernel, by decide +kernel⟩, List.mem_of_getElem? (i := 884) (by decide +kernel), List.mem_of_getElem? (i := 1183) (by decide +kernel), List.mem_of_getElem? (i := 1184) (by decide +kernel)⟩
theorem lw_p55 : lw_okq (⟨"PensionSectionsModel", "wouldPass", "(II)J"⟩, 17) := ⟨⟨by decide +kernel, by decide +kernel⟩, List.mem_of_getElem? (i := 884) (by decide +kernel), List.mem_of_getElem? (i := 1199) (by decide +kernel), List.mem_of_getElem? (i := 1200) (by decide +kernel)⟩
theorem lw_p56 : lw_okq (⟨"PensionSectionsModel", "pensionBehind", "(III)I"⟩, 17) := ⟨⟨by decide +kernel, by decide +kernel⟩, List.mem_of_getElem? (i := 884) (by decide +kernel), List.mem_of_getElem? (i := 1207) (by decide +kernel), List.mem_of_getElem? (i := 1208) (by decide +kernel)⟩
theorem lw_p57 : lw_okq (⟨"PensionSectionsModel", "best", "(I)I"⟩, 17) := ⟨⟨by decide +kernel, by decide +kernel⟩, List.mem_of_getElem? (i := 884) (by decide +kernel), List.mem_of_getElem? (i := 1215) (by decide +kernel), List.mem_of_getElem? (i := 1216) (by decide +kernel)⟩
theorem lw_p58 : lw_okq (⟨"PensionSectionsModel", "lasts", "()I"⟩, 17) := ⟨⟨by decide +kernel, by decide +kernel⟩, List.mem_of_getElem? (i := 884) (by decide +kernel), List.mem_of_getElem? (i := 1223) (by decide +kernel), List.mem_of_getElem? (i := 1224) (by decide +kernel)⟩
theorem lw_p59 : lw_okq (⟨"PensionSectionsModel", "share", "()D"⟩, 17) := ⟨⟨by decide +kernel, by decide +kernel⟩, List.mem_of_getElem? (i := 884) (by decide +kernel), List.mem_of_getElem? (i := 1231) (by decide +kernel), List.mem_of_getElem? (i := 1232) (by decide +kernel)⟩
theorem lw_p60 : lw_okq (⟨"PensionSectionsModel", "digestOne", "(J)V"⟩, 17) := ⟨⟨by decide +kernel, by decide +kernel⟩, List.mem_of_getElem? (i := 884) (by decide +kernel), List.mem_of_getElem? (i := 1240) (by decide +kernel), List.mem_of_getElem? (i := 1241) (by decide +kernel)⟩
def lw_privs_4 : List (MethodName × Nat) := [(⟨"PensionSectionsModel", "putAside", "()V"⟩, 17), (⟨"PensionSectionsModel", "putBack", "()V"⟩, 17), (⟨"PensionSectionsModel", "ofSection", "(II)I"⟩, 17), (⟨"PensionSectionsModel", "memberAt", "(II)I"⟩, 17), (⟨"PensionSectionsModel", "allCosts", "(I)I"⟩, 17), (⟨"PensionSectionsModel", "lateAt", "(III)I"⟩, 17), (⟨"PensionSectionsModel", "counted", "(I)I"⟩, 17), (⟨"PensionSectionsModel", "wouldPass", "(II)J"⟩, 17), (⟨"PensionSectionsModel", "pensionBehind", "(III)I"⟩, 17), (⟨"PensionSectionsModel", "best", "(I)I"⟩, 17), (⟨"PensionSectionsModel", "lasts", "()I"⟩, 17), (⟨"PensionSectionsModel", "share", "()D"⟩, 17), (⟨"PensionSectionsModel", "digestOne", "(J)V"⟩, 17)]
theorem lw_r4 : ∀ q ∈ lw_privs_4, lw_okq q := List.forall_mem_cons.mpr ⟨lw_p48, List.forall_mem_cons.mpr ⟨lw_p49, List.forall_mem_cons.mpr ⟨lw_p50, List.forall_mem_cons.mpr ⟨lw_p51, List.forall_mem_cons.mpr ⟨lw_p52, List.forall_mem_cons.mpr ⟨lw_p53, List.forall_mem_cons.mpr ⟨lw_p54, List.forall_mem_cons.mpr ⟨lw_p55, List.forall_mem_cons.mpr ⟨lw_p56, List.forall_mem_cons.mpr ⟨lw_p57, List.forall_mem_cons.mpr ⟨lw_p58, List.forall_mem_cons.mpr ⟨lw_p59, List.forall_mem_cons.mpr ⟨lw_p60, fun _ h => absurd h List.not_mem_nil⟩⟩⟩⟩⟩⟩⟩⟩⟩⟩⟩⟩⟩
def lw_privs : List (MethodName × Nat) := lw_privs_1 ++ (lw_privs_2 ++ (lw_privs_3 ++ (lw_privs_4)))
def lw_tbl : List Cond := k2_sels lw_privs ++ tables_1
theorem lw_privs_ok : ∀ q ∈ lw_privs, lw_okq q := by
  show ∀ q ∈ lw_privs_1 ++ (lw_privs_2 ++ (lw_privs_3 ++ (lw_privs_4))), lw_okq q
  exact List.forall_mem_append.mpr ⟨lw_r1, List.forall_mem_append.mpr ⟨lw_r2, List.forall_mem_append.mpr ⟨lw_r3, lw_r4⟩⟩⟩
/-- the streams that the claim lets the run draw from -/
abbrev lw_cs : List Choice := [Jvm.Choice.named "NaN.bits"]
theorem lw_bits : nanBits ∈ lw_cs := by first | decide | exact List.mem_cons_self | simp [lw_cs, nanBits]

def RX0 : String := "PensionSections$Buffer"
def TX0 : u_T := fun k => match k with
  | 0 => ("PensionSections$Buffer", "codes", "[C", true)
  | _ => ("PensionSections$Buffer", "length", "I", false)
def tyX0 : Nat → FieldType := fun k => match k with
  | 0 => .array .char
  | _ => .int
theorem nmX0 : ∀ a, a < 2 → ∀ b, b < 2 → a ≠ b → (TX0 a).2.1 ≠ (TX0 b).2.1 := by decide +kernel
theorem tyX0_ok : ∀ k, k < 2 → parseFieldDescriptor (TX0 k).2.2.1 = some (tyX0 k) := by decide +kernel
def RX1 : String := "PensionSections$History"
def TX1 : u_T := fun k => match k with
  | 0 => ("PensionSections$History", "saved", "[LPensionSections$Scheme;", true)
  | 1 => ("PensionSections$History", "first", "I", false)
  | _ => ("PensionSections$History", "size", "I", false)
def tyX1 : Nat → FieldType := fun k => match k with
  | 0 => .array (.object "PensionSections$Scheme")
  | 1 => .int
  | _ => .int
theorem nmX1 : ∀ a, a < 3 → ∀ b, b < 3 → a ≠ b → (TX1 a).2.1 ≠ (TX1 b).2.1 := by decide +kernel
theorem tyX1_ok : ∀ k, k < 3 → parseFieldDescriptor (TX1 k).2.2.1 = some (tyX1 k) := by decide +kernel
def RX2 : String := "PensionSections$LateMonths"
def TX2 : u_T := fun k => match k with
  | 0 => ("PensionSections$LateMonths", "months", "[I", true)
  | 1 => ("PensionSections$LateMonths", "dues", "[I", true)
  | 2 => ("PensionSections$LateMonths", "sections", "[I", true)
  | 3 => ("PensionSections$LateMonths", "first", "I", false)
  | _ => ("PensionSections$LateMonths", "size", "I", false)
def tyX2 : Nat → FieldType := fun k => match k with
  | 0 => .array .int
  | 1 => .array .int
  | 2 => .array .int
  | 3 => .int
  | _ => .int
theorem nmX2 : ∀ a, a < 5 → ∀ b, b < 5 → a ≠ b → (TX2 a).2.1 ≠ (TX2 b).2.1 := by decide +kernel
theorem tyX2_ok : ∀ k, k < 5 → parseFieldDescriptor (TX2 k).2.2.1 = some (tyX2 k) := by decide +kernel
def RX3 : String := "PensionSections$Member"
def TX3 : u_T := fun k => match k with
  | 0 => ("PensionSections$Member", "service", "[I", true)
  | 1 => ("PensionSections$Member", "late", "LPensionSections$LateMonths;", true)
  | 2 => ("PensionSections$Member", "isHere", "Z", false)
  | 3 => ("PensionSections$Member", "number", "I", false)
  | 4 => ("PensionSections$Member", "section", "I", false)
  | 5 => ("PensionSections$Member", "pay", "I", false)
  | 6 => ("PensionSections$Member", "age", "I", false)
  | 7 => ("PensionSections$Member", "isRetired", "Z", false)
  | 8 => ("PensionSections$Member", "pension", "I", false)
  | _ => ("PensionSections$Member", "isBehind", "Z", false)
def tyX3 : Nat → FieldType := fun k => match k with
  | 0 => .array .int
  | 1 => .object "PensionSections$LateMonths"
  | 2 => .boolean
  | 3 => .int
  | 4 => .int
  | 5 => .int
  | 6 => .int
  | 7 => .boolean
  | 8 => .int
  | _ => .boolean
theorem nmX3 : ∀ a, a < 10 → ∀ b, b < 10 → a ≠ b → (TX3 a).2.1 ≠ (TX3 b).2.1 := by decide +kernel
theorem tyX3_ok : ∀ k, k < 10 → parseFieldDescriptor (TX3 k).2.2.1 = some (tyX3 k) := by decide +kernel
def RX4 : String := "PensionSections$Reader"
def TX4 : u_T := fun k => match k with
  | 0 => ("PensionSections$Reader", "state", "I", false)
  | 1 => ("PensionSections$Reader", "pay", "I", false)
  | 2 => ("PensionSections$Reader", "section", "I", false)
  | 3 => ("PensionSections$Reader", "years", "I", false)
  | _ => ("PensionSections$Reader", "amount", "I", false)
def tyX4 : Nat → FieldType := fun k => match k with
  | 0 => .int
  | 1 => .int
  | 2 => .int
  | 3 => .int
  | _ => .int
theorem nmX4 : ∀ a, a < 5 → ∀ b, b < 5 → a ≠ b → (TX4 a).2.1 ≠ (TX4 b).2.1 := by decide +kernel
theorem tyX4_ok : ∀ k, k < 5 → parseFieldDescriptor (TX4 k).2.2.1 = some (tyX4 k) := by decide +kernel
def RX5 : String := "PensionSections$Scheme"
def TX5 : u_T := fun k => match k with
  | 0 => ("PensionSections$Scheme", "settings", "[I", true)
  | 1 => ("PensionSections$Scheme", "rates", "[I", true)
  | 2 => ("PensionSections$Scheme", "shares", "[I", true)
  | 3 => ("PensionSections$Scheme", "isClosed", "[Z", true)
  | 4 => ("PensionSections$Scheme", "rows", "[LPensionSections$Member;", true)
  | 5 => ("PensionSections$Scheme", "sums", "[J", true)
  | 6 => ("PensionSections$Scheme", "nextNumber", "I", false)
  | 7 => ("PensionSections$Scheme", "gone", "I", false)
  | 8 => ("PensionSections$Scheme", "fund", "J", false)
  | 9 => ("PensionSections$Scheme", "lapsed", "I", false)
  | _ => ("PensionSections$Scheme", "retiredEarly", "I", false)
def tyX5 : Nat → FieldType := fun k => match k with
  | 0 => .array .int
  | 1 => .array .int
  | 2 => .array .int
  | 3 => .array .boolean
  | 4 => .array (.object "PensionSections$Member")
  | 5 => .array .long
  | 6 => .int
  | 7 => .int
  | 8 => .long
  | 9 => .int
  | _ => .int
theorem nmX5 : ∀ a, a < 11 → ∀ b, b < 11 → a ≠ b → (TX5 a).2.1 ≠ (TX5 b).2.1 := by decide +kernel
theorem tyX5_ok : ∀ k, k < 11 → parseFieldDescriptor (TX5 k).2.2.1 = some (tyX5 k) := by decide +kernel
def RX6 : String := "PensionSections"
def TX6 : u_T := fun k => match k with
  | 0 => ("PensionSections", "now", "LPensionSections$Scheme;", true)
  | 1 => ("PensionSections", "trial", "LPensionSections$Scheme;", true)
  | 2 => ("PensionSections", "history", "LPensionSections$History;", true)
  | 3 => ("PensionSections", "buffer", "LPensionSections$Buffer;", true)
  | _ => ("PensionSections", "reader", "LPensionSections$Reader;", true)
def tyX6 : Nat → FieldType := fun k => match k with
  | 0 => .object "PensionSections$Scheme"
  | 1 => .object "PensionSections$Scheme"
  | 2 => .object "PensionSections$History"
  | 3 => .object "PensionSections$Buffer"
  | _ => .object "PensionSections$Reader"
theorem nmX6 : ∀ a, a < 5 → ∀ b, b < 5 → a ≠ b → (TX6 a).2.1 ≠ (TX6 b).2.1 := by decide +kernel
theorem tyX6_ok : ∀ k, k < 5 → parseFieldDescriptor (TX6 k).2.2.1 = some (tyX6 k) := by decide +kernel
def RX7 : String := "PensionSectionsModel"
def TX7 : u_T := fun k => match k with
  | 0 => ("PensionSectionsModel", "thrown", "I", false)
  | 1 => ("PensionSectionsModel", "s", "[I", true)
  | 2 => ("PensionSectionsModel", "aside", "[I", true)
  | 3 => ("PensionSectionsModel", "saved", "[I", true)
  | 4 => ("PensionSectionsModel", "sums", "[J", true)
  | 5 => ("PensionSectionsModel", "sumsAside", "[J", true)
  | 6 => ("PensionSectionsModel", "sumsSaved", "[J", true)
  | 7 => ("PensionSectionsModel", "savedMany", "I", false)
  | 8 => ("PensionSectionsModel", "text", "[I", true)
  | 9 => ("PensionSectionsModel", "length", "I", false)
  | 10 => ("PensionSectionsModel", "at", "I", false)
  | 11 => ("PensionSectionsModel", "isWrong", "Z", false)
  | 12 => ("PensionSectionsModel", "toldPay", "I", false)
  | 13 => ("PensionSectionsModel", "toldSection", "I", false)
  | 14 => ("PensionSectionsModel", "toldAge", "I", false)
  | 15 => ("PensionSectionsModel", "toldAmount", "I", false)
  | _ => ("PensionSectionsModel", "digested", "J", false)
def tyX7 : Nat → FieldType := fun k => match k with
  | 0 => .int
  | 1 => .array .int
  | 2 => .array .int
  | 3 => .array .int
  | 4 => .array .long
  | 5 => .array .long
  | 6 => .array .long
  | 7 => .int
  | 8 => .array .int
  | 9 => .int
  | 10 => .int
  | 11 => .boolean
  | 12 => .int
  | 13 => .int
  | 14 => .int
  | 15 => .int
  | _ => .long
theorem nmX7 : ∀ a, a < 17 → ∀ b, b < 17 → a ≠ b → (TX7 a).2.1 ≠ (TX7 b).2.1 := by decide +kernel
theorem tyX7_ok : ∀ k, k < 17 → parseFieldDescriptor (TX7 k).2.2.1 = some (tyX7 k) := by decide +kernel
abbrev xcl : List vw_C := [(RX0, TX0, 2), (RX1, TX1, 3), (RX2, TX2, 5), (RX3, TX3, 10), (RX4, TX4, 5), (RX5, TX5, 11), (RX6, TX6, 5), (RX7, TX7, 17)]
def xcn (i : Nat) : String := (["PensionSections$Buffer", "PensionSections$History", "PensionSections$LateMonths", "PensionSections$Member", "PensionSections$Reader", "PensionSections$Scheme", "PensionSections", "PensionSectionsModel", "PensionSectionsLaw", "java/lang/Math"] : List String).getD i ""
abbrev xEnt : Type := Nat × String × String × ByteArray × Nat × Option FieldType × Option (List (Nat × Nat × Nat × Nat)) × Nat × Nat × Nat
def xe0 : xEnt := (0, "<init>", "()V", prog_2_method_1_code, 1, none, none, 1, 24, 2)
def xe1 : xEnt := (0, "isFull", "()Z", prog_2_method_2_code, 1, (some .boolean), none, 0, 0, 1)
def xe2 : xEnt := (0, "add", "(I)V", prog_2_method_3_code, 2, none, none, 0, 0, 1)
def xe3 : xEnt := (0, "codeAt", "(I)I", prog_2_method_4_code, 2, (some .int), none, 0, 0, 1)
def xe4 : xEnt := (1, "<init>", "()V", prog_3_method_1_code, 2, none, none, 4, 85, 2)
def xe5 : xEnt := (1, "save", "(LPensionSections$Scheme;)V", prog_3_method_2_code, 2, none, none, 4, 104, 1)
def xe6 : xEnt := (1, "restore", "(LPensionSections$Scheme;)V", prog_3_method_3_code, 2, none, none, 4, 104, 1)
def xe7 : xEnt := (2, "<init>", "()V", prog_4_method_1_code, 1, none, none, 1, 24, 2)
def xe8 : xEnt := (2, "slot", "(I)I", prog_4_method_2_code, 2, (some .int), none, 1, 22, 1)
def xe9 : xEnt := (2, "monthAt", "(I)I", prog_4_method_3_code, 2, (some .int), none, 2, 43, 1)
def xe10 : xEnt := (2, "dueAt", "(I)I", prog_4_method_4_code, 2, (some .int), none, 2, 43, 1)
def xe11 : xEnt := (2, "sectionAt", "(I)I", prog_4_method_5_code, 2, (some .int), none, 2, 43, 1)
def xe12 : xEnt := (2, "costAt", "(III)I", prog_4_method_6_code, 6, (some .int), none, 2, 43, 1)
def xe13 : xEnt := (2, "costOfAll", "(II)I", prog_4_method_7_code, 5, (some .int), none, 3, 68, 1)
def xe14 : xEnt := (2, "dueIn", "(I)I", prog_4_method_8_code, 4, (some .int), none, 3, 64, 1)
def xe15 : xEnt := (2, "add", "(III)V", prog_4_method_9_code, 5, none, none, 2, 43, 1)
def xe16 : xEnt := (2, "dropFirst", "()V", prog_4_method_10_code, 1, none, none, 2, 43, 1)
def xe17 : xEnt := (2, "dropUpTo", "(I)I", prog_4_method_11_code, 4, (some .int), none, 2, 43, 1)
def xe18 : xEnt := (2, "clear", "()V", prog_4_method_12_code, 1, none, none, 0, 0, 1)
def xe19 : xEnt := (2, "copyFrom", "(LPensionSections$LateMonths;)V", prog_4_method_13_code, 2, none, none, 1, 40, 1)
def xe20 : xEnt := (3, "<init>", "()V", prog_5_method_1_code, 1, none, none, 2, 44, 2)
def xe21 : xEnt := (3, "start", "(IIII)V", prog_5_method_2_code, 6, none, none, 1, 20, 1)
def xe22 : xEnt := (3, "copyFrom", "(LPensionSections$Member;)V", prog_5_method_3_code, 2, none, none, 2, 61, 1)
def xe23 : xEnt := (3, "isActive", "()Z", prog_5_method_4_code, 1, (some .boolean), none, 0, 0, 1)
def xe24 : xEnt := (3, "serviceIn", "(I)I", prog_5_method_5_code, 2, (some .int), none, 1, 20, 1)
def xe25 : xEnt := (3, "serve", "(II)V", prog_5_method_6_code, 3, none, none, 1, 20, 1)
def xe26 : xEnt := (4, "<init>", "()V", prog_6_method_1_code, 1, none, none, 1, 24, 2)
def xe27 : xEnt := (4, "begin", "()V", prog_6_method_2_code, 1, none, none, 0, 0, 1)
def xe28 : xEnt := (4, "isComplete", "()Z", prog_6_method_3_code, 1, (some .boolean), none, 0, 0, 1)
def xe29 : xEnt := (4, "take", "(I)Z", prog_6_method_4_code, 3, (some .boolean), none, 1, 21, 1)
def xe30 : xEnt := (4, "goesTo", "(I)Z", prog_6_method_5_code, 2, (some .boolean), none, 0, 0, 1)
def xe31 : xEnt := (4, "takesPayDigit", "(I)Z", prog_6_method_6_code, 2, (some .boolean), none, 0, 0, 1)
def xe32 : xEnt := (4, "takesAmountDigit", "(I)Z", prog_6_method_7_code, 2, (some .boolean), none, 0, 0, 1)
def xe33 : xEnt := (5, "<init>", "()V", prog_7_method_1_code, 2, none, none, 3, 64, 2)
def xe34 : xEnt := (5, "copyFrom", "(LPensionSections$Scheme;)V", prog_7_method_2_code, 3, none, none, 3, 82, 1)
def xe35 : xEnt := (5, "find", "(I)LPensionSections$Member;", prog_7_method_3_code, 6, (some (.object "PensionSections$Member")), none, 0, 0, 1)
def xe36 : xEnt := (5, "memberAt", "(I)LPensionSections$Member;", prog_7_method_4_code, 3, (some (.object "PensionSections$Member")), none, 0, 0, 1)
def xe37 : xEnt := (5, "freeRow", "()LPensionSections$Member;", prog_7_method_5_code, 5, (some (.object "PensionSections$Member")), none, 0, 0, 1)
def xe38 : xEnt := (5, "isShut", "(I)Z", prog_7_method_6_code, 2, (some .boolean), none, 1, 20, 1)
def xe39 : xEnt := (5, "hasRoomFor", "(I)Z", prog_7_method_7_code, 2, (some .boolean), none, 0, 0, 1)
def xe40 : xEnt := (5, "takeIn", "(LPensionSections$Member;III)V", prog_7_method_8_code, 5, none, none, 2, 45, 1)
def xe41 : xEnt := (5, "letGo", "(LPensionSections$Member;)I", prog_7_method_9_code, 4, (some .int), none, 1, 24, 1)
def xe42 : xEnt := (5, "contributionsOf", "(LPensionSections$Member;)J", prog_7_method_10_code, 5, (some .long), none, 0, 0, 1)
def xe43 : xEnt := (5, "moveBehindAll", "(LPensionSections$Member;)V", prog_7_method_11_code, 3, none, none, 0, 0, 1)
def xe44 : xEnt := (5, "takeForLate", "(LPensionSections$Member;I)I", prog_7_method_12_code, 7, (some .int), none, 3, 68, 1)
def xe45 : xEnt := (5, "monthsFor", "(LPensionSections$Member;I)I", prog_7_method_13_code, 4, (some .int), none, 0, 0, 1)
def xe46 : xEnt := (5, "refusesTransfer", "(LPensionSections$Member;I)Z", prog_7_method_14_code, 4, (some .boolean), none, 2, 41, 1)
def xe47 : xEnt := (5, "takeTransfer", "(LPensionSections$Member;I)I", prog_7_method_15_code, 4, (some .int), none, 2, 42, 1)
def xe48 : xEnt := (5, "monthsToRetiring", "(LPensionSections$Member;)I", prog_7_method_16_code, 3, (some .int), none, 0, 0, 1)
def xe49 : xEnt := (5, "putToRest", "(LPensionSections$Member;)V", prog_7_method_17_code, 2, none, none, 2, 57, 1)
def xe50 : xEnt := (5, "pensionBehind", "(LPensionSections$Member;II)I", prog_7_method_18_code, 9, (some .int), none, 1, 29, 1)
def xe51 : xEnt := (5, "wholePension", "(LPensionSections$Member;II)J", prog_7_method_19_code, 10, (some .long), none, 0, 0, 1)
def xe52 : xEnt := (5, "bestFor", "(LPensionSections$Member;)I", prog_7_method_20_code, 7, (some .int), none, 2, 57, 1)
def xe53 : xEnt := (5, "passMonths", "(I)I", prog_7_method_21_code, 4, (some .int), none, 5, 124, 1)
def xe54 : xEnt := (5, "passMonth", "()I", prog_7_method_22_code, 2, (some .int), none, 4, 103, 1)
def xe55 : xEnt := (5, "collectDues", "()V", prog_7_method_23_code, 6, none, none, 3, 67, 1)
def xe56 : xEnt := (5, "dueOf", "(LPensionSections$Member;)I", prog_7_method_24_code, 3, (some .int), none, 1, 20, 1)
def xe57 : xEnt := (5, "lapseLate", "()V", prog_7_method_25_code, 6, none, none, 3, 66, 1)
def xe58 : xEnt := (5, "payPensions", "()V", prog_7_method_26_code, 5, none, none, 0, 0, 1)
def xe59 : xEnt := (5, "growOlder", "()I", prog_7_method_27_code, 6, (some .int), none, 3, 78, 1)
def xe60 : xEnt := (5, "members", "()I", prog_7_method_28_code, 6, (some .int), none, 1, 20, 1)
def xe61 : xEnt := (5, "retired", "()I", prog_7_method_29_code, 6, (some .int), none, 1, 20, 1)
def xe62 : xEnt := (5, "lateOfAll", "()I", prog_7_method_30_code, 6, (some .int), none, 0, 0, 1)
def xe63 : xEnt := (5, "activeIn", "(I)I", prog_7_method_31_code, 7, (some .int), none, 1, 20, 1)
def xe64 : xEnt := (5, "serviceIn", "(I)I", prog_7_method_32_code, 7, (some .int), none, 2, 41, 1)
def xe65 : xEnt := (5, "lateIn", "(I)I", prog_7_method_33_code, 7, (some .int), none, 4, 87, 1)
def xe66 : xEnt := (5, "valueOf", "(LPensionSections$Member;I)I", prog_7_method_34_code, 3, (some .int), none, 4, 92, 1)
def xe67 : xEnt := (6, "<init>", "()V", prog_1_method_1_code, 1, none, none, 5, 106, 2)
def xe68 : xEnt := (6, "section", "(III)I", prog_1_method_2_code, 5, (some .int), none, 7, 125, 1)
def xe69 : xEnt := (6, "close", "(IZ)I", prog_1_method_3_code, 4, (some .int), none, 7, 125, 1)
def xe70 : xEnt := (6, "join", "(III)I", prog_1_method_4_code, 5, (some .int), none, 7, 125, 1)
def xe71 : xEnt := (6, "leave", "(I)I", prog_1_method_5_code, 3, (some .int), none, 7, 125, 1)
def xe72 : xEnt := (6, "pay", "(II)I", prog_1_method_6_code, 5, (some .int), none, 7, 125, 1)
def xe73 : xEnt := (6, "change", "(II)I", prog_1_method_7_code, 5, (some .int), none, 7, 125, 1)
def xe74 : xEnt := (6, "fallBehind", "(IZ)I", prog_1_method_8_code, 5, (some .int), none, 7, 125, 1)
def xe75 : xEnt := (6, "payLate", "(II)I", prog_1_method_9_code, 4, (some .int), none, 7, 125, 1)
def xe76 : xEnt := (6, "transfer", "(II)I", prog_1_method_10_code, 4, (some .int), none, 7, 125, 1)
def xe77 : xEnt := (6, "retire", "(I)I", prog_1_method_11_code, 4, (some .int), none, 7, 125, 1)
def xe78 : xEnt := (6, "set", "(II)I", prog_1_method_12_code, 4, (some .int), none, 7, 125, 1)
def xe79 : xEnt := (6, "pass", "(I)I", prog_1_method_13_code, 2, (some .int), none, 7, 147, 1)
def xe80 : xEnt := (6, "append", "(I)I", prog_1_method_14_code, 2, (some .int), none, 7, 120, 1)
def xe81 : xEnt := (6, "clearBuffer", "()I", prog_1_method_15_code, 2, (some .int), none, 0, 0, 1)
def xe82 : xEnt := (6, "firstError", "()I", prog_1_method_16_code, 2, (some .int), none, 2, 43, 1)
def xe83 : xEnt := (6, "joinAll", "()I", prog_1_method_17_code, 1, (some .int), none, 7, 125, 1)
def xe84 : xEnt := (6, "undo", "()I", prog_1_method_18_code, 1, (some .int), none, 7, 125, 1)
def xe85 : xEnt := (6, "sectionOf", "(II)I", prog_1_method_19_code, 3, (some .int), none, 7, 120, 1)
def xe86 : xEnt := (6, "member", "(II)I", prog_1_method_20_code, 4, (some .int), none, 7, 120, 1)
def xe87 : xEnt := (6, "late", "(III)I", prog_1_method_21_code, 5, (some .int), none, 7, 120, 1)
def xe88 : xEnt := (6, "count", "(I)I", prog_1_method_22_code, 2, (some .int), none, 7, 120, 1)
def xe89 : xEnt := (6, "sum", "(I)J", prog_1_method_23_code, 2, (some .long), none, 7, 120, 1)
def xe90 : xEnt := (6, "setting", "(I)I", prog_1_method_24_code, 2, (some .int), none, 7, 120, 1)
def xe91 : xEnt := (6, "ifPassed", "(II)J", prog_1_method_25_code, 4, (some .long), none, 7, 147, 1)
def xe92 : xEnt := (6, "pensionIn", "(II)I", prog_1_method_26_code, 4, (some .int), none, 7, 120, 1)
def xe93 : xEnt := (6, "bestSection", "(I)I", prog_1_method_27_code, 3, (some .int), none, 7, 120, 1)
def xe94 : xEnt := (6, "fundLasts", "()I", prog_1_method_28_code, 2, (some .int), none, 5, 124, 1)
def xe95 : xEnt := (6, "inTime", "()D", prog_1_method_29_code, 3, (some .double), none, 0, 0, 1)
def xe96 : xEnt := (6, "digest", "()J", prog_1_method_30_code, 5, (some .long), none, 8, 147, 1)
def xe97 : xEnt := (6, "mixedMembers", "(J)J", prog_1_method_31_code, 10, (some .long), none, 5, 114, 1)
def xe98 : xEnt := (6, "mixedLate", "(JLPensionSections$LateMonths;)J", prog_1_method_32_code, 7, (some .long), none, 3, 68, 1)
def xe99 : xEnt := (6, "mixed", "(JJ)J", prog_1_method_33_code, 4, (some .long), none, 0, 0, 0)
def xe100 : xEnt := (6, "bitsOf", "(D)J", prog_1_method_34_code, 6, (some .long), none, 0, 0, 0)
def xe101 : xEnt := (6, "triedValue", "(II)J", prog_1_method_35_code, 3, (some .long), none, 0, 0, 1)
def xe102 : xEnt := (6, "triesAllParts", "()Z", prog_1_method_36_code, 3, (some .boolean), none, 4, 90, 1)
def xe103 : xEnt := (6, "triesPart", "()Z", prog_1_method_37_code, 2, (some .boolean), none, 3, 69, 1)
def xe104 : xEnt := (6, "isWithin", "(III)Z", prog_1_method_38_code, 3, (some .boolean), none, 0, 0, 0)
def xe105 : xEnt := (6, "isSection", "(I)Z", prog_1_method_39_code, 1, (some .boolean), none, 0, 0, 0)
def xe106 : xEnt := (6, "isSetting", "(I)Z", prog_1_method_40_code, 1, (some .boolean), none, 0, 0, 0)
def xe107 : xEnt := (6, "asNumber", "(Z)I", prog_1_method_41_code, 1, (some .int), none, 0, 0, 0)
def xe108 : xEnt := (7, "<init>", "()V", prog_9_method_1_code, 2, none, none, 1, 24, 2)
def xe109 : xEnt := (7, "thrown", "()I", prog_9_method_2_code, 1, (some .int), none, 0, 0, 1)
def xe110 : xEnt := (7, "in", "(III)Z", prog_9_method_3_code, 3, (some .boolean), none, 0, 0, 0)
def xe111 : xEnt := (7, "isSection", "(I)Z", prog_9_method_4_code, 1, (some .boolean), none, 1, 22, 0)
def xe112 : xEnt := (7, "of", "(II)I", prog_9_method_5_code, 2, (some .int), none, 0, 0, 0)
def xe113 : xEnt := (7, "placeOf", "(I)I", prog_9_method_6_code, 3, (some .int), none, 1, 21, 1)
def xe114 : xEnt := (7, "holds", "(I)Z", prog_9_method_7_code, 2, (some .boolean), none, 0, 0, 1)
def xe115 : xEnt := (7, "save", "()V", prog_9_method_8_code, 2, none, none, 0, 0, 1)
def xe116 : xEnt := (7, "putAside", "()V", prog_9_method_9_code, 2, none, none, 0, 0, 1)
def xe117 : xEnt := (7, "putBack", "()V", prog_9_method_10_code, 2, none, none, 0, 0, 1)
def xe118 : xEnt := (7, "rate", "(I)I", prog_9_method_11_code, 2, (some .int), none, 0, 0, 1)
def xe119 : xEnt := (7, "isClosed", "(I)Z", prog_9_method_12_code, 2, (some .boolean), none, 0, 0, 1)
def xe120 : xEnt := (7, "dueMonth", "(II)I", prog_9_method_13_code, 3, (some .int), none, 1, 21, 1)
def xe121 : xEnt := (7, "dueSection", "(II)I", prog_9_method_14_code, 3, (some .int), none, 1, 21, 1)
def xe122 : xEnt := (7, "due", "(II)I", prog_9_method_15_code, 3, (some .int), none, 1, 21, 1)
def xe123 : xEnt := (7, "costs", "(II)I", prog_9_method_16_code, 4, (some .int), none, 2, 43, 1)
def xe124 : xEnt := (7, "dropLate", "(II)V", prog_9_method_17_code, 4, none, none, 1, 21, 1)
def xe125 : xEnt := (7, "pensionBy", "(IIII)I", prog_9_method_18_code, 8, (some .int), none, 1, 21, 1)
def xe126 : xEnt := (7, "early", "(I)I", prog_9_method_19_code, 2, (some .int), none, 1, 21, 1)
def xe127 : xEnt := (7, "retires", "(II)V", prog_9_method_20_code, 3, none, none, 2, 48, 1)
def xe128 : xEnt := (7, "contribute", "(I)V", prog_9_method_21_code, 4, none, none, 1, 21, 1)
def xe129 : xEnt := (7, "lapse", "(I)V", prog_9_method_22_code, 2, none, none, 2, 44, 1)
def xe130 : xEnt := (7, "payOut", "(I)V", prog_9_method_23_code, 4, none, none, 1, 21, 1)
def xe131 : xEnt := (7, "goOn", "()I", prog_9_method_24_code, 3, (some .int), none, 3, 70, 1)
def xe132 : xEnt := (7, "section", "(III)I", prog_9_method_25_code, 5, (some .int), none, 2, 42, 1)
def xe133 : xEnt := (7, "close", "(IZ)I", prog_9_method_26_code, 4, (some .int), none, 2, 42, 1)
def xe134 : xEnt := (7, "canJoin", "(I)Z", prog_9_method_27_code, 2, (some .boolean), none, 1, 21, 1)
def xe135 : xEnt := (7, "joins", "(III)I", prog_9_method_28_code, 6, (some .int), none, 1, 21, 1)
def xe136 : xEnt := (7, "join", "(III)I", prog_9_method_29_code, 4, (some .int), none, 2, 46, 1)
def xe137 : xEnt := (7, "leave", "(I)I", prog_9_method_30_code, 7, (some .int), none, 2, 43, 1)
def xe138 : xEnt := (7, "isRetired", "(I)Z", prog_9_method_31_code, 2, (some .boolean), none, 1, 21, 1)
def xe139 : xEnt := (7, "pay", "(II)I", prog_9_method_32_code, 5, (some .int), none, 2, 43, 1)
def xe140 : xEnt := (7, "change", "(II)I", prog_9_method_33_code, 5, (some .int), none, 2, 43, 1)
def xe141 : xEnt := (7, "fallBehind", "(IZ)I", prog_9_method_34_code, 5, (some .int), none, 2, 43, 1)
def xe142 : xEnt := (7, "payLate", "(II)I", prog_9_method_35_code, 7, (some .int), none, 3, 66, 1)
def xe143 : xEnt := (7, "canTransfer", "(II)Z", prog_9_method_36_code, 5, (some .boolean), none, 2, 42, 1)
def xe144 : xEnt := (7, "transfers", "(II)I", prog_9_method_37_code, 4, (some .int), none, 1, 21, 1)
def xe145 : xEnt := (7, "transfer", "(II)I", prog_9_method_38_code, 5, (some .int), none, 3, 66, 1)
def xe146 : xEnt := (7, "retire", "(I)I", prog_9_method_39_code, 3, (some .int), none, 3, 70, 1)
def xe147 : xEnt := (7, "set", "(II)I", prog_9_method_40_code, 6, (some .int), none, 1, 22, 1)
def xe148 : xEnt := (7, "passes", "(I)I", prog_9_method_41_code, 4, (some .int), none, 4, 92, 1)
def xe149 : xEnt := (7, "pass", "(I)I", prog_9_method_42_code, 2, (some .int), none, 5, 115, 1)
def xe150 : xEnt := (7, "append", "(I)I", prog_9_method_43_code, 2, (some .int), none, 1, 22, 1)
def xe151 : xEnt := (7, "clearBuffer", "()I", prog_9_method_44_code, 2, (some .int), none, 0, 0, 1)
def xe152 : xEnt := (7, "sign", "(II)I", prog_9_method_45_code, 4, (some .int), none, 1, 22, 1)
def xe153 : xEnt := (7, "isNext", "(II)Z", prog_9_method_46_code, 3, (some .boolean), none, 1, 22, 1)
def xe154 : xEnt := (7, "number", "(I)I", prog_9_method_47_code, 4, (some .int), none, 2, 45, 1)
def xe155 : xEnt := (7, "part", "()V", prog_9_method_48_code, 6, none, none, 3, 68, 1)
def xe156 : xEnt := (7, "go", "(Z)Z", prog_9_method_49_code, 4, (some .boolean), none, 4, 93, 1)
def xe157 : xEnt := (7, "takes", "()Z", prog_9_method_50_code, 4, (some .boolean), none, 3, 66, 1)
def xe158 : xEnt := (7, "firstError", "()I", prog_9_method_51_code, 2, (some .int), none, 5, 116, 1)
def xe159 : xEnt := (7, "joinAll", "()I", prog_9_method_52_code, 2, (some .int), none, 5, 116, 1)
def xe160 : xEnt := (7, "undo", "()I", prog_9_method_53_code, 2, (some .int), none, 1, 21, 1)
def xe161 : xEnt := (7, "ofSection", "(II)I", prog_9_method_54_code, 6, (some .int), none, 2, 43, 1)
def xe162 : xEnt := (7, "sectionOf", "(II)I", prog_9_method_55_code, 3, (some .int), none, 3, 68, 1)
def xe163 : xEnt := (7, "allCosts", "(I)I", prog_9_method_56_code, 4, (some .int), none, 3, 66, 1)
def xe164 : xEnt := (7, "memberAt", "(II)I", prog_9_method_57_code, 3, (some .int), none, 4, 89, 1)
def xe165 : xEnt := (7, "member", "(II)I", prog_9_method_58_code, 3, (some .int), none, 5, 111, 1)
def xe166 : xEnt := (7, "lateAt", "(III)I", prog_9_method_59_code, 4, (some .int), none, 3, 66, 1)
def xe167 : xEnt := (7, "late", "(III)I", prog_9_method_60_code, 5, (some .int), none, 4, 89, 1)
def xe168 : xEnt := (7, "counted", "(I)I", prog_9_method_61_code, 4, (some .int), none, 1, 21, 1)
def xe169 : xEnt := (7, "count", "(I)I", prog_9_method_62_code, 2, (some .int), none, 2, 44, 1)
def xe170 : xEnt := (7, "sum", "(I)J", prog_9_method_63_code, 2, (some .long), none, 1, 22, 1)
def xe171 : xEnt := (7, "setting", "(I)I", prog_9_method_64_code, 2, (some .int), none, 1, 22, 1)
def xe172 : xEnt := (7, "wouldPass", "(II)J", prog_9_method_65_code, 6, (some .long), none, 5, 115, 1)
def xe173 : xEnt := (7, "ifPassed", "(II)J", prog_9_method_66_code, 3, (some .long), none, 6, 140, 1)
def xe174 : xEnt := (7, "pensionBehind", "(III)I", prog_9_method_67_code, 8, (some .int), none, 2, 48, 1)
def xe175 : xEnt := (7, "pensionIn", "(II)I", prog_9_method_68_code, 4, (some .int), none, 3, 75, 1)
def xe176 : xEnt := (7, "best", "(I)I", prog_9_method_69_code, 7, (some .int), none, 3, 75, 1)
def xe177 : xEnt := (7, "bestSection", "(I)I", prog_9_method_70_code, 3, (some .int), none, 4, 101, 1)
def xe178 : xEnt := (7, "lasts", "()I", prog_9_method_71_code, 4, (some .int), none, 4, 92, 1)
def xe179 : xEnt := (7, "fundLasts", "()I", prog_9_method_72_code, 1, (some .int), none, 5, 115, 1)
def xe180 : xEnt := (7, "share", "()D", prog_9_method_73_code, 3, (some .double), none, 0, 0, 1)
def xe181 : xEnt := (7, "inTime", "()D", prog_9_method_74_code, 1, (some .double), none, 1, 22, 1)
def xe182 : xEnt := (7, "bitsOf", "(D)J", prog_9_method_75_code, 6, (some .long), none, 0, 0, 0)
def xe183 : xEnt := (7, "digestOne", "(J)V", prog_9_method_76_code, 3, none, none, 0, 0, 1)
def xe184 : xEnt := (7, "digest", "()J", prog_9_method_77_code, 4, (some .long), none, 6, 140, 1)
def xe185 : xEnt := (8, "section", "(LPensionSections;III[J)I", method_3_code, 6, (some .int), (some [(0, 12, 15, 13), (0, 12, 19, 15)]), 8, 149, 0)
def xe186 : xEnt := (8, "close", "(LPensionSections;IZ[J)I", method_4_code, 5, (some .int), (some [(0, 10, 13, 13)]), 8, 148, 0)
def xe187 : xEnt := (8, "join", "(LPensionSections;III[J)I", method_5_code, 6, (some .int), (some [(0, 12, 15, 13), (0, 12, 19, 15), (0, 12, 23, 24)]), 8, 149, 0)
def xe188 : xEnt := (8, "leave", "(LPensionSections;I[J)I", method_6_code, 4, (some .int), (some [(0, 9, 12, 13)]), 8, 147, 0)
def xe189 : xEnt := (8, "pay", "(LPensionSections;II[J)I", method_7_code, 5, (some .int), (some [(0, 10, 13, 13), (0, 10, 17, 15), (0, 10, 21, 24)]), 8, 149, 0)
def xe190 : xEnt := (8, "change", "(LPensionSections;II[J)I", method_8_code, 5, (some .int), (some [(0, 10, 13, 13), (0, 10, 17, 24)]), 8, 149, 0)
def xe191 : xEnt := (8, "fallBehind", "(LPensionSections;IZ[J)I", method_9_code, 5, (some .int), (some [(0, 10, 13, 13)]), 8, 149, 0)
def xe192 : xEnt := (8, "payLate", "(LPensionSections;II[J)I", method_10_code, 5, (some .int), (some [(0, 10, 13, 13), (0, 10, 17, 15), (0, 10, 21, 24)]), 8, 148, 0)
def xe193 : xEnt := (8, "transfer", "(LPensionSections;II[J)I", method_11_code, 5, (some .int), (some [(0, 10, 13, 13), (0, 10, 17, 15), (0, 10, 21, 24)]), 8, 148, 0)
def xe194 : xEnt := (8, "retire", "(LPensionSections;I[J)I", method_12_code, 4, (some .int), (some [(0, 9, 12, 13), (0, 9, 15, 24)]), 8, 148, 0)
def xe195 : xEnt := (8, "set", "(LPensionSections;II[J)I", method_13_code, 5, (some .int), (some [(0, 10, 13, 13), (0, 10, 17, 15)]), 8, 148, 0)
def xe196 : xEnt := (8, "pass", "(LPensionSections;I[J)I", method_14_code, 4, (some .int), (some [(0, 9, 12, 15), (0, 9, 15, 24)]), 8, 168, 0)
def xe197 : xEnt := (8, "append", "(LPensionSections;I[J)I", method_15_code, 4, (some .int), (some [(0, 9, 12, 15), (0, 9, 15, 24)]), 8, 141, 0)
def xe198 : xEnt := (8, "joinAll", "(LPensionSections;[J)I", method_16_code, 3, (some .int), (some [(0, 8, 11, 15), (0, 8, 14, 24)]), 8, 145, 0)
def xe199 : xEnt := (8, "undo", "(LPensionSections;[J)I", method_17_code, 3, (some .int), (some [(0, 8, 11, 24)]), 8, 145, 0)
def xe200 : xEnt := (8, "sectionOf", "(LPensionSections;II[J)I", method_18_code, 5, (some .int), (some [(0, 10, 13, 13), (0, 10, 17, 15)]), 8, 142, 0)
def xe201 : xEnt := (8, "member", "(LPensionSections;II[J)I", method_19_code, 5, (some .int), (some [(0, 10, 13, 15)]), 8, 143, 0)
def xe202 : xEnt := (8, "late", "(LPensionSections;III[J)I", method_20_code, 6, (some .int), (some [(0, 12, 15, 13), (0, 12, 19, 15)]), 8, 144, 0)
def xe203 : xEnt := (8, "count", "(LPensionSections;I[J)I", method_21_code, 4, (some .int), (some [(0, 9, 12, 15)]), 8, 141, 0)
def xe204 : xEnt := (8, "sum", "(LPensionSections;I[J)I", method_22_code, 4, (some .int), (some [(0, 8, 11, 15)]), 8, 141, 0)
def xe205 : xEnt := (8, "setting", "(LPensionSections;I[J)I", method_23_code, 4, (some .int), (some [(0, 9, 12, 13)]), 8, 141, 0)
def xe206 : xEnt := (8, "ifPassed", "(LPensionSections;II[J)I", method_24_code, 5, (some .int), (some [(0, 9, 12, 15)]), 8, 170, 0)
def xe207 : xEnt := (8, "pensionIn", "(LPensionSections;II[J)I", method_25_code, 5, (some .int), (some [(0, 10, 13, 13), (0, 10, 17, 15)]), 8, 143, 0)
def xe208 : xEnt := (8, "bestSection", "(LPensionSections;I[J)I", method_26_code, 4, (some .int), (some [(0, 9, 12, 13)]), 8, 142, 0)
def xe209 : xEnt := (9, "floorMod", "(II)I", prog_14_method_50_code, 3, (some .int), none, 0, 0, 0)
def xe210 : xEnt := (9, "min", "(II)I", prog_14_method_69_code, 2, (some .int), none, 0, 0, 0)
def xe211 : xEnt := (9, "min", "(JJ)J", prog_14_method_70_code, 4, (some .long), none, 0, 0, 0)
def xe212 : xEnt := (8, "law", "([I)Z", code, 9, (some .boolean), none, 9, 194, 0)
def xTab : List xEnt := [xe0, xe1, xe2, xe3, xe4, xe5, xe6, xe7, xe8, xe9, xe10, xe11, xe12, xe13, xe14, xe15, xe16, xe17, xe18, xe19, xe20, xe21, xe22, xe23, xe24, xe25, xe26, xe27, xe28, xe29, xe30, xe31, xe32, xe33, xe34, xe35, xe36, xe37, xe38, xe39, xe40, xe41, xe42, xe43, xe44, xe45, xe46, xe47, xe48, xe49, xe50, xe51, xe52, xe53, xe54, xe55, xe56, xe57, xe58, xe59, xe60, xe61, xe62, xe63, xe64, xe65, xe66, xe67, xe68, xe69, xe70, xe71, xe72, xe73, xe74, xe75, xe76, xe77, xe78, xe79, xe80, xe81, xe82, xe83, xe84, xe85, xe86, xe87, xe88, xe89, xe90, xe91, xe92, xe93, xe94, xe95, xe96, xe97, xe98, xe99, xe100, xe101, xe102, xe103, xe104, xe105, xe106, xe107, xe108, xe109, xe110, xe111, xe112, xe113, xe114, xe115, xe116, xe117, xe118, xe119, xe120, xe121, xe122, xe123, xe124, xe125, xe126, xe127, xe128, xe129, xe130, xe131, xe132, xe133, xe134, xe135, xe136, xe137, xe138, xe139, xe140, xe141, xe142, xe143, xe144, xe145, xe146, xe147, xe148, xe149, xe150, xe151, xe152, xe153, xe154, xe155, xe156, xe157, xe158, xe159, xe160, xe161, xe162, xe163, xe164, xe165, xe166, xe167, xe168, xe169, xe170, xe171, xe172, xe173, xe174, xe175, xe176, xe177, xe178, xe179, xe180, xe181, xe182, xe183, xe184, xe185, xe186, xe187, xe188, xe189, xe190, xe191, xe192, xe193, xe194, xe195, xe196, xe197, xe198, xe199, xe200, xe201, xe202, xe203, xe204, xe205, xe206, xe207, xe208, xe209, xe210, xe211, xe212]
def xe (y : Nat) : xEnt := xTab.getD y (99, "", "", ByteArray.empty, 0, none, none, 0, 0, 9)
def xown (y : Nat) : Nat := (xe y).1
def xY (y : Nat) : MethodName := ⟨xcn (xe y).1, (xe y).2.1, (xe y).2.2.1⟩
def xB (y : Nat) : ByteArray := (xe y).2.2.2.1
def xL (y : Nat) : Nat := (xe y).2.2.2.2.1
def xT (y : Nat) : Option FieldType := (xe y).2.2.2.2.2.1
def xH (y : Nat) : Option (List (Nat × Nat × Nat × Nat)) := (xe y).2.2.2.2.2.2.1
def xF (y : Nat) : Nat := (xe y).2.2.2.2.2.2.2.1
def xO (y : Nat) : Nat := (xe y).2.2.2.2.2.2.2.2.1
def xQ (y : Nat) : Nat := (xe y).2.2.2.2.2.2.2.2.2
/-- the code's word of a method -/
def xC (y : Nat) : Cond := match xH y with
  | none => .code (xY y) (xB y) (xL y) (xT y)
  | some hh => .codeWith (xY y) (xB y) (xL y) (xT y) hh
/-- the words that any call of a method needs -/
def xCk (y : Nat) : List Cond := xC y :: Cond.initialized (xY y).cls :: (if xQ y = 0 then [Cond.static (xY y)] else if xQ y = 1 then [.instanceMethod (xY y), .selects (xY y).cls (xY y) (xY y)] else [.instanceMethod (xY y)])
def xLaw : Nat := 212
/-- words at their places among the tables' -/
def xAt (Ws : List Cond) : List Cond → List Nat → Bool
  | [], _ => true
  | w :: ws, i :: is => goodWord w && (decide (Ws[i]? = some w) && xAt Ws ws is)
  | _, _ => false
theorem xAt_ok {Ws : List Cond} : ∀ (ws : List Cond) (is : List Nat), xAt Ws ws is = true → ∀ w ∈ ws, goodWord w = true ∧ w ∈ Ws
  | [], _, _, w, hw => by cases hw
  | w0 :: ws, [], h, w, hw => by simp [xAt] at h
  | w0 :: ws, i :: is, h, w, hw => by
    simp only [xAt, Bool.and_eq_true, decide_eq_true_eq] at h
    rcases List.mem_cons.mp hw with e | e
    · subst e
      exact ⟨h.1, List.mem_of_getElem? h.2.1⟩
    · exact xAt_ok ws is h.2.2 w e
/-- words that aren't good ones -/
def xAs (Ws : List Cond) : List Cond → List Nat → Bool
  | [], _ => true
  | w :: ws, i :: is => decide (Ws[i]? = some w) && xAs Ws ws is
  | _, _ => false
theorem xAs_ok {Ws : List Cond} : ∀ (ws : List Cond) (is : List Nat), xAs Ws ws is = true → ∀ w ∈ ws, w ∈ Ws
  | [], _, _, w, hw => by cases hw
  | w0 :: ws, [], h, w, hw => by simp [xAs] at h
  | w0 :: ws, i :: is, h, w, hw => by
    simp only [xAs, Bool.and_eq_true, decide_eq_true_eq] at h
    rcases List.mem_cons.mp hw with e | e
    · subst e
      exact List.mem_of_getElem? h.1
    · exact xAs_ok ws is h.2 w e
theorem xCk_ok0 : xAt lw_tbl (xCk 0) [245, 67, 244] = true := by decide +kernel
theorem xCk_ok1 : xAt lw_tbl (xCk 1) [839, 67, 837, 838] = true := by decide +kernel
theorem xCk_ok2 : xAt lw_tbl (xCk 2) [844, 67, 842, 843] = true := by decide +kernel
theorem xCk_ok3 : xAt lw_tbl (xCk 3) [313, 67, 311, 312] = true := by decide +kernel
theorem xCk_ok4 : xAt lw_tbl (xCk 4) [225, 66, 224] = true := by decide +kernel
theorem xCk_ok5 : xAt lw_tbl (xCk 5) [643, 66, 641, 642] = true := by decide +kernel
theorem xCk_ok6 : xAt lw_tbl (xCk 6) [879, 66, 877, 878] = true := by decide +kernel
theorem xCk_ok7 : xAt lw_tbl (xCk 7) [105, 65, 104] = true := by decide +kernel
theorem xCk_ok8 : xAt lw_tbl (xCk 8) [378, 65, 377, 5] = true := by decide +kernel
theorem xCk_ok9 : xAt lw_tbl (xCk 9) [598, 65, 596, 597] = true := by decide +kernel
theorem xCk_ok10 : xAt lw_tbl (xCk 10) [602, 65, 600, 601] = true := by decide +kernel
theorem xCk_ok11 : xAt lw_tbl (xCk 11) [572, 65, 570, 571] = true := by decide +kernel
theorem xCk_ok12 : xAt lw_tbl (xCk 12) [590, 65, 588, 589] = true := by decide +kernel
theorem xCk_ok13 : xAt lw_tbl (xCk 13) [586, 65, 584, 585] = true := by decide +kernel
theorem xCk_ok14 : xAt lw_tbl (xCk 14) [568, 65, 566, 567] = true := by decide +kernel
theorem xCk_ok15 : xAt lw_tbl (xCk 15) [374, 65, 372, 373] = true := by decide +kernel
theorem xCk_ok16 : xAt lw_tbl (xCk 16) [767, 65, 765, 766] = true := by decide +kernel
theorem xCk_ok17 : xAt lw_tbl (xCk 17) [394, 65, 392, 393] = true := by decide +kernel
theorem xCk_ok18 : xAt lw_tbl (xCk 18) [426, 65, 424, 425] = true := by decide +kernel
theorem xCk_ok19 : xAt lw_tbl (xCk 19) [352, 65, 350, 351] = true := by decide +kernel
theorem xCk_ok20 : xAt lw_tbl (xCk 20) [99, 64, 98] = true := by decide +kernel
theorem xCk_ok21 : xAt lw_tbl (xCk 21) [689, 64, 687, 688] = true := by decide +kernel
theorem xCk_ok22 : xAt lw_tbl (xCk 22) [347, 64, 345, 346] = true := by decide +kernel
theorem xCk_ok23 : xAt lw_tbl (xCk 23) [365, 64, 363, 364] = true := by decide +kernel
theorem xCk_ok24 : xAt lw_tbl (xCk 24) [560, 64, 558, 559] = true := by decide +kernel
theorem xCk_ok25 : xAt lw_tbl (xCk 25) [385, 64, 383, 384] = true := by decide +kernel
theorem xCk_ok26 : xAt lw_tbl (xCk 26) [260, 68, 259] = true := by decide +kernel
theorem xCk_ok27 : xAt lw_tbl (xCk 27) [309, 68, 307, 308] = true := by decide +kernel
theorem xCk_ok28 : xAt lw_tbl (xCk 28) [856, 68, 854, 855] = true := by decide +kernel
theorem xCk_ok29 : xAt lw_tbl (xCk 29) [317, 68, 315, 316] = true := by decide +kernel
theorem xCk_ok30 : xAt lw_tbl (xCk 30) [321, 68, 320, 0] = true := by decide +kernel
theorem xCk_ok31 : xAt lw_tbl (xCk 31) [325, 68, 324, 1] = true := by decide +kernel
theorem xCk_ok32 : xAt lw_tbl (xCk 32) [332, 68, 331, 2] = true := by decide +kernel
theorem xCk_ok33 : xAt lw_tbl (xCk 33) [90, 63, 89] = true := by decide +kernel
theorem xCk_ok34 : xAt lw_tbl (xCk 34) [340, 63, 338, 339] = true := by decide +kernel
theorem xCk_ok35 : xAt lw_tbl (xCk 35) [701, 63, 699, 700] = true := by decide +kernel
theorem xCk_ok36 : xAt lw_tbl (xCk 36) [895, 63, 893, 894] = true := by decide +kernel
theorem xCk_ok37 : xAt lw_tbl (xCk 37) [665, 63, 663, 664] = true := by decide +kernel
theorem xCk_ok38 : xAt lw_tbl (xCk 38) [786, 63, 784, 785] = true := by decide +kernel
theorem xCk_ok39 : xAt lw_tbl (xCk 39) [755, 63, 753, 754] = true := by decide +kernel
theorem xCk_ok40 : xAt lw_tbl (xCk 40) [685, 63, 683, 684] = true := by decide +kernel
theorem xCk_ok41 : xAt lw_tbl (xCk 41) [706, 63, 704, 705] = true := by decide +kernel
theorem xCk_ok42 : xAt lw_tbl (xCk 42) [710, 63, 709, 14] = true := by decide +kernel
theorem xCk_ok43 : xAt lw_tbl (xCk 43) [717, 63, 716, 15] = true := by decide +kernel
theorem xCk_ok44 : xAt lw_tbl (xCk 44) [761, 63, 759, 760] = true := by decide +kernel
theorem xCk_ok45 : xAt lw_tbl (xCk 45) [782, 63, 781, 16] = true := by decide +kernel
theorem xCk_ok46 : xAt lw_tbl (xCk 46) [778, 63, 776, 777] = true := by decide +kernel
theorem xCk_ok47 : xAt lw_tbl (xCk 47) [792, 63, 790, 791] = true := by decide +kernel
theorem xCk_ok48 : xAt lw_tbl (xCk 48) [406, 63, 404, 405] = true := by decide +kernel
theorem xCk_ok49 : xAt lw_tbl (xCk 49) [410, 63, 408, 409] = true := by decide +kernel
theorem xCk_ok50 : xAt lw_tbl (xCk 50) [414, 63, 412, 413] = true := by decide +kernel
theorem xCk_ok51 : xAt lw_tbl (xCk 51) [421, 63, 420, 9] = true := by decide +kernel
theorem xCk_ok52 : xAt lw_tbl (xCk 52) [609, 63, 607, 608] = true := by decide +kernel
theorem xCk_ok53 : xAt lw_tbl (xCk 53) [613, 63, 611, 612] = true := by decide +kernel
theorem xCk_ok54 : xAt lw_tbl (xCk 54) [357, 63, 355, 356] = true := by decide +kernel
theorem xCk_ok55 : xAt lw_tbl (xCk 55) [361, 63, 360, 3] = true := by decide +kernel
theorem xCk_ok56 : xAt lw_tbl (xCk 56) [369, 63, 368, 4] = true := by decide +kernel
theorem xCk_ok57 : xAt lw_tbl (xCk 57) [390, 63, 389, 6] = true := by decide +kernel
theorem xCk_ok58 : xAt lw_tbl (xCk 58) [398, 63, 397, 7] = true := by decide +kernel
theorem xCk_ok59 : xAt lw_tbl (xCk 59) [402, 63, 401, 8] = true := by decide +kernel
theorem xCk_ok60 : xAt lw_tbl (xCk 60) [443, 63, 441, 442] = true := by decide +kernel
theorem xCk_ok61 : xAt lw_tbl (xCk 61) [450, 63, 448, 449] = true := by decide +kernel
theorem xCk_ok62 : xAt lw_tbl (xCk 62) [454, 63, 452, 453] = true := by decide +kernel
theorem xCk_ok63 : xAt lw_tbl (xCk 63) [552, 63, 550, 551] = true := by decide +kernel
theorem xCk_ok64 : xAt lw_tbl (xCk 64) [556, 63, 554, 555] = true := by decide +kernel
theorem xCk_ok65 : xAt lw_tbl (xCk 65) [564, 63, 562, 563] = true := by decide +kernel
theorem xCk_ok66 : xAt lw_tbl (xCk 66) [582, 63, 580, 581] = true := by decide +kernel
theorem xCk_ok67 : xAt lw_tbl (xCk 67) [82, 62, 81] = true := by decide +kernel
theorem xCk_ok68 : xAt lw_tbl (xCk 68) [635, 62, 633, 634] = true := by decide +kernel
theorem xCk_ok69 : xAt lw_tbl (xCk 69) [652, 62, 650, 651] = true := by decide +kernel
theorem xCk_ok70 : xAt lw_tbl (xCk 70) [660, 62, 658, 659] = true := by decide +kernel
theorem xCk_ok71 : xAt lw_tbl (xCk 71) [697, 62, 695, 696] = true := by decide +kernel
theorem xCk_ok72 : xAt lw_tbl (xCk 72) [724, 62, 722, 723] = true := by decide +kernel
theorem xCk_ok73 : xAt lw_tbl (xCk 73) [733, 62, 731, 732] = true := by decide +kernel
theorem xCk_ok74 : xAt lw_tbl (xCk 74) [742, 62, 740, 741] = true := by decide +kernel
theorem xCk_ok75 : xAt lw_tbl (xCk 75) [749, 62, 747, 748] = true := by decide +kernel
theorem xCk_ok76 : xAt lw_tbl (xCk 76) [774, 62, 772, 773] = true := by decide +kernel
theorem xCk_ok77 : xAt lw_tbl (xCk 77) [799, 62, 797, 798] = true := by decide +kernel
theorem xCk_ok78 : xAt lw_tbl (xCk 78) [809, 62, 807, 808] = true := by decide +kernel
theorem xCk_ok79 : xAt lw_tbl (xCk 79) [825, 62, 823, 824] = true := by decide +kernel
theorem xCk_ok80 : xAt lw_tbl (xCk 80) [834, 62, 832, 833] = true := by decide +kernel
theorem xCk_ok81 : xAt lw_tbl (xCk 81) [301, 62, 299, 300] = true := by decide +kernel
theorem xCk_ok82 : xAt lw_tbl (xCk 82) [305, 62, 303, 304] = true := by decide +kernel
theorem xCk_ok83 : xAt lw_tbl (xCk 83) [851, 62, 849, 850] = true := by decide +kernel
theorem xCk_ok84 : xAt lw_tbl (xCk 84) [874, 62, 872, 873] = true := by decide +kernel
theorem xCk_ok85 : xAt lw_tbl (xCk 85) [530, 62, 528, 529] = true := by decide +kernel
theorem xCk_ok86 : xAt lw_tbl (xCk 86) [890, 62, 888, 889] = true := by decide +kernel
theorem xCk_ok87 : xAt lw_tbl (xCk 87) [902, 62, 900, 901] = true := by decide +kernel
theorem xCk_ok88 : xAt lw_tbl (xCk 88) [439, 62, 437, 438] = true := by decide +kernel
theorem xCk_ok89 : xAt lw_tbl (xCk 89) [914, 62, 912, 913] = true := by decide +kernel
theorem xCk_ok90 : xAt lw_tbl (xCk 90) [921, 62, 919, 920] = true := by decide +kernel
theorem xCk_ok91 : xAt lw_tbl (xCk 91) [928, 62, 926, 927] = true := by decide +kernel
theorem xCk_ok92 : xAt lw_tbl (xCk 92) [936, 62, 934, 935] = true := by decide +kernel
theorem xCk_ok93 : xAt lw_tbl (xCk 93) [943, 62, 941, 942] = true := by decide +kernel
theorem xCk_ok94 : xAt lw_tbl (xCk 94) [336, 62, 334, 335] = true := by decide +kernel
theorem xCk_ok95 : xAt lw_tbl (xCk 95) [430, 62, 428, 429] = true := by decide +kernel
theorem xCk_ok96 : xAt lw_tbl (xCk 96) [434, 62, 432, 433] = true := by decide +kernel
theorem xCk_ok97 : xAt lw_tbl (xCk 97) [578, 62, 577, 11] = true := by decide +kernel
theorem xCk_ok98 : xAt lw_tbl (xCk 98) [594, 62, 593, 12] = true := by decide +kernel
theorem xCk_ok99 : xAt lw_tbl (xCk 99) [525, 62, 524] = true := by decide +kernel
theorem xCk_ok100 : xAt lw_tbl (xCk 100) [623, 62, 622] = true := by decide +kernel
theorem xCk_ok101 : xAt lw_tbl (xCk 101) [618, 62, 617, 13] = true := by decide +kernel
theorem xCk_ok102 : xAt lw_tbl (xCk 102) [861, 62, 860, 17] = true := by decide +kernel
theorem xCk_ok103 : xAt lw_tbl (xCk 103) [865, 62, 864, 18] = true := by decide +kernel
theorem xCk_ok104 : xAt lw_tbl (xCk 104) [638, 62, 637] = true := by decide +kernel
theorem xCk_ok105 : xAt lw_tbl (xCk 105) [328, 62, 327] = true := by decide +kernel
theorem xCk_ok106 : xAt lw_tbl (xCk 106) [812, 62, 811] = true := by decide +kernel
theorem xCk_ok107 : xAt lw_tbl (xCk 107) [446, 62, 445] = true := by decide +kernel
theorem xCk_ok108 : xAt lw_tbl (xCk 108) [948, 69, 947] = true := by decide +kernel
theorem xCk_ok109 : xAt lw_tbl (xCk 109) [1005, 69, 1003, 1004] = true := by decide +kernel
theorem xCk_ok110 : xAt lw_tbl (xCk 110) [1015, 69, 1014] = true := by decide +kernel
theorem xCk_ok111 : xAt lw_tbl (xCk 111) [1012, 69, 1011] = true := by decide +kernel
theorem xCk_ok112 : xAt lw_tbl (xCk 112) [1050, 69, 1049] = true := by decide +kernel
theorem xCk_ok113 : xAt lw_tbl (xCk 113) [1058, 69, 1057, 25] = true := by decide +kernel
theorem xCk_ok114 : xAt lw_tbl (xCk 114) [1019, 69, 1018, 19] = true := by decide +kernel
theorem xCk_ok115 : xAt lw_tbl (xCk 115) [1023, 69, 1022, 20] = true := by decide +kernel
theorem xCk_ok116 : xAt lw_tbl (xCk 116) [1202, 69, 1201, 48] = true := by decide +kernel
theorem xCk_ok117 : xAt lw_tbl (xCk 117) [1206, 69, 1205, 49] = true := by decide +kernel
theorem xCk_ok118 : xAt lw_tbl (xCk 118) [1027, 69, 1026, 21] = true := by decide +kernel
theorem xCk_ok119 : xAt lw_tbl (xCk 119) [1043, 69, 1042, 23] = true := by decide +kernel
theorem xCk_ok120 : xAt lw_tbl (xCk 120) [1093, 69, 1092, 29] = true := by decide +kernel
theorem xCk_ok121 : xAt lw_tbl (xCk 121) [1097, 69, 1096, 30] = true := by decide +kernel
theorem xCk_ok122 : xAt lw_tbl (xCk 122) [1089, 69, 1088, 28] = true := by decide +kernel
theorem xCk_ok123 : xAt lw_tbl (xCk 123) [1085, 69, 1084, 27] = true := by decide +kernel
theorem xCk_ok124 : xAt lw_tbl (xCk 124) [1101, 69, 1100, 31] = true := by decide +kernel
theorem xCk_ok125 : xAt lw_tbl (xCk 125) [1129, 69, 1128, 36] = true := by decide +kernel
theorem xCk_ok126 : xAt lw_tbl (xCk 126) [1121, 69, 1120, 34] = true := by decide +kernel
theorem xCk_ok127 : xAt lw_tbl (xCk 127) [1125, 69, 1124, 35] = true := by decide +kernel
theorem xCk_ok128 : xAt lw_tbl (xCk 128) [1150, 69, 1149, 39] = true := by decide +kernel
theorem xCk_ok129 : xAt lw_tbl (xCk 129) [1154, 69, 1153, 40] = true := by decide +kernel
theorem xCk_ok130 : xAt lw_tbl (xCk 130) [1158, 69, 1157, 41] = true := by decide +kernel
theorem xCk_ok131 : xAt lw_tbl (xCk 131) [1146, 69, 1145, 38] = true := by decide +kernel
theorem xCk_ok132 : xAt lw_tbl (xCk 132) [1009, 69, 1007, 1008] = true := by decide +kernel
theorem xCk_ok133 : xAt lw_tbl (xCk 133) [1031, 69, 1029, 1030] = true := by decide +kernel
theorem xCk_ok134 : xAt lw_tbl (xCk 134) [1039, 69, 1038, 22] = true := by decide +kernel
theorem xCk_ok135 : xAt lw_tbl (xCk 135) [1047, 69, 1046, 24] = true := by decide +kernel
theorem xCk_ok136 : xAt lw_tbl (xCk 136) [1035, 69, 1033, 1034] = true := by decide +kernel
theorem xCk_ok137 : xAt lw_tbl (xCk 137) [1054, 69, 1052, 1053] = true := by decide +kernel
theorem xCk_ok138 : xAt lw_tbl (xCk 138) [1067, 69, 1066, 26] = true := by decide +kernel
theorem xCk_ok139 : xAt lw_tbl (xCk 139) [1063, 69, 1061, 1062] = true := by decide +kernel
theorem xCk_ok140 : xAt lw_tbl (xCk 140) [1071, 69, 1069, 1070] = true := by decide +kernel
theorem xCk_ok141 : xAt lw_tbl (xCk 141) [1075, 69, 1073, 1074] = true := by decide +kernel
theorem xCk_ok142 : xAt lw_tbl (xCk 142) [1079, 69, 1077, 1078] = true := by decide +kernel
theorem xCk_ok143 : xAt lw_tbl (xCk 143) [1109, 69, 1108, 32] = true := by decide +kernel
theorem xCk_ok144 : xAt lw_tbl (xCk 144) [1113, 69, 1112, 33] = true := by decide +kernel
theorem xCk_ok145 : xAt lw_tbl (xCk 145) [1105, 69, 1103, 1104] = true := by decide +kernel
theorem xCk_ok146 : xAt lw_tbl (xCk 146) [1117, 69, 1115, 1116] = true := by decide +kernel
theorem xCk_ok147 : xAt lw_tbl (xCk 147) [1134, 69, 1132, 1133] = true := by decide +kernel
theorem xCk_ok148 : xAt lw_tbl (xCk 148) [1142, 69, 1141, 37] = true := by decide +kernel
theorem xCk_ok149 : xAt lw_tbl (xCk 149) [1138, 69, 1136, 1137] = true := by decide +kernel
theorem xCk_ok150 : xAt lw_tbl (xCk 150) [1162, 69, 1160, 1161] = true := by decide +kernel
theorem xCk_ok151 : xAt lw_tbl (xCk 151) [1166, 69, 1164, 1165] = true := by decide +kernel
theorem xCk_ok152 : xAt lw_tbl (xCk 152) [1186, 69, 1185, 45] = true := by decide +kernel
theorem xCk_ok153 : xAt lw_tbl (xCk 153) [1190, 69, 1189, 46] = true := by decide +kernel
theorem xCk_ok154 : xAt lw_tbl (xCk 154) [1182, 69, 1181, 44] = true := by decide +kernel
theorem xCk_ok155 : xAt lw_tbl (xCk 155) [1178, 69, 1177, 43] = true := by decide +kernel
theorem xCk_ok156 : xAt lw_tbl (xCk 156) [1174, 69, 1173, 42] = true := by decide +kernel
theorem xCk_ok157 : xAt lw_tbl (xCk 157) [1194, 69, 1193, 47] = true := by decide +kernel
theorem xCk_ok158 : xAt lw_tbl (xCk 158) [1170, 69, 1168, 1169] = true := by decide +kernel
theorem xCk_ok159 : xAt lw_tbl (xCk 159) [1198, 69, 1196, 1197] = true := by decide +kernel
theorem xCk_ok160 : xAt lw_tbl (xCk 160) [1210, 69, 1208, 1209] = true := by decide +kernel
theorem xCk_ok161 : xAt lw_tbl (xCk 161) [1218, 69, 1217, 50] = true := by decide +kernel
theorem xCk_ok162 : xAt lw_tbl (xCk 162) [1214, 69, 1212, 1213] = true := by decide +kernel
theorem xCk_ok163 : xAt lw_tbl (xCk 163) [1230, 69, 1229, 52] = true := by decide +kernel
theorem xCk_ok164 : xAt lw_tbl (xCk 164) [1226, 69, 1225, 51] = true := by decide +kernel
theorem xCk_ok165 : xAt lw_tbl (xCk 165) [1222, 69, 1220, 1221] = true := by decide +kernel
theorem xCk_ok166 : xAt lw_tbl (xCk 166) [1238, 69, 1237, 53] = true := by decide +kernel
theorem xCk_ok167 : xAt lw_tbl (xCk 167) [1234, 69, 1232, 1233] = true := by decide +kernel
theorem xCk_ok168 : xAt lw_tbl (xCk 168) [1246, 69, 1245, 54] = true := by decide +kernel
theorem xCk_ok169 : xAt lw_tbl (xCk 169) [1242, 69, 1240, 1241] = true := by decide +kernel
theorem xCk_ok170 : xAt lw_tbl (xCk 170) [1250, 69, 1248, 1249] = true := by decide +kernel
theorem xCk_ok171 : xAt lw_tbl (xCk 171) [1254, 69, 1252, 1253] = true := by decide +kernel
theorem xCk_ok172 : xAt lw_tbl (xCk 172) [1262, 69, 1261, 55] = true := by decide +kernel
theorem xCk_ok173 : xAt lw_tbl (xCk 173) [1258, 69, 1256, 1257] = true := by decide +kernel
theorem xCk_ok174 : xAt lw_tbl (xCk 174) [1270, 69, 1269, 56] = true := by decide +kernel
theorem xCk_ok175 : xAt lw_tbl (xCk 175) [1266, 69, 1264, 1265] = true := by decide +kernel
theorem xCk_ok176 : xAt lw_tbl (xCk 176) [1278, 69, 1277, 57] = true := by decide +kernel
theorem xCk_ok177 : xAt lw_tbl (xCk 177) [1274, 69, 1272, 1273] = true := by decide +kernel
theorem xCk_ok178 : xAt lw_tbl (xCk 178) [1286, 69, 1285, 58] = true := by decide +kernel
theorem xCk_ok179 : xAt lw_tbl (xCk 179) [1282, 69, 1280, 1281] = true := by decide +kernel
theorem xCk_ok180 : xAt lw_tbl (xCk 180) [1294, 69, 1293, 59] = true := by decide +kernel
theorem xCk_ok181 : xAt lw_tbl (xCk 181) [1290, 69, 1288, 1289] = true := by decide +kernel
theorem xCk_ok182 : xAt lw_tbl (xCk 182) [1307, 69, 1306] = true := by decide +kernel
theorem xCk_ok183 : xAt lw_tbl (xCk 183) [1303, 69, 1302, 60] = true := by decide +kernel
theorem xCk_ok184 : xAt lw_tbl (xCk 184) [1298, 69, 1296, 1297] = true := by decide +kernel
theorem xCk_ok185 : xAt lw_tbl (xCk 185) [629, 61, 628] = true := by decide +kernel
theorem xCk_ok186 : xAt lw_tbl (xCk 186) [648, 61, 647] = true := by decide +kernel
theorem xCk_ok187 : xAt lw_tbl (xCk 187) [655, 61, 654] = true := by decide +kernel
theorem xCk_ok188 : xAt lw_tbl (xCk 188) [693, 61, 692] = true := by decide +kernel
theorem xCk_ok189 : xAt lw_tbl (xCk 189) [720, 61, 719] = true := by decide +kernel
theorem xCk_ok190 : xAt lw_tbl (xCk 190) [729, 61, 728] = true := by decide +kernel
theorem xCk_ok191 : xAt lw_tbl (xCk 191) [738, 61, 737] = true := by decide +kernel
theorem xCk_ok192 : xAt lw_tbl (xCk 192) [745, 61, 744] = true := by decide +kernel
theorem xCk_ok193 : xAt lw_tbl (xCk 193) [770, 61, 769] = true := by decide +kernel
theorem xCk_ok194 : xAt lw_tbl (xCk 194) [795, 61, 794] = true := by decide +kernel
theorem xCk_ok195 : xAt lw_tbl (xCk 195) [805, 61, 804] = true := by decide +kernel
theorem xCk_ok196 : xAt lw_tbl (xCk 196) [821, 61, 820] = true := by decide +kernel
theorem xCk_ok197 : xAt lw_tbl (xCk 197) [830, 61, 829] = true := by decide +kernel
theorem xCk_ok198 : xAt lw_tbl (xCk 198) [847, 61, 846] = true := by decide +kernel
theorem xCk_ok199 : xAt lw_tbl (xCk 199) [870, 61, 869] = true := by decide +kernel
theorem xCk_ok200 : xAt lw_tbl (xCk 200) [882, 61, 881] = true := by decide +kernel
theorem xCk_ok201 : xAt lw_tbl (xCk 201) [886, 61, 885] = true := by decide +kernel
theorem xCk_ok202 : xAt lw_tbl (xCk 202) [898, 61, 897] = true := by decide +kernel
theorem xCk_ok203 : xAt lw_tbl (xCk 203) [906, 61, 905] = true := by decide +kernel
theorem xCk_ok204 : xAt lw_tbl (xCk 204) [910, 61, 909] = true := by decide +kernel
theorem xCk_ok205 : xAt lw_tbl (xCk 205) [917, 61, 916] = true := by decide +kernel
theorem xCk_ok206 : xAt lw_tbl (xCk 206) [924, 61, 923] = true := by decide +kernel
theorem xCk_ok207 : xAt lw_tbl (xCk 207) [932, 61, 931] = true := by decide +kernel
theorem xCk_ok208 : xAt lw_tbl (xCk 208) [939, 61, 938] = true := by decide +kernel
theorem xCk_ok209 : xAt lw_tbl (xCk 209) [381, 75, 380] = true := by decide +kernel
theorem xCk_ok210 : xAt lw_tbl (xCk 210) [417, 75, 416] = true := by decide +kernel
theorem xCk_ok211 : xAt lw_tbl (xCk 211) [713, 75, 712] = true := by decide +kernel
theorem xCk_ok (y : Nat) (h : y < xLaw) : ∀ w ∈ xCk y, goodWord w = true ∧ w ∈ lw_tbl := by
  have h : y < 212 := h
  by_cases h16 : y < 16
  · rcases (show y = 0 ∨ y = 1 ∨ y = 2 ∨ y = 3 ∨ y = 4 ∨ y = 5 ∨ y = 6 ∨ y = 7 ∨ y = 8 ∨ y = 9 ∨ y = 10 ∨ y = 11 ∨ y = 12 ∨ y = 13 ∨ y = 14 ∨ y = 15 by omega) with rfl | rfl | rfl | rfl | rfl | rfl | rfl | rfl | rfl | rfl | rfl | rfl | rfl | rfl | rfl | rfl
    · exact xAt_ok _ _ xCk_ok0
    · exact xAt_ok _ _ xCk_ok1
    · exact xAt_ok _ _ xCk_ok2
    · exact xAt_ok _ _ xCk_ok3
    · exact xAt_ok _ _ xCk_ok4
    · exact xAt_ok _ _ xCk_ok5
    · exact xAt_ok _ _ xCk_ok6
    · exact xAt_ok _ _ xCk_ok7
    · exact xAt_ok _ _ xCk_ok8
    · exact xAt_ok _ _ xCk_ok9
    · exact xAt_ok _ _ xCk_ok10
    · exact xAt_ok _ _ xCk_ok11
    · exact xAt_ok _ _ xCk_ok12
    · exact xAt_ok _ _ xCk_ok13
    · exact xAt_ok _ _ xCk_ok14
    · exact xAt_ok _ _ xCk_ok15
  by_cases h32 : y < 32
  · rcases (show y = 16 ∨ y = 17 ∨ y = 18 ∨ y = 19 ∨ y = 20 ∨ y = 21 ∨ y = 22 ∨ y = 23 ∨ y = 24 ∨ y = 25 ∨ y = 26 ∨ y = 27 ∨ y = 28 ∨ y = 29 ∨ y = 30 ∨ y = 31 by omega) with rfl | rfl | rfl | rfl | rfl | rfl | rfl | rfl | rfl | rfl | rfl | rfl | rfl | rfl | rfl | rfl
    · exact xAt_ok _ _ xCk_ok16
    · exact xAt_ok _ _ xCk_ok17
    · exact xAt_ok _ _ xCk_ok18
    · exact xAt_ok _ _ xCk_ok19
    · exact xAt_ok _ _ xCk_ok20
    · exact xAt_ok _ _ xCk_ok21
    · exact xAt_ok _ _ xCk_ok22
    · exact xAt_ok _ _ xCk_ok23
    · exact xAt_ok _ _ xCk_ok24
    · exact xAt_ok _ _ xCk_ok25
    · exact xAt_ok _ _ xCk_ok26
    · exact xAt_ok _ _ xCk_ok27
    · exact xAt_ok _ _ xCk_ok28
    · exact xAt_ok _ _ xCk_ok29
    · exact xAt_ok _ _ xCk_ok30
    · exact xAt_ok _ _ xCk_ok31
  by_cases h48 : y < 48
  · rcases (show y = 32 ∨ y = 33 ∨ y = 34 ∨ y = 35 ∨ y = 36 ∨ y = 37 ∨ y = 38 ∨ y = 39 ∨ y = 40 ∨ y = 41 ∨ y = 42 ∨ y = 43 ∨ y = 44 ∨ y = 45 ∨ y = 46 ∨ y = 47 by omega) with rfl | rfl | rfl | rfl | rfl | rfl | rfl | rfl | rfl | rfl | rfl | rfl | rfl | rfl | rfl | rfl
    · exact xAt_ok _ _ xCk_ok32
    · exact xAt_ok _ _ xCk_ok33
    · exact xAt_ok _ _ xCk_ok34
    · exact xAt_ok _ _ xCk_ok35
    · exact xAt_ok _ _ xCk_ok36
    · exact xAt_ok _ _ xCk_ok37
    · exact xAt_ok _ _ xCk_ok38
    · exact xAt_ok _ _ xCk_ok39
    · exact xAt_ok _ _ xCk_ok40
    · exact xAt_ok _ _ xCk_ok41
    · exact xAt_ok _ _ xCk_ok42
    · exact xAt_ok _ _ xCk_ok43
    · exact xAt_ok _ _ xCk_ok44
    · exact xAt_ok _ _ xCk_ok45
    · exact xAt_ok _ _ xCk_ok46
    · exact xAt_ok _ _ xCk_ok47
  by_cases h64 : y < 64
  · rcases (show y = 48 ∨ y = 49 ∨ y = 50 ∨ y = 51 ∨ y = 52 ∨ y = 53 ∨ y = 54 ∨ y = 55 ∨ y = 56 ∨ y = 57 ∨ y = 58 ∨ y = 59 ∨ y = 60 ∨ y = 61 ∨ y = 62 ∨ y = 63 by omega) with rfl | rfl | rfl | rfl | rfl | rfl | rfl | rfl | rfl | rfl | rfl | rfl | rfl | rfl | rfl | rfl
    · exact xAt_ok _ _ xCk_ok48
    · exact xAt_ok _ _ xCk_ok49
    · exact xAt_ok _ _ xCk_ok50
    · exact xAt_ok _ _ xCk_ok51
    · exact xAt_ok _ _ xCk_ok52
    · exact xAt_ok _ _ xCk_ok53
    · exact xAt_ok _ _ xCk_ok54
    · exact xAt_ok _ _ xCk_ok55
    · exact xAt_ok _ _ xCk_ok56
    · exact xAt_ok _ _ xCk_ok57
    · exact xAt_ok _ _ xCk_ok58
    · exact xAt_ok _ _ xCk_ok59
    · exact xAt_ok _ _ xCk_ok60
    · exact xAt_ok _ _ xCk_ok61
    · exact xAt_ok _ _ xCk_ok62
    · exact xAt_ok _ _ xCk_ok63
  by_cases h80 : y < 80
  · rcases (show y = 64 ∨ y = 65 ∨ y = 66 ∨ y = 67 ∨ y = 68 ∨ y = 69 ∨ y = 70 ∨ y = 71 ∨ y = 72 ∨ y = 73 ∨ y = 74 ∨ y = 75 ∨ y = 76 ∨ y = 77 ∨ y = 78 ∨ y = 79 by omega) with rfl | rfl | rfl | rfl | rfl | rfl | rfl | rfl | rfl | rfl | rfl | rfl | rfl | rfl | rfl | rfl
    · exact xAt_ok _ _ xCk_ok64
    · exact xAt_ok _ _ xCk_ok65
    · exact xAt_ok _ _ xCk_ok66
    · exact xAt_ok _ _ xCk_ok67
    · exact xAt_ok _ _ xCk_ok68
    · exact xAt_ok _ _ xCk_ok69
    · exact xAt_ok _ _ xCk_ok70
    · exact xAt_ok _ _ xCk_ok71
    · exact xAt_ok _ _ xCk_ok72
    · exact xAt_ok _ _ xCk_ok73
    · exact xAt_ok _ _ xCk_ok74
    · exact xAt_ok _ _ xCk_ok75
    · exact xAt_ok _ _ xCk_ok76
    · exact xAt_ok _ _ xCk_ok77
    · exact xAt_ok _ _ xCk_ok78
    · exact xAt_ok _ _ xCk_ok79
  by_cases h96 : y < 96
  · rcases (show y = 80 ∨ y = 81 ∨ y = 82 ∨ y = 83 ∨ y = 84 ∨ y = 85 ∨ y = 86 ∨ y = 87 ∨ y = 88 ∨ y = 89 ∨ y = 90 ∨ y = 91 ∨ y = 92 ∨ y = 93 ∨ y = 94 ∨ y = 95 by omega) with rfl | rfl | rfl | rfl | rfl | rfl | rfl | rfl | rfl | rfl | rfl | rfl | rfl | rfl | rfl | rfl
    · exact xAt_ok _ _ xCk_ok80
    · exact xAt_ok _ _ xCk_ok81
    · exact xAt_ok _ _ xCk_ok82
    · exact xAt_ok _ _ xCk_ok83
    · exact xAt_ok _ _ xCk_ok84
    · exact xAt_ok _ _ xCk_ok85
    · exact xAt_ok _ _ xCk_ok86
    · exact xAt_ok _ _ xCk_ok87
    · exact xAt_ok _ _ xCk_ok88
    · exact xAt_ok _ _ xCk_ok89
    · exact xAt_ok _ _ xCk_ok90
    · exact xAt_ok _ _ xCk_ok91
    · exact xAt_ok _ _ xCk_ok92
    · exact xAt_ok _ _ xCk_ok93
    · exact xAt_ok _ _ xCk_ok94
    · exact xAt_ok _ _ xCk_ok95
  by_cases h112 : y < 112
  · rcases (show y = 96 ∨ y = 97 ∨ y = 98 ∨ y = 99 ∨ y = 100 ∨ y = 101 ∨ y = 102 ∨ y = 103 ∨ y = 104 ∨ y = 105 ∨ y = 106 ∨ y = 107 ∨ y = 108 ∨ y = 109 ∨ y = 110 ∨ y = 111 by omega) with rfl | rfl | rfl | rfl | rfl | rfl | rfl | rfl | rfl | rfl | rfl | rfl | rfl | rfl | rfl | rfl
    · exact xAt_ok _ _ xCk_ok96
    · exact xAt_ok _ _ xCk_ok97
    · exact xAt_ok _ _ xCk_ok98
    · exact xAt_ok _ _ xCk_ok99
    · exact xAt_ok _ _ xCk_ok100
    · exact xAt_ok _ _ xCk_ok101
    · exact xAt_ok _ _ xCk_ok102
    · exact xAt_ok _ _ xCk_ok103
    · exact xAt_ok _ _ xCk_ok104
    · exact xAt_ok _ _ xCk_ok105
    · exact xAt_ok _ _ xCk_ok106
    · exact xAt_ok _ _ xCk_ok107
    · exact xAt_ok _ _ xCk_ok108
    · exact xAt_ok _ _ xCk_ok109
    · exact xAt_ok _ _ xCk_ok110
    · exact xAt_ok _ _ xCk_ok111
  by_cases h128 : y < 128
  · rcases (show y = 112 ∨ y = 113 ∨ y = 114 ∨ y = 115 ∨ y = 116 ∨ y = 117 ∨ y = 118 ∨ y = 119 ∨ y = 120 ∨ y = 121 ∨ y = 122 ∨ y = 123 ∨ y = 124 ∨ y = 125 ∨ y = 126 ∨ y = 127 by omega) with rfl | rfl | rfl | rfl | rfl | rfl | rfl | rfl | rfl | rfl | rfl | rfl | rfl | rfl | rfl | rfl
    · exact xAt_ok _ _ xCk_ok112
    · exact xAt_ok _ _ xCk_ok113
    · exact xAt_ok _ _ xCk_ok114
    · exact xAt_ok _ _ xCk_ok115
    · exact xAt_ok _ _ xCk_ok116
    · exact xAt_ok _ _ xCk_ok117
    · exact xAt_ok _ _ xCk_ok118
    · exact xAt_ok _ _ xCk_ok119
    · exact xAt_ok _ _ xCk_ok120
    · exact xAt_ok _ _ xCk_ok121
    · exact xAt_ok _ _ xCk_ok122
    · exact xAt_ok _ _ xCk_ok123
    · exact xAt_ok _ _ xCk_ok124
    · exact xAt_ok _ _ xCk_ok125
    · exact xAt_ok _ _ xCk_ok126
    · exact xAt_ok _ _ xCk_ok127
  by_cases h144 : y < 144
  · rcases (show y = 128 ∨ y = 129 ∨ y = 130 ∨ y = 131 ∨ y = 132 ∨ y = 133 ∨ y = 134 ∨ y = 135 ∨ y = 136 ∨ y = 137 ∨ y = 138 ∨ y = 139 ∨ y = 140 ∨ y = 141 ∨ y = 142 ∨ y = 143 by omega) with rfl | rfl | rfl | rfl | rfl | rfl | rfl | rfl | rfl | rfl | rfl | rfl | rfl | rfl | rfl | rfl
    · exact xAt_ok _ _ xCk_ok128
    · exact xAt_ok _ _ xCk_ok129
    · exact xAt_ok _ _ xCk_ok130
    · exact xAt_ok _ _ xCk_ok131
    · exact xAt_ok _ _ xCk_ok132
    · exact xAt_ok _ _ xCk_ok133
    · exact xAt_ok _ _ xCk_ok134
    · exact xAt_ok _ _ xCk_ok135
    · exact xAt_ok _ _ xCk_ok136
    · exact xAt_ok _ _ xCk_ok137
    · exact xAt_ok _ _ xCk_ok138
    · exact xAt_ok _ _ xCk_ok139
    · exact xAt_ok _ _ xCk_ok140
    · exact xAt_ok _ _ xCk_ok141
    · exact xAt_ok _ _ xCk_ok142
    · exact xAt_ok _ _ xCk_ok143
  by_cases h160 : y < 160
  · rcases (show y = 144 ∨ y = 145 ∨ y = 146 ∨ y = 147 ∨ y = 148 ∨ y = 149 ∨ y = 150 ∨ y = 151 ∨ y = 152 ∨ y = 153 ∨ y = 154 ∨ y = 155 ∨ y = 156 ∨ y = 157 ∨ y = 158 ∨ y = 159 by omega) with rfl | rfl | rfl | rfl | rfl | rfl | rfl | rfl | rfl | rfl | rfl | rfl | rfl | rfl | rfl | rfl
    · exact xAt_ok _ _ xCk_ok144
    · exact xAt_ok _ _ xCk_ok145
    · exact xAt_ok _ _ xCk_ok146
    · exact xAt_ok _ _ xCk_ok147
    · exact xAt_ok _ _ xCk_ok148
    · exact xAt_ok _ _ xCk_ok149
    · exact xAt_ok _ _ xCk_ok150
    · exact xAt_ok _ _ xCk_ok151
    · exact xAt_ok _ _ xCk_ok152
    · exact xAt_ok _ _ xCk_ok153
    · exact xAt_ok _ _ xCk_ok154
    · exact xAt_ok _ _ xCk_ok155
    · exact xAt_ok _ _ xCk_ok156
    · exact xAt_ok _ _ xCk_ok157
    · exact xAt_ok _ _ xCk_ok158
    · exact xAt_ok _ _ xCk_ok159
  by_cases h176 : y < 176
  · rcases (show y = 160 ∨ y = 161 ∨ y = 162 ∨ y = 163 ∨ y = 164 ∨ y = 165 ∨ y = 166 ∨ y = 167 ∨ y = 168 ∨ y = 169 ∨ y = 170 ∨ y = 171 ∨ y = 172 ∨ y = 173 ∨ y = 174 ∨ y = 175 by omega) with rfl | rfl | rfl | rfl | rfl | rfl | rfl | rfl | rfl | rfl | rfl | rfl | rfl | rfl | rfl | rfl
    · exact xAt_ok _ _ xCk_ok160
    · exact xAt_ok _ _ xCk_ok161
    · exact xAt_ok _ _ xCk_ok162
    · exact xAt_ok _ _ xCk_ok163
    · exact xAt_ok _ _ xCk_ok164
    · exact xAt_ok _ _ xCk_ok165
    · exact xAt_ok _ _ xCk_ok166
    · exact xAt_ok _ _ xCk_ok167
    · exact xAt_ok _ _ xCk_ok168
    · exact xAt_ok _ _ xCk_ok169
    · exact xAt_ok _ _ xCk_ok170
    · exact xAt_ok _ _ xCk_ok171
    · exact xAt_ok _ _ xCk_ok172
    · exact xAt_ok _ _ xCk_ok173
    · exact xAt_ok _ _ xCk_ok174
    · exact xAt_ok _ _ xCk_ok175
  by_cases h192 : y < 192
  · rcases (show y = 176 ∨ y = 177 ∨ y = 178 ∨ y = 179 ∨ y = 180 ∨ y = 181 ∨ y = 182 ∨ y = 183 ∨ y = 184 ∨ y = 185 ∨ y = 186 ∨ y = 187 ∨ y = 188 ∨ y = 189 ∨ y = 190 ∨ y = 191 by omega) with rfl | rfl | rfl | rfl | rfl | rfl | rfl | rfl | rfl | rfl | rfl | rfl | rfl | rfl | rfl | rfl
    · exact xAt_ok _ _ xCk_ok176
    · exact xAt_ok _ _ xCk_ok177
    · exact xAt_ok _ _ xCk_ok178
    · exact xAt_ok _ _ xCk_ok179
    · exact xAt_ok _ _ xCk_ok180
    · exact xAt_ok _ _ xCk_ok181
    · exact xAt_ok _ _ xCk_ok182
    · exact xAt_ok _ _ xCk_ok183
    · exact xAt_ok _ _ xCk_ok184
    · exact xAt_ok _ _ xCk_ok185
    · exact xAt_ok _ _ xCk_ok186
    · exact xAt_ok _ _ xCk_ok187
    · exact xAt_ok _ _ xCk_ok188
    · exact xAt_ok _ _ xCk_ok189
    · exact xAt_ok _ _ xCk_ok190
    · exact xAt_ok _ _ xCk_ok191
  by_cases h208 : y < 208
  · rcases (show y = 192 ∨ y = 193 ∨ y = 194 ∨ y = 195 ∨ y = 196 ∨ y = 197 ∨ y = 198 ∨ y = 199 ∨ y = 200 ∨ y = 201 ∨ y = 202 ∨ y = 203 ∨ y = 204 ∨ y = 205 ∨ y = 206 ∨ y = 207 by omega) with rfl | rfl | rfl | rfl | rfl | rfl | rfl | rfl | rfl | rfl | rfl | rfl | rfl | rfl | rfl | rfl
    · exact xAt_ok _ _ xCk_ok192
    · exact xAt_ok _ _ xCk_ok193
    · exact xAt_ok _ _ xCk_ok194
    · exact xAt_ok _ _ xCk_ok195
    · exact xAt_ok _ _ xCk_ok196
    · exact xAt_ok _ _ xCk_ok197
    · exact xAt_ok _ _ xCk_ok198
    · exact xAt_ok _ _ xCk_ok199
    · exact xAt_ok _ _ xCk_ok200
    · exact xAt_ok _ _ xCk_ok201
    · exact xAt_ok _ _ xCk_ok202
    · exact xAt_ok _ _ xCk_ok203
    · exact xAt_ok _ _ xCk_ok204
    · exact xAt_ok _ _ xCk_ok205
    · exact xAt_ok _ _ xCk_ok206
    · exact xAt_ok _ _ xCk_ok207
  by_cases h212 : y < 212
  · rcases (show y = 208 ∨ y = 209 ∨ y = 210 ∨ y = 211 by omega) with rfl | rfl | rfl | rfl
    · exact xAt_ok _ _ xCk_ok208
    · exact xAt_ok _ _ xCk_ok209
    · exact xAt_ok _ _ xCk_ok210
    · exact xAt_ok _ _ xCk_ok211
  exact absurd h (by omega)
/-- field links: class, place in its pool, by nest, class of the field, its place -/
def xFl : List (Nat × Nat × Nat × Nat × Nat) := [(2, 9, 0, 2, 0), (2, 15, 0, 2, 1), (2, 18, 0, 2, 2), (2, 21, 0, 2, 3), (2, 35, 0, 2, 4), (5, 111, 1, 2, 4), (6, 271, 1, 2, 4), (3, 9, 0, 3, 0), (5, 102, 1, 3, 0), (3, 18, 0, 3, 1), (5, 107, 1, 3, 1), (6, 267, 1, 3, 1), (3, 22, 0, 3, 2), (5, 66, 1, 3, 2), (6, 354, 1, 3, 2), (3, 26, 0, 3, 3), (5, 70, 1, 3, 3), (6, 94, 1, 3, 3), (3, 30, 0, 3, 4), (6, 123, 1, 3, 4), (5, 131, 1, 3, 4), (3, 33, 0, 3, 5), (6, 118, 1, 3, 5), (5, 99, 1, 3, 5), (3, 36, 0, 3, 6), (5, 147, 1, 3, 6), (3, 39, 0, 3, 7), (6, 112, 1, 3, 7), (5, 83, 1, 3, 7), (3, 42, 0, 3, 8), (6, 164, 1, 3, 8), (5, 154, 1, 3, 8), (3, 45, 0, 3, 9), (6, 128, 1, 3, 9), (5, 167, 1, 3, 9), (5, 9, 0, 5, 0), (6, 180, 1, 5, 0), (5, 15, 0, 5, 1), (6, 64, 1, 5, 1), (5, 18, 0, 5, 2), (6, 68, 1, 5, 2), (5, 21, 0, 5, 3), (6, 71, 1, 5, 3), (5, 27, 0, 5, 4), (6, 350, 1, 5, 4), (5, 31, 0, 5, 5), (6, 302, 1, 5, 5), (5, 49, 0, 5, 6), (5, 53, 0, 5, 7), (6, 185, 1, 5, 7), (5, 56, 0, 5, 8), (6, 290, 1, 5, 8), (5, 60, 0, 5, 9), (6, 297, 1, 5, 9), (5, 63, 0, 5, 10), (6, 161, 1, 5, 10), (1, 11, 0, 1, 0), (1, 18, 0, 1, 1), (1, 22, 0, 1, 2), (6, 238, 1, 1, 2), (0, 9, 0, 0, 0), (0, 15, 0, 0, 1), (6, 206, 1, 0, 1), (4, 11, 0, 4, 0), (4, 15, 0, 4, 1), (6, 376, 1, 4, 1), (4, 28, 0, 4, 2), (6, 372, 1, 4, 2), (4, 34, 0, 4, 3), (6, 377, 1, 4, 3), (4, 18, 0, 4, 4), (6, 380, 1, 4, 4), (6, 12, 0, 6, 0), (6, 16, 0, 6, 1), (6, 22, 0, 6, 2), (6, 29, 0, 6, 3), (6, 36, 0, 6, 4), (7, 32, 0, 7, 0), (7, 7, 0, 7, 1), (7, 13, 0, 7, 2), (7, 16, 0, 7, 3), (7, 19, 0, 7, 4), (7, 23, 0, 7, 5), (7, 26, 0, 7, 6), (7, 44, 0, 7, 7), (7, 29, 0, 7, 8), (7, 133, 0, 7, 9), (7, 136, 0, 7, 10), (7, 139, 0, 7, 11), (7, 152, 0, 7, 12), (7, 155, 0, 7, 13), (7, 158, 0, 7, 14), (7, 161, 0, 7, 15), (7, 223, 0, 7, 16)]
def xSl : List (Nat × Nat × Nat × Nat × Nat) := [(5, 35, 3, 0, 0), (6, 172, 2, 1, 0), (6, 175, 2, 2, 0)]
def xMl : List (Nat × Nat × Nat × Nat × Nat) := [(8, 94, 0, 67, 0), (6, 11, 0, 33, 0), (5, 38, 1, 20, 0), (3, 17, 1, 7, 0), (6, 21, 0, 4, 0), (1, 17, 0, 33, 0), (6, 28, 1, 0, 0), (6, 35, 1, 26, 0), (8, 146, 0, 81, 0), (8, 150, 0, 82, 0), (6, 209, 0, 27, 0), (6, 212, 0, 3, 0), (6, 215, 0, 29, 0), (4, 21, 0, 30, 0), (4, 25, 0, 31, 0), (4, 31, 1, 105, 0), (4, 37, 0, 32, 0), (8, 188, 0, 94, 0), (6, 227, 0, 34, 0), (5, 45, 0, 22, 0), (3, 57, 0, 19, 0), (6, 319, 0, 54, 0), (5, 178, 0, 55, 0), (5, 190, 0, 23, 0), (5, 194, 0, 56, 0), (5, 73, 1, 105, 0), (5, 197, 0, 15, 0), (2, 31, 0, 8, 0), (2, 25, 0, 209, 0), (5, 124, 0, 25, 0), (3, 61, 1, 105, 0), (5, 181, 0, 57, 0), (5, 201, 0, 17, 0), (5, 184, 0, 58, 0), (5, 187, 0, 59, 0), (5, 160, 0, 48, 0), (5, 204, 0, 49, 0), (5, 150, 0, 50, 0), (5, 164, 0, 210, 0), (5, 170, 0, 51, 0), (5, 157, 0, 18, 0), (8, 192, 0, 95, 0), (8, 197, 0, 96, 0), (6, 324, 0, 88, 0), (6, 235, 0, 60, 0), (5, 207, 1, 107, 0), (6, 287, 0, 61, 0), (6, 294, 0, 62, 0), (6, 327, 0, 99, 0), (6, 331, 0, 85, 0), (6, 40, 0, 105, 0), (6, 75, 0, 107, 0), (6, 246, 0, 63, 0), (6, 249, 0, 64, 0), (5, 134, 0, 24, 0), (6, 252, 0, 65, 0), (5, 211, 0, 14, 0), (2, 42, 0, 11, 0), (2, 45, 1, 107, 0), (6, 335, 0, 97, 0), (6, 262, 0, 66, 0), (5, 214, 0, 13, 0), (2, 38, 0, 12, 0), (6, 357, 0, 98, 0), (6, 274, 0, 9, 0), (6, 277, 0, 10, 0), (6, 280, 0, 11, 0), (6, 283, 0, 12, 0), (6, 312, 0, 50, 0), (6, 316, 0, 52, 0), (6, 190, 0, 53, 0), (5, 174, 0, 54, 0), (6, 308, 0, 101, 0), (6, 339, 0, 94, 0), (6, 342, 0, 95, 0), (6, 346, 0, 100, 0), (8, 98, 0, 185, 0), (8, 7, 0, 68, 0), (6, 51, 0, 104, 0), (6, 60, 0, 5, 0), (1, 25, 0, 209, 0), (1, 31, 0, 34, 0), (8, 107, 0, 186, 0), (8, 17, 0, 69, 0), (8, 111, 0, 187, 0), (8, 21, 0, 70, 0), (6, 81, 0, 37, 0), (6, 90, 0, 40, 0), (5, 79, 0, 21, 0), (3, 48, 0, 18, 0), (8, 114, 0, 188, 0), (8, 26, 0, 71, 0), (6, 100, 0, 35, 0), (6, 106, 0, 41, 0), (5, 86, 0, 42, 0), (5, 90, 0, 211, 0), (5, 96, 0, 43, 0), (8, 118, 0, 189, 0), (8, 30, 0, 72, 0), (8, 122, 0, 190, 0), (8, 34, 0, 73, 0), (8, 125, 0, 191, 0), (8, 37, 0, 74, 0), (8, 128, 0, 192, 0), (8, 40, 0, 75, 0), (6, 134, 0, 39, 0), (6, 139, 0, 44, 0), (5, 116, 0, 12, 0), (5, 120, 0, 11, 0), (5, 128, 0, 16, 0), (8, 131, 0, 193, 0), (8, 43, 0, 76, 0), (6, 143, 0, 46, 0), (5, 137, 0, 45, 0), (5, 141, 0, 38, 0), (5, 144, 0, 39, 0), (6, 149, 0, 47, 0), (8, 134, 0, 194, 0), (8, 46, 0, 77, 0), (6, 152, 0, 48, 0), (6, 157, 0, 49, 0), (8, 137, 0, 195, 0), (8, 49, 0, 78, 0), (6, 167, 0, 106, 0), (8, 140, 0, 196, 0), (8, 52, 0, 79, 0), (8, 143, 0, 197, 0), (8, 55, 0, 80, 0), (6, 196, 0, 1, 0), (6, 202, 0, 2, 0), (8, 154, 0, 198, 0), (8, 58, 0, 83, 0), (6, 218, 0, 82, 0), (6, 222, 0, 28, 0), (6, 230, 0, 102, 0), (6, 369, 0, 103, 0), (6, 373, 0, 38, 0), (8, 158, 0, 199, 0), (8, 62, 0, 84, 0), (6, 243, 0, 6, 0), (8, 161, 0, 200, 0), (8, 65, 0, 85, 0), (8, 164, 0, 201, 0), (8, 68, 0, 86, 0), (6, 259, 0, 36, 0), (8, 167, 0, 202, 0), (8, 71, 0, 87, 0), (8, 170, 0, 203, 0), (8, 74, 0, 88, 0), (8, 173, 0, 204, 0), (8, 77, 0, 89, 0), (8, 176, 0, 205, 0), (8, 81, 0, 90, 0), (8, 179, 0, 206, 0), (8, 84, 0, 91, 0), (8, 182, 0, 207, 0), (8, 88, 0, 92, 0), (8, 185, 0, 208, 0), (8, 91, 0, 93, 0), (8, 97, 0, 108, 0), (8, 104, 0, 109, 0), (8, 103, 0, 132, 0), (7, 85, 0, 111, 0), (7, 36, 0, 110, 0), (7, 89, 0, 114, 0), (7, 92, 0, 115, 0), (7, 61, 0, 118, 0), (8, 110, 0, 133, 0), (8, 113, 0, 136, 0), (7, 98, 0, 134, 0), (7, 95, 0, 119, 0), (7, 101, 0, 135, 0), (7, 40, 0, 112, 0), (8, 117, 0, 137, 0), (7, 105, 0, 113, 0), (8, 121, 0, 139, 0), (7, 108, 0, 138, 0), (8, 124, 0, 140, 0), (8, 127, 0, 141, 0), (8, 130, 0, 142, 0), (7, 113, 0, 123, 0), (7, 47, 0, 122, 0), (7, 50, 0, 120, 0), (7, 116, 0, 121, 0), (7, 65, 0, 124, 0), (8, 133, 0, 145, 0), (7, 119, 0, 143, 0), (7, 123, 0, 144, 0), (8, 136, 0, 146, 0), (7, 79, 0, 126, 0), (7, 82, 0, 127, 0), (7, 57, 0, 125, 0), (8, 139, 0, 147, 0), (8, 142, 0, 149, 0), (7, 130, 0, 148, 0), (7, 126, 0, 131, 0), (7, 69, 0, 128, 0), (7, 73, 0, 129, 0), (7, 76, 0, 130, 0), (8, 145, 0, 150, 0), (8, 149, 0, 151, 0), (8, 153, 0, 158, 0), (7, 171, 0, 156, 0), (7, 164, 0, 155, 0), (7, 149, 0, 154, 0), (7, 143, 0, 152, 0), (7, 146, 0, 153, 0), (7, 167, 0, 157, 0), (8, 157, 0, 159, 0), (7, 175, 0, 116, 0), (7, 178, 0, 117, 0), (8, 160, 0, 160, 0), (8, 163, 0, 162, 0), (7, 181, 0, 161, 0), (8, 166, 0, 165, 0), (7, 187, 0, 164, 0), (7, 184, 0, 163, 0), (8, 169, 0, 167, 0), (7, 190, 0, 166, 0), (8, 172, 0, 169, 0), (7, 193, 0, 168, 0), (8, 175, 0, 170, 0), (8, 178, 0, 171, 0), (8, 181, 0, 173, 0), (7, 196, 0, 172, 0), (8, 184, 0, 175, 0), (7, 200, 0, 174, 0), (8, 187, 0, 177, 0), (7, 203, 0, 176, 0), (8, 191, 0, 179, 0), (7, 206, 0, 178, 0), (8, 196, 0, 181, 0), (7, 209, 0, 180, 0), (8, 201, 0, 184, 0), (7, 229, 0, 183, 0), (7, 233, 0, 182, 0)]
def xNl : List (Nat × Nat × Nat × Nat × Nat) := [(8, 8, 0, 6, 0), (6, 9, 0, 5, 0), (5, 25, 0, 3, 0), (3, 15, 0, 2, 0), (6, 19, 0, 1, 0), (1, 9, 0, 5, 0), (6, 26, 0, 0, 0), (6, 33, 0, 4, 0), (8, 95, 0, 7, 0)]
def xOl : List (Nat × Nat × Nat × Nat × Nat) := [(6, 3, 0, 0, 0), (5, 3, 0, 0, 0), (3, 3, 0, 0, 0), (2, 3, 0, 0, 0), (1, 3, 0, 0, 0), (0, 3, 0, 0, 0), (4, 3, 0, 0, 0), (5, 39, 1, 0, 0), (3, 51, 1, 0, 0), (2, 49, 1, 0, 0), (7, 1, 0, 0, 0)]
def xkf (t : List (Nat × Nat × Nat × Nat × Nat)) (o i : Nat) : Option (Nat × Nat × Nat) := (t.find? (fun e => e.1 == o && e.2.1 == i)).map (fun e => e.2.2)
def xTf (ci : Nat) : u_T := ((xcl[ci]?).map (fun r => r.2.1)).getD TX0
def xNf (ci : Nat) : Nat := ((xcl[ci]?).map (fun r => r.2.2)).getD 0
def xty (ci : Nat) : Nat → FieldType := ([tyX0, tyX1, tyX2, tyX3, tyX4, tyX5, tyX6, tyX7][ci]?).getD tyX0
def xhost : String := "PensionSections"
def xFw (o i nest ci k : Nat) : Cond := if nest = 0 then .fieldLink (xcn o) i (xcn ci) (xTf ci k).2.1 (xTf ci k).2.2.1 else .fieldLinkNest (xcn o) i (xcn ci) (xTf ci k).2.1 (xTf ci k).2.2.1 xhost
def xMw (o i nest t : Nat) : Cond := if nest = 0 then .methodLink (xcn o) i (xY t) else .methodLinkNest (xcn o) i (xY t) xhost
def xsn (j : Nat) : String := (["FIRST_SETTINGS", "LEAST_SETTINGS", "MOST_SETTINGS"] : List String).getD j ""
def xSw (o i nest j : Nat) : Cond := if nest = 2 then .fieldLink (xcn o) i "PensionSections" (xsn j) "[I" else .fieldLinkNest (xcn o) i "PensionSections" (xsn j) "[I" xhost
def xNw (o i ci : Nat) : List Cond := [.classLink (xcn o) i (xcn ci), .instantiable (xcn ci) (xNf ci), .initialized (xcn ci)]
def xmObj : MethodName := ⟨"java/lang/Object", "<init>", "()V"⟩
def xOw (o i j : Nat) : Cond := if j = 0 then .methodLink (xcn o) i Lib.objectInit else .methodLink (xcn o) i arraycopyName
set_option maxRecDepth 100000 in
theorem xFl_g : xAt lw_tbl ((xFl.filter (fun e => e.2.2.1 % 2 == 0)).map (fun e => xFw e.1 e.2.1 e.2.2.1 e.2.2.2.1 e.2.2.2.2)) [107, 108, 109, 110, 111, 128, 130, 133, 136, 139, 142, 145, 147, 150, 153, 177, 179, 181, 183, 185, 187, 189, 190, 192, 194, 196, 230, 231, 232, 247, 248, 262, 263, 265, 267, 269, 282, 283, 284, 285, 286, 950, 951, 952, 953, 954, 955, 956, 957, 958, 959, 960, 961, 962, 963, 964, 965, 966] = true := by decide +kernel
set_option maxRecDepth 100000 in
theorem xFl_n : xAs lw_tbl ((xFl.filter (fun e => e.2.2.1 % 2 == 1)).map (fun e => xFw e.1 e.2.1 e.2.2.1 e.2.2.2.1 e.2.2.2.2)) [112, 113, 129, 131, 132, 134, 135, 137, 138, 140, 141, 143, 144, 146, 148, 149, 151, 152, 154, 155, 178, 180, 182, 184, 186, 188, 191, 193, 195, 197, 233, 249, 264, 266, 268, 270] = true := by decide +kernel
set_option maxRecDepth 100000 in
theorem xFl_c : xFl.all (fun e => decide (e.2.2.1 < 2) && decide (e.2.2.2.1 < 8) && decide (e.2.2.2.2 < xNf e.2.2.2.1)) = true := by decide +kernel
set_option maxRecDepth 100000 in
theorem xSl_g : xAt lw_tbl ((xSl.filter (fun e => e.2.2.1 % 2 == 0)).map (fun e => xSw e.1 e.2.1 e.2.2.1 e.2.2.2.1)) [814, 816] = true := by decide +kernel
set_option maxRecDepth 100000 in
theorem xSl_n : xAs lw_tbl ((xSl.filter (fun e => e.2.2.1 % 2 == 1)).map (fun e => xSw e.1 e.2.1 e.2.2.1 e.2.2.2.1)) [94] = true := by decide +kernel
set_option maxRecDepth 100000 in
theorem xSl_c : xSl.all (fun e => (e.2.2.1 == 2 || e.2.2.1 == 3) && decide (e.2.2.2.1 < 3)) = true := by decide +kernel
set_option maxRecDepth 100000 in
theorem xMl_g : xAt lw_tbl ((xMl.filter (fun e => e.2.2.1 % 2 == 0)).map (fun e => xMw e.1 e.2.1 e.2.2.1 e.2.2.2.1)) [80, 88, 223, 229, 298, 302, 306, 310, 314, 318, 322, 329, 333, 337, 344, 349, 354, 358, 362, 366, 371, 375, 379, 382, 387, 391, 395, 399, 403, 407, 411, 415, 418, 423, 427, 431, 436, 440, 447, 451, 523, 527, 531, 548, 549, 553, 557, 561, 565, 569, 575, 579, 583, 587, 591, 595, 599, 603, 604, 605, 606, 610, 614, 615, 619, 620, 621, 627, 632, 636, 640, 644, 645, 646, 649, 653, 657, 662, 682, 686, 690, 691, 694, 698, 703, 707, 711, 714, 718, 721, 727, 730, 736, 739, 743, 746, 752, 758, 762, 763, 764, 768, 771, 775, 779, 783, 787, 789, 793, 796, 800, 802, 803, 806, 810, 819, 822, 828, 831, 836, 841, 845, 848, 852, 853, 858, 862, 866, 868, 871, 876, 880, 883, 884, 887, 892, 896, 899, 904, 907, 908, 911, 915, 918, 922, 925, 930, 933, 937, 940, 946, 1002, 1006, 1010, 1013, 1016, 1020, 1024, 1028, 1032, 1036, 1040, 1044, 1048, 1051, 1055, 1060, 1064, 1068, 1072, 1076, 1082, 1086, 1090, 1094, 1098, 1102, 1106, 1110, 1114, 1118, 1122, 1126, 1131, 1135, 1139, 1143, 1147, 1151, 1155, 1159, 1163, 1167, 1171, 1175, 1179, 1183, 1187, 1191, 1195, 1199, 1203, 1207, 1211, 1215, 1219, 1223, 1227, 1231, 1235, 1239, 1243, 1247, 1251, 1255, 1259, 1263, 1267, 1271, 1275, 1279, 1283, 1287, 1291, 1295, 1300, 1305] = true := by decide +kernel
set_option maxRecDepth 100000 in
theorem xMl_n : xAs lw_tbl ((xMl.filter (fun e => e.2.2.1 % 2 == 1)).map (fun e => xMw e.1 e.2.1 e.2.2.1 e.2.2.2.1)) [97, 103, 243, 258, 326, 370, 386, 444, 573] = true := by decide +kernel
set_option maxRecDepth 100000 in
theorem xMl_c : xMl.all (fun e => decide (e.2.2.1 < 2) && decide (e.2.2.2.1 < xLaw)) = true := by decide +kernel
set_option maxRecDepth 100000 in
theorem xNl_g : xAt lw_tbl (xNl.flatMap (fun e => xNw e.1 e.2.1 e.2.2.2.1)) [78, 79, 62, 86, 87, 63, 92, 96, 64, 101, 102, 65, 221, 222, 66, 227, 87, 63, 241, 242, 67, 256, 257, 68, 944, 945, 69] = true := by decide +kernel
theorem xNl_c : xNl.all (fun e => decide (e.2.2.2.1 < 8)) = true := by decide +kernel
set_option maxRecDepth 100000 in
theorem xOl_g : xAt lw_tbl (xOl.map (fun e => xOw e.1 e.2.1 e.2.2.1)) [83, 91, 100, 106, 226, 246, 261, 341, 348, 353, 949] = true := by decide +kernel
def xCi : List (Nat × Nat × Int32) := [(6, 131, 9999999), (7, 111, 9999999), (7, 112, 999999999)]
def xCl : List (Nat × Nat × Int64) := [(5, 105, 1000), (6, 322, 2897), (6, 361, 31), (6, 363, 1023), (5, 77, 999999999), (7, 55, 1000), (7, 53, 4), (7, 227, 2897), (7, 221, 31), (7, 213, 1023), (7, 217, 4503599627370496)]
def xCd : List (Nat × Nat × UInt64) := [(6, 365, 4611686018427387904), (6, 367, 4841369599423283200), (7, 215, 4611686018427387904), (7, 219, 4841369599423283200)]
def xkc {α : Type} (t : List (Nat × Nat × α)) (o i : Nat) : Option α := (t.find? (fun e => e.1 == o && e.2.1 == i)).map (fun e => e.2.2)
theorem xCi_g : xAt lw_tbl (xCi.map (fun e => Cond.constant (xcn e.1) e.2.1 e.2.2)) [750, 1080, 1081] = true := by decide +kernel
theorem xCl_g : xAt lw_tbl (xCl.map (fun e => Cond.constantLong (xcn e.1) e.2.1 e.2.2)) [422, 435, 526, 624, 756, 1059, 1130, 1299, 1304, 1308, 1310] = true := by decide +kernel
theorem xCd_g : xAt lw_tbl (xCd.map (fun e => Cond.constantDouble (xcn e.1) e.2.1 e.2.2)) [625, 626, 1309, 1311] = true := by decide +kernel
def xlay (ci : Nat) : List Cond := u_ws (xcn ci) (xTf ci) (xNf ci)
theorem xlay_ok0 : xAt lw_tbl (xlay 0) [250, 252] = true := by decide +kernel
theorem xlay_ok1 : xAt lw_tbl (xlay 1) [234, 236, 238] = true := by decide +kernel
theorem xlay_ok2 : xAt lw_tbl (xlay 2) [114, 116, 118, 120, 122] = true := by decide +kernel
theorem xlay_ok3 : xAt lw_tbl (xlay 3) [156, 158, 160, 162, 164, 166, 168, 170, 172, 174] = true := by decide +kernel
theorem xlay_ok4 : xAt lw_tbl (xlay 4) [271, 273, 275, 277, 279] = true := by decide +kernel
theorem xlay_ok5 : xAt lw_tbl (xlay 5) [198, 200, 202, 204, 206, 208, 210, 212, 214, 216, 218] = true := by decide +kernel
theorem xlay_ok6 : xAt lw_tbl (xlay 6) [287, 289, 291, 293, 295] = true := by decide +kernel
theorem xlay_ok7 : xAt lw_tbl (xlay 7) [967, 969, 971, 973, 975, 977, 979, 981, 983, 985, 987, 989, 991, 993, 995, 997, 999] = true := by decide +kernel
theorem xlay_ok (ci : Nat) (h : ci < 8) : ∀ w ∈ xlay ci, goodWord w = true ∧ w ∈ lw_tbl := by
  rcases (show ci = 0 ∨ ci = 1 ∨ ci = 2 ∨ ci = 3 ∨ ci = 4 ∨ ci = 5 ∨ ci = 6 ∨ ci = 7 by omega) with rfl | rfl | rfl | rfl | rfl | rfl | rfl | rfl
  · exact xAt_ok _ _ xlay_ok0
  · exact xAt_ok _ _ xlay_ok1
  · exact xAt_ok _ _ xlay_ok2
  · exact xAt_ok _ _ xlay_ok3
  · exact xAt_ok _ _ xlay_ok4
  · exact xAt_ok _ _ xlay_ok5
  · exact xAt_ok _ _ xlay_ok6
  · exact xAt_ok _ _ xlay_ok7
def xNp (y : Nat) : Nat := ((parseMethodDescriptor (xe y).2.2.1).map (fun d => d.parameters.length)).getD 0
set_option maxRecDepth 100000 in
theorem xdesc_ok : xTab.all (fun e => (parseMethodDescriptor e.2.2.1).isSome && decide (e.1 < 10)) = true := by decide +kernel
def xRoomOk (c t : Nat) : Bool := decide (xF t + 1 ≤ xF c ∧ 8 + (xL t + 11) + xO t ≤ xO c)
