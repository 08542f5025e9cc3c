section
-- ===== PART A: goes FIRST, ahead of the names: the tables' words, and 'selects' of the private methods out of them =====
/-- a private method of a class that the tables say can be made, by its rows of tables_1 -/
def lw_okq (q : MethodName × Nat) : Prop := (q.1.cls ≠ "java/lang/invoke/MethodHandle" ∧ q.1.cls ≠ "java/lang/invoke/VarHandle") ∧ Cond.instantiable q.1.cls q.2 ∈ tables_1 ∧ Cond.privateMethod q.1 ∈ tables_1 ∧ Cond.instanceMethod q.1 ∈ tables_1
theorem lw_p0 : lw_okq (⟨"TramPence", "hasPack", "(II)Z"⟩, 7) := ⟨⟨by decide +kernel, by decide +kernel⟩, List.mem_of_getElem? (i := 18) (by decide +kernel), List.mem_of_getElem? (i := 290) (by decide +kernel), List.mem_of_getElem? (i := 291) (by decide +kernel)⟩
theorem lw_p1 : lw_okq (⟨"TramPence", "takings", "(I)I"⟩, 7) := ⟨⟨by decide +kernel, by decide +kernel⟩, List.mem_of_getElem? (i := 18) (by decide +kernel), List.mem_of_getElem? (i := 345) (by decide +kernel), List.mem_of_getElem? (i := 346) (by decide +kernel)⟩
theorem lw_p2 : lw_okq (⟨"TramPence", "takeBackLatest", "()V"⟩, 7) := ⟨⟨by decide +kernel, by decide +kernel⟩, List.mem_of_getElem? (i := 18) (by decide +kernel), List.mem_of_getElem? (i := 378) (by decide +kernel), List.mem_of_getElem? (i := 379) (by decide +kernel)⟩
theorem lw_p3 : lw_okq (⟨"TramPence", "sellFromSheet", "(ILTramPence$Sheet;I)I"⟩, 7) := ⟨⟨by decide +kernel, by decide +kernel⟩, List.mem_of_getElem? (i := 18) (by decide +kernel), List.mem_of_getElem? (i := 411) (by decide +kernel), List.mem_of_getElem? (i := 412) (by decide +kernel)⟩
theorem lw_p4 : lw_okq (⟨"TramPence", "takeBack", "(I)V"⟩, 7) := ⟨⟨by decide +kernel, by decide +kernel⟩, List.mem_of_getElem? (i := 18) (by decide +kernel), List.mem_of_getElem? (i := 416) (by decide +kernel), List.mem_of_getElem? (i := 417) (by decide +kernel)⟩
theorem lw_p5 : lw_okq (⟨"TramPence$Sales", "isOf", "(III)Z"⟩, 5) := ⟨⟨by decide +kernel, by decide +kernel⟩, List.mem_of_getElem? (i := 86) (by decide +kernel), List.mem_of_getElem? (i := 428) (by decide +kernel), List.mem_of_getElem? (i := 429) (by decide +kernel)⟩
theorem lw_p6 : lw_okq (⟨"TramPence", "howManyAboard", "(III)I"⟩, 7) := ⟨⟨by decide +kernel, by decide +kernel⟩, List.mem_of_getElem? (i := 18) (by decide +kernel), List.mem_of_getElem? (i := 453) (by decide +kernel), List.mem_of_getElem? (i := 454) (by decide +kernel)⟩
theorem lw_p7 : lw_okq (⟨"TramPence", "isAboard", "(III)Z"⟩, 7) := ⟨⟨by decide +kernel, by decide +kernel⟩, List.mem_of_getElem? (i := 18) (by decide +kernel), List.mem_of_getElem? (i := 457) (by decide +kernel), List.mem_of_getElem? (i := 458) (by decide +kernel)⟩
theorem lw_p8 : lw_okq (⟨"TramPence", "isGoodAt", "(II)Z"⟩, 7) := ⟨⟨by decide +kernel, by decide +kernel⟩, List.mem_of_getElem? (i := 18) (by decide +kernel), List.mem_of_getElem? (i := 465) (by decide +kernel), List.mem_of_getElem? (i := 466) (by decide +kernel)⟩
theorem lw_p9 : lw_okq (⟨"TramPence", "beyondHeld", "(II)I"⟩, 7) := ⟨⟨by decide +kernel, by decide +kernel⟩, List.mem_of_getElem? (i := 18) (by decide +kernel), List.mem_of_getElem? (i := 494) (by decide +kernel), List.mem_of_getElem? (i := 495) (by decide +kernel)⟩
theorem lw_p10 : lw_okq (⟨"TramPence$Tape", "isLetter", "(I)Z"⟩, 5) := ⟨⟨by decide +kernel, by decide +kernel⟩, List.mem_of_getElem? (i := 139) (by decide +kernel), List.mem_of_getElem? (i := 538) (by decide +kernel), List.mem_of_getElem? (i := 539) (by decide +kernel)⟩
theorem lw_p11 : lw_okq (⟨"TramPence$Tape", "readName", "()I"⟩, 5) := ⟨⟨by decide +kernel, by decide +kernel⟩, List.mem_of_getElem? (i := 139) (by decide +kernel), List.mem_of_getElem? (i := 542) (by decide +kernel), List.mem_of_getElem? (i := 543) (by decide +kernel)⟩
theorem lw_p12 : lw_okq (⟨"TramPence$Tape", "isSpelled", "(Ljava/lang/String;)Z"⟩, 5) := ⟨⟨by decide +kernel, by decide +kernel⟩, List.mem_of_getElem? (i := 139) (by decide +kernel), List.mem_of_getElem? (i := 547) (by decide +kernel), List.mem_of_getElem? (i := 548) (by decide +kernel)⟩
theorem lw_p13 : lw_okq (⟨"TramPence$Tape", "isFigure", "(I)Z"⟩, 5) := ⟨⟨by decide +kernel, by decide +kernel⟩, List.mem_of_getElem? (i := 139) (by decide +kernel), List.mem_of_getElem? (i := 601) (by decide +kernel), List.mem_of_getElem? (i := 602) (by decide +kernel)⟩
theorem lw_p14 : lw_okq (⟨"TramPence$Tape", "readNumber", "()I"⟩, 5) := ⟨⟨by decide +kernel, by decide +kernel⟩, List.mem_of_getElem? (i := 139) (by decide +kernel), List.mem_of_getElem? (i := 605) (by decide +kernel), List.mem_of_getElem? (i := 606) (by decide +kernel)⟩
theorem lw_p15 : lw_okq (⟨"TramPence$LawBook", "take", "(I)I"⟩, 7) := ⟨⟨by decide +kernel, by decide +kernel⟩, List.mem_of_getElem? (i := 133) (by decide +kernel), List.mem_of_getElem? (i := 609) (by decide +kernel), List.mem_of_getElem? (i := 610) (by decide +kernel)⟩
def lw_privs_1 : List (MethodName × Nat) := [(⟨"TramPence", "hasPack", "(II)Z"⟩, 7), (⟨"TramPence", "takings", "(I)I"⟩, 7), (⟨"TramPence", "takeBackLatest", "()V"⟩, 7), (⟨"TramPence", "sellFromSheet", "(ILTramPence$Sheet;I)I"⟩, 7), (⟨"TramPence", "takeBack", "(I)V"⟩, 7), (⟨"TramPence$Sales", "isOf", "(III)Z"⟩, 5), (⟨"TramPence", "howManyAboard", "(III)I"⟩, 7), (⟨"TramPence", "isAboard", "(III)Z"⟩, 7), (⟨"TramPence", "isGoodAt", "(II)Z"⟩, 7), (⟨"TramPence", "beyondHeld", "(II)I"⟩, 7), (⟨"TramPence$Tape", "isLetter", "(I)Z"⟩, 5), (⟨"TramPence$Tape", "readName", "()I"⟩, 5), (⟨"TramPence$Tape", "isSpelled", "(Ljava/lang/String;)Z"⟩, 5), (⟨"TramPence$Tape", "isFigure", "(I)Z"⟩, 5), (⟨"TramPence$Tape", "readNumber", "()I"⟩, 5), (⟨"TramPence$LawBook", "take", "(I)I"⟩, 7)]
theorem lw_r1 : ∀ q ∈ lw_privs_1, lw_okq q := List.forall_mem_cons.mpr ⟨lw_p0, List.forall_mem_cons.mpr ⟨lw_p1, List.forall_mem_cons.mpr ⟨lw_p2, List.forall_mem_cons.mpr ⟨lw_p3, List.forall_mem_cons.mpr ⟨lw_p4, List.forall_mem_cons.mpr ⟨lw_p5, List.forall_mem_cons.mpr ⟨lw_p6, List.forall_mem_cons.mpr ⟨lw_p7, List.forall_mem_cons.mpr ⟨lw_p8, List.forall_mem_cons.mpr ⟨lw_p9, List.forall_mem_cons.mpr ⟨lw_p10, List.forall_mem_cons.mpr ⟨lw_p11, List.forall_mem_cons.mpr ⟨lw_p12, List.forall_mem_cons.mpr ⟨lw_p13, List.forall_mem_cons.mpr ⟨lw_p14, List.forall_mem_cons.mpr ⟨lw_p15, fun _ h => absurd h List.not_mem_nil⟩⟩⟩⟩⟩⟩⟩⟩⟩⟩⟩⟩⟩⟩⟩⟩
theorem lw_p16 : lw_okq (⟨"TramPence$LawBook", "beginLaw", "(I)I"⟩, 7) := ⟨⟨by decide +kernel, by decide +kernel⟩, List.mem_of_getElem? (i := 133) (by decide +kernel), List.mem_of_getElem? (i := 613) (by decide +kernel), List.mem_of_getElem? (i := 614) (by decide +kernel)⟩
theorem lw_p17 : lw_okq (⟨"TramPence$LawBook", "endLaw", "(I)I"⟩, 7) := ⟨⟨by decide +kernel, by decide +kernel⟩, List.mem_of_getElem? (i := 133) (by decide +kernel), List.mem_of_getElem? (i := 623) (by decide +kernel), List.mem_of_getElem? (i := 624) (by decide +kernel)⟩
theorem lw_p18 : lw_okq (⟨"TramPence$LawBook", "takeNumber", "(I)I"⟩, 7) := ⟨⟨by decide +kernel, by decide +kernel⟩, List.mem_of_getElem? (i := 133) (by decide +kernel), List.mem_of_getElem? (i := 632) (by decide +kernel), List.mem_of_getElem? (i := 633) (by decide +kernel)⟩
theorem lw_p19 : lw_okq (⟨"TramPence$LawBook", "tellDraft", "()I"⟩, 7) := ⟨⟨by decide +kernel, by decide +kernel⟩, List.mem_of_getElem? (i := 133) (by decide +kernel), List.mem_of_getElem? (i := 645) (by decide +kernel), List.mem_of_getElem? (i := 646) (by decide +kernel)⟩
theorem lw_p20 : lw_okq (⟨"TramPence$Laws", "shareAt", "(I)I"⟩, 8) := ⟨⟨by decide +kernel, by decide +kernel⟩, List.mem_of_getElem? (i := 166) (by decide +kernel), List.mem_of_getElem? (i := 665) (by decide +kernel), List.mem_of_getElem? (i := 666) (by decide +kernel)⟩
theorem lw_p21 : lw_okq (⟨"TramPence$Roster", "tellCrews", "()V"⟩, 7) := ⟨⟨by decide +kernel, by decide +kernel⟩, List.mem_of_getElem? (i := 222) (by decide +kernel), List.mem_of_getElem? (i := 685) (by decide +kernel), List.mem_of_getElem? (i := 686) (by decide +kernel)⟩
theorem lw_p22 : lw_okq (⟨"TramPence$Roster", "firstWithoutCrew", "()I"⟩, 7) := ⟨⟨by decide +kernel, by decide +kernel⟩, List.mem_of_getElem? (i := 222) (by decide +kernel), List.mem_of_getElem? (i := 689) (by decide +kernel), List.mem_of_getElem? (i := 690) (by decide +kernel)⟩
theorem lw_p23 : lw_okq (⟨"TramPence$Roster", "giveCrew", "(I)V"⟩, 7) := ⟨⟨by decide +kernel, by decide +kernel⟩, List.mem_of_getElem? (i := 222) (by decide +kernel), List.mem_of_getElem? (i := 693) (by decide +kernel), List.mem_of_getElem? (i := 694) (by decide +kernel)⟩
theorem lw_p24 : lw_okq (⟨"TramPence$Roster", "anotherCould", "(I)Z"⟩, 7) := ⟨⟨by decide +kernel, by decide +kernel⟩, List.mem_of_getElem? (i := 222) (by decide +kernel), List.mem_of_getElem? (i := 731) (by decide +kernel), List.mem_of_getElem? (i := 732) (by decide +kernel)⟩
theorem lw_p25 : lw_okq (⟨"TramPence$Roster", "couldHave", "(II)Z"⟩, 7) := ⟨⟨by decide +kernel, by decide +kernel⟩, List.mem_of_getElem? (i := 222) (by decide +kernel), List.mem_of_getElem? (i := 735) (by decide +kernel), List.mem_of_getElem? (i := 736) (by decide +kernel)⟩
theorem lw_p26 : lw_okq (⟨"TramPence$Roster", "haveRestBetween", "(II)Z"⟩, 7) := ⟨⟨by decide +kernel, by decide +kernel⟩, List.mem_of_getElem? (i := 222) (by decide +kernel), List.mem_of_getElem? (i := 739) (by decide +kernel), List.mem_of_getElem? (i := 740) (by decide +kernel)⟩
theorem lw_p27 : lw_okq (⟨"TramPenceModel", "isPack", "(II)Z"⟩, 44) := ⟨⟨by decide +kernel, by decide +kernel⟩, List.mem_of_getElem? (i := 752) (by decide +kernel), List.mem_of_getElem? (i := 904) (by decide +kernel), List.mem_of_getElem? (i := 905) (by decide +kernel)⟩
theorem lw_p28 : lw_okq (⟨"TramPenceModel", "isTrip", "(I)Z"⟩, 44) := ⟨⟨by decide +kernel, by decide +kernel⟩, List.mem_of_getElem? (i := 752) (by decide +kernel), List.mem_of_getElem? (i := 923) (by decide +kernel), List.mem_of_getElem? (i := 924) (by decide +kernel)⟩
theorem lw_p29 : lw_okq (⟨"TramPenceModel", "moneyOf", "(I)I"⟩, 44) := ⟨⟨by decide +kernel, by decide +kernel⟩, List.mem_of_getElem? (i := 752) (by decide +kernel), List.mem_of_getElem? (i := 927) (by decide +kernel), List.mem_of_getElem? (i := 928) (by decide +kernel)⟩
theorem lw_p30 : lw_okq (⟨"TramPenceModel", "along", "(II)I"⟩, 44) := ⟨⟨by decide +kernel, by decide +kernel⟩, List.mem_of_getElem? (i := 752) (by decide +kernel), List.mem_of_getElem? (i := 935) (by decide +kernel), List.mem_of_getElem? (i := 936) (by decide +kernel)⟩
theorem lw_p31 : lw_okq (⟨"TramPenceModel", "latestOf", "(I)I"⟩, 44) := ⟨⟨by decide +kernel, by decide +kernel⟩, List.mem_of_getElem? (i := 752) (by decide +kernel), List.mem_of_getElem? (i := 939) (by decide +kernel), List.mem_of_getElem? (i := 940) (by decide +kernel)⟩
def lw_privs_2 : List (MethodName × Nat) := [(⟨"TramPence$LawBook", "beginLaw", "(I)I"⟩, 7), (⟨"TramPence$LawBook", "endLaw", "(I)I"⟩, 7), (⟨"TramPence$LawBook", "takeNumber", "(I)I"⟩, 7), (⟨"TramPence$LawBook", "tellDraft", "()I"⟩, 7), (⟨"TramPence$Laws", "shareAt", "(I)I"⟩, 8), (⟨"TramPence$Roster", "tellCrews", "()V"⟩, 7), (⟨"TramPence$Roster", "firstWithoutCrew", "()I"⟩, 7), (⟨"TramPence$Roster", "giveCrew", "(I)V"⟩, 7), (⟨"TramPence$Roster", "anotherCould", "(I)Z"⟩, 7), (⟨"TramPence$Roster", "couldHave", "(II)Z"⟩, 7), (⟨"TramPence$Roster", "haveRestBetween", "(II)Z"⟩, 7), (⟨"TramPenceModel", "isPack", "(II)Z"⟩, 44), (⟨"TramPenceModel", "isTrip", "(I)Z"⟩, 44), (⟨"TramPenceModel", "moneyOf", "(I)I"⟩, 44), (⟨"TramPenceModel", "along", "(II)I"⟩, 44), (⟨"TramPenceModel", "latestOf", "(I)I"⟩, 44)]
theorem lw_r2 : ∀ q ∈ lw_privs_2, lw_okq q := List.forall_mem_cons.mpr ⟨lw_p16, List.forall_mem_cons.mpr ⟨lw_p17, List.forall_mem_cons.mpr ⟨lw_p18, List.forall_mem_cons.mpr ⟨lw_p19, List.forall_mem_cons.mpr ⟨lw_p20, List.forall_mem_cons.mpr ⟨lw_p21, List.forall_mem_cons.mpr ⟨lw_p22, List.forall_mem_cons.mpr ⟨lw_p23, List.forall_mem_cons.mpr ⟨lw_p24, List.forall_mem_cons.mpr ⟨lw_p25, List.forall_mem_cons.mpr ⟨lw_p26, List.forall_mem_cons.mpr ⟨lw_p27, List.forall_mem_cons.mpr ⟨lw_p28, List.forall_mem_cons.mpr ⟨lw_p29, List.forall_mem_cons.mpr ⟨lw_p30, List.forall_mem_cons.mpr ⟨lw_p31, fun _ h => absurd h List.not_mem_nil⟩⟩⟩⟩⟩⟩⟩⟩⟩⟩⟩⟩⟩⟩⟩⟩
theorem lw_p32 : lw_okq (⟨"TramPenceModel", "aboardOf", "(IIZ)I"⟩, 44) := ⟨⟨by decide +kernel, by decide +kernel⟩, List.mem_of_getElem? (i := 752) (by decide +kernel), List.mem_of_getElem? (i := 981) (by decide +kernel), List.mem_of_getElem? (i := 982) (by decide +kernel)⟩
theorem lw_p33 : lw_okq (⟨"TramPenceModel", "beginOf", "(II)I"⟩, 44) := ⟨⟨by decide +kernel, by decide +kernel⟩, List.mem_of_getElem? (i := 752) (by decide +kernel), List.mem_of_getElem? (i := 985) (by decide +kernel), List.mem_of_getElem? (i := 986) (by decide +kernel)⟩
theorem lw_p34 : lw_okq (⟨"TramPenceModel", "next", "()V"⟩, 44) := ⟨⟨by decide +kernel, by decide +kernel⟩, List.mem_of_getElem? (i := 752) (by decide +kernel), List.mem_of_getElem? (i := 1017) (by decide +kernel), List.mem_of_getElem? (i := 1018) (by decide +kernel)⟩
theorem lw_p35 : lw_okq (⟨"TramPenceModel", "byteAt", "(I)I"⟩, 44) := ⟨⟨by decide +kernel, by decide +kernel⟩, List.mem_of_getElem? (i := 752) (by decide +kernel), List.mem_of_getElem? (i := 1021) (by decide +kernel), List.mem_of_getElem? (i := 1022) (by decide +kernel)⟩
theorem lw_p36 : lw_okq (⟨"TramPenceModel", "isName", "(IIIIIIII)Z"⟩, 44) := ⟨⟨by decide +kernel, by decide +kernel⟩, List.mem_of_getElem? (i := 752) (by decide +kernel), List.mem_of_getElem? (i := 1027) (by decide +kernel), List.mem_of_getElem? (i := 1028) (by decide +kernel)⟩
theorem lw_p37 : lw_okq (⟨"TramPenceModel", "fails", "(II)V"⟩, 44) := ⟨⟨by decide +kernel, by decide +kernel⟩, List.mem_of_getElem? (i := 752) (by decide +kernel), List.mem_of_getElem? (i := 1031) (by decide +kernel), List.mem_of_getElem? (i := 1032) (by decide +kernel)⟩
theorem lw_p38 : lw_okq (⟨"TramPenceModel", "law", "()V"⟩, 44) := ⟨⟨by decide +kernel, by decide +kernel⟩, List.mem_of_getElem? (i := 752) (by decide +kernel), List.mem_of_getElem? (i := 1037) (by decide +kernel), List.mem_of_getElem? (i := 1038) (by decide +kernel)⟩
theorem lw_p39 : lw_okq (⟨"TramPenceModel", "above", "(III)I"⟩, 44) := ⟨⟨by decide +kernel, by decide +kernel⟩, List.mem_of_getElem? (i := 752) (by decide +kernel), List.mem_of_getElem? (i := 1041) (by decide +kernel), List.mem_of_getElem? (i := 1042) (by decide +kernel)⟩
theorem lw_p40 : lw_okq (⟨"TramPenceModel", "number", "(II)I"⟩, 44) := ⟨⟨by decide +kernel, by decide +kernel⟩, List.mem_of_getElem? (i := 752) (by decide +kernel), List.mem_of_getElem? (i := 1045) (by decide +kernel), List.mem_of_getElem? (i := 1046) (by decide +kernel)⟩
theorem lw_p41 : lw_okq (⟨"TramPenceModel", "layCrews", "()V"⟩, 44) := ⟨⟨by decide +kernel, by decide +kernel⟩, List.mem_of_getElem? (i := 752) (by decide +kernel), List.mem_of_getElem? (i := 1076) (by decide +kernel), List.mem_of_getElem? (i := 1077) (by decide +kernel)⟩
theorem lw_p42 : lw_okq (⟨"TramPenceModel", "mayHave", "(II)Z"⟩, 44) := ⟨⟨by decide +kernel, by decide +kernel⟩, List.mem_of_getElem? (i := 752) (by decide +kernel), List.mem_of_getElem? (i := 1080) (by decide +kernel), List.mem_of_getElem? (i := 1081) (by decide +kernel)⟩
theorem lw_p43 : lw_okq (⟨"TramPenceModel", "minutesOf", "(I)I"⟩, 44) := ⟨⟨by decide +kernel, by decide +kernel⟩, List.mem_of_getElem? (i := 752) (by decide +kernel), List.mem_of_getElem? (i := 1088) (by decide +kernel), List.mem_of_getElem? (i := 1089) (by decide +kernel)⟩
def lw_privs_3 : List (MethodName × Nat) := [(⟨"TramPenceModel", "aboardOf", "(IIZ)I"⟩, 44), (⟨"TramPenceModel", "beginOf", "(II)I"⟩, 44), (⟨"TramPenceModel", "next", "()V"⟩, 44), (⟨"TramPenceModel", "byteAt", "(I)I"⟩, 44), (⟨"TramPenceModel", "isName", "(IIIIIIII)Z"⟩, 44), (⟨"TramPenceModel", "fails", "(II)V"⟩, 44), (⟨"TramPenceModel", "law", "()V"⟩, 44), (⟨"TramPenceModel", "above", "(III)I"⟩, 44), (⟨"TramPenceModel", "number", "(II)I"⟩, 44), (⟨"TramPenceModel", "layCrews", "()V"⟩, 44), (⟨"TramPenceModel", "mayHave", "(II)Z"⟩, 44), (⟨"TramPenceModel", "minutesOf", "(I)I"⟩, 44)]
theorem lw_r3 : ∀ q ∈ lw_privs_3, lw_okq q := List.forall_mem_cons.mpr ⟨lw_p32, List.forall_mem_cons.mpr ⟨lw_p33, List.forall_mem_cons.mpr ⟨lw_p34, List.forall_mem_cons.mpr ⟨lw_p35, List.forall_mem_cons.mpr ⟨lw_p36, List.forall_mem_cons.mpr ⟨lw_p37, List.forall_mem_cons.mpr ⟨lw_p38, List.forall_mem_cons.mpr ⟨lw_p39, List.forall_mem_cons.mpr ⟨lw_p40, List.forall_mem_cons.mpr ⟨lw_p41, List.forall_mem_cons.mpr ⟨lw_p42, List.forall_mem_cons.mpr ⟨lw_p43, fun _ h => absurd h List.not_mem_nil⟩⟩⟩⟩⟩⟩⟩⟩⟩⟩⟩⟩
def lw_privs : List (MethodName × Nat) := lw_privs_1 ++ (lw_privs_2 ++ (lw_privs_3))
def lw_tbl : List Cond := k2_sels lw_privs ++ tables_1
theorem lw_privs_ok : ∀ q ∈ lw_privs, lw_okq q := by
  show ∀ q ∈ lw_privs_1 ++ (lw_privs_2 ++ (lw_privs_3)), lw_okq q
  exact List.forall_mem_append.mpr ⟨lw_r1, List.forall_mem_append.mpr ⟨lw_r2, lw_r3⟩⟩
/-! ===== BEGIN words of one list among another's, by their places ===== -/
theorem goodIn_r {big : List Cond} (ws : List Cond) (ps : List Nat) (hp : ws = ps.filterMap (fun i => big[i]?)) (h : ws.all goodWord = true) : GoodIn big ws := by
  intro w hw
  have h1 := List.all_eq_true.mp h w hw
  rw [hp] at hw
  obtain ⟨i, -, hi⟩ := List.mem_filterMap.mp hw
  have hm : w ∈ big := by first | exact List.mem_of_getElem? hi | exact List.getElem?_mem hi
  exact ⟨hm, good_of_word h1⟩
theorem goodIn_app {big a b : List Cond} (ha : GoodIn big a) (hb : GoodIn big b) : GoodIn big (a ++ b) := fun w h => (List.mem_append.mp h).elim (ha w) (hb w)
theorem goodIn_ca {big a b : List Cond} {c : Cond} (ha : GoodIn big (c :: a)) (hb : GoodIn big b) : GoodIn big (c :: (a ++ b)) := fun w h => (List.mem_cons.mp h).elim (fun e => ha w (List.mem_cons.mpr (Or.inl e))) (fun h => (List.mem_append.mp h).elim (fun h => ha w (List.mem_cons.mpr (Or.inr h))) (hb w))
theorem goodIn_sub {big ws : List Cond} (hm : ∀ w ∈ ws, w ∈ big) (h : ws.all goodWord = true) : GoodIn big ws := fun w hw => ⟨hm w hw, good_of_word (List.all_eq_true.mp h w hw)⟩
/-! ===== END ===== -/
def RX0 : String := "TramPence$LawBook"
def TX0 : u_T := fun k => match k with
  | 0 => ("TramPence$LawBook", "tape", "LTramPence$Tape;", true)
  | 1 => ("TramPence$LawBook", "told", "LTramPence$Laws;", false)
  | 2 => ("TramPence$LawBook", "fault", "I", false)
  | 3 => ("TramPence$LawBook", "draft", "LTramPence$Laws;", false)
  | 4 => ("TramPence$LawBook", "numbers", "[I", true)
  | 5 => ("TramPence$LawBook", "law", "I", false)
  | _ => ("TramPence$LawBook", "taken", "I", false)
def tyX0 : Nat → FieldType := fun k => match k with
  | 0 => .object "TramPence$Tape"
  | 1 => .object "TramPence$Laws"
  | 2 => .int
  | 3 => .object "TramPence$Laws"
  | 4 => .array .int
  | 5 => .int
  | _ => .int
abbrev wsX00 : List Cond := u_ws RX0 TX0 7
theorem nmX0 : ∀ a, a < 7 → ∀ b, b < 7 → a ≠ b → (TX0 a).2.1 ≠ (TX0 b).2.1 := by decide +kernel
theorem tyX0_ok : ∀ k, k < 7 → parseFieldDescriptor (TX0 k).2.2.1 = some (tyX0 k) := by decide +kernel
abbrev cX0_init : ByteArray := prog_2_method_1_code
def yX0_init : MethodName := ⟨RX0, "<init>", "()V"⟩
abbrev cX0_readTape : ByteArray := prog_2_method_2_code
def yX0_readTape : MethodName := ⟨RX0, "readTape", "()I"⟩
abbrev cX0_tellDraft : ByteArray := prog_2_method_3_code
def yX0_tellDraft : MethodName := ⟨RX0, "tellDraft", "()I"⟩
abbrev cX0_take : ByteArray := prog_2_method_4_code
def yX0_take : MethodName := ⟨RX0, "take", "(I)I"⟩
abbrev cX0_beginLaw : ByteArray := prog_2_method_5_code
def yX0_beginLaw : MethodName := ⟨RX0, "beginLaw", "(I)I"⟩
abbrev cX0_takeNumber : ByteArray := prog_2_method_6_code
def yX0_takeNumber : MethodName := ⟨RX0, "takeNumber", "(I)I"⟩
abbrev cX0_endLaw : ByteArray := prog_2_method_7_code
def yX0_endLaw : MethodName := ⟨RX0, "endLaw", "(I)I"⟩
def RX1 : String := "TramPence$Laws"
def TX1 : u_T := fun k => match k with
  | 0 => ("TramPence$Laws", "sections", "[I", true)
  | 1 => ("TramPence$Laws", "pence", "[I", true)
  | 2 => ("TramPence$Laws", "fromHour", "[I", true)
  | 3 => ("TramPence$Laws", "toHour", "[I", true)
  | 4 => ("TramPence$Laws", "ofHundred", "[I", true)
  | 5 => ("TramPence$Laws", "fares", "I", false)
  | 6 => ("TramPence$Laws", "works", "I", false)
  | _ => ("TramPence$Laws", "changeMinutes", "I", false)
def tyX1 : Nat → FieldType := fun k => match k with
  | 0 => .array .int
  | 1 => .array .int
  | 2 => .array .int
  | 3 => .array .int
  | 4 => .array .int
  | 5 => .int
  | 6 => .int
  | _ => .int
abbrev wsX10 : List Cond := u_ws RX1 TX1 8
theorem nmX1 : ∀ a, a < 8 → ∀ b, b < 8 → a ≠ b → (TX1 a).2.1 ≠ (TX1 b).2.1 := by decide +kernel
theorem tyX1_ok : ∀ k, k < 8 → parseFieldDescriptor (TX1 k).2.2.1 = some (tyX1 k) := by decide +kernel
abbrev cX1_init : ByteArray := prog_3_method_1_code
def yX1_init : MethodName := ⟨RX1, "<init>", "()V"⟩
abbrev cX1_clear : ByteArray := prog_3_method_2_code
def yX1_clear : MethodName := ⟨RX1, "clear", "()V"⟩
abbrev cX1_howMany : ByteArray := prog_3_method_3_code
def yX1_howMany : MethodName := ⟨RX1, "howMany", "()I"⟩
abbrev cX1_hasRoomFor : ByteArray := prog_3_method_4_code
def yX1_hasRoomFor : MethodName := ⟨RX1, "hasRoomFor", "(I)Z"⟩
abbrev cX1_add : ByteArray := prog_3_method_5_code
def yX1_add : MethodName := ⟨RX1, "add", "(IIII)V"⟩
abbrev cX1_latestFare : ByteArray := prog_3_method_6_code
def yX1_latestFare : MethodName := ⟨RX1, "latestFare", "(I)I"⟩
abbrev cX1_priceFor : ByteArray := prog_3_method_7_code
def yX1_priceFor : MethodName := ⟨RX1, "priceFor", "(II)I"⟩
abbrev cX1_shareAt : ByteArray := prog_3_method_8_code
def yX1_shareAt : MethodName := ⟨RX1, "shareAt", "(I)I"⟩
abbrev cX1_isChangeGood : ByteArray := prog_3_method_9_code
def yX1_isChangeGood : MethodName := ⟨RX1, "isChangeGood", "(I)Z"⟩
def RX2 : String := "TramPence$Packs"
def TX2 : u_T := fun k => match k with
  | 0 => ("TramPence$Packs", "next", "[[I", true)
  | _ => ("TramPence$Packs", "limit", "[[I", true)
def tyX2 : Nat → FieldType := fun k => match k with
  | 0 => .array (.array .int)
  | _ => .array (.array .int)
abbrev wsX20 : List Cond := u_ws RX2 TX2 2
theorem nmX2 : ∀ a, a < 2 → ∀ b, b < 2 → a ≠ b → (TX2 a).2.1 ≠ (TX2 b).2.1 := by decide +kernel
theorem tyX2_ok : ∀ k, k < 2 → parseFieldDescriptor (TX2 k).2.2.1 = some (tyX2 k) := by decide +kernel
abbrev cX2_init : ByteArray := prog_4_method_1_code
def yX2_init : MethodName := ⟨RX2, "<init>", "()V"⟩
abbrev cX2_size : ByteArray := prog_4_method_2_code
def yX2_size : MethodName := ⟨RX2, "size", "(II)I"⟩
abbrev cX2_replace : ByteArray := prog_4_method_3_code
def yX2_replace : MethodName := ⟨RX2, "replace", "(IIII)V"⟩
abbrev cX2_takeNext : ByteArray := prog_4_method_4_code
def yX2_takeNext : MethodName := ⟨RX2, "takeNext", "(II)I"⟩
abbrev cX2_anyWithOthers : ByteArray := prog_4_method_5_code
def yX2_anyWithOthers : MethodName := ⟨RX2, "anyWithOthers", "(IIII)Z"⟩
abbrev cX2_beyond : ByteArray := prog_4_method_6_code
def yX2_beyond : MethodName := ⟨RX2, "beyond", "(II)I"⟩
def RX3 : String := "TramPence$Roster"
def TX3 : u_T := fun k => match k with
  | 0 => ("TramPence$Roster", "from", "[I", true)
  | 1 => ("TramPence$Roster", "to", "[I", true)
  | 2 => ("TramPence$Roster", "freeFrom", "[I", true)
  | 3 => ("TramPence$Roster", "crewOf", "[I", true)
  | 4 => ("TramPence$Roster", "used", "I", false)
  | 5 => ("TramPence$Roster", "crewsUsed", "I", false)
  | _ => ("TramPence$Roster", "restMinutes", "I", false)
def tyX3 : Nat → FieldType := fun k => match k with
  | 0 => .array .int
  | 1 => .array .int
  | 2 => .array .int
  | 3 => .array .int
  | 4 => .int
  | 5 => .int
  | _ => .int
abbrev wsX30 : List Cond := u_ws RX3 TX3 7
theorem nmX3 : ∀ a, a < 7 → ∀ b, b < 7 → a ≠ b → (TX3 a).2.1 ≠ (TX3 b).2.1 := by decide +kernel
theorem tyX3_ok : ∀ k, k < 7 → parseFieldDescriptor (TX3 k).2.2.1 = some (tyX3 k) := by decide +kernel
abbrev cX3_init : ByteArray := prog_5_method_1_code
def yX3_init : MethodName := ⟨RX3, "<init>", "()V"⟩
abbrev cX3_add : ByteArray := prog_5_method_2_code
def yX3_add : MethodName := ⟨RX3, "add", "(II)I"⟩
abbrev cX3_replaceRest : ByteArray := prog_5_method_3_code
def yX3_replaceRest : MethodName := ⟨RX3, "replaceRest", "(I)I"⟩
abbrev cX3_tellCrews : ByteArray := prog_5_method_4_code
def yX3_tellCrews : MethodName := ⟨RX3, "tellCrews", "()V"⟩
abbrev cX3_firstWithoutCrew : ByteArray := prog_5_method_5_code
def yX3_firstWithoutCrew : MethodName := ⟨RX3, "firstWithoutCrew", "()I"⟩
abbrev cX3_giveCrew : ByteArray := prog_5_method_6_code
def yX3_giveCrew : MethodName := ⟨RX3, "giveCrew", "(I)V"⟩
abbrev cX3_minutesOf : ByteArray := prog_5_method_7_code
def yX3_minutesOf : MethodName := ⟨RX3, "minutesOf", "(I)I"⟩
abbrev cX3_busiest : ByteArray := prog_5_method_8_code
def yX3_busiest : MethodName := ⟨RX3, "busiest", "()I"⟩
abbrev cX3_lostWithout : ByteArray := prog_5_method_9_code
def yX3_lostWithout : MethodName := ⟨RX3, "lostWithout", "(I)I"⟩
abbrev cX3_anotherCould : ByteArray := prog_5_method_10_code
def yX3_anotherCould : MethodName := ⟨RX3, "anotherCould", "(I)Z"⟩
abbrev cX3_couldHave : ByteArray := prog_5_method_11_code
def yX3_couldHave : MethodName := ⟨RX3, "couldHave", "(II)Z"⟩
abbrev cX3_haveRestBetween : ByteArray := prog_5_method_12_code
def yX3_haveRestBetween : MethodName := ⟨RX3, "haveRestBetween", "(II)Z"⟩
def RX4 : String := "TramPence$Sales"
def TX4 : u_T := fun k => match k with
  | 0 => ("TramPence$Sales", "trip", "[I", true)
  | 1 => ("TramPence$Sales", "type", "[I", true)
  | 2 => ("TramPence$Sales", "step", "[I", true)
  | 3 => ("TramPence$Sales", "number", "[I", true)
  | _ => ("TramPence$Sales", "used", "I", false)
def tyX4 : Nat → FieldType := fun k => match k with
  | 0 => .array .int
  | 1 => .array .int
  | 2 => .array .int
  | 3 => .array .int
  | _ => .int
abbrev wsX40 : List Cond := u_ws RX4 TX4 5
theorem nmX4 : ∀ a, a < 5 → ∀ b, b < 5 → a ≠ b → (TX4 a).2.1 ≠ (TX4 b).2.1 := by decide +kernel
theorem tyX4_ok : ∀ k, k < 5 → parseFieldDescriptor (TX4 k).2.2.1 = some (tyX4 k) := by decide +kernel
abbrev cX4_init : ByteArray := prog_6_method_1_code
def yX4_init : MethodName := ⟨RX4, "<init>", "()V"⟩
abbrev cX4_isFull : ByteArray := prog_6_method_2_code
def yX4_isFull : MethodName := ⟨RX4, "isFull", "()Z"⟩
abbrev cX4_add : ByteArray := prog_6_method_3_code
def yX4_add : MethodName := ⟨RX4, "add", "(IIII)V"⟩
abbrev cX4_latestStep : ByteArray := prog_6_method_4_code
def yX4_latestStep : MethodName := ⟨RX4, "latestStep", "(I)I"⟩
abbrev cX4_find : ByteArray := prog_6_method_5_code
def yX4_find : MethodName := ⟨RX4, "find", "(II)I"⟩
abbrev cX4_anySold : ByteArray := prog_6_method_6_code
def yX4_anySold : MethodName := ⟨RX4, "anySold", "(III)Z"⟩
abbrev cX4_beyond : ByteArray := prog_6_method_7_code
def yX4_beyond : MethodName := ⟨RX4, "beyond", "(II)I"⟩
abbrev cX4_greatestSold : ByteArray := prog_6_method_8_code
def yX4_greatestSold : MethodName := ⟨RX4, "greatestSold", "(I)I"⟩
abbrev cX4_howMany : ByteArray := prog_6_method_9_code
def yX4_howMany : MethodName := ⟨RX4, "howMany", "(II)I"⟩
abbrev cX4_firstOf : ByteArray := prog_6_method_10_code
def yX4_firstOf : MethodName := ⟨RX4, "firstOf", "(II)I"⟩
abbrev cX4_lastOf : ByteArray := prog_6_method_11_code
def yX4_lastOf : MethodName := ⟨RX4, "lastOf", "(II)I"⟩
abbrev cX4_isOf : ByteArray := prog_6_method_12_code
def yX4_isOf : MethodName := ⟨RX4, "isOf", "(III)Z"⟩
def RX5 : String := "TramPence$Sheet"
def TX5 : u_T := fun k => match k with
  | 0 => ("TramPence$Sheet", "cells", "[I", true)
  | 1 => ("TramPence$Sheet", "lane", "I", false)
  | _ => ("TramPence$Sheet", "size", "I", false)
def tyX5 : Nat → FieldType := fun k => match k with
  | 0 => .array .int
  | 1 => .int
  | _ => .int
abbrev wsX50 : List Cond := u_ws RX5 TX5 3
theorem nmX5 : ∀ a, a < 3 → ∀ b, b < 3 → a ≠ b → (TX5 a).2.1 ≠ (TX5 b).2.1 := by decide +kernel
theorem tyX5_ok : ∀ k, k < 3 → parseFieldDescriptor (TX5 k).2.2.1 = some (tyX5 k) := by decide +kernel
abbrev cX5_init : ByteArray := prog_7_method_1_code
def yX5_init : MethodName := ⟨RX5, "<init>", "()V"⟩
abbrev cX5_isNothing : ByteArray := prog_7_method_2_code
def yX5_isNothing : MethodName := ⟨RX5, "isNothing", "()Z"⟩
abbrev cX5_hasCell : ByteArray := prog_7_method_3_code
def yX5_hasCell : MethodName := ⟨RX5, "hasCell", "(I)Z"⟩
abbrev cX5_renew : ByteArray := prog_7_method_4_code
def yX5_renew : MethodName := ⟨RX5, "renew", "(II)V"⟩
abbrev cX5_write : ByteArray := prog_7_method_5_code
def yX5_write : MethodName := ⟨RX5, "write", "(II)V"⟩
def RX6 : String := "TramPence$Tape"
def TX6 : u_T := fun k => match k with
  | 0 => ("TramPence$Tape", "bytes", "[B", true)
  | 1 => ("TramPence$Tape", "length", "I", false)
  | 2 => ("TramPence$Tape", "start", "I", false)
  | 3 => ("TramPence$Tape", "value", "I", false)
  | _ => ("TramPence$Tape", "place", "I", false)
def tyX6 : Nat → FieldType := fun k => match k with
  | 0 => .array .byte
  | 1 => .int
  | 2 => .int
  | 3 => .int
  | _ => .int
abbrev wsX60 : List Cond := u_ws RX6 TX6 5
theorem nmX6 : ∀ a, a < 5 → ∀ b, b < 5 → a ≠ b → (TX6 a).2.1 ≠ (TX6 b).2.1 := by decide +kernel
theorem tyX6_ok : ∀ k, k < 5 → parseFieldDescriptor (TX6 k).2.2.1 = some (tyX6 k) := by decide +kernel
abbrev cX6_init : ByteArray := prog_8_method_1_code
def yX6_init : MethodName := ⟨RX6, "<init>", "()V"⟩
abbrev cX6_append : ByteArray := prog_8_method_2_code
def yX6_append : MethodName := ⟨RX6, "append", "(J)I"⟩
abbrev cX6_rewind : ByteArray := prog_8_method_3_code
def yX6_rewind : MethodName := ⟨RX6, "rewind", "()V"⟩
abbrev cX6_readToken : ByteArray := prog_8_method_4_code
def yX6_readToken : MethodName := ⟨RX6, "readToken", "()I"⟩
abbrev cX6_readName : ByteArray := prog_8_method_5_code
def yX6_readName : MethodName := ⟨RX6, "readName", "()I"⟩
abbrev cX6_readNumber : ByteArray := prog_8_method_6_code
def yX6_readNumber : MethodName := ⟨RX6, "readNumber", "()I"⟩
abbrev cX6_isLetter : ByteArray := prog_8_method_7_code
def yX6_isLetter : MethodName := ⟨RX6, "isLetter", "(I)Z"⟩
abbrev cX6_isFigure : ByteArray := prog_8_method_8_code
def yX6_isFigure : MethodName := ⟨RX6, "isFigure", "(I)Z"⟩
abbrev cX6_isSpelled : ByteArray := prog_8_method_9_code
def yX6_isSpelled : MethodName := ⟨RX6, "isSpelled", "(Ljava/lang/String;)Z"⟩
def RX7 : String := "TramPence$Trips"
def TX7 : u_T := fun k => match k with
  | 0 => ("TramPence$Trips", "conductor", "[I", true)
  | 1 => ("TramPence$Trips", "up", "[Z", true)
  | 2 => ("TramPence$Trips", "open", "[Z", true)
  | _ => ("TramPence$Trips", "used", "I", false)
def tyX7 : Nat → FieldType := fun k => match k with
  | 0 => .array .int
  | 1 => .array .boolean
  | 2 => .array .boolean
  | _ => .int
abbrev wsX70 : List Cond := u_ws RX7 TX7 4
theorem nmX7 : ∀ a, a < 4 → ∀ b, b < 4 → a ≠ b → (TX7 a).2.1 ≠ (TX7 b).2.1 := by decide +kernel
theorem tyX7_ok : ∀ k, k < 4 → parseFieldDescriptor (TX7 k).2.2.1 = some (tyX7 k) := by decide +kernel
abbrev cX7_init : ByteArray := prog_9_method_1_code
def yX7_init : MethodName := ⟨RX7, "<init>", "()V"⟩
abbrev cX7_has : ByteArray := prog_9_method_2_code
def yX7_has : MethodName := ⟨RX7, "has", "(I)Z"⟩
abbrev cX7_add : ByteArray := prog_9_method_3_code
def yX7_add : MethodName := ⟨RX7, "add", "(IZ)I"⟩
abbrev cX7_hasOpen : ByteArray := prog_9_method_4_code
def yX7_hasOpen : MethodName := ⟨RX7, "hasOpen", "(I)Z"⟩
abbrev cX7_howManyOpen : ByteArray := prog_9_method_5_code
def yX7_howManyOpen : MethodName := ⟨RX7, "howManyOpen", "()I"⟩
abbrev cX7_stepOfStage : ByteArray := prog_9_method_6_code
def yX7_stepOfStage : MethodName := ⟨RX7, "stepOfStage", "(II)I"⟩
abbrev cX7_stepOfSection : ByteArray := prog_9_method_7_code
def yX7_stepOfSection : MethodName := ⟨RX7, "stepOfSection", "(II)I"⟩
def RX8 : String := "TramPence$Types"
def TX8 : u_T := fun k => match k with
  | 0 => ("TramPence$Types", "price", "[I", true)
  | 1 => ("TramPence$Types", "span", "[I", true)
  | _ => ("TramPence$Types", "used", "I", false)
def tyX8 : Nat → FieldType := fun k => match k with
  | 0 => .array .int
  | 1 => .array .int
  | _ => .int
abbrev wsX80 : List Cond := u_ws RX8 TX8 3
theorem nmX8 : ∀ a, a < 3 → ∀ b, b < 3 → a ≠ b → (TX8 a).2.1 ≠ (TX8 b).2.1 := by decide +kernel
theorem tyX8_ok : ∀ k, k < 3 → parseFieldDescriptor (TX8 k).2.2.1 = some (tyX8 k) := by decide +kernel
abbrev cX8_init : ByteArray := prog_10_method_1_code
def yX8_init : MethodName := ⟨RX8, "<init>", "()V"⟩
abbrev cX8_has : ByteArray := prog_10_method_2_code
def yX8_has : MethodName := ⟨RX8, "has", "(I)Z"⟩
abbrev cX8_add : ByteArray := prog_10_method_3_code
def yX8_add : MethodName := ⟨RX8, "add", "(II)I"⟩
def RX9 : String := "TramPence"
def TX9 : u_T := fun k => match k with
  | 0 => ("TramPence", "types", "LTramPence$Types;", true)
  | 1 => ("TramPence", "packs", "LTramPence$Packs;", true)
  | 2 => ("TramPence", "trips", "LTramPence$Trips;", true)
  | 3 => ("TramPence", "sales", "LTramPence$Sales;", true)
  | 4 => ("TramPence", "sheets", "[LTramPence$Sheet;", true)
  | 5 => ("TramPence", "book", "LTramPence$LawBook;", true)
  | _ => ("TramPence", "roster", "LTramPence$Roster;", true)
def tyX9 : Nat → FieldType := fun k => match k with
  | 0 => .object "TramPence$Types"
  | 1 => .object "TramPence$Packs"
  | 2 => .object "TramPence$Trips"
  | 3 => .object "TramPence$Sales"
  | 4 => .array (.object "TramPence$Sheet")
  | 5 => .object "TramPence$LawBook"
  | _ => .object "TramPence$Roster"
abbrev wsX90 : List Cond := u_ws RX9 TX9 7
theorem nmX9 : ∀ a, a < 7 → ∀ b, b < 7 → a ≠ b → (TX9 a).2.1 ≠ (TX9 b).2.1 := by decide +kernel
theorem tyX9_ok : ∀ k, k < 7 → parseFieldDescriptor (TX9 k).2.2.1 = some (tyX9 k) := by decide +kernel
abbrev cX9_init : ByteArray := prog_1_method_1_code
def yX9_init : MethodName := ⟨RX9, "<init>", "()V"⟩
abbrev cX9_type : ByteArray := prog_1_method_2_code
def yX9_type : MethodName := ⟨RX9, "type", "(II)I"⟩
abbrev cX9_issue : ByteArray := prog_1_method_3_code
def yX9_issue : MethodName := ⟨RX9, "issue", "(IIII)I"⟩
abbrev cX9_pack : ByteArray := prog_1_method_4_code
def yX9_pack : MethodName := ⟨RX9, "pack", "(III)I"⟩
abbrev cX9_trip : ByteArray := prog_1_method_5_code
def yX9_trip : MethodName := ⟨RX9, "trip", "(IZ)I"⟩
abbrev cX9_close : ByteArray := prog_1_method_6_code
def yX9_close : MethodName := ⟨RX9, "close", "(I)I"⟩
abbrev cX9_sell : ByteArray := prog_1_method_7_code
def yX9_sell : MethodName := ⟨RX9, "sell", "(III)I"⟩
abbrev cX9_undo : ByteArray := prog_1_method_8_code
def yX9_undo : MethodName := ⟨RX9, "undo", "()I"⟩
abbrev cX9_sheet : ByteArray := prog_1_method_9_code
def yX9_sheet : MethodName := ⟨RX9, "sheet", "(III)I"⟩
abbrev cX9_lay : ByteArray := prog_1_method_10_code
def yX9_lay : MethodName := ⟨RX9, "lay", "(III)I"⟩
abbrev cX9_scan : ByteArray := prog_1_method_11_code
def yX9_scan : MethodName := ⟨RX9, "scan", "(IIIII)I"⟩
abbrev cX9_waybill : ByteArray := prog_1_method_12_code
def yX9_waybill : MethodName := ⟨RX9, "waybill", "(III)I"⟩
abbrev cX9_money : ByteArray := prog_1_method_13_code
def yX9_money : MethodName := ⟨RX9, "money", "(I)I"⟩
abbrev cX9_paid : ByteArray := prog_1_method_14_code
def yX9_paid : MethodName := ⟨RX9, "paid", "(II)I"⟩
abbrev cX9_aboard : ByteArray := prog_1_method_15_code
def yX9_aboard : MethodName := ⟨RX9, "aboard", "(III)I"⟩
abbrev cX9_riders : ByteArray := prog_1_method_16_code
def yX9_riders : MethodName := ⟨RX9, "riders", "(ZII)I"⟩
abbrev cX9_shown : ByteArray := prog_1_method_17_code
def yX9_shown : MethodName := ⟨RX9, "shown", "(IIII)I"⟩
abbrev cX9_heads : ByteArray := prog_1_method_18_code
def yX9_heads : MethodName := ⟨RX9, "heads", "(III)I"⟩
abbrev cX9_gap : ByteArray := prog_1_method_19_code
def yX9_gap : MethodName := ⟨RX9, "gap", "(I)I"⟩
abbrev cX9_feed : ByteArray := prog_1_method_20_code
def yX9_feed : MethodName := ⟨RX9, "feed", "(J)I"⟩
abbrev cX9_end : ByteArray := prog_1_method_21_code
def yX9_end : MethodName := ⟨RX9, "end", "(I)I"⟩
abbrev cX9_laws : ByteArray := prog_1_method_22_code
def yX9_laws : MethodName := ⟨RX9, "laws", "()I"⟩
abbrev cX9_fault : ByteArray := prog_1_method_23_code
def yX9_fault : MethodName := ⟨RX9, "fault", "()I"⟩
abbrev cX9_fare : ByteArray := prog_1_method_24_code
def yX9_fare : MethodName := ⟨RX9, "fare", "(II)I"⟩
abbrev cX9_change : ByteArray := prog_1_method_25_code
def yX9_change : MethodName := ⟨RX9, "change", "(II)I"⟩
abbrev cX9_duty : ByteArray := prog_1_method_26_code
def yX9_duty : MethodName := ⟨RX9, "duty", "(II)I"⟩
abbrev cX9_rest : ByteArray := prog_1_method_27_code
def yX9_rest : MethodName := ⟨RX9, "rest", "(I)I"⟩
abbrev cX9_crew : ByteArray := prog_1_method_28_code
def yX9_crew : MethodName := ⟨RX9, "crew", "(I)I"⟩
abbrev cX9_crews : ByteArray := prog_1_method_29_code
def yX9_crews : MethodName := ⟨RX9, "crews", "(I)I"⟩
abbrev cX9_ill : ByteArray := prog_1_method_30_code
def yX9_ill : MethodName := ⟨RX9, "ill", "(I)I"⟩
abbrev cX9_count : ByteArray := prog_1_method_31_code
def yX9_count : MethodName := ⟨RX9, "count", "(I)I"⟩
abbrev cX9_isOutside : ByteArray := prog_1_method_32_code
def yX9_isOutside : MethodName := ⟨RX9, "isOutside", "(III)Z"⟩
abbrev cX9_hasPack : ByteArray := prog_1_method_33_code
def yX9_hasPack : MethodName := ⟨RX9, "hasPack", "(II)Z"⟩
abbrev cX9_takings : ByteArray := prog_1_method_34_code
def yX9_takings : MethodName := ⟨RX9, "takings", "(I)I"⟩
abbrev cX9_howManyAboard : ByteArray := prog_1_method_35_code
def yX9_howManyAboard : MethodName := ⟨RX9, "howManyAboard", "(III)I"⟩
abbrev cX9_isAboard : ByteArray := prog_1_method_36_code
def yX9_isAboard : MethodName := ⟨RX9, "isAboard", "(III)Z"⟩
abbrev cX9_isGoodAt : ByteArray := prog_1_method_37_code
def yX9_isGoodAt : MethodName := ⟨RX9, "isGoodAt", "(II)Z"⟩
abbrev cX9_sellFromSheet : ByteArray := prog_1_method_38_code
def yX9_sellFromSheet : MethodName := ⟨RX9, "sellFromSheet", "(ILTramPence$Sheet;I)I"⟩
abbrev cX9_takeBack : ByteArray := prog_1_method_39_code
def yX9_takeBack : MethodName := ⟨RX9, "takeBack", "(I)V"⟩
abbrev cX9_takeBackLatest : ByteArray := prog_1_method_40_code
def yX9_takeBackLatest : MethodName := ⟨RX9, "takeBackLatest", "()V"⟩
abbrev cX9_beyondHeld : ByteArray := prog_1_method_41_code
def yX9_beyondHeld : MethodName := ⟨RX9, "beyondHeld", "(II)I"⟩
def RX10 : String := "TramPenceModel"
def TX10 : u_T := fun k => match k with
  | 0 => ("TramPenceModel", "types", "I", false)
  | 1 => ("TramPenceModel", "prices", "[I", true)
  | 2 => ("TramPenceModel", "spans", "[I", true)
  | 3 => ("TramPenceModel", "nexts", "[I", true)
  | 4 => ("TramPenceModel", "ends", "[I", true)
  | 5 => ("TramPenceModel", "trips", "I", false)
  | 6 => ("TramPenceModel", "driver", "[I", true)
  | 7 => ("TramPenceModel", "isUp", "[Z", true)
  | 8 => ("TramPenceModel", "isOpen", "[Z", true)
  | 9 => ("TramPenceModel", "sales", "I", false)
  | 10 => ("TramPenceModel", "saleTrip", "[I", true)
  | 11 => ("TramPenceModel", "saleType", "[I", true)
  | 12 => ("TramPenceModel", "saleStage", "[I", true)
  | 13 => ("TramPenceModel", "saleNumber", "[I", true)
  | 14 => ("TramPenceModel", "lanes", "[I", true)
  | 15 => ("TramPenceModel", "lengths", "[I", true)
  | 16 => ("TramPenceModel", "cells", "[I", true)
  | 17 => ("TramPenceModel", "tape", "[I", true)
  | 18 => ("TramPenceModel", "taped", "I", false)
  | 19 => ("TramPenceModel", "fault", "I", false)
  | 20 => ("TramPenceModel", "fares", "I", false)
  | 21 => ("TramPenceModel", "fareRow", "[I", true)
  | 22 => ("TramPenceModel", "works", "I", false)
  | 23 => ("TramPenceModel", "workRow", "[I", true)
  | 24 => ("TramPenceModel", "changeMost", "I", false)
  | 25 => ("TramPenceModel", "lawMany", "I", false)
  | 26 => ("TramPenceModel", "place", "I", false)
  | 27 => ("TramPenceModel", "at", "I", false)
  | 28 => ("TramPenceModel", "token", "I", false)
  | 29 => ("TramPenceModel", "value", "I", false)
  | 30 => ("TramPenceModel", "wrong", "I", false)
  | 31 => ("TramPenceModel", "wrongAt", "I", false)
  | 32 => ("TramPenceModel", "sixOf", "[I", true)
  | 33 => ("TramPenceModel", "newFares", "I", false)
  | 34 => ("TramPenceModel", "newWorks", "I", false)
  | 35 => ("TramPenceModel", "newChange", "I", false)
  | 36 => ("TramPenceModel", "newFare", "[I", true)
  | 37 => ("TramPenceModel", "newWork", "[I", true)
  | 38 => ("TramPenceModel", "duties", "I", false)
  | 39 => ("TramPenceModel", "froms", "[I", true)
  | 40 => ("TramPenceModel", "tos", "[I", true)
  | 41 => ("TramPenceModel", "resting", "I", false)
  | 42 => ("TramPenceModel", "crewOf", "[I", true)
  | _ => ("TramPenceModel", "crewMany", "I", false)
def tyX10 : Nat → FieldType := fun k => match k with
  | 0 => .int
  | 1 => .array .int
  | 2 => .array .int
  | 3 => .array .int
  | 4 => .array .int
  | 5 => .int
  | 6 => .array .int
  | 7 => .array .boolean
  | 8 => .array .boolean
  | 9 => .int
  | 10 => .array .int
  | 11 => .array .int
  | 12 => .array .int
  | 13 => .array .int
  | 14 => .array .int
  | 15 => .array .int
  | 16 => .array .int
  | 17 => .array .int
  | 18 => .int
  | 19 => .int
  | 20 => .int
  | 21 => .array .int
  | 22 => .int
  | 23 => .array .int
  | 24 => .int
  | 25 => .int
  | 26 => .int
  | 27 => .int
  | 28 => .int
  | 29 => .int
  | 30 => .int
  | 31 => .int
  | 32 => .array .int
  | 33 => .int
  | 34 => .int
  | 35 => .int
  | 36 => .array .int
  | 37 => .array .int
  | 38 => .int
  | 39 => .array .int
  | 40 => .array .int
  | 41 => .int
  | 42 => .array .int
  | _ => .int
abbrev wsX100 : List Cond := u_ws RX10 TX10 44
theorem nmX10 : ∀ a, a < 44 → ∀ b, b < 44 → a ≠ b → (TX10 a).2.1 ≠ (TX10 b).2.1 := by decide +kernel
theorem tyX10_ok : ∀ k, k < 44 → parseFieldDescriptor (TX10 k).2.2.1 = some (tyX10 k) := by decide +kernel
abbrev cX10_init : ByteArray := prog_12_method_1_code
def yX10_init : MethodName := ⟨RX10, "<init>", "()V"⟩
abbrev cX10_in : ByteArray := prog_12_method_3_code
def yX10_in : MethodName := ⟨RX10, "in", "(JJJ)Z"⟩
abbrev cX10_type : ByteArray := prog_12_method_4_code
def yX10_type : MethodName := ⟨RX10, "type", "(II)I"⟩
abbrev cX10_isPack : ByteArray := prog_12_method_5_code
def yX10_isPack : MethodName := ⟨RX10, "isPack", "(II)Z"⟩
abbrev cX10_issue : ByteArray := prog_12_method_6_code
def yX10_issue : MethodName := ⟨RX10, "issue", "(IIII)I"⟩
abbrev cX10_pack : ByteArray := prog_12_method_7_code
def yX10_pack : MethodName := ⟨RX10, "pack", "(III)I"⟩
abbrev cX10_trip : ByteArray := prog_12_method_8_code
def yX10_trip : MethodName := ⟨RX10, "trip", "(IZ)I"⟩
abbrev cX10_isTrip : ByteArray := prog_12_method_9_code
def yX10_isTrip : MethodName := ⟨RX10, "isTrip", "(I)Z"⟩
abbrev cX10_moneyOf : ByteArray := prog_12_method_10_code
def yX10_moneyOf : MethodName := ⟨RX10, "moneyOf", "(I)I"⟩
abbrev cX10_close : ByteArray := prog_12_method_11_code
def yX10_close : MethodName := ⟨RX10, "close", "(I)I"⟩
abbrev cX10_along : ByteArray := prog_12_method_12_code
def yX10_along : MethodName := ⟨RX10, "along", "(II)I"⟩
abbrev cX10_latestOf : ByteArray := prog_12_method_13_code
def yX10_latestOf : MethodName := ⟨RX10, "latestOf", "(I)I"⟩
abbrev cX10_sell : ByteArray := prog_12_method_14_code
def yX10_sell : MethodName := ⟨RX10, "sell", "(III)I"⟩
abbrev cX10_undo : ByteArray := prog_12_method_15_code
def yX10_undo : MethodName := ⟨RX10, "undo", "()I"⟩
abbrev cX10_sheet : ByteArray := prog_12_method_16_code
def yX10_sheet : MethodName := ⟨RX10, "sheet", "(III)I"⟩
abbrev cX10_lay : ByteArray := prog_12_method_17_code
def yX10_lay : MethodName := ⟨RX10, "lay", "(III)I"⟩
abbrev cX10_scan : ByteArray := prog_12_method_18_code
def yX10_scan : MethodName := ⟨RX10, "scan", "(IIIII)I"⟩
abbrev cX10_waybill : ByteArray := prog_12_method_19_code
def yX10_waybill : MethodName := ⟨RX10, "waybill", "(III)I"⟩
abbrev cX10_money : ByteArray := prog_12_method_20_code
def yX10_money : MethodName := ⟨RX10, "money", "(I)I"⟩
abbrev cX10_paid : ByteArray := prog_12_method_21_code
def yX10_paid : MethodName := ⟨RX10, "paid", "(II)I"⟩
abbrev cX10_beginOf : ByteArray := prog_12_method_22_code
def yX10_beginOf : MethodName := ⟨RX10, "beginOf", "(II)I"⟩
abbrev cX10_aboardOf : ByteArray := prog_12_method_23_code
def yX10_aboardOf : MethodName := ⟨RX10, "aboardOf", "(IIZ)I"⟩
abbrev cX10_aboard : ByteArray := prog_12_method_24_code
def yX10_aboard : MethodName := ⟨RX10, "aboard", "(III)I"⟩
abbrev cX10_riders : ByteArray := prog_12_method_25_code
def yX10_riders : MethodName := ⟨RX10, "riders", "(ZII)I"⟩
abbrev cX10_shown : ByteArray := prog_12_method_26_code
def yX10_shown : MethodName := ⟨RX10, "shown", "(IIII)I"⟩
abbrev cX10_heads : ByteArray := prog_12_method_27_code
def yX10_heads : MethodName := ⟨RX10, "heads", "(III)I"⟩
abbrev cX10_gap : ByteArray := prog_12_method_28_code
def yX10_gap : MethodName := ⟨RX10, "gap", "(I)I"⟩
abbrev cX10_feed : ByteArray := prog_12_method_29_code
def yX10_feed : MethodName := ⟨RX10, "feed", "(J)I"⟩
abbrev cX10_end : ByteArray := prog_12_method_30_code
def yX10_end : MethodName := ⟨RX10, "end", "(I)I"⟩
abbrev cX10_byteAt : ByteArray := prog_12_method_31_code
def yX10_byteAt : MethodName := ⟨RX10, "byteAt", "(I)I"⟩
abbrev cX10_fails : ByteArray := prog_12_method_32_code
def yX10_fails : MethodName := ⟨RX10, "fails", "(II)V"⟩
abbrev cX10_isName : ByteArray := prog_12_method_33_code
def yX10_isName : MethodName := ⟨RX10, "isName", "(IIIIIIII)Z"⟩
abbrev cX10_next : ByteArray := prog_12_method_34_code
def yX10_next : MethodName := ⟨RX10, "next", "()V"⟩
abbrev cX10_number : ByteArray := prog_12_method_35_code
def yX10_number : MethodName := ⟨RX10, "number", "(II)I"⟩
abbrev cX10_above : ByteArray := prog_12_method_36_code
def yX10_above : MethodName := ⟨RX10, "above", "(III)I"⟩
abbrev cX10_law : ByteArray := prog_12_method_37_code
def yX10_law : MethodName := ⟨RX10, "law", "()V"⟩
abbrev cX10_laws : ByteArray := prog_12_method_38_code
def yX10_laws : MethodName := ⟨RX10, "laws", "()I"⟩
abbrev cX10_fault : ByteArray := prog_12_method_39_code
def yX10_fault : MethodName := ⟨RX10, "fault", "()I"⟩
abbrev cX10_fare : ByteArray := prog_12_method_40_code
def yX10_fare : MethodName := ⟨RX10, "fare", "(II)I"⟩
abbrev cX10_change : ByteArray := prog_12_method_41_code
def yX10_change : MethodName := ⟨RX10, "change", "(II)I"⟩
abbrev cX10_duty : ByteArray := prog_12_method_42_code
def yX10_duty : MethodName := ⟨RX10, "duty", "(II)I"⟩
abbrev cX10_rest : ByteArray := prog_12_method_43_code
def yX10_rest : MethodName := ⟨RX10, "rest", "(I)I"⟩
abbrev cX10_layCrews : ByteArray := prog_12_method_44_code
def yX10_layCrews : MethodName := ⟨RX10, "layCrews", "()V"⟩
abbrev cX10_mayHave : ByteArray := prog_12_method_45_code
def yX10_mayHave : MethodName := ⟨RX10, "mayHave", "(II)Z"⟩
abbrev cX10_crew : ByteArray := prog_12_method_46_code
def yX10_crew : MethodName := ⟨RX10, "crew", "(I)I"⟩
abbrev cX10_minutesOf : ByteArray := prog_12_method_47_code
def yX10_minutesOf : MethodName := ⟨RX10, "minutesOf", "(I)I"⟩
abbrev cX10_crews : ByteArray := prog_12_method_48_code
def yX10_crews : MethodName := ⟨RX10, "crews", "(I)I"⟩
abbrev cX10_ill : ByteArray := prog_12_method_49_code
def yX10_ill : MethodName := ⟨RX10, "ill", "(I)I"⟩
abbrev cX10_count : ByteArray := prog_12_method_50_code
def yX10_count : MethodName := ⟨RX10, "count", "(I)I"⟩
def RJ9 : String := "java/lang/Math"
def TJ9 : u_T := fun k => match k with
  | _ => ("", "", "", false)
def tyJ9 : Nat → FieldType := fun k => match k with
  | _ => .int
abbrev wsJ90 : List Cond := u_ws RJ9 TJ9 0
theorem nmJ9 : ∀ a, a < 0 → ∀ b, b < 0 → a ≠ b → (TJ9 a).2.1 ≠ (TJ9 b).2.1 := by decide +kernel
theorem tyJ9_ok : ∀ k, k < 0 → parseFieldDescriptor (TJ9 k).2.2.1 = some (tyJ9 k) := by decide +kernel
abbrev cJ9_max_7cf53 : ByteArray := prog_13_method_65_code
def yJ9_max_7cf53 : MethodName := ⟨RJ9, "max", "(II)I"⟩
abbrev cJ9_min_7cf53 : ByteArray := prog_13_method_69_code
def yJ9_min_7cf53 : MethodName := ⟨RJ9, "min", "(II)I"⟩
def RJ0 : String := "java/lang/String"
def TJ0 : u_T := fun k => match k with
  | _ => ("", "", "", false)
def tyJ0 : Nat → FieldType := fun k => match k with
  | _ => .int
abbrev wsJ00 : List Cond := u_ws RJ0 TJ0 0
theorem nmJ0 : ∀ a, a < 0 → ∀ b, b < 0 → a ≠ b → (TJ0 a).2.1 ≠ (TJ0 b).2.1 := by decide +kernel
theorem tyJ0_ok : ∀ k, k < 0 → parseFieldDescriptor (TJ0 k).2.2.1 = some (tyJ0 k) := by decide +kernel
abbrev cJ0_length_8abf5 : ByteArray := prog_14_method_54_code
def yJ0_length_8abf5 : MethodName := ⟨RJ0, "length", "()I"⟩
abbrev cJ0_charAt_5068e : ByteArray := prog_14_method_56_code
def yJ0_charAt_5068e : MethodName := ⟨RJ0, "charAt", "(I)C"⟩
abbrev cJ0_coder_7d493 : ByteArray := prog_14_method_152_code
def yJ0_coder_7d493 : MethodName := ⟨RJ0, "coder", "()B"⟩
abbrev cJ0_isLatin1_aae02 : ByteArray := prog_14_method_154_code
def yJ0_isLatin1_aae02 : MethodName := ⟨RJ0, "isLatin1", "()Z"⟩
abbrev cJ0_checkIndex_df160 : ByteArray := prog_14_method_155_code
def yJ0_checkIndex_df160 : MethodName := ⟨RJ0, "checkIndex", "(II)V"⟩
def RJ1 : String := "java/lang/StringLatin1"
def TJ1 : u_T := fun k => match k with
  | _ => ("", "", "", false)
def tyJ1 : Nat → FieldType := fun k => match k with
  | _ => .int
abbrev wsJ10 : List Cond := u_ws RJ1 TJ1 0
theorem nmJ1 : ∀ a, a < 0 → ∀ b, b < 0 → a ≠ b → (TJ1 a).2.1 ≠ (TJ1 b).2.1 := by decide +kernel
theorem tyJ1_ok : ∀ k, k < 0 → parseFieldDescriptor (TJ1 k).2.2.1 = some (tyJ1 k) := by decide +kernel
abbrev cJ1_charAt_3b067 : ByteArray := prog_15_method_2_code
def yJ1_charAt_3b067 : MethodName := ⟨RJ1, "charAt", "([BI)C"⟩
def RJ2 : String := "java/lang/StringUTF16"
def TJ2 : u_T := fun k => match k with
  | _ => ("", "", "", false)
def tyJ2 : Nat → FieldType := fun k => match k with
  | _ => .int
abbrev wsJ20 : List Cond := u_ws RJ2 TJ2 0
theorem nmJ2 : ∀ a, a < 0 → ∀ b, b < 0 → a ≠ b → (TJ2 a).2.1 ≠ (TJ2 b).2.1 := by decide +kernel
theorem tyJ2_ok : ∀ k, k < 0 → parseFieldDescriptor (TJ2 k).2.2.1 = some (tyJ2 k) := by decide +kernel
abbrev cJ2_getChar_3b067 : ByteArray := prog_16_method_5_code
def yJ2_getChar_3b067 : MethodName := ⟨RJ2, "getChar", "([BI)C"⟩
abbrev cJ2_length_9d52b : ByteArray := prog_16_method_6_code
def yJ2_length_9d52b : MethodName := ⟨RJ2, "length", "([B)I"⟩
abbrev cJ2_charAt_3b067 : ByteArray := prog_16_method_83_code
def yJ2_charAt_3b067 : MethodName := ⟨RJ2, "charAt", "([BI)C"⟩
abbrev cJ2_checkIndex_2214a : ByteArray := prog_16_method_91_code
def yJ2_checkIndex_2214a : MethodName := ⟨RJ2, "checkIndex", "(I[B)V"⟩
def RJ3 : String := "jdk/internal/util/Preconditions"
def TJ3 : u_T := fun k => match k with
  | _ => ("", "", "", false)
def tyJ3 : Nat → FieldType := fun k => match k with
  | _ => .int
abbrev wsJ30 : List Cond := u_ws RJ3 TJ3 0
theorem nmJ3 : ∀ a, a < 0 → ∀ b, b < 0 → a ≠ b → (TJ3 a).2.1 ≠ (TJ3 b).2.1 := by decide +kernel
theorem tyJ3_ok : ∀ k, k < 0 → parseFieldDescriptor (TJ3 k).2.2.1 = some (tyJ3 k) := by decide +kernel
abbrev cJ3_checkIndex_8e157 : ByteArray := prog_17_method_11_code
def yJ3_checkIndex_8e157 : MethodName := ⟨RJ3, "checkIndex", "(IILjava/util/function/BiFunction;)I"⟩
def RL : String := "TramPenceLaw"
abbrev cL_law : ByteArray := code
def yL_law : MethodName := ⟨RL, "law", "([I)Z"⟩
abbrev vwCl : List vw_C := [(RX0, TX0, 7), (RX1, TX1, 8), (RX2, TX2, 2), (RX3, TX3, 7), (RX4, TX4, 5), (RX5, TX5, 3), (RX6, TX6, 5), (RX7, TX7, 4), (RX8, TX8, 3), (RX9, TX9, 7), (RX10, TX10, 44)]
end
section
/-! an array of arrays (multianewarray): the block that NAMES.whole.lean.txt prints, with the word it lacks -/
def va_AOA (ty : FieldType) (U : State) : Prop := (Cond.arrayOver (.array ty)).before #[] U = true
theorem va_AOA.use {ty : FieldType} {A : Array Value} {U : State} (h : va_AOA ty U) : (Cond.arrayOver (.array ty)).before A U = true := over_moved (Vm.Alike.refl U.vm) h
theorem va_AOA.moved {ty : FieldType} {u U : State} (hvm : u.vm.Alike U.vm) (h : va_AOA ty u) : va_AOA ty U := over_moved hvm h
/-- f, but v at every address of l -/
def vr_up {α : Type} (f : Nat → α) (l : List Nat) (v : α) : Nat → α := fun a => if a ∈ l then v else f a
theorem vr_up_in {α : Type} {f : Nat → α} {l : List Nat} {v : α} {a : Nat} (h : a ∈ l) : vr_up f l v a = v := if_pos h
theorem vr_up_ne {α : Type} {f : Nat → α} {l : List Nat} {v : α} {a : Nat} (h : a ∉ l) : vr_up f l v a = f a := if_neg h
theorem vr_rows {L l : List Nat} {f : Nat → va_E} {e : va_E} (h : ∀ a, a ∈ l → a ∉ L) : va_pl L f ++ l.map (fun a => (a, e)) = va_pl (L ++ l) (vr_up f l e) := by
  unfold va_pl
  rw [List.map_append]
  congr 1
  · apply List.map_congr_left
    intro a ha
    rw [vr_up_ne (fun q => h a q ha)]
  · apply List.map_congr_left
    intro a ha
    rw [vr_up_in ha]
theorem vr_lay {X rows : va_W} {x : Nat × va_E} {pl : va_W} {D : va_G} {cl : List vw_C} {H : Heap} (hP : va_P D cl (((X ++ pl) ++ [x]) ++ rows) H) : va_P D cl ((X ++ [x]) ++ (pl ++ rows)) H := by
  rw [List.append_assoc (X ++ pl)] at hP
  have h := va_P.swap hP
  rw [← List.append_assoc X] at h
  have h2 := va_P.swap h
  rw [List.append_assoc (X ++ [x])] at h2
  exact h2
theorem vr_layD {X rows : va_W} {x : Nat × va_E} {pl : va_W} {A : Nat → Prop} (hD : va_D A (((X ++ pl) ++ [x]) ++ rows)) : va_D A ((X ++ [x]) ++ (pl ++ rows)) := by
  rw [List.append_assoc (X ++ pl)] at hD
  have h := va_D.swap hD
  rw [← List.append_assoc X] at h
  have h2 := va_D.swap h
  rw [List.append_assoc (X ++ [x])] at h2
  exact h2
theorem vr_outer (c : ClassId) (N h0 : Nat) : ∀ i : Nat, Jvm.Free.Multi.outerC c N h0 i = arrV c N (fun j => va_rf (if j < i then some (h0 + 1 + j) else none))
  | 0 => by
    show ({ cls := c, slots := Array.replicate N .null, vm := .none } : Cell) = _
    rw [arrV_new]
    refine congrArg (arrV c N) (funext fun j => ?_)
    simp [va_rf]
  | i + 1 => by
    show (Jvm.Free.Multi.outerC c N h0 i).setSlot i (.ref (h0 + 1 + i)) = _
    rw [vr_outer c N h0 i, arrV_store]
    refine congrArg (arrV c N) (funext fun j => ?_)
    by_cases e : j = i
    · subst e
      simp [updV, va_rf]
    · by_cases h : j < i
      · simp [updV, e, h, Nat.lt_succ_of_lt h]
      · simp [updV, e, h, show ¬ j < i + 1 by omega]
section VGM
variable {p : Program} {l : Launch} {e : Env} {R : Room} {s : State} {m : MethodId} {args : Array Value} {below : List Frame} {meth : Method} {c : Code} {H : Heap} {locs : List Loc} {cells slots : Nat} {Q : State → Prop}
variable {cc : ByteArray} {pc : Nat} {ls : Array Slot} {rest : List Value} {D : va_G} {cl : List vw_C} {A : Nat → Prop} {a : Nat} {tys : List (ClassId × FieldType)} {ws : va_W} {H0 : Heap}
theorem va_mna {X : va_W} {L : List Nat} {f : Nat → va_E} {cc : ByteArray} (hexec : p.tables.exec = Jvm.exec) (hb : c.code = cc) {own : String} {index : Nat} {ty : FieldType} {cy : ClassId} (hown : s.vm.findClass own = some m.cls) (hclink : (Cond.classLink own index ("[" ++ (FieldType.array ty).toString)).before args s = true) (hover : va_AOA ty s) (harr : (Cond.arrayClass ty).before args s = true) (hcy : s.vm.findClass (FieldType.array ty).toString = some cy)
    (hK : va_K D cl tys s) (hP : va_P D cl (X ++ va_pl L f) H) (hD : va_D A (X ++ va_pl L f)) (hS : va_S A H0 H locs) (hA : ∀ q, H0.size ≤ q → A q) {n k : Int32} {N' K' : Nat} {z : vp_A} (hn : ¬ n < 0) (hk : ¬ k < 0) (hN : n.toNatClampNeg = N') (hM : k.toNatClampNeg = K')
    (hb1 : N' * 4 ≤ 536870912) (hb2 : K' * componentBytes ty ≤ 536870912) (hb3 : K' ≤ 536870912) (hdf : fits ty (defaultValue ty) = true) (hdd : (defaultValue ty).isDefault = true) (hcells : cells + (1 + N') ≤ R.cells) (hslots : slots + (N' + N' * K') ≤ R.slots) (hz : ∀ c : ClassId, Jvm.Free.Multi.innerC c K' (defaultValue ty) = vp_cell c z) (hdg : decode cc pc = .ok (.multianewarray index 2, 4))
    (kk : ∀ (q : Nat) (r : Nat → Nat) (cA : ClassId) (H1 : Heap), (∀ i j : Nat, i < N' → j < N' → r i = r j → i = j) → (∀ i : Nat, i < N' → r i ∉ L) → va_K D cl (tys ++ [(cA, .array ty)]) s →
      va_P D cl ((X ++ [(q, .inl (cA, N', .inr (.inr (.inr (.inr (fun i => if i < N' then some (r i) else none))))))]) ++ va_pl (L ++ (List.range N').map r) (vr_up f ((List.range N').map r) (.inl (cy, z)))) H1 → va_D A ((X ++ [(q, .inl (cA, N', .inr (.inr (.inr (.inr (fun i => if i < N' then some (r i) else none))))))]) ++ va_pl (L ++ (List.range N').map r) (vr_up f ((List.range N').map r) (.inl (cy, z)))) → va_S A H0 H1 locs →
      W p l e R s m args below meth c H1 locs (cells + 1 + N') (slots + N' + N' * K') Q (F0 m (pc + 4) ls (.ref q :: rest))) : W p l e R s m args below meth c H locs cells slots Q (F0 m pc ls (.int k :: .int n :: rest)) := by
  subst hN
  subst hM
  intro T hT Xs
  obtain ⟨vm₁, cA, comp, -, fA, fC, hO, -, X', step⟩ := Xs.multianewarray2F hexec hown hclink (va_AOA.use hover) harr (g := F0 m pc ls (.int k :: .int n :: rest)) rfl (by rw [hb]; exact hdg) rfl hn hk hb1 hb2 hb3 hdf hdd hcells hslots
  have ec : some cy = some comp := hcy.symm.trans fC
  cases ec
  generalize hF : Jvm.Free.Multi.fill (T.setVm vm₁) cA cy n.toNatClampNeg k.toNatClampNeg (defaultValue ty) n.toNatClampNeg = F at X' step
  have hTh : (T.setVm vm₁).heap = H := hT
  obtain ⟨f1, f2, -, -⟩ := Jvm.Free.Multi.fill_facts (T.setVm vm₁) cA cy n.toNatClampNeg k.toNatClampNeg (defaultValue ty) n.toNatClampNeg
  rw [hF, hTh] at f1 f2
  have hold : ∀ x : Nat, x < H.size → F.heap[x]? = H[x]? := fun x hx => by
    have := Jvm.Free.Multi.fill_old (T.setVm vm₁) cA cy n.toNatClampNeg k.toNatClampNeg (defaultValue ty) (a := x) (by rw [hTh]; exact hx) n.toNatClampNeg
    rw [hF, hTh] at this
    exact this
  have hrow : ∀ j : Nat, j < n.toNatClampNeg → F.heap[H.size + 1 + j]? = some (vp_cell cy z) := fun j hj => by
    have := Jvm.Free.Multi.fill_inner (T.setVm vm₁) cA cy n.toNatClampNeg k.toNatClampNeg (defaultValue ty) n.toNatClampNeg j hj
    rw [hF, hTh, hz] at this
    exact this
  have hout : Jvm.Free.Multi.outerC cA n.toNatClampNeg H.size n.toNatClampNeg = vp_cell cA (n.toNatClampNeg, .inr (.inr (.inr (.inr (fun i => if i < n.toNatClampNeg then some (H.size + 1 + i) else none))))) := by
    rw [vp_cell_q]
    exact vr_outer cA n.toNatClampNeg H.size n.toNatClampNeg
  rw [hout] at f2
  have hlt : ∀ a, a ∈ L → a < H.size := fun a ha => by
    obtain ⟨k9, hk9⟩ := va_pl_get (X := X) (f := f) ha
    exact (hP k9 _ hk9).lt
  have hnl : ∀ i : Nat, i < n.toNatClampNeg → H.size + 1 + i ∉ L := fun i _ h => by
    have := hlt _ h
    omega
  have hnm : ∀ a, a ∈ (List.range n.toNatClampNeg).map (fun i => H.size + 1 + i) → a ∉ L := fun a ha h => by
    obtain ⟨i, -, rfl⟩ := List.mem_map.mp ha
    have := hlt _ h
    omega
  have hP0 : va_P D cl (X ++ va_pl L f) F.heap := hP.kept (fun k9 x hx => hold x.1 ((hP k9 x hx).lt))
  have hP1 : va_P D cl ((X ++ va_pl L f) ++ [(H.size, .inl (cA, n.toNatClampNeg, .inr (.inr (.inr (.inr (fun i => if i < n.toNatClampNeg then some (H.size + 1 + i) else none))))))]) F.heap := hP0.app (fun k9 x hx => by
    have h0 : k9 < 1 := (List.getElem?_eq_some_iff.mp hx).1
    rw [show k9 = 0 by omega] at hx
    cases hx
    exact f2)
  have hP2 : va_P D cl (((X ++ va_pl L f) ++ [(H.size, .inl (cA, n.toNatClampNeg, .inr (.inr (.inr (.inr (fun i => if i < n.toNatClampNeg then some (H.size + 1 + i) else none))))))]) ++ ((List.range n.toNatClampNeg).map (fun i => H.size + 1 + i)).map (fun a => (a, .inl (cy, z)))) F.heap := hP1.app (fun k9 x hx => by
    obtain ⟨a, ha, rfl⟩ := List.mem_map.mp (List.mem_of_getElem? hx)
    obtain ⟨i, hi, rfl⟩ := List.mem_map.mp ha
    exact hrow i (List.mem_range.mp hi))
  have hD2 : va_D A (((X ++ va_pl L f) ++ [(H.size, .inl (cA, n.toNatClampNeg, .inr (.inr (.inr (.inr (fun i => if i < n.toNatClampNeg then some (H.size + 1 + i) else none))))))]) ++ ((List.range n.toNatClampNeg).map (fun i => H.size + 1 + i)).map (fun a => (a, .inl (cy, z)))) := by
    have hD1 := hD.push (e := .inl (cA, n.toNatClampNeg, .inr (.inr (.inr (.inr (fun i => if i < n.toNatClampNeg then some (H.size + 1 + i) else none)))))) hP rfl (hA _ hS.1)
    generalize hW1 : (X ++ va_pl L f) ++ [(H.size, .inl (cA, n.toNatClampNeg, .inr (.inr (.inr (.inr (fun i => if i < n.toNatClampNeg then some (H.size + 1 + i) else none))))))] = W1 at hD1 hP1 ⊢
    have hle : ∀ (k9 : Nat) (x : Nat × va_E), W1[k9]? = some x → x.1 ≤ H.size := fun k9 x hx => by
      rw [← hW1] at hx
      by_cases hl : k9 < (X ++ va_pl L f).length
      · rw [List.getElem?_append_left hl] at hx
        exact Nat.le_of_lt ((hP k9 x hx).lt)
      · rw [List.getElem?_append_right (by omega)] at hx
        have h0 : k9 - (X ++ va_pl L f).length < 1 := (List.getElem?_eq_some_iff.mp hx).1
        rw [show k9 - (X ++ va_pl L f).length = 0 by omega] at hx
        cases hx
        exact Nat.le_refl _
    have hr : ∀ (k9 : Nat) (x : Nat × va_E), (((List.range n.toNatClampNeg).map (fun i => H.size + 1 + i)).map (fun a => ((a, .inl (cy, z)) : Nat × va_E)))[k9]? = some x → x.1 = H.size + 1 + k9 := fun k9 x hx => by
      rw [List.getElem?_map, List.getElem?_map] at hx
      by_cases h9 : k9 < n.toNatClampNeg
      · rw [List.getElem?_range h9] at hx
        cases hx
        rfl
      · have hn0 : (List.range n.toNatClampNeg)[k9]? = none := List.getElem?_eq_none (by rw [List.length_range]; omega)
        rw [hn0] at hx
        cases hx
    refine ⟨fun i j x y hi hj hxy => ?_, fun k9 x hx => ?_⟩
    · by_cases h1 : i < W1.length <;> by_cases h2 : j < W1.length
      · rw [List.getElem?_append_left h1] at hi
        rw [List.getElem?_append_left h2] at hj
        exact hD1.1 i j x y hi hj hxy
      · rw [List.getElem?_append_left h1] at hi
        rw [List.getElem?_append_right (by omega)] at hj
        have := hle _ _ hi
        have := hr _ _ hj
        omega
      · rw [List.getElem?_append_right (by omega)] at hi
        rw [List.getElem?_append_left h2] at hj
        have := hle _ _ hj
        have := hr _ _ hi
        omega
      · rw [List.getElem?_append_right (by omega)] at hi hj
        have := hr _ _ hi
        have := hr _ _ hj
        omega
    · by_cases h1 : k9 < W1.length
      · rw [List.getElem?_append_left h1] at hx
        exact hD1.2 k9 x hx
      · rw [List.getElem?_append_right (by omega)] at hx
        have := hr _ _ hx
        exact hA _ (by have := hS.1; omega)
  have hAr : ArrOfT s cA (.array ty) := fun N9 z9 => by
    obtain ⟨-, k9, hk9, cm9, hkk9⟩ := (hO 0 0 0).1
    exact ⟨(fun q hq => by cases hq), k9, hk9, cm9, hkk9⟩
  have hK2 : va_K D cl (tys ++ [(cA, .array ty)]) s := ⟨hK.1, fun k9 x hx => by
    by_cases hl : k9 < tys.length
    · rw [List.getElem?_append_left hl] at hx
      exact hK.2 k9 x hx
    · rw [List.getElem?_append_right (by omega)] at hx
      have h0 : k9 - tys.length < 1 := (List.getElem?_eq_some_iff.mp hx).1
      rw [show k9 - tys.length = 0 by omega] at hx
      cases hx
      exact ⟨hAr, fA⟩⟩
  obtain ⟨t, a1, b1⟩ := kk H.size (fun i => H.size + 1 + i) cA F.heap (fun i j _ _ h => by have h9 : H.size + 1 + i = H.size + 1 + j := h; omega) hnl hK2 (by rw [← vr_rows hnm]; exact vr_lay hP2) (by rw [← vr_rows hnm]; exact vr_layD hD2) ⟨by rw [f1]; have := hS.1; omega, fun x h1 h2 => (hold x (Nat.lt_of_lt_of_le h1 hS.1)).trans (hS.2.1 x h1 h2), hS.2.2⟩ F rfl X'
  refine ⟨t, step t ?_, b1⟩
  have e : T.heap.size = H.size := by rw [hT]
  rw [e]
  exact a1
end VGM
end
