section
-- ===== PART A: goes FIRST, ahead of the names: the tables' words, and 'selects' of the private methods out of them =====
/-- a private method of a class that the tables say can be made, by its rows of tables_1 -/
def lw_okq (q : MethodName × Nat) : Prop := (q.1.cls ≠ "java/lang/invoke/MethodHandle" ∧ q.1.cls ≠ "java/lang/invoke/VarHandle") ∧ Cond.instantiable q.1.cls q.2 ∈ tables_1 ∧ Cond.privateMethod q.1 ∈ tables_1 ∧ Cond.instanceMethod q.1 ∈ tables_1
theorem lw_p0 : lw_okq (⟨"TramPence", "hasPack", "(II)Z"⟩, 7) := ⟨⟨by decide +kernel, by decide +kernel⟩, List.mem_of_getElem? (i := 18) (by decide +kernel), List.mem_of_getElem? (i := 290) (by decide +kernel), List.mem_of_getElem? (i := 291) (by decide +kernel)⟩
theorem lw_p1 : lw_okq (⟨"TramPence", "takings", "(I)I"⟩, 7) := ⟨⟨by decide +kernel, by decide +kernel⟩, List.mem_of_getElem? (i := 18) (by decide +kernel), List.mem_of_getElem? (i := 345) (by decide +kernel), List.mem_of_getElem? (i := 346) (by decide +kernel)⟩
theorem lw_p2 : lw_okq (⟨"TramPence", "takeBackLatest", "()V"⟩, 7) := ⟨⟨by decide +kernel, by decide +kernel⟩, List.mem_of_getElem? (i := 18) (by decide +kernel), List.mem_of_getElem? (i := 378) (by decide +kernel), List.mem_of_getElem? (i := 379) (by decide +kernel)⟩
theorem lw_p3 : lw_okq (⟨"TramPence", "sellFromSheet", "(ILTramPence$Sheet;I)I"⟩, 7) := ⟨⟨by decide +kernel, by decide +kernel⟩, List.mem_of_getElem? (i := 18) (by decide +kernel), List.mem_of_getElem? (i := 411) (by decide +kernel), List.mem_of_getElem? (i := 412) (by decide +kernel)⟩
theorem lw_p4 : lw_okq (⟨"TramPence", "takeBack", "(I)V"⟩, 7) := ⟨⟨by decide +kernel, by decide +kernel⟩, List.mem_of_getElem? (i := 18) (by decide +kernel), List.mem_of_getElem? (i := 416) (by decide +kernel), List.mem_of_getElem? (i := 417) (by decide +kernel)⟩
theorem lw_p5 : lw_okq (⟨"TramPence$Sales", "isOf", "(III)Z"⟩, 5) := ⟨⟨by decide +kernel, by decide +kernel⟩, List.mem_of_getElem? (i := 86) (by decide +kernel), List.mem_of_getElem? (i := 428) (by decide +kernel), List.mem_of_getElem? (i := 429) (by decide +kernel)⟩
theorem lw_p6 : lw_okq (⟨"TramPence", "howManyAboard", "(III)I"⟩, 7) := ⟨⟨by decide +kernel, by decide +kernel⟩, List.mem_of_getElem? (i := 18) (by decide +kernel), List.mem_of_getElem? (i := 453) (by decide +kernel), List.mem_of_getElem? (i := 454) (by decide +kernel)⟩
theorem lw_p7 : lw_okq (⟨"TramPence", "isAboard", "(III)Z"⟩, 7) := ⟨⟨by decide +kernel, by decide +kernel⟩, List.mem_of_getElem? (i := 18) (by decide +kernel), List.mem_of_getElem? (i := 457) (by decide +kernel), List.mem_of_getElem? (i := 458) (by decide +kernel)⟩
theorem lw_p8 : lw_okq (⟨"TramPence", "isGoodAt", "(II)Z"⟩, 7) := ⟨⟨by decide +kernel, by decide +kernel⟩, List.mem_of_getElem? (i := 18) (by decide +kernel), List.mem_of_getElem? (i := 465) (by decide +kernel), List.mem_of_getElem? (i := 466) (by decide +kernel)⟩
theorem lw_p9 : lw_okq (⟨"TramPence", "beyondHeld", "(II)I"⟩, 7) := ⟨⟨by decide +kernel, by decide +kernel⟩, List.mem_of_getElem? (i := 18) (by decide +kernel), List.mem_of_getElem? (i := 494) (by decide +kernel), List.mem_of_getElem? (i := 495) (by decide +kernel)⟩
theorem lw_p10 : lw_okq (⟨"TramPence$Tape", "isLetter", "(I)Z"⟩, 5) := ⟨⟨by decide +kernel, by decide +kernel⟩, List.mem_of_getElem? (i := 139) (by decide +kernel), List.mem_of_getElem? (i := 538) (by decide +kernel), List.mem_of_getElem? (i := 539) (by decide +kernel)⟩
theorem lw_p11 : lw_okq (⟨"TramPence$Tape", "readName", "()I"⟩, 5) := ⟨⟨by decide +kernel, by decide +kernel⟩, List.mem_of_getElem? (i := 139) (by decide +kernel), List.mem_of_getElem? (i := 542) (by decide +kernel), List.mem_of_getElem? (i := 543) (by decide +kernel)⟩
theorem lw_p12 : lw_okq (⟨"TramPence$Tape", "isSpelled", "(Ljava/lang/String;)Z"⟩, 5) := ⟨⟨by decide +kernel, by decide +kernel⟩, List.mem_of_getElem? (i := 139) (by decide +kernel), List.mem_of_getElem? (i := 547) (by decide +kernel), List.mem_of_getElem? (i := 548) (by decide +kernel)⟩
theorem lw_p13 : lw_okq (⟨"TramPence$Tape", "isFigure", "(I)Z"⟩, 5) := ⟨⟨by decide +kernel, by decide +kernel⟩, List.mem_of_getElem? (i := 139) (by decide +kernel), List.mem_of_getElem? (i := 601) (by decide +kernel), List.mem_of_getElem? (i := 602) (by decide +kernel)⟩
theorem lw_p14 : lw_okq (⟨"TramPence$Tape", "readNumber", "()I"⟩, 5) := ⟨⟨by decide +kernel, by decide +kernel⟩, List.mem_of_getElem? (i := 139) (by decide +kernel), List.mem_of_getElem? (i := 605) (by decide +kernel), List.mem_of_getElem? (i := 606) (by decide +kernel)⟩
theorem lw_p15 : lw_okq (⟨"TramPence$LawBook", "take", "(I)I"⟩, 7) := ⟨⟨by decide +kernel, by decide +kernel⟩, List.mem_of_getElem? (i := 133) (by decide +kernel), List.mem_of_getElem? (i := 609) (by decide +kernel), List.mem_of_getElem? (i := 610) (by decide +kernel)⟩
def lw_privs_1 : List (MethodName × Nat) := [(⟨"TramPence", "hasPack", "(II)Z"⟩, 7), (⟨"TramPence", "takings", "(I)I"⟩, 7), (⟨"TramPence", "takeBackLatest", "()V"⟩, 7), (⟨"TramPence", "sellFromSheet", "(ILTramPence$Sheet;I)I"⟩, 7), (⟨"TramPence", "takeBack", "(I)V"⟩, 7), (⟨"TramPence$Sales", "isOf", "(III)Z"⟩, 5), (⟨"TramPence", "howManyAboard", "(III)I"⟩, 7), (⟨"TramPence", "isAboard", "(III)Z"⟩, 7), (⟨"TramPence", "isGoodAt", "(II)Z"⟩, 7), (⟨"TramPence", "beyondHeld", "(II)I"⟩, 7), (⟨"TramPence$Tape", "isLetter", "(I)Z"⟩, 5), (⟨"TramPence$Tape", "readName", "()I"⟩, 5), (⟨"TramPence$Tape", "isSpelled", "(Ljava/lang/String;)Z"⟩, 5), (⟨"TramPence$Tape", "isFigure", "(I)Z"⟩, 5), (⟨"TramPence$Tape", "readNumber", "()I"⟩, 5), (⟨"TramPence$LawBook", "take", "(I)I"⟩, 7)]
theorem lw_r1 : ∀ q ∈ lw_privs_1, lw_okq q := List.forall_mem_cons.mpr ⟨lw_p0, List.forall_mem_cons.mpr ⟨lw_p1, List.forall_mem_cons.mpr ⟨lw_p2, List.forall_mem_cons.mpr ⟨lw_p3, List.forall_mem_cons.mpr ⟨lw_p4, List.forall_mem_cons.mpr ⟨lw_p5, List.forall_mem_cons.mpr ⟨lw_p6, List.forall_mem_cons.mpr ⟨lw_p7, List.forall_mem_cons.mpr ⟨lw_p8, List.forall_mem_cons.mpr ⟨lw_p9, List.forall_mem_cons.mpr ⟨lw_p10, List.forall_mem_cons.mpr ⟨lw_p11, List.forall_mem_cons.mpr ⟨lw_p12, List.forall_mem_cons.mpr ⟨lw_p13, List.forall_mem_cons.mpr ⟨lw_p14, List.forall_mem_cons.mpr ⟨lw_p15, fun _ h => absurd h List.not_mem_nil⟩⟩⟩⟩⟩⟩⟩⟩⟩⟩⟩⟩⟩⟩⟩⟩
theorem lw_p16 : lw_okq (⟨"TramPence$LawBook", "beginLaw", "(I)I"⟩, 7) := ⟨⟨by decide +kernel, by decide +kernel⟩, List.mem_of_getElem? (i := 133) (by decide +kernel), List.mem_of_getElem? (i := 613) (by decide +kernel), List.mem_of_getElem? (i := 614) (by decide +kernel)⟩
theorem lw_p17 : lw_okq (⟨"TramPence$LawBook", "endLaw", "(I)I"⟩, 7) := ⟨⟨by decide +kernel, by decide +kernel⟩, List.mem_of_getElem? (i := 133) (by decide +kernel), List.mem_of_getElem? (i := 623) (by decide +kernel), List.mem_of_getElem? (i := 624) (by decide +kernel)⟩
theorem lw_p18 : lw_okq (⟨"TramPence$LawBook", "takeNumber", "(I)I"⟩, 7) := ⟨⟨by decide +kernel, by decide +kernel⟩, List.mem_of_getElem? (i := 133) (by decide +kernel), List.mem_of_getElem? (i := 632) (by decide +kernel), List.mem_of_getElem? (i := 633) (by decide +kernel)⟩
theorem lw_p19 : lw_okq (⟨"TramPence$LawBook", "tellDraft", "()I"⟩, 7) := ⟨⟨by decide +kernel, by decide +kernel⟩, List.mem_of_getElem? (i := 133) (by decide +kernel), List.mem_of_getElem? (i := 645) (by decide +kernel), List.mem_of_getElem? (i := 646) (by decide +kernel)⟩
theorem lw_p20 : lw_okq (⟨"TramPence$Laws", "shareAt", "(I)I"⟩, 8) := ⟨⟨by decide +kernel, by decide +kernel⟩, List.mem_of_getElem? (i := 166) (by decide +kernel), List.mem_of_getElem? (i := 665) (by decide +kernel), List.mem_of_getElem? (i := 666) (by decide +kernel)⟩
theorem lw_p21 : lw_okq (⟨"TramPence$Roster", "tellCrews", "()V"⟩, 7) := ⟨⟨by decide +kernel, by decide +kernel⟩, List.mem_of_getElem? (i := 222) (by decide +kernel), List.mem_of_getElem? (i := 685) (by decide +kernel), List.mem_of_getElem? (i := 686) (by decide +kernel)⟩
theorem lw_p22 : lw_okq (⟨"TramPence$Roster", "firstWithoutCrew", "()I"⟩, 7) := ⟨⟨by decide +kernel, by decide +kernel⟩, List.mem_of_getElem? (i := 222) (by decide +kernel), List.mem_of_getElem? (i := 689) (by decide +kernel), List.mem_of_getElem? (i := 690) (by decide +kernel)⟩
theorem lw_p23 : lw_okq (⟨"TramPence$Roster", "giveCrew", "(I)V"⟩, 7) := ⟨⟨by decide +kernel, by decide +kernel⟩, List.mem_of_getElem? (i := 222) (by decide +kernel), List.mem_of_getElem? (i := 693) (by decide +kernel), List.mem_of_getElem? (i := 694) (by decide +kernel)⟩
theorem lw_p24 : lw_okq (⟨"TramPence$Roster", "anotherCould", "(I)Z"⟩, 7) := ⟨⟨by decide +kernel, by decide +kernel⟩, List.mem_of_getElem? (i := 222) (by decide +kernel), List.mem_of_getElem? (i := 731) (by decide +kernel), List.mem_of_getElem? (i := 732) (by decide +kernel)⟩
theorem lw_p25 : lw_okq (⟨"TramPence$Roster", "couldHave", "(II)Z"⟩, 7) := ⟨⟨by decide +kernel, by decide +kernel⟩, List.mem_of_getElem? (i := 222) (by decide +kernel), List.mem_of_getElem? (i := 735) (by decide +kernel), List.mem_of_getElem? (i := 736) (by decide +kernel)⟩
theorem lw_p26 : lw_okq (⟨"TramPence$Roster", "haveRestBetween", "(II)Z"⟩, 7) := ⟨⟨by decide +kernel, by decide +kernel⟩, List.mem_of_getElem? (i := 222) (by decide +kernel), List.mem_of_getElem? (i := 739) (by decide +kernel), List.mem_of_getElem? (i := 740) (by decide +kernel)⟩
theorem lw_p27 : lw_okq (⟨"TramPenceModel", "isPack", "(II)Z"⟩, 44) := ⟨⟨by decide +kernel, by decide +kernel⟩, List.mem_of_getElem? (i := 752) (by decide +kernel), List.mem_of_getElem? (i := 904) (by decide +kernel), List.mem_of_getElem? (i := 905) (by decide +kernel)⟩
theorem lw_p28 : lw_okq (⟨"TramPenceModel", "isTrip", "(I)Z"⟩, 44) := ⟨⟨by decide +kernel, by decide +kernel⟩, List.mem_of_getElem? (i := 752) (by decide +kernel), List.mem_of_getElem? (i := 923) (by decide +kernel), List.mem_of_getElem? (i := 924) (by decide +kernel)⟩
theorem lw_p29 : lw_okq (⟨"TramPenceModel", "moneyOf", "(I)I"⟩, 44) := ⟨⟨by decide +kernel, by decide +kernel⟩, List.mem_of_getElem? (i := 752) (by decide +kernel), List.mem_of_getElem? (i := 927) (by decide +kernel), List.mem_of_getElem? (i := 928) (by decide +kernel)⟩
theorem lw_p30 : lw_okq (⟨"TramPenceModel", "along", "(II)I"⟩, 44) := ⟨⟨by decide +kernel, by decide +kernel⟩, List.mem_of_getElem? (i := 752) (by decide +kernel), List.mem_of_getElem? (i := 935) (by decide +kernel), List.mem_of_getElem? (i := 936) (by decide +kernel)⟩
theorem lw_p31 : lw_okq (⟨"TramPenceModel", "latestOf", "(I)I"⟩, 44) := ⟨⟨by decide +kernel, by decide +kernel⟩, List.mem_of_getElem? (i := 752) (by decide +kernel), List.mem_of_getElem? (i := 939) (by decide +kernel), List.mem_of_getElem? (i := 940) (by decide +kernel)⟩
def lw_privs_2 : List (MethodName × Nat) := [(⟨"TramPence$LawBook", "beginLaw", "(I)I"⟩, 7), (⟨"TramPence$LawBook", "endLaw", "(I)I"⟩, 7), (⟨"TramPence$LawBook", "takeNumber", "(I)I"⟩, 7), (⟨"TramPence$LawBook", "tellDraft", "()I"⟩, 7), (⟨"TramPence$Laws", "shareAt", "(I)I"⟩, 8), (⟨"TramPence$Roster", "tellCrews", "()V"⟩, 7), (⟨"TramPence$Roster", "firstWithoutCrew", "()I"⟩, 7), (⟨"TramPence$Roster", "giveCrew", "(I)V"⟩, 7), (⟨"TramPence$Roster", "anotherCould", "(I)Z"⟩, 7), (⟨"TramPence$Roster", "couldHave", "(II)Z"⟩, 7), (⟨"TramPence$Roster", "haveRestBetween", "(II)Z"⟩, 7), (⟨"TramPenceModel", "isPack", "(II)Z"⟩, 44), (⟨"TramPenceModel", "isTrip", "(I)Z"⟩, 44), (⟨"TramPenceModel", "moneyOf", "(I)I"⟩, 44), (⟨"TramPenceModel", "along", "(II)I"⟩, 44), (⟨"TramPenceModel", "latestOf", "(I)I"⟩, 44)]
theorem lw_r2 : ∀ q ∈ lw_privs_2, lw_okq q := List.forall_mem_cons.mpr ⟨lw_p16, List.forall_mem_cons.mpr ⟨lw_p17, List.forall_mem_cons.mpr ⟨lw_p18, List.forall_mem_cons.mpr ⟨lw_p19, List.forall_mem_cons.mpr ⟨lw_p20, List.forall_mem_cons.mpr ⟨lw_p21, List.forall_mem_cons.mpr ⟨lw_p22, List.forall_mem_cons.mpr ⟨lw_p23, List.forall_mem_cons.mpr ⟨lw_p24, List.forall_mem_cons.mpr ⟨lw_p25, List.forall_mem_cons.mpr ⟨lw_p26, List.forall_mem_cons.mpr ⟨lw_p27, List.forall_mem_cons.mpr ⟨lw_p28, List.forall_mem_cons.mpr ⟨lw_p29, List.forall_mem_cons.mpr ⟨lw_p30, List.forall_mem_cons.mpr ⟨lw_p31, fun _ h => absurd h List.not_mem_nil⟩⟩⟩⟩⟩⟩⟩⟩⟩⟩⟩⟩⟩⟩⟩⟩
theorem lw_p32 : lw_okq (⟨"TramPenceModel", "aboardOf", "(IIZ)I"⟩, 44) := ⟨⟨by decide +kernel, by decide +kernel⟩, List.mem_of_getElem? (i := 752) (by decide +kernel), List.mem_of_getElem? (i := 981) (by decide +kernel), List.mem_of_getElem? (i := 982) (by decide +kernel)⟩
theorem lw_p33 : lw_okq (⟨"TramPenceModel", "beginOf", "(II)I"⟩, 44) := ⟨⟨by decide +kernel, by decide +kernel⟩, List.mem_of_getElem? (i := 752) (by decide +kernel), List.mem_of_getElem? (i := 985) (by decide +kernel), List.mem_of_getElem? (i := 986) (by decide +kernel)⟩
theorem lw_p34 : lw_okq (⟨"TramPenceModel", "next", "()V"⟩, 44) := ⟨⟨by decide +kernel, by decide +kernel⟩, List.mem_of_getElem? (i := 752) (by decide +kernel), List.mem_of_getElem? (i := 1017) (by decide +kernel), List.mem_of_getElem? (i := 1018) (by decide +kernel)⟩
theorem lw_p35 : lw_okq (⟨"TramPenceModel", "byteAt", "(I)I"⟩, 44) := ⟨⟨by decide +kernel, by decide +kernel⟩, List.mem_of_getElem? (i := 752) (by decide +kernel), List.mem_of_getElem? (i := 1021) (by decide +kernel), List.mem_of_getElem? (i := 1022) (by decide +kernel)⟩
theorem lw_p36 : lw_okq (⟨"TramPenceModel", "isName", "(IIIIIIII)Z"⟩, 44) := ⟨⟨by decide +kernel, by decide +kernel⟩, List.mem_of_getElem? (i := 752) (by decide +kernel), List.mem_of_getElem? (i := 1027) (by decide +kernel), List.mem_of_getElem? (i := 1028) (by decide +kernel)⟩
theorem lw_p37 : lw_okq (⟨"TramPenceModel", "fails", "(II)V"⟩, 44) := ⟨⟨by decide +kernel, by decide +kernel⟩, List.mem_of_getElem? (i := 752) (by decide +kernel), List.mem_of_getElem? (i := 1031) (by decide +kernel), List.mem_of_getElem? (i := 1032) (by decide +kernel)⟩
theorem lw_p38 : lw_okq (⟨"TramPenceModel", "law", "()V"⟩, 44) := ⟨⟨by decide +kernel, by decide +kernel⟩, List.mem_of_getElem? (i := 752) (by decide +kernel), List.mem_of_getElem? (i := 1037) (by decide +kernel), List.mem_of_getElem? (i := 1038) (by decide +kernel)⟩
theorem lw_p39 : lw_okq (⟨"TramPenceModel", "above", "(III)I"⟩, 44) := ⟨⟨by decide +kernel, by decide +kernel⟩, List.mem_of_getElem? (i := 752) (by decide +kernel), List.mem_of_getElem? (i := 1041) (by decide +kernel), List.mem_of_getElem? (i := 1042) (by decide +kernel)⟩
theorem lw_p40 : lw_okq (⟨"TramPenceModel", "number", "(II)I"⟩, 44) := ⟨⟨by decide +kernel, by decide +kernel⟩, List.mem_of_getElem? (i := 752) (by decide +kernel), List.mem_of_getElem? (i := 1045) (by decide +kernel), List.mem_of_getElem? (i := 1046) (by decide +kernel)⟩
theorem lw_p41 : lw_okq (⟨"TramPenceModel", "layCrews", "()V"⟩, 44) := ⟨⟨by decide +kernel, by decide +kernel⟩, List.mem_of_getElem? (i := 752) (by decide +kernel), List.mem_of_getElem? (i := 1076) (by decide +kernel), List.mem_of_getElem? (i := 1077) (by decide +kernel)⟩
theorem lw_p42 : lw_okq (⟨"TramPenceModel", "mayHave", "(II)Z"⟩, 44) := ⟨⟨by decide +kernel, by decide +kernel⟩, List.mem_of_getElem? (i := 752) (by decide +kernel), List.mem_of_getElem? (i := 1080) (by decide +kernel), List.mem_of_getElem? (i := 1081) (by decide +kernel)⟩
theorem lw_p43 : lw_okq (⟨"TramPenceModel", "minutesOf", "(I)I"⟩, 44) := ⟨⟨by decide +kernel, by decide +kernel⟩, List.mem_of_getElem? (i := 752) (by decide +kernel), List.mem_of_getElem? (i := 1088) (by decide +kernel), List.mem_of_getElem? (i := 1089) (by decide +kernel)⟩
def lw_privs_3 : List (MethodName × Nat) := [(⟨"TramPenceModel", "aboardOf", "(IIZ)I"⟩, 44), (⟨"TramPenceModel", "beginOf", "(II)I"⟩, 44), (⟨"TramPenceModel", "next", "()V"⟩, 44), (⟨"TramPenceModel", "byteAt", "(I)I"⟩, 44), (⟨"TramPenceModel", "isName", "(IIIIIIII)Z"⟩, 44), (⟨"TramPenceModel", "fails", "(II)V"⟩, 44), (⟨"TramPenceModel", "law", "()V"⟩, 44), (⟨"TramPenceModel", "above", "(III)I"⟩, 44), (⟨"TramPenceModel", "number", "(II)I"⟩, 44), (⟨"TramPenceModel", "layCrews", "()V"⟩, 44), (⟨"TramPenceModel", "mayHave", "(II)Z"⟩, 44), (⟨"TramPenceModel", "minutesOf", "(I)I"⟩, 44)]
theorem lw_r3 : ∀ q ∈ lw_privs_3, lw_okq q := List.forall_mem_cons.mpr ⟨lw_p32, List.forall_mem_cons.mpr ⟨lw_p33, List.forall_mem_cons.mpr ⟨lw_p34, List.forall_mem_cons.mpr ⟨lw_p35, List.forall_mem_cons.mpr ⟨lw_p36, List.forall_mem_cons.mpr ⟨lw_p37, List.forall_mem_cons.mpr ⟨lw_p38, List.forall_mem_cons.mpr ⟨lw_p39, List.forall_mem_cons.mpr ⟨lw_p40, List.forall_mem_cons.mpr ⟨lw_p41, List.forall_mem_cons.mpr ⟨lw_p42, List.forall_mem_cons.mpr ⟨lw_p43, fun _ h => absurd h List.not_mem_nil⟩⟩⟩⟩⟩⟩⟩⟩⟩⟩⟩⟩
def lw_privs : List (MethodName × Nat) := lw_privs_1 ++ (lw_privs_2 ++ (lw_privs_3))
def lw_tbl : List Cond := k2_sels lw_privs ++ tables_1
theorem lw_privs_ok : ∀ q ∈ lw_privs, lw_okq q := by
  show ∀ q ∈ lw_privs_1 ++ (lw_privs_2 ++ (lw_privs_3)), lw_okq q
  exact List.forall_mem_append.mpr ⟨lw_r1, List.forall_mem_append.mpr ⟨lw_r2, lw_r3⟩⟩
/-! ===== BEGIN words of one list among another's, by their places ===== -/
theorem goodIn_r {big : List Cond} (ws : List Cond) (ps : List Nat) (hp : ws = ps.filterMap (fun i => big[i]?)) (h : ws.all goodWord = true) : GoodIn big ws := by
  intro w hw
  have h1 := List.all_eq_true.mp h w hw
  rw [hp] at hw
  obtain ⟨i, -, hi⟩ := List.mem_filterMap.mp hw
  have hm : w ∈ big := by first | exact List.mem_of_getElem? hi | exact List.getElem?_mem hi
  exact ⟨hm, good_of_word h1⟩
theorem goodIn_app {big a b : List Cond} (ha : GoodIn big a) (hb : GoodIn big b) : GoodIn big (a ++ b) := fun w h => (List.mem_append.mp h).elim (ha w) (hb w)
theorem goodIn_ca {big a b : List Cond} {c : Cond} (ha : GoodIn big (c :: a)) (hb : GoodIn big b) : GoodIn big (c :: (a ++ b)) := fun w h => (List.mem_cons.mp h).elim (fun e => ha w (List.mem_cons.mpr (Or.inl e))) (fun h => (List.mem_append.mp h).elim (fun h => ha w (List.mem_cons.mpr (Or.inr h))) (hb w))
theorem goodIn_sub {big ws : List Cond} (hm : ∀ w ∈ ws, w ∈ big) (h : ws.all goodWord = true) : GoodIn big ws := fun w hw => ⟨hm w hw, good_of_word (List.all_eq_true.mp h w hw)⟩
/-! ===== END ===== -/
def RX0 : String := "TramPence$LawBook"
def TX0 : u_T := fun k => match k with
  | 0 => ("TramPence$LawBook", "tape", "LTramPence$Tape;", true)
  | 1 => ("TramPence$LawBook", "told", "LTramPence$Laws;", false)
  | 2 => ("TramPence$LawBook", "fault", "I", false)
  | 3 => ("TramPence$LawBook", "draft", "LTramPence$Laws;", false)
  | 4 => ("TramPence$LawBook", "numbers", "[I", true)
  | 5 => ("TramPence$LawBook", "law", "I", false)
  | _ => ("TramPence$LawBook", "taken", "I", false)
def tyX0 : Nat → FieldType := fun k => match k with
  | 0 => .object "TramPence$Tape"
  | 1 => .object "TramPence$Laws"
  | 2 => .int
  | 3 => .object "TramPence$Laws"
  | 4 => .array .int
  | 5 => .int
  | _ => .int
abbrev wsX00 : List Cond := u_ws RX0 TX0 7
theorem nmX0 : ∀ a, a < 7 → ∀ b, b < 7 → a ≠ b → (TX0 a).2.1 ≠ (TX0 b).2.1 := by decide +kernel
theorem tyX0_ok : ∀ k, k < 7 → parseFieldDescriptor (TX0 k).2.2.1 = some (tyX0 k) := by decide +kernel
abbrev cX0_init : ByteArray := prog_2_method_1_code
def yX0_init : MethodName := ⟨RX0, "<init>", "()V"⟩
abbrev cX0_readTape : ByteArray := prog_2_method_2_code
def yX0_readTape : MethodName := ⟨RX0, "readTape", "()I"⟩
abbrev cX0_tellDraft : ByteArray := prog_2_method_3_code
def yX0_tellDraft : MethodName := ⟨RX0, "tellDraft", "()I"⟩
abbrev cX0_take : ByteArray := prog_2_method_4_code
def yX0_take : MethodName := ⟨RX0, "take", "(I)I"⟩
abbrev cX0_beginLaw : ByteArray := prog_2_method_5_code
def yX0_beginLaw : MethodName := ⟨RX0, "beginLaw", "(I)I"⟩
abbrev cX0_takeNumber : ByteArray := prog_2_method_6_code
def yX0_takeNumber : MethodName := ⟨RX0, "takeNumber", "(I)I"⟩
abbrev cX0_endLaw : ByteArray := prog_2_method_7_code
def yX0_endLaw : MethodName := ⟨RX0, "endLaw", "(I)I"⟩
def RX1 : String := "TramPence$Laws"
def TX1 : u_T := fun k => match k with
  | 0 => ("TramPence$Laws", "sections", "[I", true)
  | 1 => ("TramPence$Laws", "pence", "[I", true)
  | 2 => ("TramPence$Laws", "fromHour", "[I", true)
  | 3 => ("TramPence$Laws", "toHour", "[I", true)
  | 4 => ("TramPence$Laws", "ofHundred", "[I", true)
  | 5 => ("TramPence$Laws", "fares", "I", false)
  | 6 => ("TramPence$Laws", "works", "I", false)
  | _ => ("TramPence$Laws", "changeMinutes", "I", false)
def tyX1 : Nat → FieldType := fun k => match k with
  | 0 => .array .int
  | 1 => .array .int
  | 2 => .array .int
  | 3 => .array .int
  | 4 => .array .int
  | 5 => .int
  | 6 => .int
  | _ => .int
abbrev wsX10 : List Cond := u_ws RX1 TX1 8
theorem nmX1 : ∀ a, a < 8 → ∀ b, b < 8 → a ≠ b → (TX1 a).2.1 ≠ (TX1 b).2.1 := by decide +kernel
theorem tyX1_ok : ∀ k, k < 8 → parseFieldDescriptor (TX1 k).2.2.1 = some (tyX1 k) := by decide +kernel
abbrev cX1_init : ByteArray := prog_3_method_1_code
def yX1_init : MethodName := ⟨RX1, "<init>", "()V"⟩
abbrev cX1_clear : ByteArray := prog_3_method_2_code
def yX1_clear : MethodName := ⟨RX1, "clear", "()V"⟩
abbrev cX1_howMany : ByteArray := prog_3_method_3_code
def yX1_howMany : MethodName := ⟨RX1, "howMany", "()I"⟩
abbrev cX1_hasRoomFor : ByteArray := prog_3_method_4_code
def yX1_hasRoomFor : MethodName := ⟨RX1, "hasRoomFor", "(I)Z"⟩
abbrev cX1_add : ByteArray := prog_3_method_5_code
def yX1_add : MethodName := ⟨RX1, "add", "(IIII)V"⟩
abbrev cX1_latestFare : ByteArray := prog_3_method_6_code
def yX1_latestFare : MethodName := ⟨RX1, "latestFare", "(I)I"⟩
abbrev cX1_priceFor : ByteArray := prog_3_method_7_code
def yX1_priceFor : MethodName := ⟨RX1, "priceFor", "(II)I"⟩
abbrev cX1_shareAt : ByteArray := prog_3_method_8_code
def yX1_shareAt : MethodName := ⟨RX1, "shareAt", "(I)I"⟩
abbrev cX1_isChangeGood : ByteArray := prog_3_method_9_code
def yX1_isChangeGood : MethodName := ⟨RX1, "isChangeGood", "(I)Z"⟩
def RX2 : String := "TramPence$Packs"
def TX2 : u_T := fun k => match k with
  | 0 => ("TramPence$Packs", "next", "[[I", true)
  | _ => ("TramPence$Packs", "limit", "[[I", true)
def tyX2 : Nat → FieldType := fun k => match k with
  | 0 => .array (.array .int)
  | _ => .array (.array .int)
abbrev wsX20 : List Cond := u_ws RX2 TX2 2
theorem nmX2 : ∀ a, a < 2 → ∀ b, b < 2 → a ≠ b → (TX2 a).2.1 ≠ (TX2 b).2.1 := by decide +kernel
theorem tyX2_ok : ∀ k, k < 2 → parseFieldDescriptor (TX2 k).2.2.1 = some (tyX2 k) := by decide +kernel
abbrev cX2_init : ByteArray := prog_4_method_1_code
def yX2_init : MethodName := ⟨RX2, "<init>", "()V"⟩
abbrev cX2_size : ByteArray := prog_4_method_2_code
def yX2_size : MethodName := ⟨RX2, "size", "(II)I"⟩
abbrev cX2_replace : ByteArray := prog_4_method_3_code
def yX2_replace : MethodName := ⟨RX2, "replace", "(IIII)V"⟩
abbrev cX2_takeNext : ByteArray := prog_4_method_4_code
def yX2_takeNext : MethodName := ⟨RX2, "takeNext", "(II)I"⟩
abbrev cX2_anyWithOthers : ByteArray := prog_4_method_5_code
def yX2_anyWithOthers : MethodName := ⟨RX2, "anyWithOthers", "(IIII)Z"⟩
abbrev cX2_beyond : ByteArray := prog_4_method_6_code
def yX2_beyond : MethodName := ⟨RX2, "beyond", "(II)I"⟩
def RX3 : String := "TramPence$Roster"
def TX3 : u_T := fun k => match k with
  | 0 => ("TramPence$Roster", "from", "[I", true)
  | 1 => ("TramPence$Roster", "to", "[I", true)
  | 2 => ("TramPence$Roster", "freeFrom", "[I", true)
  | 3 => ("TramPence$Roster", "crewOf", "[I", true)
  | 4 => ("TramPence$Roster", "used", "I", false)
  | 5 => ("TramPence$Roster", "crewsUsed", "I", false)
  | _ => ("TramPence$Roster", "restMinutes", "I", false)
def tyX3 : Nat → FieldType := fun k => match k with
  | 0 => .array .int
  | 1 => .array .int
  | 2 => .array .int
  | 3 => .array .int
  | 4 => .int
  | 5 => .int
  | _ => .int
abbrev wsX30 : List Cond := u_ws RX3 TX3 7
theorem nmX3 : ∀ a, a < 7 → ∀ b, b < 7 → a ≠ b → (TX3 a).2.1 ≠ (TX3 b).2.1 := by decide +kernel
theorem tyX3_ok : ∀ k, k < 7 → parseFieldDescriptor (TX3 k).2.2.1 = some (tyX3 k) := by decide +kernel
abbrev cX3_init : ByteArray := prog_5_method_1_code
def yX3_init : MethodName := ⟨RX3, "<init>", "()V"⟩
abbrev cX3_add : ByteArray := prog_5_method_2_code
def yX3_add : MethodName := ⟨RX3, "add", "(II)I"⟩
abbrev cX3_replaceRest : ByteArray := prog_5_method_3_code
def yX3_replaceRest : MethodName := ⟨RX3, "replaceRest", "(I)I"⟩
abbrev cX3_tellCrews : ByteArray := prog_5_method_4_code
def yX3_tellCrews : MethodName := ⟨RX3, "tellCrews", "()V"⟩
abbrev cX3_firstWithoutCrew : ByteArray := prog_5_method_5_code
def yX3_firstWithoutCrew : MethodName := ⟨RX3, "firstWithoutCrew", "()I"⟩
abbrev cX3_giveCrew : ByteArray := prog_5_method_6_code
def yX3_giveCrew : MethodName := ⟨RX3, "giveCrew", "(I)V"⟩
abbrev cX3_minutesOf : ByteArray := prog_5_method_7_code
def yX3_minutesOf : MethodName := ⟨RX3, "minutesOf", "(I)I"⟩
abbrev cX3_busiest : ByteArray := prog_5_method_8_code
def yX3_busiest : MethodName := ⟨RX3, "busiest", "()I"⟩
abbrev cX3_lostWithout : ByteArray := prog_5_method_9_code
def yX3_lostWithout : MethodName := ⟨RX3, "lostWithout", "(I)I"⟩
abbrev cX3_anotherCould : ByteArray := prog_5_method_10_code
def yX3_anotherCould : MethodName := ⟨RX3, "anotherCould", "(I)Z"⟩
abbrev cX3_couldHave : ByteArray := prog_5_method_11_code
def yX3_couldHave : MethodName := ⟨RX3, "couldHave", "(II)Z"⟩
abbrev cX3_haveRestBetween : ByteArray := prog_5_method_12_code
def yX3_haveRestBetween : MethodName := ⟨RX3, "haveRestBetween", "(II)Z"⟩
def RX4 : String := "TramPence$Sales"
def TX4 : u_T := fun k => match k with
  | 0 => ("TramPence$Sales", "trip", "[I", true)
  | 1 => ("TramPence$Sales", "type", "[I", true)
  | 2 => ("TramPence$Sales", "step", "[I", true)
  | 3 => ("TramPence$Sales", "number", "[I", true)
  | _ => ("TramPence$Sales", "used", "I", false)
def tyX4 : Nat → FieldType := fun k => match k with
  | 0 => .array .int
  | 1 => .array .int
  | 2 => .array .int
  | 3 => .array .int
  | _ => .int
abbrev wsX40 : List Cond := u_ws RX4 TX4 5
theorem nmX4 : ∀ a, a < 5 → ∀ b, b < 5 → a ≠ b → (TX4 a).2.1 ≠ (TX4 b).2.1 := by decide +kernel
theorem tyX4_ok : ∀ k, k < 5 → parseFieldDescriptor (TX4 k).2.2.1 = some (tyX4 k) := by decide +kernel
abbrev cX4_init : ByteArray := prog_6_method_1_code
def yX4_init : MethodName := ⟨RX4, "<init>", "()V"⟩
abbrev cX4_isFull : ByteArray := prog_6_method_2_code
def yX4_isFull : MethodName := ⟨RX4, "isFull", "()Z"⟩
abbrev cX4_add : ByteArray := prog_6_method_3_code
def yX4_add : MethodName := ⟨RX4, "add", "(IIII)V"⟩
abbrev cX4_latestStep : ByteArray := prog_6_method_4_code
def yX4_latestStep : MethodName := ⟨RX4, "latestStep", "(I)I"⟩
abbrev cX4_find : ByteArray := prog_6_method_5_code
def yX4_find : MethodName := ⟨RX4, "find", "(II)I"⟩
abbrev cX4_anySold : ByteArray := prog_6_method_6_code
def yX4_anySold : MethodName := ⟨RX4, "anySold", "(III)Z"⟩
abbrev cX4_beyond : ByteArray := prog_6_method_7_code
def yX4_beyond : MethodName := ⟨RX4, "beyond", "(II)I"⟩
abbrev cX4_greatestSold : ByteArray := prog_6_method_8_code
def yX4_greatestSold : MethodName := ⟨RX4, "greatestSold", "(I)I"⟩
abbrev cX4_howMany : ByteArray := prog_6_method_9_code
def yX4_howMany : MethodName := ⟨RX4, "howMany", "(II)I"⟩
abbrev cX4_firstOf : ByteArray := prog_6_method_10_code
def yX4_firstOf : MethodName := ⟨RX4, "firstOf", "(II)I"⟩
abbrev cX4_lastOf : ByteArray := prog_6_method_11_code
def yX4_lastOf : MethodName := ⟨RX4, "lastOf", "(II)I"⟩
abbrev cX4_isOf : ByteArray := prog_6_method_12_code
def yX4_isOf : MethodName := ⟨RX4, "isOf", "(III)Z"⟩
def RX5 : String := "TramPence$Sheet"
def TX5 : u_T := fun k => match k with
  | 0 => ("TramPence$Sheet", "cells", "[I", true)
  | 1 => ("TramPence$Sheet", "lane", "I", false)
  | _ => ("TramPence$Sheet", "size", "I", false)
def tyX5 : Nat → FieldType := fun k => match k with
  | 0 => .array .int
  | 1 => .int
  | _ => .int
abbrev wsX50 : List Cond := u_ws RX5 TX5 3
theorem nmX5 : ∀ a, a < 3 → ∀ b, b < 3 → a ≠ b → (TX5 a).2.1 ≠ (TX5 b).2.1 := by decide +kernel
theorem tyX5_ok : ∀ k, k < 3 → parseFieldDescriptor (TX5 k).2.2.1 = some (tyX5 k) := by decide +kernel
abbrev cX5_init : ByteArray := prog_7_method_1_code
def yX5_init : MethodName := ⟨RX5, "<init>", "()V"⟩
abbrev cX5_isNothing : ByteArray := prog_7_method_2_code
def yX5_isNothing : MethodName := ⟨RX5, "isNothing", "()Z"⟩
abbrev cX5_hasCell : ByteArray := prog_7_method_3_code
def yX5_hasCell : MethodName := ⟨RX5, "hasCell", "(I)Z"⟩
abbrev cX5_renew : ByteArray := prog_7_method_4_code
def yX5_renew : MethodName := ⟨RX5, "renew", "(II)V"⟩
abbrev cX5_write : ByteArray := prog_7_method_5_code
def yX5_write : MethodName := ⟨RX5, "write", "(II)V"⟩
def RX6 : String := "TramPence$Tape"
def TX6 : u_T := fun k => match k with
  | 0 => ("TramPence$Tape", "bytes", "[B", true)
  | 1 => ("TramPence$Tape", "length", "I", false)
  | 2 => ("TramPence$Tape", "start", "I", false)
  | 3 => ("TramPence$Tape", "value", "I", false)
  | _ => ("TramPence$Tape", "place", "I", false)
def tyX6 : Nat → FieldType := fun k => match k with
  | 0 => .array .byte
  | 1 => .int
  | 2 => .int
  | 3 => .int
  | _ => .int
abbrev wsX60 : List Cond := u_ws RX6 TX6 5
theorem nmX6 : ∀ a, a < 5 → ∀ b, b < 5 → a ≠ b → (TX6 a).2.1 ≠ (TX6 b).2.1 := by decide +kernel
theorem tyX6_ok : ∀ k, k < 5 → parseFieldDescriptor (TX6 k).2.2.1 = some (tyX6 k) := by decide +kernel
abbrev cX6_init : ByteArray := prog_8_method_1_code
def yX6_init : MethodName := ⟨RX6, "<init>", "()V"⟩
abbrev cX6_append : ByteArray := prog_8_method_2_code
def yX6_append : MethodName := ⟨RX6, "append", "(J)I"⟩
abbrev cX6_rewind : ByteArray := prog_8_method_3_code
def yX6_rewind : MethodName := ⟨RX6, "rewind", "()V"⟩
abbrev cX6_readToken : ByteArray := prog_8_method_4_code
def yX6_readToken : MethodName := ⟨RX6, "readToken", "()I"⟩
abbrev cX6_readName : ByteArray := prog_8_method_5_code
def yX6_readName : MethodName := ⟨RX6, "readName", "()I"⟩
abbrev cX6_readNumber : ByteArray := prog_8_method_6_code
def yX6_readNumber : MethodName := ⟨RX6, "readNumber", "()I"⟩
abbrev cX6_isLetter : ByteArray := prog_8_method_7_code
def yX6_isLetter : MethodName := ⟨RX6, "isLetter", "(I)Z"⟩
abbrev cX6_isFigure : ByteArray := prog_8_method_8_code
def yX6_isFigure : MethodName := ⟨RX6, "isFigure", "(I)Z"⟩
abbrev cX6_isSpelled : ByteArray := prog_8_method_9_code
def yX6_isSpelled : MethodName := ⟨RX6, "isSpelled", "(Ljava/lang/String;)Z"⟩
def RX7 : String := "TramPence$Trips"
def TX7 : u_T := fun k => match k with
  | 0 => ("TramPence$Trips", "conductor", "[I", true)
  | 1 => ("TramPence$Trips", "up", "[Z", true)
  | 2 => ("TramPence$Trips", "open", "[Z", true)
  | _ => ("TramPence$Trips", "used", "I", false)
def tyX7 : Nat → FieldType := fun k => match k with
  | 0 => .array .int
  | 1 => .array .boolean
  | 2 => .array .boolean
  | _ => .int
abbrev wsX70 : List Cond := u_ws RX7 TX7 4
theorem nmX7 : ∀ a, a < 4 → ∀ b, b < 4 → a ≠ b → (TX7 a).2.1 ≠ (TX7 b).2.1 := by decide +kernel
theorem tyX7_ok : ∀ k, k < 4 → parseFieldDescriptor (TX7 k).2.2.1 = some (tyX7 k) := by decide +kernel
abbrev cX7_init : ByteArray := prog_9_method_1_code
def yX7_init : MethodName := ⟨RX7, "<init>", "()V"⟩
abbrev cX7_has : ByteArray := prog_9_method_2_code
def yX7_has : MethodName := ⟨RX7, "has", "(I)Z"⟩
abbrev cX7_add : ByteArray := prog_9_method_3_code
def yX7_add : MethodName := ⟨RX7, "add", "(IZ)I"⟩
abbrev cX7_hasOpen : ByteArray := prog_9_method_4_code
def yX7_hasOpen : MethodName := ⟨RX7, "hasOpen", "(I)Z"⟩
abbrev cX7_howManyOpen : ByteArray := prog_9_method_5_code
def yX7_howManyOpen : MethodName := ⟨RX7, "howManyOpen", "()I"⟩
abbrev cX7_stepOfStage : ByteArray := prog_9_method_6_code
def yX7_stepOfStage : MethodName := ⟨RX7, "stepOfStage", "(II)I"⟩
abbrev cX7_stepOfSection : ByteArray := prog_9_method_7_code
def yX7_stepOfSection : MethodName := ⟨RX7, "stepOfSection", "(II)I"⟩
def RX8 : String := "TramPence$Types"
def TX8 : u_T := fun k => match k with
  | 0 => ("TramPence$Types", "price", "[I", true)
  | 1 => ("TramPence$Types", "span", "[I", true)
  | _ => ("TramPence$Types", "used", "I", false)
def tyX8 : Nat → FieldType := fun k => match k with
  | 0 => .array .int
  | 1 => .array .int
  | _ => .int
abbrev wsX80 : List Cond := u_ws RX8 TX8 3
theorem nmX8 : ∀ a, a < 3 → ∀ b, b < 3 → a ≠ b → (TX8 a).2.1 ≠ (TX8 b).2.1 := by decide +kernel
theorem tyX8_ok : ∀ k, k < 3 → parseFieldDescriptor (TX8 k).2.2.1 = some (tyX8 k) := by decide +kernel
abbrev cX8_init : ByteArray := prog_10_method_1_code
def yX8_init : MethodName := ⟨RX8, "<init>", "()V"⟩
abbrev cX8_has : ByteArray := prog_10_method_2_code
def yX8_has : MethodName := ⟨RX8, "has", "(I)Z"⟩
abbrev cX8_add : ByteArray := prog_10_method_3_code
def yX8_add : MethodName := ⟨RX8, "add", "(II)I"⟩
def RX9 : String := "TramPence"
def TX9 : u_T := fun k => match k with
  | 0 => ("TramPence", "types", "LTramPence$Types;", true)
  | 1 => ("TramPence", "packs", "LTramPence$Packs;", true)
  | 2 => ("TramPence", "trips", "LTramPence$Trips;", true)
  | 3 => ("TramPence", "sales", "LTramPence$Sales;", true)
  | 4 => ("TramPence", "sheets", "[LTramPence$Sheet;", true)
  | 5 => ("TramPence", "book", "LTramPence$LawBook;", true)
  | _ => ("TramPence", "roster", "LTramPence$Roster;", true)
def tyX9 : Nat → FieldType := fun k => match k with
  | 0 => .object "TramPence$Types"
  | 1 => .object "TramPence$Packs"
  | 2 => .object "TramPence$Trips"
  | 3 => .object "TramPence$Sales"
  | 4 => .array (.object "TramPence$Sheet")
  | 5 => .object "TramPence$LawBook"
  | _ => .object "TramPence$Roster"
abbrev wsX90 : List Cond := u_ws RX9 TX9 7
theorem nmX9 : ∀ a, a < 7 → ∀ b, b < 7 → a ≠ b → (TX9 a).2.1 ≠ (TX9 b).2.1 := by decide +kernel
theorem tyX9_ok : ∀ k, k < 7 → parseFieldDescriptor (TX9 k).2.2.1 = some (tyX9 k) := by decide +kernel
abbrev cX9_init : ByteArray := prog_1_method_1_code
def yX9_init : MethodName := ⟨RX9, "<init>", "()V"⟩
abbrev cX9_type : ByteArray := prog_1_method_2_code
def yX9_type : MethodName := ⟨RX9, "type", "(II)I"⟩
abbrev cX9_issue : ByteArray := prog_1_method_3_code
def yX9_issue : MethodName := ⟨RX9, "issue", "(IIII)I"⟩
abbrev cX9_pack : ByteArray := prog_1_method_4_code
def yX9_pack : MethodName := ⟨RX9, "pack", "(III)I"⟩
abbrev cX9_trip : ByteArray := prog_1_method_5_code
def yX9_trip : MethodName := ⟨RX9, "trip", "(IZ)I"⟩
abbrev cX9_close : ByteArray := prog_1_method_6_code
def yX9_close : MethodName := ⟨RX9, "close", "(I)I"⟩
abbrev cX9_sell : ByteArray := prog_1_method_7_code
def yX9_sell : MethodName := ⟨RX9, "sell", "(III)I"⟩
abbrev cX9_undo : ByteArray := prog_1_method_8_code
def yX9_undo : MethodName := ⟨RX9, "undo", "()I"⟩
abbrev cX9_sheet : ByteArray := prog_1_method_9_code
def yX9_sheet : MethodName := ⟨RX9, "sheet", "(III)I"⟩
abbrev cX9_lay : ByteArray := prog_1_method_10_code
def yX9_lay : MethodName := ⟨RX9, "lay", "(III)I"⟩
abbrev cX9_scan : ByteArray := prog_1_method_11_code
def yX9_scan : MethodName := ⟨RX9, "scan", "(IIIII)I"⟩
abbrev cX9_waybill : ByteArray := prog_1_method_12_code
def yX9_waybill : MethodName := ⟨RX9, "waybill", "(III)I"⟩
abbrev cX9_money : ByteArray := prog_1_method_13_code
def yX9_money : MethodName := ⟨RX9, "money", "(I)I"⟩
abbrev cX9_paid : ByteArray := prog_1_method_14_code
def yX9_paid : MethodName := ⟨RX9, "paid", "(II)I"⟩
abbrev cX9_aboard : ByteArray := prog_1_method_15_code
def yX9_aboard : MethodName := ⟨RX9, "aboard", "(III)I"⟩
abbrev cX9_riders : ByteArray := prog_1_method_16_code
def yX9_riders : MethodName := ⟨RX9, "riders", "(ZII)I"⟩
abbrev cX9_shown : ByteArray := prog_1_method_17_code
def yX9_shown : MethodName := ⟨RX9, "shown", "(IIII)I"⟩
abbrev cX9_heads : ByteArray := prog_1_method_18_code
def yX9_heads : MethodName := ⟨RX9, "heads", "(III)I"⟩
abbrev cX9_gap : ByteArray := prog_1_method_19_code
def yX9_gap : MethodName := ⟨RX9, "gap", "(I)I"⟩
abbrev cX9_feed : ByteArray := prog_1_method_20_code
def yX9_feed : MethodName := ⟨RX9, "feed", "(J)I"⟩
abbrev cX9_end : ByteArray := prog_1_method_21_code
def yX9_end : MethodName := ⟨RX9, "end", "(I)I"⟩
abbrev cX9_laws : ByteArray := prog_1_method_22_code
def yX9_laws : MethodName := ⟨RX9, "laws", "()I"⟩
abbrev cX9_fault : ByteArray := prog_1_method_23_code
def yX9_fault : MethodName := ⟨RX9, "fault", "()I"⟩
abbrev cX9_fare : ByteArray := prog_1_method_24_code
def yX9_fare : MethodName := ⟨RX9, "fare", "(II)I"⟩
abbrev cX9_change : ByteArray := prog_1_method_25_code
def yX9_change : MethodName := ⟨RX9, "change", "(II)I"⟩
abbrev cX9_duty : ByteArray := prog_1_method_26_code
def yX9_duty : MethodName := ⟨RX9, "duty", "(II)I"⟩
abbrev cX9_rest : ByteArray := prog_1_method_27_code
def yX9_rest : MethodName := ⟨RX9, "rest", "(I)I"⟩
abbrev cX9_crew : ByteArray := prog_1_method_28_code
def yX9_crew : MethodName := ⟨RX9, "crew", "(I)I"⟩
abbrev cX9_crews : ByteArray := prog_1_method_29_code
def yX9_crews : MethodName := ⟨RX9, "crews", "(I)I"⟩
abbrev cX9_ill : ByteArray := prog_1_method_30_code
def yX9_ill : MethodName := ⟨RX9, "ill", "(I)I"⟩
abbrev cX9_count : ByteArray := prog_1_method_31_code
def yX9_count : MethodName := ⟨RX9, "count", "(I)I"⟩
abbrev cX9_isOutside : ByteArray := prog_1_method_32_code
def yX9_isOutside : MethodName := ⟨RX9, "isOutside", "(III)Z"⟩
abbrev cX9_hasPack : ByteArray := prog_1_method_33_code
def yX9_hasPack : MethodName := ⟨RX9, "hasPack", "(II)Z"⟩
abbrev cX9_takings : ByteArray := prog_1_method_34_code
def yX9_takings : MethodName := ⟨RX9, "takings", "(I)I"⟩
abbrev cX9_howManyAboard : ByteArray := prog_1_method_35_code
def yX9_howManyAboard : MethodName := ⟨RX9, "howManyAboard", "(III)I"⟩
abbrev cX9_isAboard : ByteArray := prog_1_method_36_code
def yX9_isAboard : MethodName := ⟨RX9, "isAboard", "(III)Z"⟩
abbrev cX9_isGoodAt : ByteArray := prog_1_method_37_code
def yX9_isGoodAt : MethodName := ⟨RX9, "isGoodAt", "(II)Z"⟩
abbrev cX9_sellFromSheet : ByteArray := prog_1_method_38_code
def yX9_sellFromSheet : MethodName := ⟨RX9, "sellFromSheet", "(ILTramPence$Sheet;I)I"⟩
abbrev cX9_takeBack : ByteArray := prog_1_method_39_code
def yX9_takeBack : MethodName := ⟨RX9, "takeBack", "(I)V"⟩
abbrev cX9_takeBackLatest : ByteArray := prog_1_method_40_code
def yX9_takeBackLatest : MethodName := ⟨RX9, "takeBackLatest", "()V"⟩
abbrev cX9_beyondHeld : ByteArray := prog_1_method_41_code
def yX9_beyondHeld : MethodName := ⟨RX9, "beyondHeld", "(II)I"⟩
def RX10 : String := "TramPenceModel"
def TX10 : u_T := fun k => match k with
  | 0 => ("TramPenceModel", "types", "I", false)
  | 1 => ("TramPenceModel", "prices", "[I", true)
  | 2 => ("TramPenceModel", "spans", "[I", true)
  | 3 => ("TramPenceModel", "nexts", "[I", true)
  | 4 => ("TramPenceModel", "ends", "[I", true)
  | 5 => ("TramPenceModel", "trips", "I", false)
  | 6 => ("TramPenceModel", "driver", "[I", true)
  | 7 => ("TramPenceModel", "isUp", "[Z", true)
  | 8 => ("TramPenceModel", "isOpen", "[Z", true)
  | 9 => ("TramPenceModel", "sales", "I", false)
  | 10 => ("TramPenceModel", "saleTrip", "[I", true)
  | 11 => ("TramPenceModel", "saleType", "[I", true)
  | 12 => ("TramPenceModel", "saleStage", "[I", true)
  | 13 => ("TramPenceModel", "saleNumber", "[I", true)
  | 14 => ("TramPenceModel", "lanes", "[I", true)
  | 15 => ("TramPenceModel", "lengths", "[I", true)
  | 16 => ("TramPenceModel", "cells", "[I", true)
  | 17 => ("TramPenceModel", "tape", "[I", true)
  | 18 => ("TramPenceModel", "taped", "I", false)
  | 19 => ("TramPenceModel", "fault", "I", false)
  | 20 => ("TramPenceModel", "fares", "I", false)
  | 21 => ("TramPenceModel", "fareRow", "[I", true)
  | 22 => ("TramPenceModel", "works", "I", false)
  | 23 => ("TramPenceModel", "workRow", "[I", true)
  | 24 => ("TramPenceModel", "changeMost", "I", false)
  | 25 => ("TramPenceModel", "lawMany", "I", false)
  | 26 => ("TramPenceModel", "place", "I", false)
  | 27 => ("TramPenceModel", "at", "I", false)
  | 28 => ("TramPenceModel", "token", "I", false)
  | 29 => ("TramPenceModel", "value", "I", false)
  | 30 => ("TramPenceModel", "wrong", "I", false)
  | 31 => ("TramPenceModel", "wrongAt", "I", false)
  | 32 => ("TramPenceModel", "sixOf", "[I", true)
  | 33 => ("TramPenceModel", "newFares", "I", false)
  | 34 => ("TramPenceModel", "newWorks", "I", false)
  | 35 => ("TramPenceModel", "newChange", "I", false)
  | 36 => ("TramPenceModel", "newFare", "[I", true)
  | 37 => ("TramPenceModel", "newWork", "[I", true)
  | 38 => ("TramPenceModel", "duties", "I", false)
  | 39 => ("TramPenceModel", "froms", "[I", true)
  | 40 => ("TramPenceModel", "tos", "[I", true)
  | 41 => ("TramPenceModel", "resting", "I", false)
  | 42 => ("TramPenceModel", "crewOf", "[I", true)
  | _ => ("TramPenceModel", "crewMany", "I", false)
def tyX10 : Nat → FieldType := fun k => match k with
  | 0 => .int
  | 1 => .array .int
  | 2 => .array .int
  | 3 => .array .int
  | 4 => .array .int
  | 5 => .int
  | 6 => .array .int
  | 7 => .array .boolean
  | 8 => .array .boolean
  | 9 => .int
  | 10 => .array .int
  | 11 => .array .int
  | 12 => .array .int
  | 13 => .array .int
  | 14 => .array .int
  | 15 => .array .int
  | 16 => .array .int
  | 17 => .array .int
  | 18 => .int
  | 19 => .int
  | 20 => .int
  | 21 => .array .int
  | 22 => .int
  | 23 => .array .int
  | 24 => .int
  | 25 => .int
  | 26 => .int
  | 27 => .int
  | 28 => .int
  | 29 => .int
  | 30 => .int
  | 31 => .int
  | 32 => .array .int
  | 33 => .int
  | 34 => .int
  | 35 => .int
  | 36 => .array .int
  | 37 => .array .int
  | 38 => .int
  | 39 => .array .int
  | 40 => .array .int
  | 41 => .int
  | 42 => .array .int
  | _ => .int
abbrev wsX100 : List Cond := u_ws RX10 TX10 44
theorem nmX10 : ∀ a, a < 44 → ∀ b, b < 44 → a ≠ b → (TX10 a).2.1 ≠ (TX10 b).2.1 := by decide +kernel
theorem tyX10_ok : ∀ k, k < 44 → parseFieldDescriptor (TX10 k).2.2.1 = some (tyX10 k) := by decide +kernel
abbrev cX10_init : ByteArray := prog_12_method_1_code
def yX10_init : MethodName := ⟨RX10, "<init>", "()V"⟩
abbrev cX10_in : ByteArray := prog_12_method_3_code
def yX10_in : MethodName := ⟨RX10, "in", "(JJJ)Z"⟩
abbrev cX10_type : ByteArray := prog_12_method_4_code
def yX10_type : MethodName := ⟨RX10, "type", "(II)I"⟩
abbrev cX10_isPack : ByteArray := prog_12_method_5_code
def yX10_isPack : MethodName := ⟨RX10, "isPack", "(II)Z"⟩
abbrev cX10_issue : ByteArray := prog_12_method_6_code
def yX10_issue : MethodName := ⟨RX10, "issue", "(IIII)I"⟩
abbrev cX10_pack : ByteArray := prog_12_method_7_code
def yX10_pack : MethodName := ⟨RX10, "pack", "(III)I"⟩
abbrev cX10_trip : ByteArray := prog_12_method_8_code
def yX10_trip : MethodName := ⟨RX10, "trip", "(IZ)I"⟩
abbrev cX10_isTrip : ByteArray := prog_12_method_9_code
def yX10_isTrip : MethodName := ⟨RX10, "isTrip", "(I)Z"⟩
abbrev cX10_moneyOf : ByteArray := prog_12_method_10_code
def yX10_moneyOf : MethodName := ⟨RX10, "moneyOf", "(I)I"⟩
abbrev cX10_close : ByteArray := prog_12_method_11_code
def yX10_close : MethodName := ⟨RX10, "close", "(I)I"⟩
abbrev cX10_along : ByteArray := prog_12_method_12_code
def yX10_along : MethodName := ⟨RX10, "along", "(II)I"⟩
abbrev cX10_latestOf : ByteArray := prog_12_method_13_code
def yX10_latestOf : MethodName := ⟨RX10, "latestOf", "(I)I"⟩
abbrev cX10_sell : ByteArray := prog_12_method_14_code
def yX10_sell : MethodName := ⟨RX10, "sell", "(III)I"⟩
abbrev cX10_undo : ByteArray := prog_12_method_15_code
def yX10_undo : MethodName := ⟨RX10, "undo", "()I"⟩
abbrev cX10_sheet : ByteArray := prog_12_method_16_code
def yX10_sheet : MethodName := ⟨RX10, "sheet", "(III)I"⟩
abbrev cX10_lay : ByteArray := prog_12_method_17_code
def yX10_lay : MethodName := ⟨RX10, "lay", "(III)I"⟩
abbrev cX10_scan : ByteArray := prog_12_method_18_code
def yX10_scan : MethodName := ⟨RX10, "scan", "(IIIII)I"⟩
abbrev cX10_waybill : ByteArray := prog_12_method_19_code
def yX10_waybill : MethodName := ⟨RX10, "waybill", "(III)I"⟩
abbrev cX10_money : ByteArray := prog_12_method_20_code
def yX10_money : MethodName := ⟨RX10, "money", "(I)I"⟩
abbrev cX10_paid : ByteArray := prog_12_method_21_code
def yX10_paid : MethodName := ⟨RX10, "paid", "(II)I"⟩
abbrev cX10_beginOf : ByteArray := prog_12_method_22_code
def yX10_beginOf : MethodName := ⟨RX10, "beginOf", "(II)I"⟩
abbrev cX10_aboardOf : ByteArray := prog_12_method_23_code
def yX10_aboardOf : MethodName := ⟨RX10, "aboardOf", "(IIZ)I"⟩
abbrev cX10_aboard : ByteArray := prog_12_method_24_code
def yX10_aboard : MethodName := ⟨RX10, "aboard", "(III)I"⟩
abbrev cX10_riders : ByteArray := prog_12_method_25_code
def yX10_riders : MethodName := ⟨RX10, "riders", "(ZII)I"⟩
abbrev cX10_shown : ByteArray := prog_12_method_26_code
def yX10_shown : MethodName := ⟨RX10, "shown", "(IIII)I"⟩
abbrev cX10_heads : ByteArray := prog_12_method_27_code
def yX10_heads : MethodName := ⟨RX10, "heads", "(III)I"⟩
abbrev cX10_gap : ByteArray := prog_12_method_28_code
def yX10_gap : MethodName := ⟨RX10, "gap", "(I)I"⟩
abbrev cX10_feed : ByteArray := prog_12_method_29_code
def yX10_feed : MethodName := ⟨RX10, "feed", "(J)I"⟩
abbrev cX10_end : ByteArray := prog_12_method_30_code
def yX10_end : MethodName := ⟨RX10, "end", "(I)I"⟩
abbrev cX10_byteAt : ByteArray := prog_12_method_31_code
def yX10_byteAt : MethodName := ⟨RX10, "byteAt", "(I)I"⟩
abbrev cX10_fails : ByteArray := prog_12_method_32_code
def yX10_fails : MethodName := ⟨RX10, "fails", "(II)V"⟩
abbrev cX10_isName : ByteArray := prog_12_method_33_code
def yX10_isName : MethodName := ⟨RX10, "isName", "(IIIIIIII)Z"⟩
abbrev cX10_next : ByteArray := prog_12_method_34_code
def yX10_next : MethodName := ⟨RX10, "next", "()V"⟩
abbrev cX10_number : ByteArray := prog_12_method_35_code
def yX10_number : MethodName := ⟨RX10, "number", "(II)I"⟩
abbrev cX10_above : ByteArray := prog_12_method_36_code
def yX10_above : MethodName := ⟨RX10, "above", "(III)I"⟩
abbrev cX10_law : ByteArray := prog_12_method_37_code
def yX10_law : MethodName := ⟨RX10, "law", "()V"⟩
abbrev cX10_laws : ByteArray := prog_12_method_38_code
def yX10_laws : MethodName := ⟨RX10, "laws", "()I"⟩
abbrev cX10_fault : ByteArray := prog_12_method_39_code
def yX10_fault : MethodName := ⟨RX10, "fault", "()I"⟩
abbrev cX10_fare : ByteArray := prog_12_method_40_code
def yX10_fare : MethodName := ⟨RX10, "fare", "(II)I"⟩
abbrev cX10_change : ByteArray := prog_12_method_41_code
def yX10_change : MethodName := ⟨RX10, "change", "(II)I"⟩
abbrev cX10_duty : ByteArray := prog_12_method_42_code
def yX10_duty : MethodName := ⟨RX10, "duty", "(II)I"⟩
abbrev cX10_rest : ByteArray := prog_12_method_43_code
def yX10_rest : MethodName := ⟨RX10, "rest", "(I)I"⟩
abbrev cX10_layCrews : ByteArray := prog_12_method_44_code
def yX10_layCrews : MethodName := ⟨RX10, "layCrews", "()V"⟩
abbrev cX10_mayHave : ByteArray := prog_12_method_45_code
def yX10_mayHave : MethodName := ⟨RX10, "mayHave", "(II)Z"⟩
abbrev cX10_crew : ByteArray := prog_12_method_46_code
def yX10_crew : MethodName := ⟨RX10, "crew", "(I)I"⟩
abbrev cX10_minutesOf : ByteArray := prog_12_method_47_code
def yX10_minutesOf : MethodName := ⟨RX10, "minutesOf", "(I)I"⟩
abbrev cX10_crews : ByteArray := prog_12_method_48_code
def yX10_crews : MethodName := ⟨RX10, "crews", "(I)I"⟩
abbrev cX10_ill : ByteArray := prog_12_method_49_code
def yX10_ill : MethodName := ⟨RX10, "ill", "(I)I"⟩
abbrev cX10_count : ByteArray := prog_12_method_50_code
def yX10_count : MethodName := ⟨RX10, "count", "(I)I"⟩
def RJ9 : String := "java/lang/Math"
def TJ9 : u_T := fun k => match k with
  | _ => ("", "", "", false)
def tyJ9 : Nat → FieldType := fun k => match k with
  | _ => .int
abbrev wsJ90 : List Cond := u_ws RJ9 TJ9 0
theorem nmJ9 : ∀ a, a < 0 → ∀ b, b < 0 → a ≠ b → (TJ9 a).2.1 ≠ (TJ9 b).2.1 := by decide +kernel
theorem tyJ9_ok : ∀ k, k < 0 → parseFieldDescriptor (TJ9 k).2.2.1 = some (tyJ9 k) := by decide +kernel
abbrev cJ9_max_7cf53 : ByteArray := prog_13_method_65_code
def yJ9_max_7cf53 : MethodName := ⟨RJ9, "max", "(II)I"⟩
abbrev cJ9_min_7cf53 : ByteArray := prog_13_method_69_code
def yJ9_min_7cf53 : MethodName := ⟨RJ9, "min", "(II)I"⟩
def RJ0 : String := "java/lang/String"
def TJ0 : u_T := fun k => match k with
  | _ => ("", "", "", false)
def tyJ0 : Nat → FieldType := fun k => match k with
  | _ => .int
abbrev wsJ00 : List Cond := u_ws RJ0 TJ0 0
theorem nmJ0 : ∀ a, a < 0 → ∀ b, b < 0 → a ≠ b → (TJ0 a).2.1 ≠ (TJ0 b).2.1 := by decide +kernel
theorem tyJ0_ok : ∀ k, k < 0 → parseFieldDescriptor (TJ0 k).2.2.1 = some (tyJ0 k) := by decide +kernel
abbrev cJ0_length_8abf5 : ByteArray := prog_14_method_54_code
def yJ0_length_8abf5 : MethodName := ⟨RJ0, "length", "()I"⟩
abbrev cJ0_charAt_5068e : ByteArray := prog_14_method_56_code
def yJ0_charAt_5068e : MethodName := ⟨RJ0, "charAt", "(I)C"⟩
abbrev cJ0_coder_7d493 : ByteArray := prog_14_method_152_code
def yJ0_coder_7d493 : MethodName := ⟨RJ0, "coder", "()B"⟩
abbrev cJ0_isLatin1_aae02 : ByteArray := prog_14_method_154_code
def yJ0_isLatin1_aae02 : MethodName := ⟨RJ0, "isLatin1", "()Z"⟩
abbrev cJ0_checkIndex_df160 : ByteArray := prog_14_method_155_code
def yJ0_checkIndex_df160 : MethodName := ⟨RJ0, "checkIndex", "(II)V"⟩
def RJ1 : String := "java/lang/StringLatin1"
def TJ1 : u_T := fun k => match k with
  | _ => ("", "", "", false)
def tyJ1 : Nat → FieldType := fun k => match k with
  | _ => .int
abbrev wsJ10 : List Cond := u_ws RJ1 TJ1 0
theorem nmJ1 : ∀ a, a < 0 → ∀ b, b < 0 → a ≠ b → (TJ1 a).2.1 ≠ (TJ1 b).2.1 := by decide +kernel
theorem tyJ1_ok : ∀ k, k < 0 → parseFieldDescriptor (TJ1 k).2.2.1 = some (tyJ1 k) := by decide +kernel
abbrev cJ1_charAt_3b067 : ByteArray := prog_15_method_2_code
def yJ1_charAt_3b067 : MethodName := ⟨RJ1, "charAt", "([BI)C"⟩
def RJ2 : String := "java/lang/StringUTF16"
def TJ2 : u_T := fun k => match k with
  | _ => ("", "", "", false)
def tyJ2 : Nat → FieldType := fun k => match k with
  | _ => .int
abbrev wsJ20 : List Cond := u_ws RJ2 TJ2 0
theorem nmJ2 : ∀ a, a < 0 → ∀ b, b < 0 → a ≠ b → (TJ2 a).2.1 ≠ (TJ2 b).2.1 := by decide +kernel
theorem tyJ2_ok : ∀ k, k < 0 → parseFieldDescriptor (TJ2 k).2.2.1 = some (tyJ2 k) := by decide +kernel
abbrev cJ2_getChar_3b067 : ByteArray := prog_16_method_5_code
def yJ2_getChar_3b067 : MethodName := ⟨RJ2, "getChar", "([BI)C"⟩
abbrev cJ2_length_9d52b : ByteArray := prog_16_method_6_code
def yJ2_length_9d52b : MethodName := ⟨RJ2, "length", "([B)I"⟩
abbrev cJ2_charAt_3b067 : ByteArray := prog_16_method_83_code
def yJ2_charAt_3b067 : MethodName := ⟨RJ2, "charAt", "([BI)C"⟩
abbrev cJ2_checkIndex_2214a : ByteArray := prog_16_method_91_code
def yJ2_checkIndex_2214a : MethodName := ⟨RJ2, "checkIndex", "(I[B)V"⟩
def RJ3 : String := "jdk/internal/util/Preconditions"
def TJ3 : u_T := fun k => match k with
  | _ => ("", "", "", false)
def tyJ3 : Nat → FieldType := fun k => match k with
  | _ => .int
abbrev wsJ30 : List Cond := u_ws RJ3 TJ3 0
theorem nmJ3 : ∀ a, a < 0 → ∀ b, b < 0 → a ≠ b → (TJ3 a).2.1 ≠ (TJ3 b).2.1 := by decide +kernel
theorem tyJ3_ok : ∀ k, k < 0 → parseFieldDescriptor (TJ3 k).2.2.1 = some (tyJ3 k) := by decide +kernel
abbrev cJ3_checkIndex_8e157 : ByteArray := prog_17_method_11_code
def yJ3_checkIndex_8e157 : MethodName := ⟨RJ3, "checkIndex", "(IILjava/util/function/BiFunction;)I"⟩
def RL : String := "TramPenceLaw"
abbrev cL_law : ByteArray := code
def yL_law : MethodName := ⟨RL, "law", "([I)Z"⟩
abbrev vwCl : List vw_C := [(RX0, TX0, 7), (RX1, TX1, 8), (RX2, TX2, 2), (RX3, TX3, 7), (RX4, TX4, 5), (RX5, TX5, 3), (RX6, TX6, 5), (RX7, TX7, 4), (RX8, TX8, 3), (RX9, TX9, 7), (RX10, TX10, 44)]
end
section
/-! the objects of the two worlds: kinds (0 .. 10 classes, 20 int[], 21 byte[], 22 boolean[], 23, 24 arrays of references, 26 script, 27 tables, 28 String, 29 its bytes), lengths, references -/
def tp_kdl : List Nat := [9, 8, 2, 7, 4, 23, 0, 3, 20, 20, 24, 24, 20, 22, 22, 20, 20, 20, 20, 6, 5, 5, 5, 5, 1, 1, 20, 21, 20, 20, 20, 20, 20, 20, 20, 20, 20, 20, 20, 20, 20, 20, 20, 20, 20, 20, 20, 20, 20, 20, 20, 20, 20, 20, 20, 20, 20, 20, 10, 20, 20, 20, 20, 20, 22, 22, 20, 20, 20, 20, 20, 20, 20, 20, 20, 20, 20, 20, 20, 20, 20, 20, 99, 99, 99, 99, 99, 99, 99, 99, 26, 27, 27, 27, 28, 28, 28, 29, 29, 29, 99]
def tp_lnl : List Nat := [0, 0, 0, 0, 0, 4, 0, 0, 5, 5, 6, 6, 16, 16, 16, 200, 200, 200, 200, 0, 0, 0, 0, 0, 0, 0, 3, 200, 10, 10, 10, 10, 64, 64, 64, 64, 9, 9, 4, 4, 4, 9, 9, 4, 4, 4, 5, 5, 5, 5, 5, 5, 5, 5, 5, 5, 5, 5, 0, 5, 5, 30, 30, 16, 16, 16, 200, 200, 200, 200, 4, 4, 256, 200, 18, 12, 6, 18, 12, 10, 10, 10, 0, 0, 0, 0, 0, 0, 0, 0, 0, 3, 9, 9, 0, 0, 0, 4, 4, 6, 0]
def tp_rrl : List (List Nat) := [[1, 2, 3, 4, 5, 6, 7], [8, 9, 0], [10, 11], [12, 13, 14, 0], [15, 16, 17, 18, 0], [20], [19, 0, 0, 0, 26, 0, 0], [28, 29, 30, 31, 0, 0, 0], [], [], [46], [52], [], [], [], [], [], [], [], [27, 0, 0, 0, 0], [32, 0, 0], [33, 0, 0], [34, 0, 0], [35, 0, 0], [36, 37, 38, 39, 40, 0, 0, 0], [41, 42, 43, 44, 45, 0, 0, 0], [], [], [], [], [], [], [], [], [], [], [], [], [], [], [], [], [], [], [], [], [], [], [], [], [], [], [], [], [], [], [], [], [0, 59, 60, 61, 62, 0, 63, 64, 65, 0, 66, 67, 68, 69, 70, 71, 72, 73, 0, 0, 0, 74, 0, 75, 0, 0, 0, 0, 0, 0, 0, 0, 76, 0, 0, 0, 77, 78, 0, 79, 80, 0, 81, 0], [], [], [], [], [], [], [], [], [], [], [], [], [], [], [], [], [], [], [], [], [], [], [], [], [], [], [], [], [], [], [], [], [], [], [], [97, 0], [98, 0], [99, 0], [], [], [], []]
def tp_isl : List (List Bool) := [[true, true, false, true, true, false, false], [true, true, true, true, true, false, false, false], [true, true], [true, true, true, true, false, false, false], [true, true, true, true, false], [true, false, false], [true, false, false, false, false], [true, true, true, false], [true, true, false], [true, true, true, true, true, true, true], [false, true, true, true, true, false, true, true, true, false, true, true, true, true, true, true, true, true, false, false, false, true, false, true, false, false, false, false, false, false, false, false, true, false, false, false, true, true, false, true, true, false, true, false]]
def tp_law : Nat := 156
def tp_kd (o : Nat) : Nat := tp_kdl.getD o 99
def tp_ln (o : Nat) : Nat := tp_lnl.getD o 0
def tp_isR (c k : Nat) : Bool := (tp_isl.getD c []).getD k false
/-- the ints of fields and arrays, by object and place; the two references that change -/
abbrev tp_St : Type := (Nat → Nat → Int32) × (Nat × Nat)
def tp_rr (σ : tp_St) (o k : Nat) : Nat := if tp_kd o < 20 then (if o = 6 then (if k = 1 then σ.2.1 else if k = 3 then σ.2.2 else (tp_rrl.getD o []).getD k 0) else (tp_rrl.getD o []).getD k 0) else if tp_kd o = 28 then (tp_rrl.getD o []).getD k 0 else (tp_rrl.getD o []).getD 0 0 + k
def tp_rob (o j : Nat) : Int32 := ([[102, 97, 114, 101], [119, 111, 114, 107], [99, 104, 97, 110, 103, 101]].getD (o - 97) []).getD j 0
abbrev tp_Ins : Type := Instr × Nat × Int32 × Nat × Nat × Nat
/-- methods: class, name, code, locals, answer, room, the receiver's kind, arguments -/
abbrev tp_MI : Type := String × MethodName × ByteArray × Nat × Option FieldType × (Nat × Nat) × Nat × Nat
def tp_M0 : List tp_MI := [(RX0, yX0_readTape, cX0_readTape, 4, (some .int), (7, 147), 0, 1),
  (RX0, yX0_tellDraft, cX0_tellDraft, 2, (some .int), (1, 20), 0, 1),
  (RX0, yX0_take, cX0_take, 2, (some .int), (3, 66), 0, 2),
  (RX0, yX0_beginLaw, cX0_beginLaw, 2, (some .int), (1, 21), 0, 2),
  (RX0, yX0_takeNumber, cX0_takeNumber, 3, (some .int), (1, 22), 0, 2),
  (RX0, yX0_endLaw, cX0_endLaw, 2, (some .int), (2, 45), 0, 2),
  (RX1, yX1_clear, cX1_clear, 1, none, (0, 0), 1, 1),
  (RX1, yX1_howMany, cX1_howMany, 1, (some .int), (0, 0), 1, 1),
  (RX1, yX1_hasRoomFor, cX1_hasRoomFor, 2, (some .boolean), (0, 0), 1, 2),
  (RX1, yX1_add, cX1_add, 5, none, (1, 21), 1, 5),
  (RX1, yX1_latestFare, cX1_latestFare, 2, (some .int), (0, 0), 1, 2),
  (RX1, yX1_priceFor, cX1_priceFor, 4, (some .int), (1, 22), 1, 3),
  (RX1, yX1_shareAt, cX1_shareAt, 3, (some .int), (0, 0), 1, 2),
  (RX1, yX1_isChangeGood, cX1_isChangeGood, 2, (some .boolean), (0, 0), 1, 2),
  (RX2, yX2_size, cX2_size, 3, (some .int), (0, 0), 2, 3),
  (RX2, yX2_replace, cX2_replace, 5, none, (0, 0), 2, 5),
  (RX2, yX2_takeNext, cX2_takeNext, 3, (some .int), (0, 0), 2, 3),
  (RX2, yX2_anyWithOthers, cX2_anyWithOthers, 7, (some .boolean), (1, 21), 2, 5),
  (RX2, yX2_beyond, cX2_beyond, 5, (some .int), (0, 0), 2, 3),
  (RX3, yX3_add, cX3_add, 4, (some .int), (3, 65), 3, 3),
  (RX3, yX3_replaceRest, cX3_replaceRest, 3, (some .int), (3, 65), 3, 2),
  (RX3, yX3_tellCrews, cX3_tellCrews, 3, none, (2, 43), 3, 1),
  (RX3, yX3_firstWithoutCrew, cX3_firstWithoutCrew, 3, (some .int), (0, 0), 3, 1),
  (RX3, yX3_giveCrew, cX3_giveCrew, 3, none, (1, 21), 3, 2),
  (RX3, yX3_minutesOf, cX3_minutesOf, 4, (some .int), (0, 0), 3, 2),
  (RX3, yX3_busiest, cX3_busiest, 5, (some .int), (1, 23), 3, 1),
  (RX3, yX3_lostWithout, cX3_lostWithout, 4, (some .int), (3, 67), 3, 2),
  (RX3, yX3_anotherCould, cX3_anotherCould, 3, (some .boolean), (2, 45), 3, 2),
  (RX3, yX3_couldHave, cX3_couldHave, 4, (some .boolean), (1, 22), 3, 3),
  (RX3, yX3_haveRestBetween, cX3_haveRestBetween, 3, (some .boolean), (0, 0), 3, 3),
  (RX4, yX4_isFull, cX4_isFull, 1, (some .boolean), (0, 0), 4, 1),
  (RX4, yX4_add, cX4_add, 5, none, (1, 20), 4, 5),
  (RX4, yX4_latestStep, cX4_latestStep, 3, (some .int), (0, 0), 4, 2),
  (RX4, yX4_find, cX4_find, 4, (some .int), (0, 0), 4, 3),
  (RX4, yX4_anySold, cX4_anySold, 5, (some .boolean), (0, 0), 4, 4),
  (RX4, yX4_beyond, cX4_beyond, 5, (some .int), (0, 0), 4, 3),
  (RX4, yX4_greatestSold, cX4_greatestSold, 4, (some .int), (1, 21), 4, 2),
  (RX4, yX4_howMany, cX4_howMany, 5, (some .int), (1, 23), 4, 3),
  (RX4, yX4_firstOf, cX4_firstOf, 4, (some .int), (1, 23), 4, 3),
  (RX4, yX4_lastOf, cX4_lastOf, 4, (some .int), (1, 23), 4, 3)]
def tp_M1 : List tp_MI := [(RX4, yX4_isOf, cX4_isOf, 4, (some .boolean), (0, 0), 4, 4),
  (RX5, yX5_isNothing, cX5_isNothing, 1, (some .boolean), (0, 0), 5, 1),
  (RX5, yX5_hasCell, cX5_hasCell, 2, (some .boolean), (0, 0), 5, 2),
  (RX5, yX5_renew, cX5_renew, 4, none, (0, 0), 5, 3),
  (RX5, yX5_write, cX5_write, 3, none, (1, 21), 5, 3),
  (RX6, yX6_append, cX6_append, 4, (some .int), (0, 0), 6, 2),
  (RX6, yX6_rewind, cX6_rewind, 1, none, (0, 0), 6, 1),
  (RX6, yX6_readToken, cX6_readToken, 1, (some .int), (6, 127), 6, 1),
  (RX6, yX6_readName, cX6_readName, 1, (some .int), (5, 107), 6, 1),
  (RX6, yX6_readNumber, cX6_readNumber, 1, (some .int), (1, 21), 6, 1),
  (RX6, yX6_isLetter, cX6_isLetter, 2, (some .boolean), (0, 0), 6, 2),
  (RX6, yX6_isFigure, cX6_isFigure, 2, (some .boolean), (0, 0), 6, 2),
  (RX6, yX6_isSpelled, cX6_isSpelled, 3, (some .boolean), (4, 85), 6, 2),
  (RX7, yX7_has, cX7_has, 2, (some .boolean), (0, 0), 7, 2),
  (RX7, yX7_add, cX7_add, 3, (some .int), (0, 0), 7, 3),
  (RX7, yX7_hasOpen, cX7_hasOpen, 3, (some .boolean), (0, 0), 7, 2),
  (RX7, yX7_howManyOpen, cX7_howManyOpen, 3, (some .int), (0, 0), 7, 1),
  (RX7, yX7_stepOfStage, cX7_stepOfStage, 3, (some .int), (0, 0), 7, 3),
  (RX7, yX7_stepOfSection, cX7_stepOfSection, 3, (some .int), (0, 0), 7, 3),
  (RX8, yX8_has, cX8_has, 2, (some .boolean), (0, 0), 8, 2),
  (RX8, yX8_add, cX8_add, 3, (some .int), (0, 0), 8, 3),
  (RX9, yX9_type, cX9_type, 3, (some .int), (1, 22), 9, 3),
  (RX9, yX9_issue, cX9_issue, 6, (some .int), (2, 47), 9, 5),
  (RX9, yX9_pack, cX9_pack, 5, (some .int), (2, 44), 9, 4),
  (RX9, yX9_trip, cX9_trip, 3, (some .int), (1, 22), 9, 3),
  (RX9, yX9_close, cX9_close, 2, (some .int), (1, 23), 9, 2),
  (RX9, yX9_sell, cX9_sell, 7, (some .int), (2, 44), 9, 4),
  (RX9, yX9_undo, cX9_undo, 4, (some .int), (1, 22), 9, 1),
  (RX9, yX9_sheet, cX9_sheet, 4, (some .int), (1, 23), 9, 4),
  (RX9, yX9_lay, cX9_lay, 5, (some .int), (2, 43), 9, 4),
  (RX9, yX9_scan, cX9_scan, 9, (some .int), (4, 94), 9, 6),
  (RX9, yX9_waybill, cX9_waybill, 5, (some .int), (2, 47), 9, 4),
  (RX9, yX9_money, cX9_money, 2, (some .int), (1, 23), 9, 2),
  (RX9, yX9_paid, cX9_paid, 5, (some .int), (1, 23), 9, 3),
  (RX9, yX9_aboard, cX9_aboard, 4, (some .int), (3, 72), 9, 4),
  (RX9, yX9_riders, cX9_riders, 6, (some .int), (2, 47), 9, 4),
  (RX9, yX9_shown, cX9_shown, 7, (some .int), (1, 23), 9, 5),
  (RX9, yX9_heads, cX9_heads, 6, (some .int), (3, 72), 9, 4),
  (RX9, yX9_gap, cX9_gap, 6, (some .int), (2, 46), 9, 2),
  (RX9, yX9_feed, cX9_feed, 3, (some .int), (1, 23), 9, 2)]
def tp_M2 : List tp_MI := [(RX9, yX9_end, cX9_end, 3, (some .int), (1, 22), 9, 2),
  (RX9, yX9_laws, cX9_laws, 1, (some .int), (8, 170), 9, 1),
  (RX9, yX9_fault, cX9_fault, 1, (some .int), (0, 0), 9, 1),
  (RX9, yX9_fare, cX9_fare, 3, (some .int), (2, 45), 9, 3),
  (RX9, yX9_change, cX9_change, 3, (some .int), (1, 22), 9, 3),
  (RX9, yX9_duty, cX9_duty, 3, (some .int), (4, 88), 9, 3),
  (RX9, yX9_rest, cX9_rest, 2, (some .int), (4, 87), 9, 2),
  (RX9, yX9_crew, cX9_crew, 2, (some .int), (1, 22), 9, 2),
  (RX9, yX9_crews, cX9_crews, 3, (some .int), (2, 47), 9, 2),
  (RX9, yX9_ill, cX9_ill, 2, (some .int), (4, 90), 9, 2),
  (RX9, yX9_count, cX9_count, 2, (some .int), (1, 22), 9, 2),
  (RX9, yX9_isOutside, cX9_isOutside, 3, (some .boolean), (0, 0), 50, 3),
  (RX9, yX9_hasPack, cX9_hasPack, 3, (some .boolean), (1, 22), 9, 3),
  (RX9, yX9_takings, cX9_takings, 4, (some .int), (0, 0), 9, 2),
  (RX9, yX9_howManyAboard, cX9_howManyAboard, 6, (some .int), (2, 47), 9, 4),
  (RX9, yX9_isAboard, cX9_isAboard, 5, (some .boolean), (1, 23), 9, 4),
  (RX9, yX9_isGoodAt, cX9_isGoodAt, 4, (some .boolean), (0, 0), 9, 3),
  (RX9, yX9_sellFromSheet, cX9_sellFromSheet, 5, (some .int), (3, 70), 9, 4),
  (RX9, yX9_takeBack, cX9_takeBack, 3, none, (1, 22), 9, 2),
  (RX9, yX9_takeBackLatest, cX9_takeBackLatest, 3, none, (0, 0), 9, 1),
  (RX9, yX9_beyondHeld, cX9_beyondHeld, 3, (some .int), (1, 24), 9, 3),
  (RX10, yX10_in, cX10_in, 6, (some .boolean), (0, 0), 50, 3),
  (RX10, yX10_type, cX10_type, 3, (some .int), (1, 25), 10, 3),
  (RX10, yX10_isPack, cX10_isPack, 3, (some .boolean), (1, 25), 10, 3),
  (RX10, yX10_issue, cX10_issue, 8, (some .int), (2, 47), 10, 5),
  (RX10, yX10_pack, cX10_pack, 5, (some .int), (2, 47), 10, 4),
  (RX10, yX10_trip, cX10_trip, 4, (some .int), (1, 25), 10, 3),
  (RX10, yX10_isTrip, cX10_isTrip, 2, (some .boolean), (1, 25), 10, 2),
  (RX10, yX10_moneyOf, cX10_moneyOf, 4, (some .int), (0, 0), 10, 2),
  (RX10, yX10_close, cX10_close, 2, (some .int), (2, 46), 10, 2),
  (RX10, yX10_along, cX10_along, 3, (some .int), (0, 0), 10, 3),
  (RX10, yX10_latestOf, cX10_latestOf, 4, (some .int), (1, 22), 10, 2),
  (RX10, yX10_sell, cX10_sell, 5, (some .int), (2, 46), 10, 4),
  (RX10, yX10_undo, cX10_undo, 3, (some .int), (0, 0), 10, 1),
  (RX10, yX10_sheet, cX10_sheet, 5, (some .int), (1, 25), 10, 4),
  (RX10, yX10_lay, cX10_lay, 4, (some .int), (1, 25), 10, 4),
  (RX10, yX10_scan, cX10_scan, 13, (some .int), (3, 70), 10, 6),
  (RX10, yX10_waybill, cX10_waybill, 8, (some .int), (2, 46), 10, 4),
  (RX10, yX10_money, cX10_money, 2, (some .int), (2, 46), 10, 2),
  (RX10, yX10_paid, cX10_paid, 5, (some .int), (1, 25), 10, 3)]
def tp_M3 : List tp_MI := [(RX10, yX10_beginOf, cX10_beginOf, 3, (some .int), (0, 0), 10, 3),
  (RX10, yX10_aboardOf, cX10_aboardOf, 8, (some .int), (1, 22), 10, 4),
  (RX10, yX10_aboard, cX10_aboard, 4, (some .int), (2, 49), 10, 4),
  (RX10, yX10_riders, cX10_riders, 6, (some .int), (2, 49), 10, 4),
  (RX10, yX10_shown, cX10_shown, 8, (some .int), (2, 46), 10, 5),
  (RX10, yX10_heads, cX10_heads, 6, (some .int), (2, 49), 10, 4),
  (RX10, yX10_gap, cX10_gap, 7, (some .int), (1, 25), 10, 2),
  (RX10, yX10_feed, cX10_feed, 4, (some .int), (0, 0), 10, 2),
  (RX10, yX10_end, cX10_end, 3, (some .int), (1, 25), 10, 2),
  (RX10, yX10_byteAt, cX10_byteAt, 2, (some .int), (0, 0), 10, 2),
  (RX10, yX10_fails, cX10_fails, 3, none, (0, 0), 10, 3),
  (RX10, yX10_isName, cX10_isName, 12, (some .boolean), (1, 21), 10, 9),
  (RX10, yX10_next, cX10_next, 2, none, (2, 52), 10, 1),
  (RX10, yX10_number, cX10_number, 4, (some .int), (3, 73), 10, 3),
  (RX10, yX10_above, cX10_above, 4, (some .int), (4, 96), 10, 4),
  (RX10, yX10_law, cX10_law, 3, none, (5, 119), 10, 1),
  (RX10, yX10_laws, cX10_laws, 2, (some .int), (6, 141), 10, 1),
  (RX10, yX10_fault, cX10_fault, 1, (some .int), (0, 0), 10, 1),
  (RX10, yX10_fare, cX10_fare, 5, (some .int), (1, 25), 10, 3),
  (RX10, yX10_change, cX10_change, 3, (some .int), (1, 25), 10, 3),
  (RX10, yX10_duty, cX10_duty, 3, (some .int), (1, 25), 10, 3),
  (RX10, yX10_rest, cX10_rest, 3, (some .int), (1, 25), 10, 2),
  (RX10, yX10_layCrews, cX10_layCrews, 4, none, (1, 24), 10, 1),
  (RX10, yX10_mayHave, cX10_mayHave, 5, (some .boolean), (0, 0), 10, 3),
  (RX10, yX10_crew, cX10_crew, 2, (some .int), (2, 47), 10, 2),
  (RX10, yX10_minutesOf, cX10_minutesOf, 4, (some .int), (0, 0), 10, 2),
  (RX10, yX10_crews, cX10_crews, 4, (some .int), (2, 47), 10, 2),
  (RX10, yX10_ill, cX10_ill, 8, (some .int), (2, 47), 10, 2),
  (RX10, yX10_count, cX10_count, 4, (some .int), (0, 0), 10, 2),
  (RJ0, yJ0_length_8abf5, cJ0_length_8abf5, 1, (some .int), (1, 20), 28, 1),
  (RJ0, yJ0_charAt_5068e, cJ0_charAt_5068e, 2, (some .char), (3, 64), 28, 2),
  (RJ0, yJ0_coder_7d493, cJ0_coder_7d493, 1, (some .byte), (0, 0), 28, 1),
  (RJ0, yJ0_isLatin1_aae02, cJ0_isLatin1_aae02, 1, (some .boolean), (0, 0), 28, 1),
  (RJ0, yJ0_checkIndex_df160, cJ0_checkIndex_df160, 2, none, (1, 22), 50, 2),
  (RJ1, yJ1_charAt_3b067, cJ1_charAt_3b067, 2, (some .char), (2, 43), 50, 2),
  (RJ3, yJ3_checkIndex_8e157, cJ3_checkIndex_8e157, 3, (some .int), (0, 0), 50, 3),
  (RL, yL_law, code, 4, some .boolean, (12, 424), 50, 1)]
def tp_M : List tp_MI := tp_M0 ++ tp_M1 ++ tp_M2 ++ tp_M3
def tp_mi (i : Nat) : tp_MI := tp_M.getD i ("", ⟨"", "", ""⟩, ⟨#[]⟩, 0, none, (0, 0), 0, 0)
/-- X0_readTape -/
def tp_P0 : List (Nat × List tp_Ins) := [(0, [(.aload_n 0, 1, 0, 0, 0, 0), (.getfield 25, 3, 0, 0, 3, 246), (.invokevirtual 32, 3, 0, 6, 1, 569), (.aload_n 0, 1, 0, 0, 0, 0), (.getfield 12, 3, 0, 0, 0, 240), (.invokevirtual 35, 3, 0, 46, 1, 573), (.aload_n 0, 1, 0, 0, 0, 0), (.iconst (-1), 1, -1, 0, 0, 0), (.putfield 38, 3, 0, 0, 5, 248), (.aload_n 0, 1, 0, 0, 0, 0), (.iconst 0, 1, 0, 0, 0, 0), (.putfield 42, 3, 0, 0, 2, 244), (.iconst 0, 1, 0, 0, 0, 0), (.istore_n 1, 1, 0, 0, 0, 0), (.iconst 0, 1, 0, 0, 0, 0), (.istore_n 2, 1, 0, 0, 0, 0)]),
  (28, [(.iload_n 2, 1, 0, 0, 0, 0), (.sipush 200, 3, 200, 0, 0, 0), (.if_icmp .gt 48, 3, 0, 80, 0, 0), (.iload_n 1, 1, 0, 0, 0, 0), (.ifCond .ne 44, 3, 0, 80, 0, 0), (.aload_n 0, 1, 0, 0, 0, 0), (.getfield 42, 3, 0, 0, 2, 244), (.ifCond .ne 37, 3, 0, 80, 0, 0), (.aload_n 0, 1, 0, 0, 0, 0), (.getfield 12, 3, 0, 0, 0, 240), (.invokevirtual 45, 3, 0, 47, 1, 577), (.istore_n 3, 1, 0, 0, 0, 0), (.aload_n 0, 1, 0, 0, 0, 0), (.aload_n 0, 1, 0, 0, 0, 0), (.iload_n 3, 1, 0, 0, 0, 0), (.invokevirtual 49, 3, 0, 2, 2, 652), (.putfield 42, 3, 0, 0, 2, 244), (.iload_n 3, 1, 0, 0, 0, 0), (.iconst 1, 1, 1, 0, 0, 0), (.if_icmp .ne 7, 3, 0, 72, 0, 0), (.iconst 1, 1, 1, 0, 0, 0), (.goto 4, 3, 0, 73, 0, 0)]),
  (72, [(.iconst 0, 1, 0, 0, 0, 0)]),
  (73, [(.istore_n 1, 1, 0, 0, 0, 0), (.iinc 2 1, 3, 1, 0, 0, 0), (.goto (-49), 3, 0, 28, 0, 0)]),
  (80, [(.aload_n 0, 1, 0, 0, 0, 0), (.getfield 12, 3, 0, 0, 0, 240), (.iconst 0, 1, 0, 0, 0, 0), (.putfield 53, 3, 0, 6, 1, 190), (.aload_n 0, 1, 0, 0, 0, 0), (.getfield 42, 3, 0, 0, 2, 244), (.ifCond .ne 10, 3, 0, 102, 0, 0), (.aload_n 0, 1, 0, 0, 0, 0), (.invokevirtual 56, 3, 0, 1, 1, 688), (.goto 13, 3, 0, 112, 0, 0)]),
  (102, [(.bipush (-10), 2, -10, 0, 0, 0), (.aload_n 0, 1, 0, 0, 0, 0), (.getfield 12, 3, 0, 0, 0, 240), (.getfield 59, 3, 0, 6, 2, 192), (.isub, 1, 0, 0, 0, 0)]),
  (112, [(.ireturn, 1, 0, 0, 0, 0)])]
/-- X0_tellDraft -/
def tp_P1 : List (Nat × List tp_Ins) := [(0, [(.aload_n 0, 1, 0, 0, 0, 0), (.getfield 21, 3, 0, 0, 1, 242), (.astore_n 1, 1, 0, 0, 0, 0), (.aload_n 0, 1, 0, 0, 0, 0), (.aload_n 0, 1, 0, 0, 0, 0), (.getfield 25, 3, 0, 0, 3, 246), (.putfield 21, 3, 0, 0, 1, 242), (.aload_n 0, 1, 0, 0, 0, 0), (.aload_n 1, 1, 0, 0, 0, 0), (.putfield 25, 3, 0, 0, 3, 246), (.aload_n 0, 1, 0, 0, 0, 0), (.getfield 21, 3, 0, 0, 1, 242), (.invokevirtual 62, 3, 0, 7, 1, 692), (.ireturn, 1, 0, 0, 0, 0)])]
/-- X0_take -/
def tp_P2 : List (Nat × List tp_Ins) := [(0, [(.iload_n 1, 1, 0, 0, 0, 0), (.ifCond .ne 5, 3, 0, 6, 0, 0), (.iconst 1, 1, 1, 0, 0, 0), (.ireturn, 1, 0, 0, 0, 0)]),
  (6, [(.aload_n 0, 1, 0, 0, 0, 0), (.getfield 38, 3, 0, 0, 5, 248), (.iconst (-1), 1, -1, 0, 0, 0), (.if_icmp .ne 9, 3, 0, 20, 0, 0), (.aload_n 0, 1, 0, 0, 0, 0), (.iload_n 1, 1, 0, 0, 0, 0), (.invokevirtual 65, 3, 0, 3, 2, 656), (.ireturn, 1, 0, 0, 0, 0)]),
  (20, [(.aload_n 0, 1, 0, 0, 0, 0), (.getfield 68, 3, 0, 0, 6, 249), (.getstatic 71, 3, 0, 91, 0, 664), (.aload_n 0, 1, 0, 0, 0, 0), (.getfield 38, 3, 0, 0, 5, 248), (.iaload, 1, 0, 0, 0, 0), (.if_icmp .lt 9, 3, 0, 41, 0, 0), (.aload_n 0, 1, 0, 0, 0, 0), (.iload_n 1, 1, 0, 0, 0, 0), (.invokevirtual 74, 3, 0, 5, 2, 666), (.ireturn, 1, 0, 0, 0, 0)]),
  (41, [(.iload_n 1, 1, 0, 0, 0, 0), (.iconst 3, 1, 3, 0, 0, 0), (.if_icmp .ne 17, 3, 0, 60, 0, 0), (.aload_n 0, 1, 0, 0, 0, 0), (.aload_n 0, 1, 0, 0, 0, 0), (.getfield 12, 3, 0, 0, 0, 240), (.getfield 77, 3, 0, 6, 3, 194), (.invokevirtual 80, 3, 0, 4, 2, 675), (.goto 4, 3, 0, 61, 0, 0)]),
  (60, [(.iconst 2, 1, 2, 0, 0, 0)]),
  (61, [(.ireturn, 1, 0, 0, 0, 0)])]
/-- X0_beginLaw -/
def tp_P3 : List (Nat × List tp_Ins) := [(0, [(.iload_n 1, 1, 0, 0, 0, 0), (.iconst 1, 1, 1, 0, 0, 0), (.if_icmp .ne 5, 3, 0, 7, 0, 0), (.iconst 0, 1, 0, 0, 0, 0), (.ireturn, 1, 0, 0, 0, 0)]),
  (7, [(.iload_n 1, 1, 0, 0, 0, 0), (.iconst 2, 1, 2, 0, 0, 0), (.if_icmp .eq 5, 3, 0, 14, 0, 0), (.iconst 2, 1, 2, 0, 0, 0), (.ireturn, 1, 0, 0, 0, 0)]),
  (14, [(.aload_n 0, 1, 0, 0, 0, 0), (.aload_n 0, 1, 0, 0, 0, 0), (.getfield 12, 3, 0, 0, 0, 240), (.getfield 77, 3, 0, 6, 3, 194), (.putfield 38, 3, 0, 0, 5, 248), (.aload_n 0, 1, 0, 0, 0, 0), (.iconst 0, 1, 0, 0, 0, 0), (.putfield 68, 3, 0, 0, 6, 249), (.aload_n 0, 1, 0, 0, 0, 0), (.getfield 25, 3, 0, 0, 3, 246), (.aload_n 0, 1, 0, 0, 0, 0), (.getfield 38, 3, 0, 0, 5, 248), (.invokevirtual 83, 3, 0, 8, 2, 660), (.ifCond .eq 7, 3, 0, 48, 0, 0), (.iconst 0, 1, 0, 0, 0, 0), (.goto 4, 3, 0, 49, 0, 0)]),
  (48, [(.iconst 5, 1, 5, 0, 0, 0)]),
  (49, [(.ireturn, 1, 0, 0, 0, 0)])]
/-- X0_takeNumber -/
def tp_P4 : List (Nat × List tp_Ins) := [(0, [(.aload_n 0, 1, 0, 0, 0, 0), (.getfield 38, 3, 0, 0, 5, 248), (.iconst 3, 1, 3, 0, 0, 0), (.imul, 1, 0, 0, 0, 0), (.aload_n 0, 1, 0, 0, 0, 0), (.getfield 68, 3, 0, 0, 6, 249), (.iadd, 1, 0, 0, 0, 0), (.istore_n 2, 1, 0, 0, 0, 0), (.iload_n 1, 1, 0, 0, 0, 0), (.getstatic 87, 3, 0, 92, 0, 679), (.iload_n 2, 1, 0, 0, 0, 0), (.iaload, 1, 0, 0, 0, 0), (.getstatic 90, 3, 0, 93, 0, 681), (.iload_n 2, 1, 0, 0, 0, 0), (.iaload, 1, 0, 0, 0, 0), (.invokestatic 93, 3, 0, 91, 3, 683), (.ifCond .eq 5, 3, 0, 31, 0, 0), (.iconst 3, 1, 3, 0, 0, 0), (.ireturn, 1, 0, 0, 0, 0)]),
  (31, [(.aload_n 0, 1, 0, 0, 0, 0), (.getfield 38, 3, 0, 0, 5, 248), (.iconst 1, 1, 1, 0, 0, 0), (.if_icmp .ne 23, 3, 0, 59, 0, 0), (.aload_n 0, 1, 0, 0, 0, 0), (.getfield 68, 3, 0, 0, 6, 249), (.iconst 1, 1, 1, 0, 0, 0), (.if_icmp .ne 15, 3, 0, 59, 0, 0), (.iload_n 1, 1, 0, 0, 0, 0), (.aload_n 0, 1, 0, 0, 0, 0), (.getfield 28, 3, 0, 0, 4, 247), (.iconst 0, 1, 0, 0, 0, 0), (.iaload, 1, 0, 0, 0, 0), (.if_icmp .gt 5, 3, 0, 59, 0, 0), (.iconst 3, 1, 3, 0, 0, 0), (.ireturn, 1, 0, 0, 0, 0)]),
  (59, [(.aload_n 0, 1, 0, 0, 0, 0), (.getfield 38, 3, 0, 0, 5, 248), (.ifCond .ne 20, 3, 0, 83, 0, 0), (.iload_n 1, 1, 0, 0, 0, 0), (.aload_n 0, 1, 0, 0, 0, 0), (.getfield 25, 3, 0, 0, 3, 246), (.aload_n 0, 1, 0, 0, 0, 0), (.getfield 68, 3, 0, 0, 6, 249), (.invokevirtual 97, 3, 0, 10, 2, 684), (.if_icmp .gt 5, 3, 0, 83, 0, 0), (.iconst 4, 1, 4, 0, 0, 0), (.ireturn, 1, 0, 0, 0, 0)]),
  (83, [(.aload_n 0, 1, 0, 0, 0, 0), (.getfield 28, 3, 0, 0, 4, 247), (.aload_n 0, 1, 0, 0, 0, 0), (.getfield 68, 3, 0, 0, 6, 249), (.iload_n 1, 1, 0, 0, 0, 0), (.iastore, 1, 0, 0, 0, 0), (.aload_n 0, 1, 0, 0, 0, 0), (.dup, 1, 0, 0, 0, 0), (.getfield 68, 3, 0, 0, 6, 249), (.iconst 1, 1, 1, 0, 0, 0), (.iadd, 1, 0, 0, 0, 0), (.putfield 68, 3, 0, 0, 6, 249), (.iconst 0, 1, 0, 0, 0, 0), (.ireturn, 1, 0, 0, 0, 0)])]
/-- X0_endLaw -/
def tp_P5 : List (Nat × List tp_Ins) := [(0, [(.iload_n 1, 1, 0, 0, 0, 0), (.iconst 4, 1, 4, 0, 0, 0), (.if_icmp .eq 5, 3, 0, 7, 0, 0), (.iconst 2, 1, 2, 0, 0, 0), (.ireturn, 1, 0, 0, 0, 0)]),
  (7, [(.aload_n 0, 1, 0, 0, 0, 0), (.getfield 25, 3, 0, 0, 3, 246), (.aload_n 0, 1, 0, 0, 0, 0), (.getfield 38, 3, 0, 0, 5, 248), (.aload_n 0, 1, 0, 0, 0, 0), (.getfield 28, 3, 0, 0, 4, 247), (.iconst 0, 1, 0, 0, 0, 0), (.iaload, 1, 0, 0, 0, 0), (.aload_n 0, 1, 0, 0, 0, 0), (.getfield 28, 3, 0, 0, 4, 247), (.iconst 1, 1, 1, 0, 0, 0), (.iaload, 1, 0, 0, 0, 0), (.aload_n 0, 1, 0, 0, 0, 0), (.getfield 28, 3, 0, 0, 4, 247), (.iconst 2, 1, 2, 0, 0, 0), (.iaload, 1, 0, 0, 0, 0), (.invokevirtual 100, 3, 0, 9, 5, 670), (.aload_n 0, 1, 0, 0, 0, 0), (.iconst (-1), 1, -1, 0, 0, 0), (.putfield 38, 3, 0, 0, 5, 248), (.iconst 0, 1, 0, 0, 0, 0), (.ireturn, 1, 0, 0, 0, 0)])]
/-- X1_clear -/
def tp_P6 : List (Nat × List tp_Ins) := [(0, [(.aload_n 0, 1, 0, 0, 0, 0), (.iconst 0, 1, 0, 0, 0, 0), (.putfield 31, 3, 0, 1, 5, 220), (.aload_n 0, 1, 0, 0, 0, 0), (.iconst 0, 1, 0, 0, 0, 0), (.putfield 34, 3, 0, 1, 6, 221), (.aload_n 0, 1, 0, 0, 0, 0), (.iconst (-1), 1, -1, 0, 0, 0), (.putfield 27, 3, 0, 1, 7, 222), (.return_, 1, 0, 0, 0, 0)])]
/-- X1_howMany -/
def tp_P7 : List (Nat × List tp_Ins) := [(0, [(.aload_n 0, 1, 0, 0, 0, 0), (.getfield 31, 3, 0, 1, 5, 220), (.aload_n 0, 1, 0, 0, 0, 0), (.getfield 34, 3, 0, 1, 6, 221), (.iadd, 1, 0, 0, 0, 0), (.aload_n 0, 1, 0, 0, 0, 0), (.getfield 27, 3, 0, 1, 7, 222), (.iconst (-1), 1, -1, 0, 0, 0), (.if_icmp .ne 7, 3, 0, 21, 0, 0), (.iconst 0, 1, 0, 0, 0, 0), (.goto 4, 3, 0, 22, 0, 0)]),
  (21, [(.iconst 1, 1, 1, 0, 0, 0)]),
  (22, [(.iadd, 1, 0, 0, 0, 0), (.ireturn, 1, 0, 0, 0, 0)])]
/-- X1_hasRoomFor -/
def tp_P8 : List (Nat × List tp_Ins) := [(0, [(.iload_n 1, 1, 0, 0, 0, 0), (.lookupswitch 56 #[(0, 27), (1, 42)], 27, 0, 0, 0, 0)]),
  (28, [(.aload_n 0, 1, 0, 0, 0, 0), (.getfield 31, 3, 0, 1, 5, 220), (.bipush 9, 2, 9, 0, 0, 0), (.if_icmp .ge 7, 3, 0, 41, 0, 0), (.iconst 1, 1, 1, 0, 0, 0), (.goto 4, 3, 0, 42, 0, 0)]),
  (41, [(.iconst 0, 1, 0, 0, 0, 0)]),
  (42, [(.ireturn, 1, 0, 0, 0, 0)]),
  (43, [(.aload_n 0, 1, 0, 0, 0, 0), (.getfield 34, 3, 0, 1, 6, 221), (.iconst 4, 1, 4, 0, 0, 0), (.if_icmp .ge 7, 3, 0, 55, 0, 0), (.iconst 1, 1, 1, 0, 0, 0), (.goto 4, 3, 0, 56, 0, 0)]),
  (55, [(.iconst 0, 1, 0, 0, 0, 0)]),
  (56, [(.ireturn, 1, 0, 0, 0, 0)]),
  (57, [(.aload_n 0, 1, 0, 0, 0, 0), (.getfield 27, 3, 0, 1, 7, 222), (.iconst (-1), 1, -1, 0, 0, 0), (.if_icmp .ne 7, 3, 0, 69, 0, 0), (.iconst 1, 1, 1, 0, 0, 0), (.goto 4, 3, 0, 70, 0, 0)]),
  (69, [(.iconst 0, 1, 0, 0, 0, 0)]),
  (70, [(.ireturn, 1, 0, 0, 0, 0)])]
/-- X1_add -/
def tp_P9 : List (Nat × List tp_Ins) := [(0, [(.aload_n 0, 1, 0, 0, 0, 0), (.iload_n 1, 1, 0, 0, 0, 0), (.invokevirtual 37, 3, 0, 8, 2, 674), (.ifCond .ne 4, 3, 0, 9, 0, 0), (.return_, 1, 0, 0, 0, 0)]),
  (9, [(.iload_n 1, 1, 0, 0, 0, 0), (.lookupswitch 103 #[(0, 26), (1, 59)], 26, 0, 0, 0, 0)]),
  (36, [(.aload_n 0, 1, 0, 0, 0, 0), (.getfield 11, 3, 0, 1, 0, 215), (.aload_n 0, 1, 0, 0, 0, 0), (.getfield 31, 3, 0, 1, 5, 220), (.iload_n 2, 1, 0, 0, 0, 0), (.iastore, 1, 0, 0, 0, 0), (.aload_n 0, 1, 0, 0, 0, 0), (.getfield 15, 3, 0, 1, 1, 216), (.aload_n 0, 1, 0, 0, 0, 0), (.getfield 31, 3, 0, 1, 5, 220), (.iload_n 3, 1, 0, 0, 0, 0), (.iastore, 1, 0, 0, 0, 0), (.aload_n 0, 1, 0, 0, 0, 0), (.dup, 1, 0, 0, 0, 0), (.getfield 31, 3, 0, 1, 5, 220), (.iconst 1, 1, 1, 0, 0, 0), (.iadd, 1, 0, 0, 0, 0), (.putfield 31, 3, 0, 1, 5, 220), (.goto 52, 3, 0, 118, 0, 0)]),
  (69, [(.aload_n 0, 1, 0, 0, 0, 0), (.getfield 18, 3, 0, 1, 2, 217), (.aload_n 0, 1, 0, 0, 0, 0), (.getfield 34, 3, 0, 1, 6, 221), (.iload_n 2, 1, 0, 0, 0, 0), (.iastore, 1, 0, 0, 0, 0), (.aload_n 0, 1, 0, 0, 0, 0), (.getfield 21, 3, 0, 1, 3, 218), (.aload_n 0, 1, 0, 0, 0, 0), (.getfield 34, 3, 0, 1, 6, 221), (.iload_n 3, 1, 0, 0, 0, 0), (.iastore, 1, 0, 0, 0, 0), (.aload_n 0, 1, 0, 0, 0, 0), (.getfield 24, 3, 0, 1, 4, 219), (.aload_n 0, 1, 0, 0, 0, 0), (.getfield 34, 3, 0, 1, 6, 221), (.iload 4, 2, 0, 0, 0, 0), (.iastore, 1, 0, 0, 0, 0), (.aload_n 0, 1, 0, 0, 0, 0), (.dup, 1, 0, 0, 0, 0), (.getfield 34, 3, 0, 1, 6, 221), (.iconst 1, 1, 1, 0, 0, 0), (.iadd, 1, 0, 0, 0, 0), (.putfield 34, 3, 0, 1, 6, 221), (.goto 8, 3, 0, 118, 0, 0)]),
  (113, [(.aload_n 0, 1, 0, 0, 0, 0), (.iload_n 2, 1, 0, 0, 0, 0), (.putfield 27, 3, 0, 1, 7, 222)]),
  (118, [(.return_, 1, 0, 0, 0, 0)])]
/-- X1_latestFare -/
def tp_P10 : List (Nat × List tp_Ins) := [(0, [(.aload_n 0, 1, 0, 0, 0, 0), (.getfield 31, 3, 0, 1, 5, 220), (.ifCond .ne 5, 3, 0, 9, 0, 0), (.iconst 0, 1, 0, 0, 0, 0), (.ireturn, 1, 0, 0, 0, 0)]),
  (9, [(.iload_n 1, 1, 0, 0, 0, 0), (.ifCond .ne 17, 3, 0, 27, 0, 0), (.aload_n 0, 1, 0, 0, 0, 0), (.getfield 11, 3, 0, 1, 0, 215), (.aload_n 0, 1, 0, 0, 0, 0), (.getfield 31, 3, 0, 1, 5, 220), (.iconst 1, 1, 1, 0, 0, 0), (.isub, 1, 0, 0, 0, 0), (.iaload, 1, 0, 0, 0, 0), (.goto 14, 3, 0, 38, 0, 0)]),
  (27, [(.aload_n 0, 1, 0, 0, 0, 0), (.getfield 15, 3, 0, 1, 1, 216), (.aload_n 0, 1, 0, 0, 0, 0), (.getfield 31, 3, 0, 1, 5, 220), (.iconst 1, 1, 1, 0, 0, 0), (.isub, 1, 0, 0, 0, 0), (.iaload, 1, 0, 0, 0, 0)]),
  (38, [(.ireturn, 1, 0, 0, 0, 0)])]
/-- X1_priceFor -/
def tp_P11 : List (Nat × List tp_Ins) := [(0, [(.iconst 0, 1, 0, 0, 0, 0), (.istore_n 3, 1, 0, 0, 0, 0)]),
  (2, [(.iload_n 3, 1, 0, 0, 0, 0), (.aload_n 0, 1, 0, 0, 0, 0), (.getfield 31, 3, 0, 1, 5, 220), (.if_icmp .ge 38, 3, 0, 45, 0, 0), (.aload_n 0, 1, 0, 0, 0, 0), (.getfield 11, 3, 0, 1, 0, 215), (.iload_n 3, 1, 0, 0, 0, 0), (.iaload, 1, 0, 0, 0, 0), (.iload_n 1, 1, 0, 0, 0, 0), (.if_icmp .lt 22, 3, 0, 39, 0, 0), (.aload_n 0, 1, 0, 0, 0, 0), (.getfield 15, 3, 0, 1, 1, 216), (.iload_n 3, 1, 0, 0, 0, 0), (.iaload, 1, 0, 0, 0, 0), (.aload_n 0, 1, 0, 0, 0, 0), (.iload_n 2, 1, 0, 0, 0, 0), (.invokevirtual 41, 3, 0, 12, 2, 708), (.imul, 1, 0, 0, 0, 0), (.bipush 99, 2, 99, 0, 0, 0), (.iadd, 1, 0, 0, 0, 0), (.bipush 100, 2, 100, 0, 0, 0), (.idiv, 1, 0, 0, 0, 0), (.ireturn, 1, 0, 0, 0, 0)]),
  (39, [(.iinc 3 1, 3, 1, 0, 0, 0), (.goto (-40), 3, 0, 2, 0, 0)]),
  (45, [(.bipush (-4), 2, -4, 0, 0, 0), (.ireturn, 1, 0, 0, 0, 0)])]
/-- X1_shareAt -/
def tp_P12 : List (Nat × List tp_Ins) := [(0, [(.iconst 0, 1, 0, 0, 0, 0), (.istore_n 2, 1, 0, 0, 0, 0)]),
  (2, [(.iload_n 2, 1, 0, 0, 0, 0), (.aload_n 0, 1, 0, 0, 0, 0), (.getfield 34, 3, 0, 1, 6, 221), (.if_icmp .ge 36, 3, 0, 43, 0, 0), (.iload_n 1, 1, 0, 0, 0, 0), (.aload_n 0, 1, 0, 0, 0, 0), (.getfield 18, 3, 0, 1, 2, 217), (.iload_n 2, 1, 0, 0, 0, 0), (.iaload, 1, 0, 0, 0, 0), (.if_icmp .lt 20, 3, 0, 37, 0, 0), (.iload_n 1, 1, 0, 0, 0, 0), (.aload_n 0, 1, 0, 0, 0, 0), (.getfield 21, 3, 0, 1, 3, 218), (.iload_n 2, 1, 0, 0, 0, 0), (.iaload, 1, 0, 0, 0, 0), (.if_icmp .ge 10, 3, 0, 37, 0, 0), (.aload_n 0, 1, 0, 0, 0, 0), (.getfield 24, 3, 0, 1, 4, 219), (.iload_n 2, 1, 0, 0, 0, 0), (.iaload, 1, 0, 0, 0, 0), (.ireturn, 1, 0, 0, 0, 0)]),
  (37, [(.iinc 2 1, 3, 1, 0, 0, 0), (.goto (-38), 3, 0, 2, 0, 0)]),
  (43, [(.bipush 100, 2, 100, 0, 0, 0), (.ireturn, 1, 0, 0, 0, 0)])]
/-- X1_isChangeGood -/
def tp_P13 : List (Nat × List tp_Ins) := [(0, [(.aload_n 0, 1, 0, 0, 0, 0), (.getfield 27, 3, 0, 1, 7, 222), (.iconst (-1), 1, -1, 0, 0, 0), (.if_icmp .eq 15, 3, 0, 20, 0, 0), (.iload_n 1, 1, 0, 0, 0, 0), (.aload_n 0, 1, 0, 0, 0, 0), (.getfield 27, 3, 0, 1, 7, 222), (.if_icmp .gt 7, 3, 0, 20, 0, 0), (.iconst 1, 1, 1, 0, 0, 0), (.goto 4, 3, 0, 21, 0, 0)]),
  (20, [(.iconst 0, 1, 0, 0, 0, 0)]),
  (21, [(.ireturn, 1, 0, 0, 0, 0)])]
/-- X2_size -/
def tp_P14 : List (Nat × List tp_Ins) := [(0, [(.aload_n 0, 1, 0, 0, 0, 0), (.getfield 18, 3, 0, 2, 1, 99), (.iload_n 1, 1, 0, 0, 0, 0), (.aaload, 1, 0, 0, 0, 0), (.iload_n 2, 1, 0, 0, 0, 0), (.iaload, 1, 0, 0, 0, 0), (.aload_n 0, 1, 0, 0, 0, 0), (.getfield 13, 3, 0, 2, 0, 97), (.iload_n 1, 1, 0, 0, 0, 0), (.aaload, 1, 0, 0, 0, 0), (.iload_n 2, 1, 0, 0, 0, 0), (.iaload, 1, 0, 0, 0, 0), (.isub, 1, 0, 0, 0, 0), (.ireturn, 1, 0, 0, 0, 0)])]
/-- X2_replace -/
def tp_P15 : List (Nat × List tp_Ins) := [(0, [(.aload_n 0, 1, 0, 0, 0, 0), (.getfield 13, 3, 0, 2, 0, 97), (.iload_n 1, 1, 0, 0, 0, 0), (.aaload, 1, 0, 0, 0, 0), (.iload_n 2, 1, 0, 0, 0, 0), (.iload_n 3, 1, 0, 0, 0, 0), (.iastore, 1, 0, 0, 0, 0), (.aload_n 0, 1, 0, 0, 0, 0), (.getfield 18, 3, 0, 2, 1, 99), (.iload_n 1, 1, 0, 0, 0, 0), (.aaload, 1, 0, 0, 0, 0), (.iload_n 2, 1, 0, 0, 0, 0), (.iload 4, 2, 0, 0, 0, 0), (.iastore, 1, 0, 0, 0, 0), (.return_, 1, 0, 0, 0, 0)])]
/-- X2_takeNext -/
def tp_P16 : List (Nat × List tp_Ins) := [(0, [(.aload_n 0, 1, 0, 0, 0, 0), (.getfield 13, 3, 0, 2, 0, 97), (.iload_n 1, 1, 0, 0, 0, 0), (.aaload, 1, 0, 0, 0, 0), (.iload_n 2, 1, 0, 0, 0, 0), (.dup2, 1, 0, 0, 0, 0), (.iaload, 1, 0, 0, 0, 0), (.dup_x2, 1, 0, 0, 0, 0), (.iconst 1, 1, 1, 0, 0, 0), (.iadd, 1, 0, 0, 0, 0), (.iastore, 1, 0, 0, 0, 0), (.ireturn, 1, 0, 0, 0, 0)])]
/-- X2_anyWithOthers -/
def tp_P17 : List (Nat × List tp_Ins) := [(0, [(.iconst 0, 1, 0, 0, 0, 0), (.istore 5, 2, 0, 0, 0, 0)]),
  (3, [(.iload 5, 2, 0, 0, 0, 0), (.bipush 6, 2, 6, 0, 0, 0), (.if_icmp .ge 51, 3, 0, 58, 0, 0), (.iload_n 3, 1, 0, 0, 0, 0), (.aload_n 0, 1, 0, 0, 0, 0), (.getfield 13, 3, 0, 2, 0, 97), (.iload 5, 2, 0, 0, 0, 0), (.aaload, 1, 0, 0, 0, 0), (.iload_n 2, 1, 0, 0, 0, 0), (.iaload, 1, 0, 0, 0, 0), (.invokestatic 21, 3, 0, 900, 2, 350), (.istore 6, 2, 0, 0, 0, 0), (.iload 5, 2, 0, 0, 0, 0), (.iload_n 1, 1, 0, 0, 0, 0), (.if_icmp .eq 24, 3, 0, 52, 0, 0), (.iload 6, 2, 0, 0, 0, 0), (.iload 4, 2, 0, 0, 0, 0), (.aload_n 0, 1, 0, 0, 0, 0), (.getfield 18, 3, 0, 2, 1, 99), (.iload 5, 2, 0, 0, 0, 0), (.aaload, 1, 0, 0, 0, 0), (.iload_n 2, 1, 0, 0, 0, 0), (.iaload, 1, 0, 0, 0, 0), (.invokestatic 27, 3, 0, 901, 2, 353), (.if_icmp .ge 5, 3, 0, 52, 0, 0), (.iconst 1, 1, 1, 0, 0, 0), (.ireturn, 1, 0, 0, 0, 0)]),
  (52, [(.iinc 5 1, 3, 1, 0, 0, 0), (.goto (-52), 3, 0, 3, 0, 0)]),
  (58, [(.iconst 0, 1, 0, 0, 0, 0), (.ireturn, 1, 0, 0, 0, 0)])]
/-- X2_beyond -/
def tp_P18 : List (Nat × List tp_Ins) := [(0, [(.iload_n 2, 1, 0, 0, 0, 0), (.istore_n 3, 1, 0, 0, 0, 0), (.iconst 0, 1, 0, 0, 0, 0), (.istore 4, 2, 0, 0, 0, 0)]),
  (5, [(.iload 4, 2, 0, 0, 0, 0), (.bipush 6, 2, 6, 0, 0, 0), (.if_icmp .ge 45, 3, 0, 54, 0, 0), (.iload_n 3, 1, 0, 0, 0, 0), (.aload_n 0, 1, 0, 0, 0, 0), (.getfield 13, 3, 0, 2, 0, 97), (.iload 4, 2, 0, 0, 0, 0), (.aaload, 1, 0, 0, 0, 0), (.iload_n 1, 1, 0, 0, 0, 0), (.iaload, 1, 0, 0, 0, 0), (.if_icmp .lt 26, 3, 0, 48, 0, 0), (.iload_n 3, 1, 0, 0, 0, 0), (.aload_n 0, 1, 0, 0, 0, 0), (.getfield 18, 3, 0, 2, 1, 99), (.iload 4, 2, 0, 0, 0, 0), (.aaload, 1, 0, 0, 0, 0), (.iload_n 1, 1, 0, 0, 0, 0), (.iaload, 1, 0, 0, 0, 0), (.if_icmp .ge 13, 3, 0, 48, 0, 0), (.aload_n 0, 1, 0, 0, 0, 0), (.getfield 18, 3, 0, 2, 1, 99), (.iload 4, 2, 0, 0, 0, 0), (.aaload, 1, 0, 0, 0, 0), (.iload_n 1, 1, 0, 0, 0, 0), (.iaload, 1, 0, 0, 0, 0), (.istore_n 3, 1, 0, 0, 0, 0)]),
  (48, [(.iinc 4 1, 3, 1, 0, 0, 0), (.goto (-46), 3, 0, 5, 0, 0)]),
  (54, [(.iload_n 3, 1, 0, 0, 0, 0), (.ireturn, 1, 0, 0, 0, 0)])]
/-- X3_add -/
def tp_P19 : List (Nat × List tp_Ins) := [(0, [(.aload_n 0, 1, 0, 0, 0, 0), (.getfield 28, 3, 0, 3, 4, 276), (.bipush 10, 2, 10, 0, 0, 0), (.if_icmp .lt 6, 3, 0, 12, 0, 0), (.bipush (-3), 2, -3, 0, 0, 0), (.ireturn, 1, 0, 0, 0, 0)]),
  (12, [(.aload_n 0, 1, 0, 0, 0, 0), (.getfield 11, 3, 0, 3, 0, 271), (.aload_n 0, 1, 0, 0, 0, 0), (.getfield 28, 3, 0, 3, 4, 276), (.iload_n 1, 1, 0, 0, 0, 0), (.iastore, 1, 0, 0, 0, 0), (.aload_n 0, 1, 0, 0, 0, 0), (.getfield 15, 3, 0, 3, 1, 272), (.aload_n 0, 1, 0, 0, 0, 0), (.getfield 28, 3, 0, 3, 4, 276), (.iload_n 2, 1, 0, 0, 0, 0), (.iastore, 1, 0, 0, 0, 0), (.aload_n 0, 1, 0, 0, 0, 0), (.dup, 1, 0, 0, 0, 0), (.getfield 28, 3, 0, 3, 4, 276), (.dup_x1, 1, 0, 0, 0, 0), (.iconst 1, 1, 1, 0, 0, 0), (.iadd, 1, 0, 0, 0, 0), (.putfield 28, 3, 0, 3, 4, 276), (.istore_n 3, 1, 0, 0, 0, 0), (.aload_n 0, 1, 0, 0, 0, 0), (.invokevirtual 31, 3, 0, 21, 1, 728), (.iload_n 3, 1, 0, 0, 0, 0), (.ireturn, 1, 0, 0, 0, 0)])]
/-- X3_replaceRest -/
def tp_P20 : List (Nat × List tp_Ins) := [(0, [(.aload_n 0, 1, 0, 0, 0, 0), (.getfield 24, 3, 0, 3, 6, 280), (.istore_n 2, 1, 0, 0, 0, 0), (.aload_n 0, 1, 0, 0, 0, 0), (.iload_n 1, 1, 0, 0, 0, 0), (.putfield 24, 3, 0, 3, 6, 280), (.aload_n 0, 1, 0, 0, 0, 0), (.invokevirtual 31, 3, 0, 21, 1, 728), (.iload_n 2, 1, 0, 0, 0, 0), (.ireturn, 1, 0, 0, 0, 0)])]
/-- X3_tellCrews -/
def tp_P21 : List (Nat × List tp_Ins) := [(0, [(.aload_n 0, 1, 0, 0, 0, 0), (.iconst 0, 1, 0, 0, 0, 0), (.putfield 34, 3, 0, 3, 5, 278), (.iconst 0, 1, 0, 0, 0, 0), (.istore_n 1, 1, 0, 0, 0, 0)]),
  (7, [(.iload_n 1, 1, 0, 0, 0, 0), (.aload_n 0, 1, 0, 0, 0, 0), (.getfield 28, 3, 0, 3, 4, 276), (.if_icmp .ge 16, 3, 0, 28, 0, 0), (.aload_n 0, 1, 0, 0, 0, 0), (.getfield 21, 3, 0, 3, 3, 274), (.iload_n 1, 1, 0, 0, 0, 0), (.iconst (-1), 1, -1, 0, 0, 0), (.iastore, 1, 0, 0, 0, 0), (.iinc 1 1, 3, 1, 0, 0, 0), (.goto (-18), 3, 0, 7, 0, 0)]),
  (28, [(.iconst 0, 1, 0, 0, 0, 0), (.istore_n 1, 1, 0, 0, 0, 0)]),
  (30, [(.iload_n 1, 1, 0, 0, 0, 0), (.aload_n 0, 1, 0, 0, 0, 0), (.getfield 28, 3, 0, 3, 4, 276), (.if_icmp .ge 23, 3, 0, 58, 0, 0), (.aload_n 0, 1, 0, 0, 0, 0), (.invokevirtual 37, 3, 0, 22, 1, 732), (.istore_n 2, 1, 0, 0, 0, 0), (.iload_n 2, 1, 0, 0, 0, 0), (.ifCond .lt 8, 3, 0, 52, 0, 0), (.aload_n 0, 1, 0, 0, 0, 0), (.iload_n 2, 1, 0, 0, 0, 0), (.invokevirtual 41, 3, 0, 23, 2, 736)]),
  (52, [(.iinc 1 1, 3, 1, 0, 0, 0), (.goto (-25), 3, 0, 30, 0, 0)]),
  (58, [(.return_, 1, 0, 0, 0, 0)])]
/-- X3_firstWithoutCrew -/
def tp_P22 : List (Nat × List tp_Ins) := [(0, [(.iconst (-1), 1, -1, 0, 0, 0), (.istore_n 1, 1, 0, 0, 0, 0), (.iconst 0, 1, 0, 0, 0, 0), (.istore_n 2, 1, 0, 0, 0, 0)]),
  (4, [(.iload_n 2, 1, 0, 0, 0, 0), (.aload_n 0, 1, 0, 0, 0, 0), (.getfield 28, 3, 0, 3, 4, 276), (.if_icmp .ge 40, 3, 0, 49, 0, 0), (.aload_n 0, 1, 0, 0, 0, 0), (.getfield 21, 3, 0, 3, 3, 274), (.iload_n 2, 1, 0, 0, 0, 0), (.iaload, 1, 0, 0, 0, 0), (.iconst (-1), 1, -1, 0, 0, 0), (.if_icmp .ne 24, 3, 0, 43, 0, 0), (.iload_n 1, 1, 0, 0, 0, 0), (.ifCond .lt 18, 3, 0, 41, 0, 0), (.aload_n 0, 1, 0, 0, 0, 0), (.getfield 11, 3, 0, 3, 0, 271), (.iload_n 2, 1, 0, 0, 0, 0), (.iaload, 1, 0, 0, 0, 0), (.aload_n 0, 1, 0, 0, 0, 0), (.getfield 11, 3, 0, 3, 0, 271), (.iload_n 1, 1, 0, 0, 0, 0), (.iaload, 1, 0, 0, 0, 0), (.if_icmp .ge 5, 3, 0, 43, 0, 0)]),
  (41, [(.iload_n 2, 1, 0, 0, 0, 0), (.istore_n 1, 1, 0, 0, 0, 0)]),
  (43, [(.iinc 2 1, 3, 1, 0, 0, 0), (.goto (-42), 3, 0, 4, 0, 0)]),
  (49, [(.iload_n 1, 1, 0, 0, 0, 0), (.ireturn, 1, 0, 0, 0, 0)])]
/-- X3_giveCrew -/
def tp_P23 : List (Nat × List tp_Ins) := [(0, [(.iconst 0, 1, 0, 0, 0, 0), (.istore_n 2, 1, 0, 0, 0, 0)]),
  (2, [(.iload_n 2, 1, 0, 0, 0, 0), (.aload_n 0, 1, 0, 0, 0, 0), (.getfield 34, 3, 0, 3, 5, 278), (.if_icmp .ge 24, 3, 0, 31, 0, 0), (.aload_n 0, 1, 0, 0, 0, 0), (.getfield 18, 3, 0, 3, 2, 273), (.iload_n 2, 1, 0, 0, 0, 0), (.iaload, 1, 0, 0, 0, 0), (.aload_n 0, 1, 0, 0, 0, 0), (.getfield 11, 3, 0, 3, 0, 271), (.iload_n 1, 1, 0, 0, 0, 0), (.iaload, 1, 0, 0, 0, 0), (.if_icmp .le 9, 3, 0, 31, 0, 0), (.iinc 2 1, 3, 1, 0, 0, 0), (.goto (-26), 3, 0, 2, 0, 0)]),
  (31, [(.iload_n 2, 1, 0, 0, 0, 0), (.bipush 10, 2, 10, 0, 0, 0), (.if_icmp .lt 4, 3, 0, 38, 0, 0), (.return_, 1, 0, 0, 0, 0)]),
  (38, [(.aload_n 0, 1, 0, 0, 0, 0), (.getfield 21, 3, 0, 3, 3, 274), (.iload_n 1, 1, 0, 0, 0, 0), (.iload_n 2, 1, 0, 0, 0, 0), (.iastore, 1, 0, 0, 0, 0), (.aload_n 0, 1, 0, 0, 0, 0), (.getfield 18, 3, 0, 3, 2, 273), (.iload_n 2, 1, 0, 0, 0, 0), (.aload_n 0, 1, 0, 0, 0, 0), (.getfield 15, 3, 0, 3, 1, 272), (.iload_n 1, 1, 0, 0, 0, 0), (.iaload, 1, 0, 0, 0, 0), (.aload_n 0, 1, 0, 0, 0, 0), (.getfield 24, 3, 0, 3, 6, 280), (.iadd, 1, 0, 0, 0, 0), (.iastore, 1, 0, 0, 0, 0), (.aload_n 0, 1, 0, 0, 0, 0), (.aload_n 0, 1, 0, 0, 0, 0), (.getfield 34, 3, 0, 3, 5, 278), (.iload_n 2, 1, 0, 0, 0, 0), (.iconst 1, 1, 1, 0, 0, 0), (.iadd, 1, 0, 0, 0, 0), (.invokestatic 45, 3, 0, 900, 2, 740), (.putfield 34, 3, 0, 3, 5, 278), (.return_, 1, 0, 0, 0, 0)])]
/-- X3_minutesOf -/
def tp_P24 : List (Nat × List tp_Ins) := [(0, [(.iconst 0, 1, 0, 0, 0, 0), (.istore_n 2, 1, 0, 0, 0, 0), (.iconst 0, 1, 0, 0, 0, 0), (.istore_n 3, 1, 0, 0, 0, 0)]),
  (4, [(.iload_n 3, 1, 0, 0, 0, 0), (.aload_n 0, 1, 0, 0, 0, 0), (.getfield 28, 3, 0, 3, 4, 276), (.if_icmp .ge 35, 3, 0, 44, 0, 0), (.aload_n 0, 1, 0, 0, 0, 0), (.getfield 21, 3, 0, 3, 3, 274), (.iload_n 3, 1, 0, 0, 0, 0), (.iaload, 1, 0, 0, 0, 0), (.iload_n 1, 1, 0, 0, 0, 0), (.if_icmp .ne 19, 3, 0, 38, 0, 0), (.iload_n 2, 1, 0, 0, 0, 0), (.aload_n 0, 1, 0, 0, 0, 0), (.getfield 15, 3, 0, 3, 1, 272), (.iload_n 3, 1, 0, 0, 0, 0), (.iaload, 1, 0, 0, 0, 0), (.aload_n 0, 1, 0, 0, 0, 0), (.getfield 11, 3, 0, 3, 0, 271), (.iload_n 3, 1, 0, 0, 0, 0), (.iaload, 1, 0, 0, 0, 0), (.isub, 1, 0, 0, 0, 0), (.iadd, 1, 0, 0, 0, 0), (.istore_n 2, 1, 0, 0, 0, 0)]),
  (38, [(.iinc 3 1, 3, 1, 0, 0, 0), (.goto (-37), 3, 0, 4, 0, 0)]),
  (44, [(.iload_n 2, 1, 0, 0, 0, 0), (.ireturn, 1, 0, 0, 0, 0)])]
/-- X3_busiest -/
def tp_P25 : List (Nat × List tp_Ins) := [(0, [(.iconst (-1), 1, -1, 0, 0, 0), (.istore_n 1, 1, 0, 0, 0, 0), (.iconst 0, 1, 0, 0, 0, 0), (.istore_n 2, 1, 0, 0, 0, 0), (.iconst 0, 1, 0, 0, 0, 0), (.istore_n 3, 1, 0, 0, 0, 0)]),
  (6, [(.iload_n 3, 1, 0, 0, 0, 0), (.aload_n 0, 1, 0, 0, 0, 0), (.getfield 34, 3, 0, 3, 5, 278), (.if_icmp .ge 27, 3, 0, 38, 0, 0), (.aload_n 0, 1, 0, 0, 0, 0), (.iload_n 3, 1, 0, 0, 0, 0), (.invokevirtual 51, 3, 0, 24, 2, 761), (.istore 4, 2, 0, 0, 0, 0), (.iload 4, 2, 0, 0, 0, 0), (.iload_n 2, 1, 0, 0, 0, 0), (.if_icmp .le 8, 3, 0, 32, 0, 0), (.iload_n 3, 1, 0, 0, 0, 0), (.istore_n 1, 1, 0, 0, 0, 0), (.iload 4, 2, 0, 0, 0, 0), (.istore_n 2, 1, 0, 0, 0, 0)]),
  (32, [(.iinc 3 1, 3, 1, 0, 0, 0), (.goto (-29), 3, 0, 6, 0, 0)]),
  (38, [(.iload_n 1, 1, 0, 0, 0, 0), (.ireturn, 1, 0, 0, 0, 0)])]
/-- X3_lostWithout -/
def tp_P26 : List (Nat × List tp_Ins) := [(0, [(.iconst 0, 1, 0, 0, 0, 0), (.istore_n 2, 1, 0, 0, 0, 0), (.iconst 0, 1, 0, 0, 0, 0), (.istore_n 3, 1, 0, 0, 0, 0)]),
  (4, [(.iload_n 3, 1, 0, 0, 0, 0), (.aload_n 0, 1, 0, 0, 0, 0), (.getfield 28, 3, 0, 3, 4, 276), (.if_icmp .ge 30, 3, 0, 39, 0, 0), (.aload_n 0, 1, 0, 0, 0, 0), (.getfield 21, 3, 0, 3, 3, 274), (.iload_n 3, 1, 0, 0, 0, 0), (.iaload, 1, 0, 0, 0, 0), (.iload_n 1, 1, 0, 0, 0, 0), (.if_icmp .ne 14, 3, 0, 33, 0, 0), (.aload_n 0, 1, 0, 0, 0, 0), (.iload_n 3, 1, 0, 0, 0, 0), (.invokevirtual 55, 3, 0, 27, 2, 774), (.ifCond .ne 6, 3, 0, 33, 0, 0), (.iinc 2 1, 3, 1, 0, 0, 0)]),
  (33, [(.iinc 3 1, 3, 1, 0, 0, 0), (.goto (-32), 3, 0, 4, 0, 0)]),
  (39, [(.iload_n 2, 1, 0, 0, 0, 0), (.ireturn, 1, 0, 0, 0, 0)])]
/-- X3_anotherCould -/
def tp_P27 : List (Nat × List tp_Ins) := [(0, [(.iconst 0, 1, 0, 0, 0, 0), (.istore_n 2, 1, 0, 0, 0, 0)]),
  (2, [(.iload_n 2, 1, 0, 0, 0, 0), (.aload_n 0, 1, 0, 0, 0, 0), (.getfield 34, 3, 0, 3, 5, 278), (.if_icmp .ge 30, 3, 0, 37, 0, 0), (.iload_n 2, 1, 0, 0, 0, 0), (.aload_n 0, 1, 0, 0, 0, 0), (.getfield 21, 3, 0, 3, 3, 274), (.iload_n 1, 1, 0, 0, 0, 0), (.iaload, 1, 0, 0, 0, 0), (.if_icmp .eq 14, 3, 0, 31, 0, 0), (.aload_n 0, 1, 0, 0, 0, 0), (.iload_n 2, 1, 0, 0, 0, 0), (.iload_n 1, 1, 0, 0, 0, 0), (.invokevirtual 59, 3, 0, 28, 3, 778), (.ifCond .eq 5, 3, 0, 31, 0, 0), (.iconst 1, 1, 1, 0, 0, 0), (.ireturn, 1, 0, 0, 0, 0)]),
  (31, [(.iinc 2 1, 3, 1, 0, 0, 0), (.goto (-32), 3, 0, 2, 0, 0)]),
  (37, [(.iconst 0, 1, 0, 0, 0, 0), (.ireturn, 1, 0, 0, 0, 0)])]
/-- X3_couldHave -/
def tp_P28 : List (Nat × List tp_Ins) := [(0, [(.iconst 0, 1, 0, 0, 0, 0), (.istore_n 3, 1, 0, 0, 0, 0)]),
  (2, [(.iload_n 3, 1, 0, 0, 0, 0), (.aload_n 0, 1, 0, 0, 0, 0), (.getfield 28, 3, 0, 3, 4, 276), (.if_icmp .ge 30, 3, 0, 37, 0, 0), (.aload_n 0, 1, 0, 0, 0, 0), (.getfield 21, 3, 0, 3, 3, 274), (.iload_n 3, 1, 0, 0, 0, 0), (.iaload, 1, 0, 0, 0, 0), (.iload_n 1, 1, 0, 0, 0, 0), (.if_icmp .ne 14, 3, 0, 31, 0, 0), (.aload_n 0, 1, 0, 0, 0, 0), (.iload_n 3, 1, 0, 0, 0, 0), (.iload_n 2, 1, 0, 0, 0, 0), (.invokevirtual 63, 3, 0, 29, 3, 782), (.ifCond .ne 5, 3, 0, 31, 0, 0), (.iconst 0, 1, 0, 0, 0, 0), (.ireturn, 1, 0, 0, 0, 0)]),
  (31, [(.iinc 3 1, 3, 1, 0, 0, 0), (.goto (-32), 3, 0, 2, 0, 0)]),
  (37, [(.iconst 1, 1, 1, 0, 0, 0), (.ireturn, 1, 0, 0, 0, 0)])]
/-- X3_haveRestBetween -/
def tp_P29 : List (Nat × List tp_Ins) := [(0, [(.aload_n 0, 1, 0, 0, 0, 0), (.getfield 15, 3, 0, 3, 1, 272), (.iload_n 1, 1, 0, 0, 0, 0), (.iaload, 1, 0, 0, 0, 0), (.aload_n 0, 1, 0, 0, 0, 0), (.getfield 24, 3, 0, 3, 6, 280), (.iadd, 1, 0, 0, 0, 0), (.aload_n 0, 1, 0, 0, 0, 0), (.getfield 11, 3, 0, 3, 0, 271), (.iload_n 2, 1, 0, 0, 0, 0), (.iaload, 1, 0, 0, 0, 0), (.if_icmp .le 23, 3, 0, 40, 0, 0), (.aload_n 0, 1, 0, 0, 0, 0), (.getfield 15, 3, 0, 3, 1, 272), (.iload_n 2, 1, 0, 0, 0, 0), (.iaload, 1, 0, 0, 0, 0), (.aload_n 0, 1, 0, 0, 0, 0), (.getfield 24, 3, 0, 3, 6, 280), (.iadd, 1, 0, 0, 0, 0), (.aload_n 0, 1, 0, 0, 0, 0), (.getfield 11, 3, 0, 3, 0, 271), (.iload_n 1, 1, 0, 0, 0, 0), (.iaload, 1, 0, 0, 0, 0), (.if_icmp .gt 7, 3, 0, 44, 0, 0)]),
  (40, [(.iconst 1, 1, 1, 0, 0, 0), (.goto 4, 3, 0, 45, 0, 0)]),
  (44, [(.iconst 0, 1, 0, 0, 0, 0)]),
  (45, [(.ireturn, 1, 0, 0, 0, 0)])]
/-- X4_isFull -/
def tp_P30 : List (Nat × List tp_Ins) := [(0, [(.aload_n 0, 1, 0, 0, 0, 0), (.getfield 22, 3, 0, 4, 4, 143), (.sipush 200, 3, 200, 0, 0, 0), (.if_icmp .lt 7, 3, 0, 14, 0, 0), (.iconst 1, 1, 1, 0, 0, 0), (.goto 4, 3, 0, 15, 0, 0)]),
  (14, [(.iconst 0, 1, 0, 0, 0, 0)]),
  (15, [(.ireturn, 1, 0, 0, 0, 0)])]
/-- X4_add -/
def tp_P31 : List (Nat × List tp_Ins) := [(0, [(.aload_n 0, 1, 0, 0, 0, 0), (.invokevirtual 26, 3, 0, 30, 1, 416), (.ifCond .eq 4, 3, 0, 8, 0, 0), (.return_, 1, 0, 0, 0, 0)]),
  (8, [(.aload_n 0, 1, 0, 0, 0, 0), (.getfield 9, 3, 0, 4, 0, 135), (.aload_n 0, 1, 0, 0, 0, 0), (.getfield 22, 3, 0, 4, 4, 143), (.iload_n 1, 1, 0, 0, 0, 0), (.iastore, 1, 0, 0, 0, 0), (.aload_n 0, 1, 0, 0, 0, 0), (.getfield 13, 3, 0, 4, 1, 137), (.aload_n 0, 1, 0, 0, 0, 0), (.getfield 22, 3, 0, 4, 4, 143), (.iload_n 2, 1, 0, 0, 0, 0), (.iastore, 1, 0, 0, 0, 0), (.aload_n 0, 1, 0, 0, 0, 0), (.getfield 16, 3, 0, 4, 2, 139), (.aload_n 0, 1, 0, 0, 0, 0), (.getfield 22, 3, 0, 4, 4, 143), (.iload_n 3, 1, 0, 0, 0, 0), (.iastore, 1, 0, 0, 0, 0), (.aload_n 0, 1, 0, 0, 0, 0), (.getfield 19, 3, 0, 4, 3, 141), (.aload_n 0, 1, 0, 0, 0, 0), (.getfield 22, 3, 0, 4, 4, 143), (.iload 4, 2, 0, 0, 0, 0), (.iastore, 1, 0, 0, 0, 0), (.aload_n 0, 1, 0, 0, 0, 0), (.dup, 1, 0, 0, 0, 0), (.getfield 22, 3, 0, 4, 4, 143), (.iconst 1, 1, 1, 0, 0, 0), (.iadd, 1, 0, 0, 0, 0), (.putfield 22, 3, 0, 4, 4, 143), (.return_, 1, 0, 0, 0, 0)])]
/-- X4_latestStep -/
def tp_P32 : List (Nat × List tp_Ins) := [(0, [(.aload_n 0, 1, 0, 0, 0, 0), (.getfield 22, 3, 0, 4, 4, 143), (.iconst 1, 1, 1, 0, 0, 0), (.isub, 1, 0, 0, 0, 0), (.istore_n 2, 1, 0, 0, 0, 0)]),
  (7, [(.iload_n 2, 1, 0, 0, 0, 0), (.ifCond .lt 26, 3, 0, 34, 0, 0), (.aload_n 0, 1, 0, 0, 0, 0), (.getfield 9, 3, 0, 4, 0, 135), (.iload_n 2, 1, 0, 0, 0, 0), (.iaload, 1, 0, 0, 0, 0), (.iload_n 1, 1, 0, 0, 0, 0), (.if_icmp .ne 10, 3, 0, 28, 0, 0), (.aload_n 0, 1, 0, 0, 0, 0), (.getfield 16, 3, 0, 4, 2, 139), (.iload_n 2, 1, 0, 0, 0, 0), (.iaload, 1, 0, 0, 0, 0), (.ireturn, 1, 0, 0, 0, 0)]),
  (28, [(.iinc 2 (-1), 3, -1, 0, 0, 0), (.goto (-24), 3, 0, 7, 0, 0)]),
  (34, [(.iconst 0, 1, 0, 0, 0, 0), (.ireturn, 1, 0, 0, 0, 0)])]
/-- X4_find -/
def tp_P33 : List (Nat × List tp_Ins) := [(0, [(.iconst 0, 1, 0, 0, 0, 0), (.istore_n 3, 1, 0, 0, 0, 0)]),
  (2, [(.iload_n 3, 1, 0, 0, 0, 0), (.aload_n 0, 1, 0, 0, 0, 0), (.getfield 22, 3, 0, 4, 4, 143), (.if_icmp .ge 31, 3, 0, 38, 0, 0), (.aload_n 0, 1, 0, 0, 0, 0), (.getfield 13, 3, 0, 4, 1, 137), (.iload_n 3, 1, 0, 0, 0, 0), (.iaload, 1, 0, 0, 0, 0), (.iload_n 1, 1, 0, 0, 0, 0), (.if_icmp .ne 15, 3, 0, 32, 0, 0), (.aload_n 0, 1, 0, 0, 0, 0), (.getfield 19, 3, 0, 4, 3, 141), (.iload_n 3, 1, 0, 0, 0, 0), (.iaload, 1, 0, 0, 0, 0), (.iload_n 2, 1, 0, 0, 0, 0), (.if_icmp .ne 5, 3, 0, 32, 0, 0), (.iload_n 3, 1, 0, 0, 0, 0), (.ireturn, 1, 0, 0, 0, 0)]),
  (32, [(.iinc 3 1, 3, 1, 0, 0, 0), (.goto (-33), 3, 0, 2, 0, 0)]),
  (38, [(.iconst (-1), 1, -1, 0, 0, 0), (.ireturn, 1, 0, 0, 0, 0)])]
/-- X4_anySold -/
def tp_P34 : List (Nat × List tp_Ins) := [(0, [(.iconst 0, 1, 0, 0, 0, 0), (.istore 4, 2, 0, 0, 0, 0)]),
  (3, [(.iload 4, 2, 0, 0, 0, 0), (.aload_n 0, 1, 0, 0, 0, 0), (.getfield 22, 3, 0, 4, 4, 143), (.if_icmp .ge 44, 3, 0, 53, 0, 0), (.aload_n 0, 1, 0, 0, 0, 0), (.getfield 13, 3, 0, 4, 1, 137), (.iload 4, 2, 0, 0, 0, 0), (.iaload, 1, 0, 0, 0, 0), (.iload_n 1, 1, 0, 0, 0, 0), (.if_icmp .ne 27, 3, 0, 47, 0, 0), (.aload_n 0, 1, 0, 0, 0, 0), (.getfield 19, 3, 0, 4, 3, 141), (.iload 4, 2, 0, 0, 0, 0), (.iaload, 1, 0, 0, 0, 0), (.iload_n 2, 1, 0, 0, 0, 0), (.if_icmp .lt 16, 3, 0, 47, 0, 0), (.aload_n 0, 1, 0, 0, 0, 0), (.getfield 19, 3, 0, 4, 3, 141), (.iload 4, 2, 0, 0, 0, 0), (.iaload, 1, 0, 0, 0, 0), (.iload_n 3, 1, 0, 0, 0, 0), (.if_icmp .ge 5, 3, 0, 47, 0, 0), (.iconst 1, 1, 1, 0, 0, 0), (.ireturn, 1, 0, 0, 0, 0)]),
  (47, [(.iinc 4 1, 3, 1, 0, 0, 0), (.goto (-47), 3, 0, 3, 0, 0)]),
  (53, [(.iconst 0, 1, 0, 0, 0, 0), (.ireturn, 1, 0, 0, 0, 0)])]
/-- X4_beyond -/
def tp_P35 : List (Nat × List tp_Ins) := [(0, [(.iload_n 2, 1, 0, 0, 0, 0), (.istore_n 3, 1, 0, 0, 0, 0), (.iconst 0, 1, 0, 0, 0, 0), (.istore 4, 2, 0, 0, 0, 0)]),
  (5, [(.iload 4, 2, 0, 0, 0, 0), (.aload_n 0, 1, 0, 0, 0, 0), (.getfield 22, 3, 0, 4, 4, 143), (.if_icmp .ge 34, 3, 0, 45, 0, 0), (.aload_n 0, 1, 0, 0, 0, 0), (.getfield 13, 3, 0, 4, 1, 137), (.iload 4, 2, 0, 0, 0, 0), (.iaload, 1, 0, 0, 0, 0), (.iload_n 1, 1, 0, 0, 0, 0), (.if_icmp .ne 17, 3, 0, 39, 0, 0), (.aload_n 0, 1, 0, 0, 0, 0), (.getfield 19, 3, 0, 4, 3, 141), (.iload 4, 2, 0, 0, 0, 0), (.iaload, 1, 0, 0, 0, 0), (.iload_n 3, 1, 0, 0, 0, 0), (.if_icmp .ne 6, 3, 0, 39, 0, 0), (.iinc 3 1, 3, 1, 0, 0, 0)]),
  (39, [(.iinc 4 1, 3, 1, 0, 0, 0), (.goto (-37), 3, 0, 5, 0, 0)]),
  (45, [(.iload_n 3, 1, 0, 0, 0, 0), (.ireturn, 1, 0, 0, 0, 0)])]
/-- X4_greatestSold -/
def tp_P36 : List (Nat × List tp_Ins) := [(0, [(.iconst (-1), 1, -1, 0, 0, 0), (.istore_n 2, 1, 0, 0, 0, 0), (.iconst 0, 1, 0, 0, 0, 0), (.istore_n 3, 1, 0, 0, 0, 0)]),
  (4, [(.iload_n 3, 1, 0, 0, 0, 0), (.aload_n 0, 1, 0, 0, 0, 0), (.getfield 22, 3, 0, 4, 4, 143), (.if_icmp .ge 30, 3, 0, 39, 0, 0), (.aload_n 0, 1, 0, 0, 0, 0), (.getfield 13, 3, 0, 4, 1, 137), (.iload_n 3, 1, 0, 0, 0, 0), (.iaload, 1, 0, 0, 0, 0), (.iload_n 1, 1, 0, 0, 0, 0), (.if_icmp .ne 14, 3, 0, 33, 0, 0), (.iload_n 2, 1, 0, 0, 0, 0), (.aload_n 0, 1, 0, 0, 0, 0), (.getfield 19, 3, 0, 4, 3, 141), (.iload_n 3, 1, 0, 0, 0, 0), (.iaload, 1, 0, 0, 0, 0), (.invokestatic 30, 3, 0, 900, 2, 536), (.istore_n 2, 1, 0, 0, 0, 0)]),
  (33, [(.iinc 3 1, 3, 1, 0, 0, 0), (.goto (-32), 3, 0, 4, 0, 0)]),
  (39, [(.iload_n 2, 1, 0, 0, 0, 0), (.ireturn, 1, 0, 0, 0, 0)])]
/-- X4_howMany -/
def tp_P37 : List (Nat × List tp_Ins) := [(0, [(.iconst 0, 1, 0, 0, 0, 0), (.istore_n 3, 1, 0, 0, 0, 0), (.iconst 0, 1, 0, 0, 0, 0), (.istore 4, 2, 0, 0, 0, 0)]),
  (5, [(.iload 4, 2, 0, 0, 0, 0), (.aload_n 0, 1, 0, 0, 0, 0), (.getfield 22, 3, 0, 4, 4, 143), (.if_icmp .ge 23, 3, 0, 34, 0, 0), (.aload_n 0, 1, 0, 0, 0, 0), (.iload 4, 2, 0, 0, 0, 0), (.iload_n 1, 1, 0, 0, 0, 0), (.iload_n 2, 1, 0, 0, 0, 0), (.invokevirtual 36, 3, 0, 40, 4, 471), (.ifCond .eq 6, 3, 0, 28, 0, 0), (.iinc 3 1, 3, 1, 0, 0, 0)]),
  (28, [(.iinc 4 1, 3, 1, 0, 0, 0), (.goto (-26), 3, 0, 5, 0, 0)]),
  (34, [(.iload_n 3, 1, 0, 0, 0, 0), (.ireturn, 1, 0, 0, 0, 0)])]
/-- X4_firstOf -/
def tp_P38 : List (Nat × List tp_Ins) := [(0, [(.iconst 0, 1, 0, 0, 0, 0), (.istore_n 3, 1, 0, 0, 0, 0)]),
  (2, [(.iload_n 3, 1, 0, 0, 0, 0), (.aload_n 0, 1, 0, 0, 0, 0), (.getfield 22, 3, 0, 4, 4, 143), (.if_icmp .ge 21, 3, 0, 28, 0, 0), (.aload_n 0, 1, 0, 0, 0, 0), (.iload_n 3, 1, 0, 0, 0, 0), (.iload_n 1, 1, 0, 0, 0, 0), (.iload_n 2, 1, 0, 0, 0, 0), (.invokevirtual 36, 3, 0, 40, 4, 471), (.ifCond .eq 5, 3, 0, 22, 0, 0), (.iload_n 3, 1, 0, 0, 0, 0), (.ireturn, 1, 0, 0, 0, 0)]),
  (22, [(.iinc 3 1, 3, 1, 0, 0, 0), (.goto (-23), 3, 0, 2, 0, 0)]),
  (28, [(.iconst (-1), 1, -1, 0, 0, 0), (.ireturn, 1, 0, 0, 0, 0)])]
/-- X4_lastOf -/
def tp_P39 : List (Nat × List tp_Ins) := [(0, [(.aload_n 0, 1, 0, 0, 0, 0), (.getfield 22, 3, 0, 4, 4, 143), (.iconst 1, 1, 1, 0, 0, 0), (.isub, 1, 0, 0, 0, 0), (.istore_n 3, 1, 0, 0, 0, 0)]),
  (7, [(.iload_n 3, 1, 0, 0, 0, 0), (.ifCond .lt 21, 3, 0, 29, 0, 0), (.aload_n 0, 1, 0, 0, 0, 0), (.iload_n 3, 1, 0, 0, 0, 0), (.iload_n 1, 1, 0, 0, 0, 0), (.iload_n 2, 1, 0, 0, 0, 0), (.invokevirtual 36, 3, 0, 40, 4, 471), (.ifCond .eq 5, 3, 0, 23, 0, 0), (.iload_n 3, 1, 0, 0, 0, 0), (.ireturn, 1, 0, 0, 0, 0)]),
  (23, [(.iinc 3 (-1), 3, -1, 0, 0, 0), (.goto (-19), 3, 0, 7, 0, 0)]),
  (29, [(.iconst (-1), 1, -1, 0, 0, 0), (.ireturn, 1, 0, 0, 0, 0)])]
/-- X4_isOf -/
def tp_P40 : List (Nat × List tp_Ins) := [(0, [(.aload_n 0, 1, 0, 0, 0, 0), (.getfield 9, 3, 0, 4, 0, 135), (.iload_n 1, 1, 0, 0, 0, 0), (.iaload, 1, 0, 0, 0, 0), (.iload_n 2, 1, 0, 0, 0, 0), (.if_icmp .ne 17, 3, 0, 24, 0, 0), (.aload_n 0, 1, 0, 0, 0, 0), (.getfield 13, 3, 0, 4, 1, 137), (.iload_n 1, 1, 0, 0, 0, 0), (.iaload, 1, 0, 0, 0, 0), (.iload_n 3, 1, 0, 0, 0, 0), (.if_icmp .ne 7, 3, 0, 24, 0, 0), (.iconst 1, 1, 1, 0, 0, 0), (.goto 4, 3, 0, 25, 0, 0)]),
  (24, [(.iconst 0, 1, 0, 0, 0, 0)]),
  (25, [(.ireturn, 1, 0, 0, 0, 0)])]
/-- X5_isNothing -/
def tp_P41 : List (Nat × List tp_Ins) := [(0, [(.aload_n 0, 1, 0, 0, 0, 0), (.getfield 13, 3, 0, 5, 2, 167), (.iconst (-1), 1, -1, 0, 0, 0), (.if_icmp .ne 7, 3, 0, 12, 0, 0), (.iconst 1, 1, 1, 0, 0, 0), (.goto 4, 3, 0, 13, 0, 0)]),
  (12, [(.iconst 0, 1, 0, 0, 0, 0)]),
  (13, [(.ireturn, 1, 0, 0, 0, 0)])]
/-- X5_hasCell -/
def tp_P42 : List (Nat × List tp_Ins) := [(0, [(.iload_n 1, 1, 0, 0, 0, 0), (.ifCond .lt 15, 3, 0, 16, 0, 0), (.iload_n 1, 1, 0, 0, 0, 0), (.aload_n 0, 1, 0, 0, 0, 0), (.getfield 13, 3, 0, 5, 2, 167), (.if_icmp .ge 7, 3, 0, 16, 0, 0), (.iconst 1, 1, 1, 0, 0, 0), (.goto 4, 3, 0, 17, 0, 0)]),
  (16, [(.iconst 0, 1, 0, 0, 0, 0)]),
  (17, [(.ireturn, 1, 0, 0, 0, 0)])]
/-- X5_renew -/
def tp_P43 : List (Nat × List tp_Ins) := [(0, [(.aload_n 0, 1, 0, 0, 0, 0), (.iload_n 1, 1, 0, 0, 0, 0), (.putfield 17, 3, 0, 5, 1, 165), (.aload_n 0, 1, 0, 0, 0, 0), (.iload_n 2, 1, 0, 0, 0, 0), (.putfield 13, 3, 0, 5, 2, 167), (.iconst 0, 1, 0, 0, 0, 0), (.istore_n 3, 1, 0, 0, 0, 0)]),
  (12, [(.iload_n 3, 1, 0, 0, 0, 0), (.bipush 64, 2, 64, 0, 0, 0), (.if_icmp .ge 16, 3, 0, 31, 0, 0), (.aload_n 0, 1, 0, 0, 0, 0), (.getfield 9, 3, 0, 5, 0, 163), (.iload_n 3, 1, 0, 0, 0, 0), (.iconst 0, 1, 0, 0, 0, 0), (.iastore, 1, 0, 0, 0, 0), (.iinc 3 1, 3, 1, 0, 0, 0), (.goto (-16), 3, 0, 12, 0, 0)]),
  (31, [(.return_, 1, 0, 0, 0, 0)])]
/-- X5_write -/
def tp_P44 : List (Nat × List tp_Ins) := [(0, [(.aload_n 0, 1, 0, 0, 0, 0), (.iload_n 1, 1, 0, 0, 0, 0), (.invokevirtual 20, 3, 0, 42, 2, 449), (.ifCond .ne 4, 3, 0, 9, 0, 0), (.return_, 1, 0, 0, 0, 0)]),
  (9, [(.aload_n 0, 1, 0, 0, 0, 0), (.getfield 17, 3, 0, 5, 1, 165), (.lookupswitch 49 #[(0, 27), (1, 38)], 27, 0, 0, 0, 0)]),
  (40, [(.aload_n 0, 1, 0, 0, 0, 0), (.getfield 9, 3, 0, 5, 0, 163), (.iload_n 1, 1, 0, 0, 0, 0), (.iload_n 2, 1, 0, 0, 0, 0), (.i2b, 1, 0, 0, 0, 0), (.iastore, 1, 0, 0, 0, 0), (.goto 21, 3, 0, 69, 0, 0)]),
  (51, [(.aload_n 0, 1, 0, 0, 0, 0), (.getfield 9, 3, 0, 5, 0, 163), (.iload_n 1, 1, 0, 0, 0, 0), (.iload_n 2, 1, 0, 0, 0, 0), (.i2s, 1, 0, 0, 0, 0), (.iastore, 1, 0, 0, 0, 0), (.goto 10, 3, 0, 69, 0, 0)]),
  (62, [(.aload_n 0, 1, 0, 0, 0, 0), (.getfield 9, 3, 0, 5, 0, 163), (.iload_n 1, 1, 0, 0, 0, 0), (.iload_n 2, 1, 0, 0, 0, 0), (.iastore, 1, 0, 0, 0, 0)]),
  (69, [(.return_, 1, 0, 0, 0, 0)])]
/-- X6_append -/
def tp_P45 : List (Nat × List tp_Ins) := [(0, [(.aload_n 0, 1, 0, 0, 0, 0), (.getfield 15, 3, 0, 6, 1, 189), (.bipush 8, 2, 8, 0, 0, 0), (.iadd, 1, 0, 0, 0, 0), (.sipush 200, 3, 200, 0, 0, 0), (.if_icmp .le 6, 3, 0, 16, 0, 0), (.bipush (-3), 2, -3, 0, 0, 0), (.ireturn, 1, 0, 0, 0, 0)]),
  (16, [(.bipush 56, 2, 56, 0, 0, 0), (.istore_n 3, 1, 0, 0, 0, 0)]),
  (19, [(.iload_n 3, 1, 0, 0, 0, 0), (.ifCond .lt 33, 3, 0, 53, 0, 0), (.aload_n 0, 1, 0, 0, 0, 0), (.getfield 11, 3, 0, 6, 0, 188), (.aload_n 0, 1, 0, 0, 0, 0), (.getfield 15, 3, 0, 6, 1, 189), (.lload_n 1, 1, 0, 0, 0, 0), (.iload_n 3, 1, 0, 0, 0, 0), (.lushr, 1, 0, 0, 0, 0), (.l2i, 1, 0, 0, 0, 0), (.i2b, 1, 0, 0, 0, 0), (.bastore, 1, 0, 0, 0, 0), (.aload_n 0, 1, 0, 0, 0, 0), (.dup, 1, 0, 0, 0, 0), (.getfield 15, 3, 0, 6, 1, 189), (.iconst 1, 1, 1, 0, 0, 0), (.iadd, 1, 0, 0, 0, 0), (.putfield 15, 3, 0, 6, 1, 189), (.iinc 3 (-8), 3, -8, 0, 0, 0), (.goto (-31), 3, 0, 19, 0, 0)]),
  (53, [(.aload_n 0, 1, 0, 0, 0, 0), (.getfield 15, 3, 0, 6, 1, 189), (.ireturn, 1, 0, 0, 0, 0)])]
/-- X6_rewind -/
def tp_P46 : List (Nat × List tp_Ins) := [(0, [(.aload_n 0, 1, 0, 0, 0, 0), (.iconst 0, 1, 0, 0, 0, 0), (.putfield 19, 3, 0, 6, 4, 196), (.return_, 1, 0, 0, 0, 0)])]
/-- X6_readToken -/
def tp_P47 : List (Nat × List tp_Ins) := [(0, [(.aload_n 0, 1, 0, 0, 0, 0), (.getfield 19, 3, 0, 6, 4, 196), (.aload_n 0, 1, 0, 0, 0, 0), (.getfield 15, 3, 0, 6, 1, 189), (.if_icmp .ge 30, 3, 0, 38, 0, 0), (.aload_n 0, 1, 0, 0, 0, 0), (.getfield 11, 3, 0, 6, 0, 188), (.aload_n 0, 1, 0, 0, 0, 0), (.getfield 19, 3, 0, 6, 4, 196), (.baload, 1, 0, 0, 0, 0), (.bipush 32, 2, 32, 0, 0, 0), (.if_icmp .ne 16, 3, 0, 38, 0, 0), (.aload_n 0, 1, 0, 0, 0, 0), (.dup, 1, 0, 0, 0, 0), (.getfield 19, 3, 0, 6, 4, 196), (.iconst 1, 1, 1, 0, 0, 0), (.iadd, 1, 0, 0, 0, 0), (.putfield 19, 3, 0, 6, 4, 196), (.goto (-35), 3, 0, 0, 0, 0)]),
  (38, [(.aload_n 0, 1, 0, 0, 0, 0), (.aload_n 0, 1, 0, 0, 0, 0), (.getfield 19, 3, 0, 6, 4, 196), (.putfield 22, 3, 0, 6, 2, 193), (.aload_n 0, 1, 0, 0, 0, 0), (.getfield 19, 3, 0, 6, 4, 196), (.aload_n 0, 1, 0, 0, 0, 0), (.getfield 15, 3, 0, 6, 1, 189), (.if_icmp .lt 5, 3, 0, 59, 0, 0), (.iconst 1, 1, 1, 0, 0, 0), (.ireturn, 1, 0, 0, 0, 0)]),
  (59, [(.aload_n 0, 1, 0, 0, 0, 0), (.aload_n 0, 1, 0, 0, 0, 0), (.getfield 19, 3, 0, 6, 4, 196), (.invokevirtual 25, 3, 0, 50, 2, 581), (.ifCond .eq 8, 3, 0, 75, 0, 0), (.aload_n 0, 1, 0, 0, 0, 0), (.invokevirtual 29, 3, 0, 48, 1, 585), (.ireturn, 1, 0, 0, 0, 0)]),
  (75, [(.aload_n 0, 1, 0, 0, 0, 0), (.aload_n 0, 1, 0, 0, 0, 0), (.getfield 19, 3, 0, 6, 4, 196), (.invokevirtual 33, 3, 0, 51, 2, 644), (.ifCond .eq 8, 3, 0, 91, 0, 0), (.aload_n 0, 1, 0, 0, 0, 0), (.invokevirtual 36, 3, 0, 49, 1, 648), (.ireturn, 1, 0, 0, 0, 0)]),
  (91, [(.aload_n 0, 1, 0, 0, 0, 0), (.getfield 11, 3, 0, 6, 0, 188), (.aload_n 0, 1, 0, 0, 0, 0), (.dup, 1, 0, 0, 0, 0), (.getfield 19, 3, 0, 6, 4, 196), (.dup_x1, 1, 0, 0, 0, 0), (.iconst 1, 1, 1, 0, 0, 0), (.iadd, 1, 0, 0, 0, 0), (.putfield 19, 3, 0, 6, 4, 196), (.baload, 1, 0, 0, 0, 0), (.bipush 59, 2, 59, 0, 0, 0), (.if_icmp .ne 7, 3, 0, 116, 0, 0), (.iconst 4, 1, 4, 0, 0, 0), (.goto 4, 3, 0, 117, 0, 0)]),
  (116, [(.iconst 0, 1, 0, 0, 0, 0)]),
  (117, [(.ireturn, 1, 0, 0, 0, 0)])]
/-- X6_readName -/
def tp_P48 : List (Nat × List tp_Ins) := [(0, [(.aload_n 0, 1, 0, 0, 0, 0), (.getfield 19, 3, 0, 6, 4, 196), (.aload_n 0, 1, 0, 0, 0, 0), (.getfield 15, 3, 0, 6, 1, 189), (.if_icmp .ge 27, 3, 0, 35, 0, 0), (.aload_n 0, 1, 0, 0, 0, 0), (.aload_n 0, 1, 0, 0, 0, 0), (.getfield 19, 3, 0, 6, 4, 196), (.invokevirtual 25, 3, 0, 50, 2, 581), (.ifCond .eq 16, 3, 0, 35, 0, 0), (.aload_n 0, 1, 0, 0, 0, 0), (.dup, 1, 0, 0, 0, 0), (.getfield 19, 3, 0, 6, 4, 196), (.iconst 1, 1, 1, 0, 0, 0), (.iadd, 1, 0, 0, 0, 0), (.putfield 19, 3, 0, 6, 4, 196), (.goto (-32), 3, 0, 0, 0, 0)]),
  (35, [(.aload_n 0, 1, 0, 0, 0, 0), (.ldc 39, 2, 0, 94, 0, 589), (.invokevirtual 41, 3, 0, 52, 2, 590), (.ifCond .eq 10, 3, 0, 51, 0, 0), (.aload_n 0, 1, 0, 0, 0, 0), (.iconst 0, 1, 0, 0, 0, 0), (.putfield 47, 3, 0, 6, 3, 195), (.iconst 2, 1, 2, 0, 0, 0), (.ireturn, 1, 0, 0, 0, 0)]),
  (51, [(.aload_n 0, 1, 0, 0, 0, 0), (.ldc 50, 2, 0, 95, 0, 642), (.invokevirtual 41, 3, 0, 52, 2, 590), (.ifCond .eq 10, 3, 0, 67, 0, 0), (.aload_n 0, 1, 0, 0, 0, 0), (.iconst 1, 1, 1, 0, 0, 0), (.putfield 47, 3, 0, 6, 3, 195), (.iconst 2, 1, 2, 0, 0, 0), (.ireturn, 1, 0, 0, 0, 0)]),
  (67, [(.aload_n 0, 1, 0, 0, 0, 0), (.iconst 2, 1, 2, 0, 0, 0), (.putfield 47, 3, 0, 6, 3, 195), (.aload_n 0, 1, 0, 0, 0, 0), (.ldc 52, 2, 0, 96, 0, 643), (.invokevirtual 41, 3, 0, 52, 2, 590), (.ifCond .eq 7, 3, 0, 85, 0, 0), (.iconst 2, 1, 2, 0, 0, 0), (.goto 4, 3, 0, 86, 0, 0)]),
  (85, [(.iconst 0, 1, 0, 0, 0, 0)]),
  (86, [(.ireturn, 1, 0, 0, 0, 0)])]
/-- X6_readNumber -/
def tp_P49 : List (Nat × List tp_Ins) := [(0, [(.aload_n 0, 1, 0, 0, 0, 0), (.iconst 0, 1, 0, 0, 0, 0), (.putfield 47, 3, 0, 6, 3, 195)]),
  (5, [(.aload_n 0, 1, 0, 0, 0, 0), (.getfield 19, 3, 0, 6, 4, 196), (.aload_n 0, 1, 0, 0, 0, 0), (.getfield 15, 3, 0, 6, 1, 189), (.if_icmp .ge 64, 3, 0, 77, 0, 0), (.aload_n 0, 1, 0, 0, 0, 0), (.aload_n 0, 1, 0, 0, 0, 0), (.getfield 19, 3, 0, 6, 4, 196), (.invokevirtual 33, 3, 0, 51, 2, 644), (.ifCond .eq 53, 3, 0, 77, 0, 0), (.aload_n 0, 1, 0, 0, 0, 0), (.getfield 19, 3, 0, 6, 4, 196), (.aload_n 0, 1, 0, 0, 0, 0), (.getfield 22, 3, 0, 6, 2, 193), (.isub, 1, 0, 0, 0, 0), (.iconst 4, 1, 4, 0, 0, 0), (.if_icmp .ge 27, 3, 0, 64, 0, 0), (.aload_n 0, 1, 0, 0, 0, 0), (.aload_n 0, 1, 0, 0, 0, 0), (.getfield 47, 3, 0, 6, 3, 195), (.bipush 10, 2, 10, 0, 0, 0), (.imul, 1, 0, 0, 0, 0), (.aload_n 0, 1, 0, 0, 0, 0), (.getfield 11, 3, 0, 6, 0, 188), (.aload_n 0, 1, 0, 0, 0, 0), (.getfield 19, 3, 0, 6, 4, 196), (.baload, 1, 0, 0, 0, 0), (.bipush 48, 2, 48, 0, 0, 0), (.isub, 1, 0, 0, 0, 0), (.iadd, 1, 0, 0, 0, 0), (.putfield 47, 3, 0, 6, 3, 195)]),
  (64, [(.aload_n 0, 1, 0, 0, 0, 0), (.dup, 1, 0, 0, 0, 0), (.getfield 19, 3, 0, 6, 4, 196), (.iconst 1, 1, 1, 0, 0, 0), (.iadd, 1, 0, 0, 0, 0), (.putfield 19, 3, 0, 6, 4, 196), (.goto (-69), 3, 0, 5, 0, 0)]),
  (77, [(.aload_n 0, 1, 0, 0, 0, 0), (.getfield 19, 3, 0, 6, 4, 196), (.aload_n 0, 1, 0, 0, 0, 0), (.getfield 22, 3, 0, 6, 2, 193), (.isub, 1, 0, 0, 0, 0), (.iconst 4, 1, 4, 0, 0, 0), (.if_icmp .gt 7, 3, 0, 94, 0, 0), (.iconst 3, 1, 3, 0, 0, 0), (.goto 4, 3, 0, 95, 0, 0)]),
  (94, [(.iconst 0, 1, 0, 0, 0, 0)]),
  (95, [(.ireturn, 1, 0, 0, 0, 0)])]
/-- X6_isLetter -/
def tp_P50 : List (Nat × List tp_Ins) := [(0, [(.aload_n 0, 1, 0, 0, 0, 0), (.getfield 11, 3, 0, 6, 0, 188), (.iload_n 1, 1, 0, 0, 0, 0), (.baload, 1, 0, 0, 0, 0), (.bipush 97, 2, 97, 0, 0, 0), (.if_icmp .lt 18, 3, 0, 26, 0, 0), (.aload_n 0, 1, 0, 0, 0, 0), (.getfield 11, 3, 0, 6, 0, 188), (.iload_n 1, 1, 0, 0, 0, 0), (.baload, 1, 0, 0, 0, 0), (.bipush 122, 2, 122, 0, 0, 0), (.if_icmp .gt 7, 3, 0, 26, 0, 0), (.iconst 1, 1, 1, 0, 0, 0), (.goto 4, 3, 0, 27, 0, 0)]),
  (26, [(.iconst 0, 1, 0, 0, 0, 0)]),
  (27, [(.ireturn, 1, 0, 0, 0, 0)])]
/-- X6_isFigure -/
def tp_P51 : List (Nat × List tp_Ins) := [(0, [(.aload_n 0, 1, 0, 0, 0, 0), (.getfield 11, 3, 0, 6, 0, 188), (.iload_n 1, 1, 0, 0, 0, 0), (.baload, 1, 0, 0, 0, 0), (.bipush 48, 2, 48, 0, 0, 0), (.if_icmp .lt 18, 3, 0, 26, 0, 0), (.aload_n 0, 1, 0, 0, 0, 0), (.getfield 11, 3, 0, 6, 0, 188), (.iload_n 1, 1, 0, 0, 0, 0), (.baload, 1, 0, 0, 0, 0), (.bipush 57, 2, 57, 0, 0, 0), (.if_icmp .gt 7, 3, 0, 26, 0, 0), (.iconst 1, 1, 1, 0, 0, 0), (.goto 4, 3, 0, 27, 0, 0)]),
  (26, [(.iconst 0, 1, 0, 0, 0, 0)]),
  (27, [(.ireturn, 1, 0, 0, 0, 0)])]
/-- X6_isSpelled -/
def tp_P52 : List (Nat × List tp_Ins) := [(0, [(.aload_n 0, 1, 0, 0, 0, 0), (.getfield 19, 3, 0, 6, 4, 196), (.aload_n 0, 1, 0, 0, 0, 0), (.getfield 22, 3, 0, 6, 2, 193), (.isub, 1, 0, 0, 0, 0), (.aload_n 1, 1, 0, 0, 0, 0), (.invokevirtual 54, 3, 0, 149, 1, 594), (.if_icmp .eq 5, 3, 0, 18, 0, 0), (.iconst 0, 1, 0, 0, 0, 0), (.ireturn, 1, 0, 0, 0, 0)]),
  (18, [(.iconst 0, 1, 0, 0, 0, 0), (.istore_n 2, 1, 0, 0, 0, 0)]),
  (20, [(.iload_n 2, 1, 0, 0, 0, 0), (.aload_n 1, 1, 0, 0, 0, 0), (.invokevirtual 54, 3, 0, 149, 1, 594), (.if_icmp .ge 30, 3, 0, 55, 0, 0), (.aload_n 0, 1, 0, 0, 0, 0), (.getfield 11, 3, 0, 6, 0, 188), (.aload_n 0, 1, 0, 0, 0, 0), (.getfield 22, 3, 0, 6, 2, 193), (.iload_n 2, 1, 0, 0, 0, 0), (.iadd, 1, 0, 0, 0, 0), (.baload, 1, 0, 0, 0, 0), (.aload_n 1, 1, 0, 0, 0, 0), (.iload_n 2, 1, 0, 0, 0, 0), (.invokevirtual 58, 3, 0, 150, 2, 604), (.if_icmp .eq 5, 3, 0, 49, 0, 0), (.iconst 0, 1, 0, 0, 0, 0), (.ireturn, 1, 0, 0, 0, 0)]),
  (49, [(.iinc 2 1, 3, 1, 0, 0, 0), (.goto (-32), 3, 0, 20, 0, 0)]),
  (55, [(.iconst 1, 1, 1, 0, 0, 0), (.ireturn, 1, 0, 0, 0, 0)])]
/-- X7_has -/
def tp_P53 : List (Nat × List tp_Ins) := [(0, [(.iload_n 1, 1, 0, 0, 0, 0), (.ifCond .lt 15, 3, 0, 16, 0, 0), (.iload_n 1, 1, 0, 0, 0, 0), (.aload_n 0, 1, 0, 0, 0, 0), (.getfield 22, 3, 0, 7, 3, 117), (.if_icmp .ge 7, 3, 0, 16, 0, 0), (.iconst 1, 1, 1, 0, 0, 0), (.goto 4, 3, 0, 17, 0, 0)]),
  (16, [(.iconst 0, 1, 0, 0, 0, 0)]),
  (17, [(.ireturn, 1, 0, 0, 0, 0)])]
/-- X7_add -/
def tp_P54 : List (Nat × List tp_Ins) := [(0, [(.aload_n 0, 1, 0, 0, 0, 0), (.getfield 22, 3, 0, 7, 3, 117), (.bipush 16, 2, 16, 0, 0, 0), (.if_icmp .lt 6, 3, 0, 12, 0, 0), (.bipush (-3), 2, -3, 0, 0, 0), (.ireturn, 1, 0, 0, 0, 0)]),
  (12, [(.aload_n 0, 1, 0, 0, 0, 0), (.getfield 11, 3, 0, 7, 0, 111), (.aload_n 0, 1, 0, 0, 0, 0), (.getfield 22, 3, 0, 7, 3, 117), (.iload_n 1, 1, 0, 0, 0, 0), (.iastore, 1, 0, 0, 0, 0), (.aload_n 0, 1, 0, 0, 0, 0), (.getfield 15, 3, 0, 7, 1, 113), (.aload_n 0, 1, 0, 0, 0, 0), (.getfield 22, 3, 0, 7, 3, 117), (.iload_n 2, 1, 0, 0, 0, 0), (.bastore, 1, 0, 0, 0, 0), (.aload_n 0, 1, 0, 0, 0, 0), (.getfield 19, 3, 0, 7, 2, 115), (.aload_n 0, 1, 0, 0, 0, 0), (.getfield 22, 3, 0, 7, 3, 117), (.iconst 1, 1, 1, 0, 0, 0), (.bastore, 1, 0, 0, 0, 0), (.aload_n 0, 1, 0, 0, 0, 0), (.dup, 1, 0, 0, 0, 0), (.getfield 22, 3, 0, 7, 3, 117), (.dup_x1, 1, 0, 0, 0, 0), (.iconst 1, 1, 1, 0, 0, 0), (.iadd, 1, 0, 0, 0, 0), (.putfield 22, 3, 0, 7, 3, 117), (.ireturn, 1, 0, 0, 0, 0)])]
/-- X7_hasOpen -/
def tp_P55 : List (Nat × List tp_Ins) := [(0, [(.iconst 0, 1, 0, 0, 0, 0), (.istore_n 2, 1, 0, 0, 0, 0)]),
  (2, [(.iload_n 2, 1, 0, 0, 0, 0), (.aload_n 0, 1, 0, 0, 0, 0), (.getfield 22, 3, 0, 7, 3, 117), (.if_icmp .ge 30, 3, 0, 37, 0, 0), (.aload_n 0, 1, 0, 0, 0, 0), (.getfield 19, 3, 0, 7, 2, 115), (.iload_n 2, 1, 0, 0, 0, 0), (.baload, 1, 0, 0, 0, 0), (.ifCond .eq 15, 3, 0, 31, 0, 0), (.aload_n 0, 1, 0, 0, 0, 0), (.getfield 11, 3, 0, 7, 0, 111), (.iload_n 2, 1, 0, 0, 0, 0), (.iaload, 1, 0, 0, 0, 0), (.iload_n 1, 1, 0, 0, 0, 0), (.if_icmp .ne 5, 3, 0, 31, 0, 0), (.iconst 1, 1, 1, 0, 0, 0), (.ireturn, 1, 0, 0, 0, 0)]),
  (31, [(.iinc 2 1, 3, 1, 0, 0, 0), (.goto (-32), 3, 0, 2, 0, 0)]),
  (37, [(.iconst 0, 1, 0, 0, 0, 0), (.ireturn, 1, 0, 0, 0, 0)])]
/-- X7_howManyOpen -/
def tp_P56 : List (Nat × List tp_Ins) := [(0, [(.iconst 0, 1, 0, 0, 0, 0), (.istore_n 1, 1, 0, 0, 0, 0), (.iconst 0, 1, 0, 0, 0, 0), (.istore_n 2, 1, 0, 0, 0, 0)]),
  (4, [(.iload_n 2, 1, 0, 0, 0, 0), (.aload_n 0, 1, 0, 0, 0, 0), (.getfield 22, 3, 0, 7, 3, 117), (.if_icmp .ge 21, 3, 0, 30, 0, 0), (.aload_n 0, 1, 0, 0, 0, 0), (.getfield 19, 3, 0, 7, 2, 115), (.iload_n 2, 1, 0, 0, 0, 0), (.baload, 1, 0, 0, 0, 0), (.ifCond .eq 6, 3, 0, 24, 0, 0), (.iinc 1 1, 3, 1, 0, 0, 0)]),
  (24, [(.iinc 2 1, 3, 1, 0, 0, 0), (.goto (-23), 3, 0, 4, 0, 0)]),
  (30, [(.iload_n 1, 1, 0, 0, 0, 0), (.ireturn, 1, 0, 0, 0, 0)])]
/-- X7_stepOfStage -/
def tp_P57 : List (Nat × List tp_Ins) := [(0, [(.aload_n 0, 1, 0, 0, 0, 0), (.getfield 15, 3, 0, 7, 1, 113), (.iload_n 1, 1, 0, 0, 0, 0), (.baload, 1, 0, 0, 0, 0), (.ifCond .eq 7, 3, 0, 13, 0, 0), (.iload_n 2, 1, 0, 0, 0, 0), (.goto 7, 3, 0, 17, 0, 0)]),
  (13, [(.bipush 9, 2, 9, 0, 0, 0), (.iload_n 2, 1, 0, 0, 0, 0), (.isub, 1, 0, 0, 0, 0)]),
  (17, [(.ireturn, 1, 0, 0, 0, 0)])]
/-- X7_stepOfSection -/
def tp_P58 : List (Nat × List tp_Ins) := [(0, [(.aload_n 0, 1, 0, 0, 0, 0), (.getfield 15, 3, 0, 7, 1, 113), (.iload_n 1, 1, 0, 0, 0, 0), (.baload, 1, 0, 0, 0, 0), (.ifCond .eq 7, 3, 0, 13, 0, 0), (.iload_n 2, 1, 0, 0, 0, 0), (.goto 7, 3, 0, 17, 0, 0)]),
  (13, [(.bipush 8, 2, 8, 0, 0, 0), (.iload_n 2, 1, 0, 0, 0, 0), (.isub, 1, 0, 0, 0, 0)]),
  (17, [(.ireturn, 1, 0, 0, 0, 0)])]
/-- X8_has -/
def tp_P59 : List (Nat × List tp_Ins) := [(0, [(.iload_n 1, 1, 0, 0, 0, 0), (.ifCond .lt 15, 3, 0, 16, 0, 0), (.iload_n 1, 1, 0, 0, 0, 0), (.aload_n 0, 1, 0, 0, 0, 0), (.getfield 18, 3, 0, 8, 2, 79), (.if_icmp .ge 7, 3, 0, 16, 0, 0), (.iconst 1, 1, 1, 0, 0, 0), (.goto 4, 3, 0, 17, 0, 0)]),
  (16, [(.iconst 0, 1, 0, 0, 0, 0)]),
  (17, [(.ireturn, 1, 0, 0, 0, 0)])]
/-- X8_add -/
def tp_P60 : List (Nat × List tp_Ins) := [(0, [(.aload_n 0, 1, 0, 0, 0, 0), (.getfield 18, 3, 0, 8, 2, 79), (.iconst 5, 1, 5, 0, 0, 0), (.if_icmp .lt 6, 3, 0, 11, 0, 0), (.bipush (-3), 2, -3, 0, 0, 0), (.ireturn, 1, 0, 0, 0, 0)]),
  (11, [(.aload_n 0, 1, 0, 0, 0, 0), (.getfield 11, 3, 0, 8, 0, 75), (.aload_n 0, 1, 0, 0, 0, 0), (.getfield 18, 3, 0, 8, 2, 79), (.iload_n 1, 1, 0, 0, 0, 0), (.iastore, 1, 0, 0, 0, 0), (.aload_n 0, 1, 0, 0, 0, 0), (.getfield 15, 3, 0, 8, 1, 77), (.aload_n 0, 1, 0, 0, 0, 0), (.getfield 18, 3, 0, 8, 2, 79), (.iload_n 2, 1, 0, 0, 0, 0), (.iastore, 1, 0, 0, 0, 0), (.aload_n 0, 1, 0, 0, 0, 0), (.dup, 1, 0, 0, 0, 0), (.getfield 18, 3, 0, 8, 2, 79), (.dup_x1, 1, 0, 0, 0, 0), (.iconst 1, 1, 1, 0, 0, 0), (.iadd, 1, 0, 0, 0, 0), (.putfield 18, 3, 0, 8, 2, 79), (.ireturn, 1, 0, 0, 0, 0)])]
/-- X9_type -/
def tp_P61 : List (Nat × List tp_Ins) := [(0, [(.iload_n 1, 1, 0, 0, 0, 0), (.iconst 1, 1, 1, 0, 0, 0), (.bipush 60, 2, 60, 0, 0, 0), (.invokestatic 58, 3, 0, 91, 3, 322), (.ifCond .ne 13, 3, 0, 20, 0, 0), (.iload_n 2, 1, 0, 0, 0, 0), (.iconst 1, 1, 1, 0, 0, 0), (.bipush 9, 2, 9, 0, 0, 0), (.invokestatic 58, 3, 0, 91, 3, 322), (.ifCond .eq 5, 3, 0, 22, 0, 0)]),
  (20, [(.iconst (-1), 1, -1, 0, 0, 0), (.ireturn, 1, 0, 0, 0, 0)]),
  (22, [(.aload_n 0, 1, 0, 0, 0, 0), (.getfield 10, 3, 0, 9, 0, 296), (.iload_n 1, 1, 0, 0, 0, 0), (.iload_n 2, 1, 0, 0, 0, 0), (.invokevirtual 62, 3, 0, 60, 3, 325), (.ireturn, 1, 0, 0, 0, 0)])]
/-- X9_issue -/
def tp_P62 : List (Nat × List tp_Ins) := [(0, [(.aload_n 0, 1, 0, 0, 0, 0), (.iload_n 1, 1, 0, 0, 0, 0), (.iload_n 2, 1, 0, 0, 0, 0), (.invokevirtual 66, 3, 0, 92, 3, 333), (.ifCond .eq 25, 3, 0, 31, 0, 0), (.iload_n 3, 1, 0, 0, 0, 0), (.iconst 0, 1, 0, 0, 0, 0), (.ldc 70, 2, 100000, 0, 0, 341), (.invokestatic 58, 3, 0, 91, 3, 322), (.ifCond .ne 15, 3, 0, 31, 0, 0), (.iload 4, 2, 0, 0, 0, 0), (.iconst 0, 1, 0, 0, 0, 0), (.sipush 1000, 3, 1000, 0, 0, 0), (.invokestatic 58, 3, 0, 91, 3, 322), (.ifCond .eq 5, 3, 0, 33, 0, 0)]),
  (31, [(.iconst (-1), 1, -1, 0, 0, 0), (.ireturn, 1, 0, 0, 0, 0)]),
  (33, [(.aload_n 0, 1, 0, 0, 0, 0), (.getfield 33, 3, 0, 9, 3, 299), (.iload_n 2, 1, 0, 0, 0, 0), (.iload_n 3, 1, 0, 0, 0, 0), (.iload_n 3, 1, 0, 0, 0, 0), (.iload 4, 2, 0, 0, 0, 0), (.iadd, 1, 0, 0, 0, 0), (.invokevirtual 71, 3, 0, 34, 4, 342), (.ifCond .ne 20, 3, 0, 66, 0, 0), (.aload_n 0, 1, 0, 0, 0, 0), (.getfield 19, 3, 0, 9, 1, 297), (.iload_n 1, 1, 0, 0, 0, 0), (.iload_n 2, 1, 0, 0, 0, 0), (.iload_n 3, 1, 0, 0, 0, 0), (.iload_n 3, 1, 0, 0, 0, 0), (.iload 4, 2, 0, 0, 0, 0), (.iadd, 1, 0, 0, 0, 0), (.invokevirtual 74, 3, 0, 17, 5, 346), (.ifCond .eq 6, 3, 0, 69, 0, 0)]),
  (66, [(.bipush (-2), 2, -2, 0, 0, 0), (.ireturn, 1, 0, 0, 0, 0)]),
  (69, [(.aload_n 0, 1, 0, 0, 0, 0), (.getfield 19, 3, 0, 9, 1, 297), (.iload_n 1, 1, 0, 0, 0, 0), (.iload_n 2, 1, 0, 0, 0, 0), (.invokevirtual 78, 3, 0, 14, 3, 356), (.istore 5, 2, 0, 0, 0, 0), (.aload_n 0, 1, 0, 0, 0, 0), (.getfield 19, 3, 0, 9, 1, 297), (.iload_n 1, 1, 0, 0, 0, 0), (.iload_n 2, 1, 0, 0, 0, 0), (.iload_n 3, 1, 0, 0, 0, 0), (.iload_n 3, 1, 0, 0, 0, 0), (.iload 4, 2, 0, 0, 0, 0), (.iadd, 1, 0, 0, 0, 0), (.invokevirtual 81, 3, 0, 15, 5, 360), (.iload 5, 2, 0, 0, 0, 0), (.ireturn, 1, 0, 0, 0, 0)])]
/-- X9_pack -/
def tp_P63 : List (Nat × List tp_Ins) := [(0, [(.aload_n 0, 1, 0, 0, 0, 0), (.iload_n 1, 1, 0, 0, 0, 0), (.iload_n 2, 1, 0, 0, 0, 0), (.invokevirtual 66, 3, 0, 92, 3, 333), (.ifCond .eq 12, 3, 0, 18, 0, 0), (.iload_n 3, 1, 0, 0, 0, 0), (.iconst 0, 1, 0, 0, 0, 0), (.iconst 1, 1, 1, 0, 0, 0), (.invokestatic 58, 3, 0, 91, 3, 322), (.ifCond .eq 5, 3, 0, 20, 0, 0)]),
  (18, [(.iconst (-1), 1, -1, 0, 0, 0), (.ireturn, 1, 0, 0, 0, 0)]),
  (20, [(.aload_n 0, 1, 0, 0, 0, 0), (.getfield 19, 3, 0, 9, 1, 297), (.iload_n 1, 1, 0, 0, 0, 0), (.iload_n 2, 1, 0, 0, 0, 0), (.invokevirtual 78, 3, 0, 14, 3, 356), (.istore 4, 2, 0, 0, 0, 0), (.iload_n 3, 1, 0, 0, 0, 0), (.iconst 1, 1, 1, 0, 0, 0), (.if_icmp .ne 6, 3, 0, 39, 0, 0), (.iload 4, 2, 0, 0, 0, 0), (.ireturn, 1, 0, 0, 0, 0)]),
  (39, [(.iload 4, 2, 0, 0, 0, 0), (.ifCond .ne 8, 3, 0, 49, 0, 0), (.bipush (-4), 2, -4, 0, 0, 0), (.goto 14, 3, 0, 60, 0, 0)]),
  (49, [(.aload_n 0, 1, 0, 0, 0, 0), (.getfield 19, 3, 0, 9, 1, 297), (.getfield 85, 3, 0, 2, 0, 98), (.iload_n 1, 1, 0, 0, 0, 0), (.aaload, 1, 0, 0, 0, 0), (.iload_n 2, 1, 0, 0, 0, 0), (.iaload, 1, 0, 0, 0, 0)]),
  (60, [(.ireturn, 1, 0, 0, 0, 0)])]
/-- X9_trip -/
def tp_P64 : List (Nat × List tp_Ins) := [(0, [(.iload_n 1, 1, 0, 0, 0, 0), (.iconst 0, 1, 0, 0, 0, 0), (.iconst 5, 1, 5, 0, 0, 0), (.invokestatic 58, 3, 0, 91, 3, 322), (.ifCond .eq 5, 3, 0, 11, 0, 0), (.iconst (-1), 1, -1, 0, 0, 0), (.ireturn, 1, 0, 0, 0, 0)]),
  (11, [(.aload_n 0, 1, 0, 0, 0, 0), (.getfield 26, 3, 0, 9, 2, 298), (.iload_n 1, 1, 0, 0, 0, 0), (.invokevirtual 89, 3, 0, 55, 2, 372), (.ifCond .eq 8, 3, 0, 27, 0, 0), (.bipush (-2), 2, -2, 0, 0, 0), (.goto 12, 3, 0, 36, 0, 0)]),
  (27, [(.aload_n 0, 1, 0, 0, 0, 0), (.getfield 26, 3, 0, 9, 2, 298), (.iload_n 1, 1, 0, 0, 0, 0), (.iload_n 2, 1, 0, 0, 0, 0), (.invokevirtual 93, 3, 0, 54, 3, 376)]),
  (36, [(.ireturn, 1, 0, 0, 0, 0)])]
/-- X9_close -/
def tp_P65 : List (Nat × List tp_Ins) := [(0, [(.aload_n 0, 1, 0, 0, 0, 0), (.getfield 26, 3, 0, 9, 2, 298), (.iload_n 1, 1, 0, 0, 0, 0), (.invokevirtual 96, 3, 0, 53, 2, 384), (.ifCond .ne 5, 3, 0, 13, 0, 0), (.iconst (-1), 1, -1, 0, 0, 0), (.ireturn, 1, 0, 0, 0, 0)]),
  (13, [(.aload_n 0, 1, 0, 0, 0, 0), (.getfield 26, 3, 0, 9, 2, 298), (.getfield 99, 3, 0, 7, 2, 116), (.iload_n 1, 1, 0, 0, 0, 0), (.baload, 1, 0, 0, 0, 0), (.ifCond .ne 6, 3, 0, 28, 0, 0), (.bipush (-2), 2, -2, 0, 0, 0), (.ireturn, 1, 0, 0, 0, 0)]),
  (28, [(.aload_n 0, 1, 0, 0, 0, 0), (.getfield 26, 3, 0, 9, 2, 298), (.getfield 99, 3, 0, 7, 2, 116), (.iload_n 1, 1, 0, 0, 0, 0), (.iconst 0, 1, 0, 0, 0, 0), (.bastore, 1, 0, 0, 0, 0), (.aload_n 0, 1, 0, 0, 0, 0), (.iload_n 1, 1, 0, 0, 0, 0), (.invokevirtual 103, 3, 0, 93, 2, 388), (.ireturn, 1, 0, 0, 0, 0)])]
/-- X9_sell -/
def tp_P66 : List (Nat × List tp_Ins) := [(0, [(.aload_n 0, 1, 0, 0, 0, 0), (.getfield 26, 3, 0, 9, 2, 298), (.iload_n 1, 1, 0, 0, 0, 0), (.invokevirtual 96, 3, 0, 53, 2, 384), (.ifCond .eq 24, 3, 0, 32, 0, 0), (.aload_n 0, 1, 0, 0, 0, 0), (.getfield 10, 3, 0, 9, 0, 296), (.iload_n 2, 1, 0, 0, 0, 0), (.invokevirtual 107, 3, 0, 59, 2, 337), (.ifCond .eq 13, 3, 0, 32, 0, 0), (.iload_n 3, 1, 0, 0, 0, 0), (.iconst 0, 1, 0, 0, 0, 0), (.bipush 9, 2, 9, 0, 0, 0), (.invokestatic 58, 3, 0, 91, 3, 322), (.ifCond .eq 5, 3, 0, 34, 0, 0)]),
  (32, [(.iconst (-1), 1, -1, 0, 0, 0), (.ireturn, 1, 0, 0, 0, 0)]),
  (34, [(.aload_n 0, 1, 0, 0, 0, 0), (.getfield 26, 3, 0, 9, 2, 298), (.iload_n 1, 1, 0, 0, 0, 0), (.iload_n 3, 1, 0, 0, 0, 0), (.invokevirtual 108, 3, 0, 57, 3, 396), (.istore 4, 2, 0, 0, 0, 0), (.aload_n 0, 1, 0, 0, 0, 0), (.getfield 26, 3, 0, 9, 2, 298), (.getfield 99, 3, 0, 7, 2, 116), (.iload_n 1, 1, 0, 0, 0, 0), (.baload, 1, 0, 0, 0, 0), (.ifCond .eq 23, 3, 0, 77, 0, 0), (.iload 4, 2, 0, 0, 0, 0), (.aload_n 0, 1, 0, 0, 0, 0), (.getfield 33, 3, 0, 9, 3, 299), (.iload_n 1, 1, 0, 0, 0, 0), (.invokevirtual 111, 3, 0, 32, 2, 400), (.if_icmp .lt 10, 3, 0, 77, 0, 0), (.iload 4, 2, 0, 0, 0, 0), (.bipush 9, 2, 9, 0, 0, 0), (.if_icmp .ne 6, 3, 0, 80, 0, 0)]),
  (77, [(.bipush (-2), 2, -2, 0, 0, 0), (.ireturn, 1, 0, 0, 0, 0)]),
  (80, [(.aload_n 0, 1, 0, 0, 0, 0), (.getfield 33, 3, 0, 9, 3, 299), (.invokevirtual 114, 3, 0, 30, 1, 404), (.ifCond .eq 6, 3, 0, 93, 0, 0), (.bipush (-3), 2, -3, 0, 0, 0), (.ireturn, 1, 0, 0, 0, 0)]),
  (93, [(.aload_n 0, 1, 0, 0, 0, 0), (.getfield 26, 3, 0, 9, 2, 298), (.getfield 118, 3, 0, 7, 0, 112), (.iload_n 1, 1, 0, 0, 0, 0), (.iaload, 1, 0, 0, 0, 0), (.istore 5, 2, 0, 0, 0, 0), (.aload_n 0, 1, 0, 0, 0, 0), (.getfield 19, 3, 0, 9, 1, 297), (.iload 5, 2, 0, 0, 0, 0), (.iload_n 2, 1, 0, 0, 0, 0), (.invokevirtual 78, 3, 0, 14, 3, 356), (.ifCond .ne 6, 3, 0, 120, 0, 0), (.bipush (-4), 2, -4, 0, 0, 0), (.ireturn, 1, 0, 0, 0, 0)]),
  (120, [(.aload_n 0, 1, 0, 0, 0, 0), (.getfield 19, 3, 0, 9, 1, 297), (.iload 5, 2, 0, 0, 0, 0), (.iload_n 2, 1, 0, 0, 0, 0), (.invokevirtual 122, 3, 0, 16, 3, 408), (.istore 6, 2, 0, 0, 0, 0), (.aload_n 0, 1, 0, 0, 0, 0), (.getfield 33, 3, 0, 9, 3, 299), (.iload_n 1, 1, 0, 0, 0, 0), (.iload_n 2, 1, 0, 0, 0, 0), (.iload 4, 2, 0, 0, 0, 0), (.iload 6, 2, 0, 0, 0, 0), (.invokevirtual 125, 3, 0, 31, 5, 412), (.iload 6, 2, 0, 0, 0, 0), (.ireturn, 1, 0, 0, 0, 0)])]
/-- X9_undo -/
def tp_P67 : List (Nat × List tp_Ins) := [(0, [(.aload_n 0, 1, 0, 0, 0, 0), (.getfield 33, 3, 0, 9, 3, 299), (.getfield 127, 3, 0, 4, 4, 144), (.ifCond .ne 6, 3, 0, 13, 0, 0), (.bipush (-4), 2, -4, 0, 0, 0), (.ireturn, 1, 0, 0, 0, 0)]),
  (13, [(.aload_n 0, 1, 0, 0, 0, 0), (.getfield 33, 3, 0, 9, 3, 299), (.getfield 127, 3, 0, 4, 4, 144), (.iconst 1, 1, 1, 0, 0, 0), (.isub, 1, 0, 0, 0, 0), (.istore_n 1, 1, 0, 0, 0, 0), (.aload_n 0, 1, 0, 0, 0, 0), (.getfield 33, 3, 0, 9, 3, 299), (.getfield 131, 3, 0, 4, 0, 136), (.iload_n 1, 1, 0, 0, 0, 0), (.iaload, 1, 0, 0, 0, 0), (.istore_n 2, 1, 0, 0, 0, 0), (.aload_n 0, 1, 0, 0, 0, 0), (.getfield 19, 3, 0, 9, 1, 297), (.getfield 85, 3, 0, 2, 0, 98), (.aload_n 0, 1, 0, 0, 0, 0), (.getfield 26, 3, 0, 9, 2, 298), (.getfield 118, 3, 0, 7, 0, 112), (.iload_n 2, 1, 0, 0, 0, 0), (.iaload, 1, 0, 0, 0, 0), (.aaload, 1, 0, 0, 0, 0), (.aload_n 0, 1, 0, 0, 0, 0), (.getfield 33, 3, 0, 9, 3, 299), (.getfield 134, 3, 0, 4, 1, 138), (.iload_n 1, 1, 0, 0, 0, 0), (.iaload, 1, 0, 0, 0, 0), (.iaload, 1, 0, 0, 0, 0), (.istore_n 3, 1, 0, 0, 0, 0), (.aload_n 0, 1, 0, 0, 0, 0), (.getfield 26, 3, 0, 9, 2, 298), (.getfield 99, 3, 0, 7, 2, 116), (.iload_n 2, 1, 0, 0, 0, 0), (.baload, 1, 0, 0, 0, 0), (.ifCond .eq 18, 3, 0, 88, 0, 0), (.aload_n 0, 1, 0, 0, 0, 0), (.getfield 33, 3, 0, 9, 3, 299), (.getfield 137, 3, 0, 4, 3, 142), (.iload_n 1, 1, 0, 0, 0, 0), (.iaload, 1, 0, 0, 0, 0), (.iload_n 3, 1, 0, 0, 0, 0), (.iconst 1, 1, 1, 0, 0, 0), (.isub, 1, 0, 0, 0, 0), (.if_icmp .eq 6, 3, 0, 91, 0, 0)]),
  (88, [(.bipush (-2), 2, -2, 0, 0, 0), (.ireturn, 1, 0, 0, 0, 0)]),
  (91, [(.aload_n 0, 1, 0, 0, 0, 0), (.invokevirtual 140, 3, 0, 99, 1, 421), (.aload_n 0, 1, 0, 0, 0, 0), (.getfield 33, 3, 0, 9, 3, 299), (.getfield 127, 3, 0, 4, 4, 144), (.ireturn, 1, 0, 0, 0, 0)])]
/-- X9_sheet -/
def tp_P68 : List (Nat × List tp_Ins) := [(0, [(.iload_n 1, 1, 0, 0, 0, 0), (.iconst 0, 1, 0, 0, 0, 0), (.iconst 3, 1, 3, 0, 0, 0), (.invokestatic 58, 3, 0, 91, 3, 322), (.ifCond .ne 18, 3, 0, 24, 0, 0), (.iload_n 2, 1, 0, 0, 0, 0), (.iconst 0, 1, 0, 0, 0, 0), (.iconst 2, 1, 2, 0, 0, 0), (.invokestatic 58, 3, 0, 91, 3, 322), (.ifCond .ne 9, 3, 0, 24, 0, 0), (.iload_n 3, 1, 0, 0, 0, 0), (.bipush 64, 2, 64, 0, 0, 0), (.if_icmp .le 5, 3, 0, 26, 0, 0)]),
  (24, [(.iconst (-1), 1, -1, 0, 0, 0), (.ireturn, 1, 0, 0, 0, 0)]),
  (26, [(.iload_n 3, 1, 0, 0, 0, 0), (.ifCond .ge 6, 3, 0, 33, 0, 0), (.bipush (-14), 2, -14, 0, 0, 0), (.ireturn, 1, 0, 0, 0, 0)]),
  (33, [(.aload_n 0, 1, 0, 0, 0, 0), (.getfield 39, 3, 0, 9, 4, 300), (.iload_n 1, 1, 0, 0, 0, 0), (.aaload, 1, 0, 0, 0, 0), (.iload_n 2, 1, 0, 0, 0, 0), (.iload_n 3, 1, 0, 0, 0, 0), (.invokevirtual 143, 3, 0, 43, 3, 429), (.iconst 1, 1, 1, 0, 0, 0), (.ireturn, 1, 0, 0, 0, 0)])]
/-- X9_lay -/
def tp_P69 : List (Nat × List tp_Ins) := [(0, [(.iload_n 1, 1, 0, 0, 0, 0), (.iconst 0, 1, 0, 0, 0, 0), (.iconst 3, 1, 3, 0, 0, 0), (.invokestatic 58, 3, 0, 91, 3, 322), (.ifCond .eq 5, 3, 0, 11, 0, 0), (.iconst (-1), 1, -1, 0, 0, 0), (.ireturn, 1, 0, 0, 0, 0)]),
  (11, [(.aload_n 0, 1, 0, 0, 0, 0), (.getfield 39, 3, 0, 9, 4, 300), (.iload_n 1, 1, 0, 0, 0, 0), (.aaload, 1, 0, 0, 0, 0), (.astore 4, 2, 0, 0, 0, 0), (.aload 4, 2, 0, 0, 0, 0), (.invokevirtual 147, 3, 0, 41, 1, 437), (.ifCond .eq 6, 3, 0, 30, 0, 0), (.bipush (-11), 2, -11, 0, 0, 0), (.ireturn, 1, 0, 0, 0, 0)]),
  (30, [(.aload 4, 2, 0, 0, 0, 0), (.iload_n 2, 1, 0, 0, 0, 0), (.invokevirtual 150, 3, 0, 42, 2, 441), (.ifCond .ne 6, 3, 0, 42, 0, 0), (.bipush (-12), 2, -12, 0, 0, 0), (.ireturn, 1, 0, 0, 0, 0)]),
  (42, [(.aload 4, 2, 0, 0, 0, 0), (.iload_n 2, 1, 0, 0, 0, 0), (.iload_n 3, 1, 0, 0, 0, 0), (.invokevirtual 153, 3, 0, 44, 3, 445), (.iconst 1, 1, 1, 0, 0, 0), (.ireturn, 1, 0, 0, 0, 0)])]
/-- X9_scan -/
def tp_P70 : List (Nat × List tp_Ins) := [(0, [(.aload_n 0, 1, 0, 0, 0, 0), (.getfield 26, 3, 0, 9, 2, 298), (.iload_n 1, 1, 0, 0, 0, 0), (.invokevirtual 96, 3, 0, 53, 2, 384), (.ifCond .eq 32, 3, 0, 40, 0, 0), (.iload_n 2, 1, 0, 0, 0, 0), (.iconst 0, 1, 0, 0, 0, 0), (.iconst 3, 1, 3, 0, 0, 0), (.invokestatic 58, 3, 0, 91, 3, 322), (.ifCond .ne 23, 3, 0, 40, 0, 0), (.iload_n 3, 1, 0, 0, 0, 0), (.iconst 0, 1, 0, 0, 0, 0), (.iconst 2, 1, 2, 0, 0, 0), (.invokestatic 58, 3, 0, 91, 3, 322), (.ifCond .ne 14, 3, 0, 40, 0, 0), (.iload 5, 2, 0, 0, 0, 0), (.iconst 0, 1, 0, 0, 0, 0), (.bipush 32, 2, 32, 0, 0, 0), (.invokestatic 58, 3, 0, 91, 3, 322), (.ifCond .eq 5, 3, 0, 42, 0, 0)]),
  (40, [(.iconst (-1), 1, -1, 0, 0, 0), (.ireturn, 1, 0, 0, 0, 0)]),
  (42, [(.aload_n 0, 1, 0, 0, 0, 0), (.getfield 39, 3, 0, 9, 4, 300), (.iload_n 2, 1, 0, 0, 0, 0), (.aaload, 1, 0, 0, 0, 0), (.astore 6, 2, 0, 0, 0, 0), (.aload 6, 2, 0, 0, 0, 0), (.invokevirtual 147, 3, 0, 41, 1, 437), (.ifCond .eq 6, 3, 0, 61, 0, 0), (.bipush (-11), 2, -11, 0, 0, 0), (.ireturn, 1, 0, 0, 0, 0)]),
  (61, [(.aload 6, 2, 0, 0, 0, 0), (.getfield 156, 3, 0, 5, 1, 166), (.iload_n 3, 1, 0, 0, 0, 0), (.if_icmp .eq 6, 3, 0, 73, 0, 0), (.bipush (-13), 2, -13, 0, 0, 0), (.ireturn, 1, 0, 0, 0, 0)]),
  (73, [(.iconst 0, 1, 0, 0, 0, 0), (.istore 7, 2, 0, 0, 0, 0)]),
  (76, [(.iload 7, 2, 0, 0, 0, 0), (.iload 5, 2, 0, 0, 0, 0), (.if_icmp .ge 39, 3, 0, 119, 0, 0), (.aload_n 0, 1, 0, 0, 0, 0), (.iload_n 1, 1, 0, 0, 0, 0), (.aload 6, 2, 0, 0, 0, 0), (.iload 4, 2, 0, 0, 0, 0), (.iconst 2, 1, 2, 0, 0, 0), (.iload 7, 2, 0, 0, 0, 0), (.imul, 1, 0, 0, 0, 0), (.iadd, 1, 0, 0, 0, 0), (.invokevirtual 159, 3, 0, 97, 4, 454), (.istore 8, 2, 0, 0, 0, 0), (.iload 8, 2, 0, 0, 0, 0), (.ifCond .ge 12, 3, 0, 113, 0, 0), (.aload_n 0, 1, 0, 0, 0, 0), (.iload 7, 2, 0, 0, 0, 0), (.invokevirtual 163, 3, 0, 98, 2, 459), (.iload 8, 2, 0, 0, 0, 0), (.ireturn, 1, 0, 0, 0, 0)]),
  (113, [(.iinc 7 1, 3, 1, 0, 0, 0), (.goto (-40), 3, 0, 76, 0, 0)]),
  (119, [(.iload 5, 2, 0, 0, 0, 0), (.ireturn, 1, 0, 0, 0, 0)])]
/-- X9_waybill -/
def tp_P71 : List (Nat × List tp_Ins) := [(0, [(.aload_n 0, 1, 0, 0, 0, 0), (.getfield 26, 3, 0, 9, 2, 298), (.iload_n 1, 1, 0, 0, 0, 0), (.invokevirtual 96, 3, 0, 53, 2, 384), (.ifCond .eq 23, 3, 0, 31, 0, 0), (.aload_n 0, 1, 0, 0, 0, 0), (.getfield 10, 3, 0, 9, 0, 296), (.iload_n 2, 1, 0, 0, 0, 0), (.invokevirtual 107, 3, 0, 59, 2, 337), (.ifCond .eq 12, 3, 0, 31, 0, 0), (.iload_n 3, 1, 0, 0, 0, 0), (.iconst 0, 1, 0, 0, 0, 0), (.iconst 2, 1, 2, 0, 0, 0), (.invokestatic 58, 3, 0, 91, 3, 322), (.ifCond .eq 5, 3, 0, 33, 0, 0)]),
  (31, [(.iconst (-1), 1, -1, 0, 0, 0), (.ireturn, 1, 0, 0, 0, 0)]),
  (33, [(.iload_n 3, 1, 0, 0, 0, 0), (.ifCond .ne 13, 3, 0, 47, 0, 0), (.aload_n 0, 1, 0, 0, 0, 0), (.getfield 33, 3, 0, 9, 3, 299), (.iload_n 1, 1, 0, 0, 0, 0), (.iload_n 2, 1, 0, 0, 0, 0), (.invokevirtual 167, 3, 0, 37, 3, 467), (.ireturn, 1, 0, 0, 0, 0)]),
  (47, [(.iload_n 3, 1, 0, 0, 0, 0), (.iconst 1, 1, 1, 0, 0, 0), (.if_icmp .ne 15, 3, 0, 64, 0, 0), (.aload_n 0, 1, 0, 0, 0, 0), (.getfield 33, 3, 0, 9, 3, 299), (.iload_n 1, 1, 0, 0, 0, 0), (.iload_n 2, 1, 0, 0, 0, 0), (.invokevirtual 170, 3, 0, 38, 3, 475), (.goto 12, 3, 0, 73, 0, 0)]),
  (64, [(.aload_n 0, 1, 0, 0, 0, 0), (.getfield 33, 3, 0, 9, 3, 299), (.iload_n 1, 1, 0, 0, 0, 0), (.iload_n 2, 1, 0, 0, 0, 0), (.invokevirtual 173, 3, 0, 39, 3, 479)]),
  (73, [(.istore 4, 2, 0, 0, 0, 0), (.iload 4, 2, 0, 0, 0, 0), (.ifCond .ge 8, 3, 0, 85, 0, 0), (.bipush (-4), 2, -4, 0, 0, 0), (.goto 13, 3, 0, 95, 0, 0)]),
  (85, [(.aload_n 0, 1, 0, 0, 0, 0), (.getfield 33, 3, 0, 9, 3, 299), (.getfield 137, 3, 0, 4, 3, 142), (.iload 4, 2, 0, 0, 0, 0), (.iaload, 1, 0, 0, 0, 0)]),
  (95, [(.ireturn, 1, 0, 0, 0, 0)])]
/-- X9_money -/
def tp_P72 : List (Nat × List tp_Ins) := [(0, [(.aload_n 0, 1, 0, 0, 0, 0), (.getfield 26, 3, 0, 9, 2, 298), (.iload_n 1, 1, 0, 0, 0, 0), (.invokevirtual 96, 3, 0, 53, 2, 384), (.ifCond .eq 11, 3, 0, 19, 0, 0), (.aload_n 0, 1, 0, 0, 0, 0), (.iload_n 1, 1, 0, 0, 0, 0), (.invokevirtual 103, 3, 0, 93, 2, 388), (.goto 4, 3, 0, 20, 0, 0)]),
  (19, [(.iconst (-1), 1, -1, 0, 0, 0)]),
  (20, [(.ireturn, 1, 0, 0, 0, 0)])]
/-- X9_paid -/
def tp_P73 : List (Nat × List tp_Ins) := [(0, [(.iload_n 1, 1, 0, 0, 0, 0), (.iconst 0, 1, 0, 0, 0, 0), (.iconst 5, 1, 5, 0, 0, 0), (.invokestatic 58, 3, 0, 91, 3, 322), (.ifCond .ne 13, 3, 0, 19, 0, 0), (.iload_n 2, 1, 0, 0, 0, 0), (.iconst 0, 1, 0, 0, 0, 0), (.ldc 70, 2, 100000, 0, 0, 341), (.invokestatic 58, 3, 0, 91, 3, 322), (.ifCond .eq 6, 3, 0, 22, 0, 0)]),
  (19, [(.ldc 176, 2, -1000000, 0, 0, 491), (.ireturn, 1, 0, 0, 0, 0)]),
  (22, [(.iload_n 2, 1, 0, 0, 0, 0), (.istore_n 3, 1, 0, 0, 0, 0), (.iconst 0, 1, 0, 0, 0, 0), (.istore 4, 2, 0, 0, 0, 0)]),
  (27, [(.iload 4, 2, 0, 0, 0, 0), (.aload_n 0, 1, 0, 0, 0, 0), (.getfield 26, 3, 0, 9, 2, 298), (.getfield 177, 3, 0, 7, 3, 118), (.if_icmp .ge 45, 3, 0, 81, 0, 0), (.aload_n 0, 1, 0, 0, 0, 0), (.getfield 26, 3, 0, 9, 2, 298), (.getfield 118, 3, 0, 7, 0, 112), (.iload 4, 2, 0, 0, 0, 0), (.iaload, 1, 0, 0, 0, 0), (.iload_n 1, 1, 0, 0, 0, 0), (.if_icmp .ne 25, 3, 0, 75, 0, 0), (.aload_n 0, 1, 0, 0, 0, 0), (.getfield 26, 3, 0, 9, 2, 298), (.getfield 99, 3, 0, 7, 2, 116), (.iload 4, 2, 0, 0, 0, 0), (.baload, 1, 0, 0, 0, 0), (.ifCond .ne 12, 3, 0, 75, 0, 0), (.iload_n 3, 1, 0, 0, 0, 0), (.aload_n 0, 1, 0, 0, 0, 0), (.iload 4, 2, 0, 0, 0, 0), (.invokevirtual 103, 3, 0, 93, 2, 388), (.isub, 1, 0, 0, 0, 0), (.istore_n 3, 1, 0, 0, 0, 0)]),
  (75, [(.iinc 4 1, 3, 1, 0, 0, 0), (.goto (-51), 3, 0, 27, 0, 0)]),
  (81, [(.iload_n 3, 1, 0, 0, 0, 0), (.ireturn, 1, 0, 0, 0, 0)])]
/-- X9_aboard -/
def tp_P74 : List (Nat × List tp_Ins) := [(0, [(.aload_n 0, 1, 0, 0, 0, 0), (.getfield 26, 3, 0, 9, 2, 298), (.iload_n 1, 1, 0, 0, 0, 0), (.invokevirtual 96, 3, 0, 53, 2, 384), (.ifCond .eq 22, 3, 0, 30, 0, 0), (.iload_n 2, 1, 0, 0, 0, 0), (.iconst 0, 1, 0, 0, 0, 0), (.bipush 8, 2, 8, 0, 0, 0), (.invokestatic 58, 3, 0, 91, 3, 322), (.ifCond .ne 12, 3, 0, 30, 0, 0), (.iload_n 3, 1, 0, 0, 0, 0), (.iconst 0, 1, 0, 0, 0, 0), (.iconst 1, 1, 1, 0, 0, 0), (.invokestatic 58, 3, 0, 91, 3, 322), (.ifCond .eq 5, 3, 0, 32, 0, 0)]),
  (30, [(.iconst (-1), 1, -1, 0, 0, 0), (.ireturn, 1, 0, 0, 0, 0)]),
  (32, [(.aload_n 0, 1, 0, 0, 0, 0), (.iload_n 1, 1, 0, 0, 0, 0), (.iload_n 2, 1, 0, 0, 0, 0), (.iload_n 3, 1, 0, 0, 0, 0), (.invokevirtual 178, 3, 0, 94, 4, 496), (.ireturn, 1, 0, 0, 0, 0)])]
/-- X9_riders -/
def tp_P75 : List (Nat × List tp_Ins) := [(0, [(.iload_n 2, 1, 0, 0, 0, 0), (.iconst 0, 1, 0, 0, 0, 0), (.bipush 8, 2, 8, 0, 0, 0), (.invokestatic 58, 3, 0, 91, 3, 322), (.ifCond .ne 12, 3, 0, 19, 0, 0), (.iload_n 3, 1, 0, 0, 0, 0), (.iconst 0, 1, 0, 0, 0, 0), (.iconst 1, 1, 1, 0, 0, 0), (.invokestatic 58, 3, 0, 91, 3, 322), (.ifCond .eq 5, 3, 0, 21, 0, 0)]),
  (19, [(.iconst (-1), 1, -1, 0, 0, 0), (.ireturn, 1, 0, 0, 0, 0)]),
  (21, [(.iconst 0, 1, 0, 0, 0, 0), (.istore 4, 2, 0, 0, 0, 0), (.iconst 0, 1, 0, 0, 0, 0), (.istore 5, 2, 0, 0, 0, 0)]),
  (27, [(.iload 5, 2, 0, 0, 0, 0), (.aload_n 0, 1, 0, 0, 0, 0), (.getfield 33, 3, 0, 9, 3, 299), (.getfield 127, 3, 0, 4, 4, 144), (.if_icmp .ge 45, 3, 0, 81, 0, 0), (.aload_n 0, 1, 0, 0, 0, 0), (.getfield 26, 3, 0, 9, 2, 298), (.getfield 182, 3, 0, 7, 1, 114), (.aload_n 0, 1, 0, 0, 0, 0), (.getfield 33, 3, 0, 9, 3, 299), (.getfield 131, 3, 0, 4, 0, 136), (.iload 5, 2, 0, 0, 0, 0), (.iaload, 1, 0, 0, 0, 0), (.baload, 1, 0, 0, 0, 0), (.iload_n 1, 1, 0, 0, 0, 0), (.if_icmp .ne 17, 3, 0, 75, 0, 0), (.aload_n 0, 1, 0, 0, 0, 0), (.iload 5, 2, 0, 0, 0, 0), (.iload_n 2, 1, 0, 0, 0, 0), (.iload_n 3, 1, 0, 0, 0, 0), (.invokevirtual 185, 3, 0, 95, 4, 500), (.ifCond .eq 6, 3, 0, 75, 0, 0), (.iinc 4 1, 3, 1, 0, 0, 0)]),
  (75, [(.iinc 5 1, 3, 1, 0, 0, 0), (.goto (-51), 3, 0, 27, 0, 0)]),
  (81, [(.iload 4, 2, 0, 0, 0, 0), (.ireturn, 1, 0, 0, 0, 0)])]
/-- X9_shown -/
def tp_P76 : List (Nat × List tp_Ins) := [(0, [(.aload_n 0, 1, 0, 0, 0, 0), (.getfield 26, 3, 0, 9, 2, 298), (.iload_n 1, 1, 0, 0, 0, 0), (.invokevirtual 96, 3, 0, 53, 2, 384), (.ifCond .eq 29, 3, 0, 37, 0, 0), (.iload_n 2, 1, 0, 0, 0, 0), (.iconst 0, 1, 0, 0, 0, 0), (.bipush 8, 2, 8, 0, 0, 0), (.invokestatic 58, 3, 0, 91, 3, 322), (.ifCond .ne 19, 3, 0, 37, 0, 0), (.aload_n 0, 1, 0, 0, 0, 0), (.getfield 10, 3, 0, 9, 0, 296), (.iload_n 3, 1, 0, 0, 0, 0), (.invokevirtual 107, 3, 0, 59, 2, 337), (.ifCond .eq 8, 3, 0, 37, 0, 0), (.iload 4, 2, 0, 0, 0, 0), (.ifCond .ge 5, 3, 0, 39, 0, 0)]),
  (37, [(.iconst (-1), 1, -1, 0, 0, 0), (.ireturn, 1, 0, 0, 0, 0)]),
  (39, [(.aload_n 0, 1, 0, 0, 0, 0), (.getfield 33, 3, 0, 9, 3, 299), (.iload_n 3, 1, 0, 0, 0, 0), (.iload 4, 2, 0, 0, 0, 0), (.invokevirtual 188, 3, 0, 33, 3, 520), (.istore 5, 2, 0, 0, 0, 0), (.iload 5, 2, 0, 0, 0, 0), (.ifCond .ge 5, 3, 0, 58, 0, 0), (.iconst 1, 1, 1, 0, 0, 0), (.ireturn, 1, 0, 0, 0, 0)]),
  (58, [(.aload_n 0, 1, 0, 0, 0, 0), (.getfield 33, 3, 0, 9, 3, 299), (.getfield 131, 3, 0, 4, 0, 136), (.iload 5, 2, 0, 0, 0, 0), (.iaload, 1, 0, 0, 0, 0), (.iload_n 1, 1, 0, 0, 0, 0), (.if_icmp .eq 5, 3, 0, 74, 0, 0), (.iconst 2, 1, 2, 0, 0, 0), (.ireturn, 1, 0, 0, 0, 0)]),
  (74, [(.aload_n 0, 1, 0, 0, 0, 0), (.getfield 26, 3, 0, 9, 2, 298), (.iload_n 1, 1, 0, 0, 0, 0), (.iload_n 2, 1, 0, 0, 0, 0), (.invokevirtual 191, 3, 0, 58, 3, 504), (.istore 6, 2, 0, 0, 0, 0), (.aload_n 0, 1, 0, 0, 0, 0), (.getfield 33, 3, 0, 9, 3, 299), (.getfield 194, 3, 0, 4, 2, 140), (.iload 5, 2, 0, 0, 0, 0), (.iaload, 1, 0, 0, 0, 0), (.iload 6, 2, 0, 0, 0, 0), (.if_icmp .le 5, 3, 0, 102, 0, 0), (.iconst 3, 1, 3, 0, 0, 0), (.ireturn, 1, 0, 0, 0, 0)]),
  (102, [(.aload_n 0, 1, 0, 0, 0, 0), (.iload 5, 2, 0, 0, 0, 0), (.iload 6, 2, 0, 0, 0, 0), (.invokevirtual 197, 3, 0, 96, 3, 508), (.ifCond .eq 7, 3, 0, 117, 0, 0), (.iconst 0, 1, 0, 0, 0, 0), (.goto 4, 3, 0, 118, 0, 0)]),
  (117, [(.iconst 4, 1, 4, 0, 0, 0)]),
  (118, [(.ireturn, 1, 0, 0, 0, 0)])]
/-- X9_heads -/
def tp_P77 : List (Nat × List tp_Ins) := [(0, [(.aload_n 0, 1, 0, 0, 0, 0), (.getfield 26, 3, 0, 9, 2, 298), (.iload_n 1, 1, 0, 0, 0, 0), (.invokevirtual 96, 3, 0, 53, 2, 384), (.ifCond .eq 24, 3, 0, 32, 0, 0), (.iload_n 2, 1, 0, 0, 0, 0), (.iconst 0, 1, 0, 0, 0, 0), (.bipush 8, 2, 8, 0, 0, 0), (.invokestatic 58, 3, 0, 91, 3, 322), (.ifCond .ne 14, 3, 0, 32, 0, 0), (.iload_n 3, 1, 0, 0, 0, 0), (.iconst 0, 1, 0, 0, 0, 0), (.sipush 1000, 3, 1000, 0, 0, 0), (.invokestatic 58, 3, 0, 91, 3, 322), (.ifCond .eq 6, 3, 0, 35, 0, 0)]),
  (32, [(.ldc 176, 2, -1000000, 0, 0, 491), (.ireturn, 1, 0, 0, 0, 0)]),
  (35, [(.aload_n 0, 1, 0, 0, 0, 0), (.iload_n 1, 1, 0, 0, 0, 0), (.iload_n 2, 1, 0, 0, 0, 0), (.iconst 1, 1, 1, 0, 0, 0), (.invokevirtual 178, 3, 0, 94, 4, 496), (.istore 4, 2, 0, 0, 0, 0), (.iload_n 3, 1, 0, 0, 0, 0), (.iload 4, 2, 0, 0, 0, 0), (.if_icmp .le 8, 3, 0, 55, 0, 0), (.iload_n 3, 1, 0, 0, 0, 0), (.iload 4, 2, 0, 0, 0, 0), (.isub, 1, 0, 0, 0, 0), (.ireturn, 1, 0, 0, 0, 0)]),
  (55, [(.aload_n 0, 1, 0, 0, 0, 0), (.iload_n 1, 1, 0, 0, 0, 0), (.iload_n 2, 1, 0, 0, 0, 0), (.iconst 0, 1, 0, 0, 0, 0), (.invokevirtual 178, 3, 0, 94, 4, 496), (.istore 5, 2, 0, 0, 0, 0), (.iload_n 3, 1, 0, 0, 0, 0), (.iload 5, 2, 0, 0, 0, 0), (.if_icmp .ge 10, 3, 0, 77, 0, 0), (.iload_n 3, 1, 0, 0, 0, 0), (.iload 5, 2, 0, 0, 0, 0), (.isub, 1, 0, 0, 0, 0), (.goto 4, 3, 0, 78, 0, 0)]),
  (77, [(.iconst 0, 1, 0, 0, 0, 0)]),
  (78, [(.ireturn, 1, 0, 0, 0, 0)])]
/-- X9_gap -/
def tp_P78 : List (Nat × List tp_Ins) := [(0, [(.aload_n 0, 1, 0, 0, 0, 0), (.getfield 10, 3, 0, 9, 0, 296), (.iload_n 1, 1, 0, 0, 0, 0), (.invokevirtual 107, 3, 0, 59, 2, 337), (.ifCond .ne 5, 3, 0, 13, 0, 0), (.iconst (-1), 1, -1, 0, 0, 0), (.ireturn, 1, 0, 0, 0, 0)]),
  (13, [(.aload_n 0, 1, 0, 0, 0, 0), (.getfield 33, 3, 0, 9, 3, 299), (.iload_n 1, 1, 0, 0, 0, 0), (.invokevirtual 200, 3, 0, 36, 2, 532), (.istore_n 2, 1, 0, 0, 0, 0), (.iconst 0, 1, 0, 0, 0, 0), (.istore_n 3, 1, 0, 0, 0, 0), (.iconst 0, 1, 0, 0, 0, 0), (.istore 4, 2, 0, 0, 0, 0)]),
  (27, [(.iload 4, 2, 0, 0, 0, 0), (.sipush 206, 3, 206, 0, 0, 0), (.if_icmp .gt 33, 3, 0, 65, 0, 0), (.iload_n 3, 1, 0, 0, 0, 0), (.iload_n 2, 1, 0, 0, 0, 0), (.if_icmp .ge 28, 3, 0, 65, 0, 0), (.aload_n 0, 1, 0, 0, 0, 0), (.iload_n 1, 1, 0, 0, 0, 0), (.iload_n 3, 1, 0, 0, 0, 0), (.invokevirtual 203, 3, 0, 100, 3, 537), (.istore 5, 2, 0, 0, 0, 0), (.iload 5, 2, 0, 0, 0, 0), (.iload_n 3, 1, 0, 0, 0, 0), (.if_icmp .ne 5, 3, 0, 56, 0, 0), (.iload_n 3, 1, 0, 0, 0, 0), (.ireturn, 1, 0, 0, 0, 0)]),
  (56, [(.iload 5, 2, 0, 0, 0, 0), (.istore_n 3, 1, 0, 0, 0, 0), (.iinc 4 1, 3, 1, 0, 0, 0), (.goto (-35), 3, 0, 27, 0, 0)]),
  (65, [(.bipush (-4), 2, -4, 0, 0, 0), (.ireturn, 1, 0, 0, 0, 0)])]
/-- X9_feed -/
def tp_P79 : List (Nat × List tp_Ins) := [(0, [(.aload_n 0, 1, 0, 0, 0, 0), (.getfield 47, 3, 0, 9, 5, 301), (.getfield 206, 3, 0, 0, 0, 241), (.lload_n 1, 1, 0, 0, 0, 0), (.invokevirtual 210, 3, 0, 45, 2, 553), (.ireturn, 1, 0, 0, 0, 0)])]
/-- X9_end -/
def tp_P80 : List (Nat × List tp_Ins) := [(0, [(.aload_n 0, 1, 0, 0, 0, 0), (.getfield 47, 3, 0, 9, 5, 301), (.getfield 206, 3, 0, 0, 0, 241), (.getfield 216, 3, 0, 6, 1, 191), (.istore_n 2, 1, 0, 0, 0, 0), (.iload_n 1, 1, 0, 0, 0, 0), (.iconst 0, 1, 0, 0, 0, 0), (.iload_n 2, 1, 0, 0, 0, 0), (.invokestatic 58, 3, 0, 91, 3, 322), (.ifCond .eq 5, 3, 0, 22, 0, 0), (.iconst (-1), 1, -1, 0, 0, 0), (.ireturn, 1, 0, 0, 0, 0)]),
  (22, [(.aload_n 0, 1, 0, 0, 0, 0), (.getfield 47, 3, 0, 9, 5, 301), (.getfield 206, 3, 0, 0, 0, 241), (.iload_n 1, 1, 0, 0, 0, 0), (.putfield 216, 3, 0, 6, 1, 191), (.iload_n 2, 1, 0, 0, 0, 0), (.ireturn, 1, 0, 0, 0, 0)])]
/-- X9_laws -/
def tp_P81 : List (Nat × List tp_Ins) := [(0, [(.aload_n 0, 1, 0, 0, 0, 0), (.getfield 47, 3, 0, 9, 5, 301), (.invokevirtual 219, 3, 0, 0, 1, 565), (.ireturn, 1, 0, 0, 0, 0)])]
/-- X9_fault -/
def tp_P82 : List (Nat × List tp_Ins) := [(0, [(.aload_n 0, 1, 0, 0, 0, 0), (.getfield 47, 3, 0, 9, 5, 301), (.getfield 223, 3, 0, 0, 2, 245), (.ireturn, 1, 0, 0, 0, 0)])]
/-- X9_fare -/
def tp_P83 : List (Nat × List tp_Ins) := [(0, [(.iload_n 1, 1, 0, 0, 0, 0), (.iconst 1, 1, 1, 0, 0, 0), (.bipush 9, 2, 9, 0, 0, 0), (.invokestatic 58, 3, 0, 91, 3, 322), (.ifCond .ne 14, 3, 0, 21, 0, 0), (.iload_n 2, 1, 0, 0, 0, 0), (.iconst 0, 1, 0, 0, 0, 0), (.sipush 1439, 3, 1439, 0, 0, 0), (.invokestatic 58, 3, 0, 91, 3, 322), (.ifCond .eq 5, 3, 0, 23, 0, 0)]),
  (21, [(.iconst (-1), 1, -1, 0, 0, 0), (.ireturn, 1, 0, 0, 0, 0)]),
  (23, [(.aload_n 0, 1, 0, 0, 0, 0), (.getfield 47, 3, 0, 9, 5, 301), (.getfield 226, 3, 0, 0, 1, 243), (.iload_n 1, 1, 0, 0, 0, 0), (.iload_n 2, 1, 0, 0, 0, 0), (.bipush 60, 2, 60, 0, 0, 0), (.idiv, 1, 0, 0, 0, 0), (.invokevirtual 230, 3, 0, 11, 3, 704), (.ireturn, 1, 0, 0, 0, 0)])]
/-- X9_change -/
def tp_P84 : List (Nat × List tp_Ins) := [(0, [(.iload_n 1, 1, 0, 0, 0, 0), (.iconst 0, 1, 0, 0, 0, 0), (.sipush 1439, 3, 1439, 0, 0, 0), (.invokestatic 58, 3, 0, 91, 3, 322), (.ifCond .ne 14, 3, 0, 22, 0, 0), (.iload_n 2, 1, 0, 0, 0, 0), (.iload_n 1, 1, 0, 0, 0, 0), (.sipush 1439, 3, 1439, 0, 0, 0), (.invokestatic 58, 3, 0, 91, 3, 322), (.ifCond .eq 5, 3, 0, 24, 0, 0)]),
  (22, [(.iconst (-1), 1, -1, 0, 0, 0), (.ireturn, 1, 0, 0, 0, 0)]),
  (24, [(.aload_n 0, 1, 0, 0, 0, 0), (.getfield 47, 3, 0, 9, 5, 301), (.getfield 226, 3, 0, 0, 1, 243), (.iload_n 2, 1, 0, 0, 0, 0), (.iload_n 1, 1, 0, 0, 0, 0), (.isub, 1, 0, 0, 0, 0), (.invokevirtual 235, 3, 0, 13, 2, 716), (.ifCond .eq 7, 3, 0, 44, 0, 0), (.iconst 1, 1, 1, 0, 0, 0), (.goto 4, 3, 0, 45, 0, 0)]),
  (44, [(.iconst 0, 1, 0, 0, 0, 0)]),
  (45, [(.ireturn, 1, 0, 0, 0, 0)])]
/-- X9_duty -/
def tp_P85 : List (Nat × List tp_Ins) := [(0, [(.iload_n 1, 1, 0, 0, 0, 0), (.iconst 0, 1, 0, 0, 0, 0), (.sipush 1440, 3, 1440, 0, 0, 0), (.invokestatic 58, 3, 0, 91, 3, 322), (.ifCond .ne 16, 3, 0, 24, 0, 0), (.iload_n 2, 1, 0, 0, 0, 0), (.iload_n 1, 1, 0, 0, 0, 0), (.iconst 1, 1, 1, 0, 0, 0), (.iadd, 1, 0, 0, 0, 0), (.sipush 1440, 3, 1440, 0, 0, 0), (.invokestatic 58, 3, 0, 91, 3, 322), (.ifCond .eq 5, 3, 0, 26, 0, 0)]),
  (24, [(.iconst (-1), 1, -1, 0, 0, 0), (.ireturn, 1, 0, 0, 0, 0)]),
  (26, [(.aload_n 0, 1, 0, 0, 0, 0), (.getfield 54, 3, 0, 9, 6, 302), (.iload_n 1, 1, 0, 0, 0, 0), (.iload_n 2, 1, 0, 0, 0, 0), (.invokevirtual 238, 3, 0, 19, 3, 724), (.ireturn, 1, 0, 0, 0, 0)])]
/-- X9_rest -/
def tp_P86 : List (Nat × List tp_Ins) := [(0, [(.iload_n 1, 1, 0, 0, 0, 0), (.iconst 0, 1, 0, 0, 0, 0), (.sipush 600, 3, 600, 0, 0, 0), (.invokestatic 58, 3, 0, 91, 3, 322), (.ifCond .eq 7, 3, 0, 15, 0, 0), (.iconst (-1), 1, -1, 0, 0, 0), (.goto 11, 3, 0, 23, 0, 0)]),
  (15, [(.aload_n 0, 1, 0, 0, 0, 0), (.getfield 54, 3, 0, 9, 6, 302), (.iload_n 1, 1, 0, 0, 0, 0), (.invokevirtual 239, 3, 0, 20, 2, 745)]),
  (23, [(.ireturn, 1, 0, 0, 0, 0)])]
/-- X9_crew -/
def tp_P87 : List (Nat × List tp_Ins) := [(0, [(.iload_n 1, 1, 0, 0, 0, 0), (.iconst 0, 1, 0, 0, 0, 0), (.aload_n 0, 1, 0, 0, 0, 0), (.getfield 54, 3, 0, 9, 6, 302), (.getfield 242, 3, 0, 3, 4, 277), (.iconst 1, 1, 1, 0, 0, 0), (.isub, 1, 0, 0, 0, 0), (.invokestatic 58, 3, 0, 91, 3, 322), (.ifCond .eq 7, 3, 0, 21, 0, 0), (.iconst (-1), 1, -1, 0, 0, 0), (.goto 12, 3, 0, 30, 0, 0)]),
  (21, [(.aload_n 0, 1, 0, 0, 0, 0), (.getfield 54, 3, 0, 9, 6, 302), (.getfield 243, 3, 0, 3, 3, 275), (.iload_n 1, 1, 0, 0, 0, 0), (.iaload, 1, 0, 0, 0, 0)]),
  (30, [(.ireturn, 1, 0, 0, 0, 0)])]
/-- X9_crews -/
def tp_P88 : List (Nat × List tp_Ins) := [(0, [(.iload_n 1, 1, 0, 0, 0, 0), (.iconst 0, 1, 0, 0, 0, 0), (.iconst 2, 1, 2, 0, 0, 0), (.invokestatic 58, 3, 0, 91, 3, 322), (.ifCond .eq 5, 3, 0, 11, 0, 0), (.iconst (-1), 1, -1, 0, 0, 0), (.ireturn, 1, 0, 0, 0, 0)]),
  (11, [(.iload_n 1, 1, 0, 0, 0, 0), (.ifCond .ne 11, 3, 0, 23, 0, 0), (.aload_n 0, 1, 0, 0, 0, 0), (.getfield 54, 3, 0, 9, 6, 302), (.getfield 246, 3, 0, 3, 5, 279), (.ireturn, 1, 0, 0, 0, 0)]),
  (23, [(.aload_n 0, 1, 0, 0, 0, 0), (.getfield 54, 3, 0, 9, 6, 302), (.invokevirtual 249, 3, 0, 25, 1, 757), (.istore_n 2, 1, 0, 0, 0, 0), (.iload_n 1, 1, 0, 0, 0, 0), (.iconst 1, 1, 1, 0, 0, 0), (.if_icmp .ne 20, 3, 0, 53, 0, 0), (.iload_n 2, 1, 0, 0, 0, 0), (.ifCond .ge 7, 3, 0, 44, 0, 0), (.iconst 0, 1, 0, 0, 0, 0), (.goto 11, 3, 0, 52, 0, 0)]),
  (44, [(.aload_n 0, 1, 0, 0, 0, 0), (.getfield 54, 3, 0, 9, 6, 302), (.iload_n 2, 1, 0, 0, 0, 0), (.invokevirtual 252, 3, 0, 24, 2, 765)]),
  (52, [(.ireturn, 1, 0, 0, 0, 0)]),
  (53, [(.iload_n 2, 1, 0, 0, 0, 0), (.ifCond .ge 8, 3, 0, 62, 0, 0), (.bipush (-4), 2, -4, 0, 0, 0), (.goto 4, 3, 0, 63, 0, 0)]),
  (62, [(.iload_n 2, 1, 0, 0, 0, 0)]),
  (63, [(.ireturn, 1, 0, 0, 0, 0)])]
/-- X9_ill -/
def tp_P89 : List (Nat × List tp_Ins) := [(0, [(.iload_n 1, 1, 0, 0, 0, 0), (.iconst 0, 1, 0, 0, 0, 0), (.aload_n 0, 1, 0, 0, 0, 0), (.getfield 54, 3, 0, 9, 6, 302), (.getfield 246, 3, 0, 3, 5, 279), (.iconst 1, 1, 1, 0, 0, 0), (.isub, 1, 0, 0, 0, 0), (.invokestatic 58, 3, 0, 91, 3, 322), (.ifCond .eq 7, 3, 0, 21, 0, 0), (.iconst (-1), 1, -1, 0, 0, 0), (.goto 11, 3, 0, 29, 0, 0)]),
  (21, [(.aload_n 0, 1, 0, 0, 0, 0), (.getfield 54, 3, 0, 9, 6, 302), (.iload_n 1, 1, 0, 0, 0, 0), (.invokevirtual 255, 3, 0, 26, 2, 770)]),
  (29, [(.ireturn, 1, 0, 0, 0, 0)])]
/-- X9_count -/
def tp_P90 : List (Nat × List tp_Ins) := [(0, [(.iload_n 1, 1, 0, 0, 0, 0), (.tableswitch 136 0 7 #[47, 55, 63, 71, 79, 87, 98, 125], 47, 0, 0, 0, 0)]),
  (48, [(.aload_n 0, 1, 0, 0, 0, 0), (.getfield 10, 3, 0, 9, 0, 296), (.getfield 258, 3, 0, 8, 2, 80), (.ireturn, 1, 0, 0, 0, 0)]),
  (56, [(.aload_n 0, 1, 0, 0, 0, 0), (.getfield 26, 3, 0, 9, 2, 298), (.getfield 177, 3, 0, 7, 3, 118), (.ireturn, 1, 0, 0, 0, 0)]),
  (64, [(.aload_n 0, 1, 0, 0, 0, 0), (.getfield 33, 3, 0, 9, 3, 299), (.getfield 127, 3, 0, 4, 4, 144), (.ireturn, 1, 0, 0, 0, 0)]),
  (72, [(.aload_n 0, 1, 0, 0, 0, 0), (.getfield 26, 3, 0, 9, 2, 298), (.invokevirtual 259, 3, 0, 56, 1, 790), (.ireturn, 1, 0, 0, 0, 0)]),
  (80, [(.aload_n 0, 1, 0, 0, 0, 0), (.getfield 54, 3, 0, 9, 6, 302), (.getfield 242, 3, 0, 3, 4, 277), (.ireturn, 1, 0, 0, 0, 0)]),
  (88, [(.aload_n 0, 1, 0, 0, 0, 0), (.getfield 47, 3, 0, 9, 5, 301), (.getfield 226, 3, 0, 0, 1, 243), (.invokevirtual 262, 3, 0, 7, 1, 794), (.ireturn, 1, 0, 0, 0, 0)]),
  (99, [(.aload_n 0, 1, 0, 0, 0, 0), (.getfield 39, 3, 0, 9, 4, 300), (.iconst 0, 1, 0, 0, 0, 0), (.aaload, 1, 0, 0, 0, 0), (.invokevirtual 147, 3, 0, 41, 1, 437), (.ifCond .eq 8, 3, 0, 116, 0, 0), (.bipush (-4), 2, -4, 0, 0, 0), (.goto 12, 3, 0, 125, 0, 0)]),
  (116, [(.aload_n 0, 1, 0, 0, 0, 0), (.getfield 39, 3, 0, 9, 4, 300), (.iconst 0, 1, 0, 0, 0, 0), (.aaload, 1, 0, 0, 0, 0), (.getfield 264, 3, 0, 5, 2, 168)]),
  (125, [(.ireturn, 1, 0, 0, 0, 0)]),
  (126, [(.aload_n 0, 1, 0, 0, 0, 0), (.getfield 47, 3, 0, 9, 5, 301), (.getfield 206, 3, 0, 0, 0, 241), (.getfield 216, 3, 0, 6, 1, 191), (.ireturn, 1, 0, 0, 0, 0)]),
  (137, [(.iconst (-1), 1, -1, 0, 0, 0), (.ireturn, 1, 0, 0, 0, 0)])]
/-- X9_isOutside -/
def tp_P91 : List (Nat × List tp_Ins) := [(0, [(.iload_n 0, 1, 0, 0, 0, 0), (.iload_n 1, 1, 0, 0, 0, 0), (.if_icmp .lt 8, 3, 0, 10, 0, 0), (.iload_n 0, 1, 0, 0, 0, 0), (.iload_n 2, 1, 0, 0, 0, 0), (.if_icmp .le 7, 3, 0, 14, 0, 0)]),
  (10, [(.iconst 1, 1, 1, 0, 0, 0), (.goto 4, 3, 0, 15, 0, 0)]),
  (14, [(.iconst 0, 1, 0, 0, 0, 0)]),
  (15, [(.ireturn, 1, 0, 0, 0, 0)])]
/-- X9_hasPack -/
def tp_P92 : List (Nat × List tp_Ins) := [(0, [(.iload_n 1, 1, 0, 0, 0, 0), (.iconst 0, 1, 0, 0, 0, 0), (.iconst 5, 1, 5, 0, 0, 0), (.invokestatic 58, 3, 0, 91, 3, 322), (.ifCond .ne 18, 3, 0, 24, 0, 0), (.aload_n 0, 1, 0, 0, 0, 0), (.getfield 10, 3, 0, 9, 0, 296), (.iload_n 2, 1, 0, 0, 0, 0), (.invokevirtual 107, 3, 0, 59, 2, 337), (.ifCond .eq 7, 3, 0, 24, 0, 0), (.iconst 1, 1, 1, 0, 0, 0), (.goto 4, 3, 0, 25, 0, 0)]),
  (24, [(.iconst 0, 1, 0, 0, 0, 0)]),
  (25, [(.ireturn, 1, 0, 0, 0, 0)])]
/-- X9_takings -/
def tp_P93 : List (Nat × List tp_Ins) := [(0, [(.iconst 0, 1, 0, 0, 0, 0), (.istore_n 2, 1, 0, 0, 0, 0), (.iconst 0, 1, 0, 0, 0, 0), (.istore_n 3, 1, 0, 0, 0, 0)]),
  (4, [(.iload_n 3, 1, 0, 0, 0, 0), (.aload_n 0, 1, 0, 0, 0, 0), (.getfield 33, 3, 0, 9, 3, 299), (.getfield 127, 3, 0, 4, 4, 144), (.if_icmp .ge 42, 3, 0, 54, 0, 0), (.aload_n 0, 1, 0, 0, 0, 0), (.getfield 33, 3, 0, 9, 3, 299), (.getfield 131, 3, 0, 4, 0, 136), (.iload_n 3, 1, 0, 0, 0, 0), (.iaload, 1, 0, 0, 0, 0), (.iload_n 1, 1, 0, 0, 0, 0), (.if_icmp .ne 23, 3, 0, 48, 0, 0), (.iload_n 2, 1, 0, 0, 0, 0), (.aload_n 0, 1, 0, 0, 0, 0), (.getfield 10, 3, 0, 9, 0, 296), (.getfield 266, 3, 0, 8, 0, 76), (.aload_n 0, 1, 0, 0, 0, 0), (.getfield 33, 3, 0, 9, 3, 299), (.getfield 134, 3, 0, 4, 1, 138), (.iload_n 3, 1, 0, 0, 0, 0), (.iaload, 1, 0, 0, 0, 0), (.iaload, 1, 0, 0, 0, 0), (.iadd, 1, 0, 0, 0, 0), (.istore_n 2, 1, 0, 0, 0, 0)]),
  (48, [(.iinc 3 1, 3, 1, 0, 0, 0), (.goto (-47), 3, 0, 4, 0, 0)]),
  (54, [(.iload_n 2, 1, 0, 0, 0, 0), (.ireturn, 1, 0, 0, 0, 0)])]
/-- X9_howManyAboard -/
def tp_P94 : List (Nat × List tp_Ins) := [(0, [(.iconst 0, 1, 0, 0, 0, 0), (.istore 4, 2, 0, 0, 0, 0), (.iconst 0, 1, 0, 0, 0, 0), (.istore 5, 2, 0, 0, 0, 0)]),
  (6, [(.iload 5, 2, 0, 0, 0, 0), (.aload_n 0, 1, 0, 0, 0, 0), (.getfield 33, 3, 0, 9, 3, 299), (.getfield 127, 3, 0, 4, 4, 144), (.if_icmp .ge 37, 3, 0, 52, 0, 0), (.aload_n 0, 1, 0, 0, 0, 0), (.getfield 33, 3, 0, 9, 3, 299), (.getfield 131, 3, 0, 4, 0, 136), (.iload 5, 2, 0, 0, 0, 0), (.iaload, 1, 0, 0, 0, 0), (.iload_n 1, 1, 0, 0, 0, 0), (.if_icmp .ne 17, 3, 0, 46, 0, 0), (.aload_n 0, 1, 0, 0, 0, 0), (.iload 5, 2, 0, 0, 0, 0), (.iload_n 2, 1, 0, 0, 0, 0), (.iload_n 3, 1, 0, 0, 0, 0), (.invokevirtual 185, 3, 0, 95, 4, 500), (.ifCond .eq 6, 3, 0, 46, 0, 0), (.iinc 4 1, 3, 1, 0, 0, 0)]),
  (46, [(.iinc 5 1, 3, 1, 0, 0, 0), (.goto (-43), 3, 0, 6, 0, 0)]),
  (52, [(.iload 4, 2, 0, 0, 0, 0), (.ireturn, 1, 0, 0, 0, 0)])]
/-- X9_isAboard -/
def tp_P95 : List (Nat × List tp_Ins) := [(0, [(.aload_n 0, 1, 0, 0, 0, 0), (.getfield 26, 3, 0, 9, 2, 298), (.aload_n 0, 1, 0, 0, 0, 0), (.getfield 33, 3, 0, 9, 3, 299), (.getfield 131, 3, 0, 4, 0, 136), (.iload_n 1, 1, 0, 0, 0, 0), (.iaload, 1, 0, 0, 0, 0), (.iload_n 2, 1, 0, 0, 0, 0), (.invokevirtual 191, 3, 0, 58, 3, 504), (.istore 4, 2, 0, 0, 0, 0), (.iload_n 3, 1, 0, 0, 0, 0), (.ifCond .ne 25, 3, 0, 45, 0, 0), (.aload_n 0, 1, 0, 0, 0, 0), (.getfield 33, 3, 0, 9, 3, 299), (.getfield 194, 3, 0, 4, 2, 140), (.iload_n 1, 1, 0, 0, 0, 0), (.iaload, 1, 0, 0, 0, 0), (.iload 4, 2, 0, 0, 0, 0), (.if_icmp .ne 7, 3, 0, 41, 0, 0), (.iconst 1, 1, 1, 0, 0, 0), (.goto 14, 3, 0, 52, 0, 0)]),
  (41, [(.iconst 0, 1, 0, 0, 0, 0), (.goto 10, 3, 0, 52, 0, 0)]),
  (45, [(.aload_n 0, 1, 0, 0, 0, 0), (.iload_n 1, 1, 0, 0, 0, 0), (.iload 4, 2, 0, 0, 0, 0), (.invokevirtual 197, 3, 0, 96, 3, 508)]),
  (52, [(.ireturn, 1, 0, 0, 0, 0)])]
/-- X9_isGoodAt -/
def tp_P96 : List (Nat × List tp_Ins) := [(0, [(.aload_n 0, 1, 0, 0, 0, 0), (.getfield 33, 3, 0, 9, 3, 299), (.getfield 194, 3, 0, 4, 2, 140), (.iload_n 1, 1, 0, 0, 0, 0), (.iaload, 1, 0, 0, 0, 0), (.istore_n 3, 1, 0, 0, 0, 0), (.iload_n 2, 1, 0, 0, 0, 0), (.iload_n 3, 1, 0, 0, 0, 0), (.if_icmp .lt 30, 3, 0, 42, 0, 0), (.iload_n 2, 1, 0, 0, 0, 0), (.iload_n 3, 1, 0, 0, 0, 0), (.aload_n 0, 1, 0, 0, 0, 0), (.getfield 10, 3, 0, 9, 0, 296), (.getfield 269, 3, 0, 8, 1, 78), (.aload_n 0, 1, 0, 0, 0, 0), (.getfield 33, 3, 0, 9, 3, 299), (.getfield 134, 3, 0, 4, 1, 138), (.iload_n 1, 1, 0, 0, 0, 0), (.iaload, 1, 0, 0, 0, 0), (.iaload, 1, 0, 0, 0, 0), (.iadd, 1, 0, 0, 0, 0), (.if_icmp .ge 7, 3, 0, 42, 0, 0), (.iconst 1, 1, 1, 0, 0, 0), (.goto 4, 3, 0, 43, 0, 0)]),
  (42, [(.iconst 0, 1, 0, 0, 0, 0)]),
  (43, [(.ireturn, 1, 0, 0, 0, 0)])]
/-- X9_sellFromSheet -/
def tp_P97 : List (Nat × List tp_Ins) := [(0, [(.aload_n 2, 1, 0, 0, 0, 0), (.iload_n 3, 1, 0, 0, 0, 0), (.invokevirtual 150, 3, 0, 42, 2, 441), (.ifCond .eq 13, 3, 0, 18, 0, 0), (.aload_n 2, 1, 0, 0, 0, 0), (.iload_n 3, 1, 0, 0, 0, 0), (.iconst 1, 1, 1, 0, 0, 0), (.iadd, 1, 0, 0, 0, 0), (.invokevirtual 150, 3, 0, 42, 2, 441), (.ifCond .ne 6, 3, 0, 21, 0, 0)]),
  (18, [(.bipush (-12), 2, -12, 0, 0, 0), (.ireturn, 1, 0, 0, 0, 0)]),
  (21, [(.aload_n 0, 1, 0, 0, 0, 0), (.iload_n 1, 1, 0, 0, 0, 0), (.aload_n 2, 1, 0, 0, 0, 0), (.getfield 272, 3, 0, 5, 0, 164), (.iload_n 3, 1, 0, 0, 0, 0), (.iaload, 1, 0, 0, 0, 0), (.aload_n 2, 1, 0, 0, 0, 0), (.getfield 272, 3, 0, 5, 0, 164), (.iload_n 3, 1, 0, 0, 0, 0), (.iconst 1, 1, 1, 0, 0, 0), (.iadd, 1, 0, 0, 0, 0), (.iaload, 1, 0, 0, 0, 0), (.invokevirtual 275, 3, 0, 66, 4, 458), (.istore 4, 2, 0, 0, 0, 0), (.iload 4, 2, 0, 0, 0, 0), (.ifCond .ge 11, 3, 0, 55, 0, 0), (.bipush (-20), 2, -20, 0, 0, 0), (.iload 4, 2, 0, 0, 0, 0), (.iadd, 1, 0, 0, 0, 0), (.goto 5, 3, 0, 57, 0, 0)]),
  (55, [(.iload 4, 2, 0, 0, 0, 0)]),
  (57, [(.ireturn, 1, 0, 0, 0, 0)])]
/-- X9_takeBack -/
def tp_P98 : List (Nat × List tp_Ins) := [(0, [(.iconst 0, 1, 0, 0, 0, 0), (.istore_n 2, 1, 0, 0, 0, 0)]),
  (2, [(.iload_n 2, 1, 0, 0, 0, 0), (.iload_n 1, 1, 0, 0, 0, 0), (.if_icmp .ge 23, 3, 0, 27, 0, 0), (.aload_n 0, 1, 0, 0, 0, 0), (.getfield 33, 3, 0, 9, 3, 299), (.getfield 127, 3, 0, 4, 4, 144), (.ifCond .le 13, 3, 0, 27, 0, 0), (.aload_n 0, 1, 0, 0, 0, 0), (.invokevirtual 140, 3, 0, 99, 1, 421), (.iinc 2 1, 3, 1, 0, 0, 0), (.goto (-22), 3, 0, 2, 0, 0)]),
  (27, [(.return_, 1, 0, 0, 0, 0)])]
/-- X9_takeBackLatest -/
def tp_P99 : List (Nat × List tp_Ins) := [(0, [(.aload_n 0, 1, 0, 0, 0, 0), (.getfield 33, 3, 0, 9, 3, 299), (.getfield 127, 3, 0, 4, 4, 144), (.iconst 1, 1, 1, 0, 0, 0), (.isub, 1, 0, 0, 0, 0), (.istore_n 1, 1, 0, 0, 0, 0), (.aload_n 0, 1, 0, 0, 0, 0), (.getfield 26, 3, 0, 9, 2, 298), (.getfield 118, 3, 0, 7, 0, 112), (.aload_n 0, 1, 0, 0, 0, 0), (.getfield 33, 3, 0, 9, 3, 299), (.getfield 131, 3, 0, 4, 0, 136), (.iload_n 1, 1, 0, 0, 0, 0), (.iaload, 1, 0, 0, 0, 0), (.iaload, 1, 0, 0, 0, 0), (.istore_n 2, 1, 0, 0, 0, 0), (.aload_n 0, 1, 0, 0, 0, 0), (.getfield 19, 3, 0, 9, 1, 297), (.getfield 85, 3, 0, 2, 0, 98), (.iload_n 2, 1, 0, 0, 0, 0), (.aaload, 1, 0, 0, 0, 0), (.aload_n 0, 1, 0, 0, 0, 0), (.getfield 33, 3, 0, 9, 3, 299), (.getfield 134, 3, 0, 4, 1, 138), (.iload_n 1, 1, 0, 0, 0, 0), (.iaload, 1, 0, 0, 0, 0), (.aload_n 0, 1, 0, 0, 0, 0), (.getfield 33, 3, 0, 9, 3, 299), (.getfield 137, 3, 0, 4, 3, 142), (.iload_n 1, 1, 0, 0, 0, 0), (.iaload, 1, 0, 0, 0, 0), (.iastore, 1, 0, 0, 0, 0), (.aload_n 0, 1, 0, 0, 0, 0), (.getfield 33, 3, 0, 9, 3, 299), (.iload_n 1, 1, 0, 0, 0, 0), (.putfield 127, 3, 0, 4, 4, 144), (.return_, 1, 0, 0, 0, 0)])]
/-- X9_beyondHeld -/
def tp_P100 : List (Nat × List tp_Ins) := [(0, [(.aload_n 0, 1, 0, 0, 0, 0), (.getfield 19, 3, 0, 9, 1, 297), (.iload_n 1, 1, 0, 0, 0, 0), (.aload_n 0, 1, 0, 0, 0, 0), (.getfield 33, 3, 0, 9, 3, 299), (.iload_n 1, 1, 0, 0, 0, 0), (.iload_n 2, 1, 0, 0, 0, 0), (.invokevirtual 278, 3, 0, 35, 3, 541), (.invokevirtual 281, 3, 0, 18, 3, 545), (.ireturn, 1, 0, 0, 0, 0)])]
/-- X10_in -/
def tp_P101 : List (Nat × List tp_Ins) := [(0, [(.lload_n 0, 1, 0, 0, 0, 0), (.lload_n 2, 1, 0, 0, 0, 0), (.lcmp, 1, 0, 0, 0, 0), (.ifCond .lt 14, 3, 0, 17, 0, 0), (.lload_n 0, 1, 0, 0, 0, 0), (.lload 4, 2, 0, 0, 0, 0), (.lcmp, 1, 0, 0, 0, 0), (.ifCond .gt 7, 3, 0, 17, 0, 0), (.iconst 1, 1, 1, 0, 0, 0), (.goto 4, 3, 0, 18, 0, 0)]),
  (17, [(.iconst 0, 1, 0, 0, 0, 0)]),
  (18, [(.ireturn, 1, 0, 0, 0, 0)])]
/-- X10_type -/
def tp_P102 : List (Nat × List tp_Ins) := [(0, [(.iload_n 1, 1, 0, 0, 0, 0), (.i2l, 1, 0, 0, 0, 0), (.lconst 1, 1, 0, 0, 0, 0), (.ldc2_w 87, 3, 0, 60, 0, 938), (.invokestatic 89, 3, 0, 101, 3, 939), (.ifCond .eq 15, 3, 0, 24, 0, 0), (.iload_n 2, 1, 0, 0, 0, 0), (.i2l, 1, 0, 0, 0, 0), (.lconst 1, 1, 0, 0, 0, 0), (.ldc2_w 93, 3, 0, 9, 0, 942), (.invokestatic 89, 3, 0, 101, 3, 939), (.ifCond .ne 5, 3, 0, 26, 0, 0)]),
  (24, [(.iconst (-1), 1, -1, 0, 0, 0), (.ireturn, 1, 0, 0, 0, 0)]),
  (26, [(.aload_n 0, 1, 0, 0, 0, 0), (.getfield 95, 3, 0, 10, 0, 801), (.iconst 5, 1, 5, 0, 0, 0), (.if_icmp .ne 6, 3, 0, 37, 0, 0), (.bipush (-3), 2, -3, 0, 0, 0), (.ireturn, 1, 0, 0, 0, 0)]),
  (37, [(.aload_n 0, 1, 0, 0, 0, 0), (.getfield 7, 3, 0, 10, 1, 802), (.aload_n 0, 1, 0, 0, 0, 0), (.getfield 95, 3, 0, 10, 0, 801), (.iload_n 1, 1, 0, 0, 0, 0), (.iastore, 1, 0, 0, 0, 0), (.aload_n 0, 1, 0, 0, 0, 0), (.getfield 13, 3, 0, 10, 2, 803), (.aload_n 0, 1, 0, 0, 0, 0), (.getfield 95, 3, 0, 10, 0, 801), (.iload_n 2, 1, 0, 0, 0, 0), (.iastore, 1, 0, 0, 0, 0), (.aload_n 0, 1, 0, 0, 0, 0), (.dup, 1, 0, 0, 0, 0), (.getfield 95, 3, 0, 10, 0, 801), (.iconst 1, 1, 1, 0, 0, 0), (.iadd, 1, 0, 0, 0, 0), (.putfield 95, 3, 0, 10, 0, 801), (.aload_n 0, 1, 0, 0, 0, 0), (.getfield 95, 3, 0, 10, 0, 801), (.iconst 1, 1, 1, 0, 0, 0), (.isub, 1, 0, 0, 0, 0), (.ireturn, 1, 0, 0, 0, 0)])]
/-- X10_isPack -/
def tp_P103 : List (Nat × List tp_Ins) := [(0, [(.iload_n 1, 1, 0, 0, 0, 0), (.i2l, 1, 0, 0, 0, 0), (.lconst 0, 1, 0, 0, 0, 0), (.ldc2_w 98, 3, 0, 5, 0, 951), (.invokestatic 89, 3, 0, 101, 3, 939), (.ifCond .eq 23, 3, 0, 32, 0, 0), (.iload_n 2, 1, 0, 0, 0, 0), (.i2l, 1, 0, 0, 0, 0), (.lconst 0, 1, 0, 0, 0, 0), (.aload_n 0, 1, 0, 0, 0, 0), (.getfield 95, 3, 0, 10, 0, 801), (.iconst 1, 1, 1, 0, 0, 0), (.isub, 1, 0, 0, 0, 0), (.i2l, 1, 0, 0, 0, 0), (.invokestatic 89, 3, 0, 101, 3, 939), (.ifCond .eq 7, 3, 0, 32, 0, 0), (.iconst 1, 1, 1, 0, 0, 0), (.goto 4, 3, 0, 33, 0, 0)]),
  (32, [(.iconst 0, 1, 0, 0, 0, 0)]),
  (33, [(.ireturn, 1, 0, 0, 0, 0)])]
/-- X10_issue -/
def tp_P104 : List (Nat × List tp_Ins) := [(0, [(.aload_n 0, 1, 0, 0, 0, 0), (.iload_n 1, 1, 0, 0, 0, 0), (.iload_n 2, 1, 0, 0, 0, 0), (.invokevirtual 100, 3, 0, 103, 3, 947), (.ifCond .eq 28, 3, 0, 34, 0, 0), (.iload_n 3, 1, 0, 0, 0, 0), (.i2l, 1, 0, 0, 0, 0), (.lconst 0, 1, 0, 0, 0, 0), (.ldc2_w 104, 3, 0, 100000, 0, 952), (.invokestatic 89, 3, 0, 101, 3, 939), (.ifCond .eq 16, 3, 0, 34, 0, 0), (.iload 4, 2, 0, 0, 0, 0), (.i2l, 1, 0, 0, 0, 0), (.lconst 0, 1, 0, 0, 0, 0), (.ldc2_w 106, 3, 0, 1000, 0, 953), (.invokestatic 89, 3, 0, 101, 3, 939), (.ifCond .ne 5, 3, 0, 36, 0, 0)]),
  (34, [(.iconst (-1), 1, -1, 0, 0, 0), (.ireturn, 1, 0, 0, 0, 0)]),
  (36, [(.iconst 0, 1, 0, 0, 0, 0), (.istore 5, 2, 0, 0, 0, 0), (.iconst 0, 1, 0, 0, 0, 0), (.istore 6, 2, 0, 0, 0, 0)]),
  (42, [(.iload 6, 2, 0, 0, 0, 0), (.aload_n 0, 1, 0, 0, 0, 0), (.getfield 108, 3, 0, 10, 9, 810), (.if_icmp .ge 55, 3, 0, 103, 0, 0), (.iload 5, 2, 0, 0, 0, 0), (.ifCond .ne 37, 3, 0, 90, 0, 0), (.aload_n 0, 1, 0, 0, 0, 0), (.getfield 35, 3, 0, 10, 11, 812), (.iload 6, 2, 0, 0, 0, 0), (.iaload, 1, 0, 0, 0, 0), (.iload_n 2, 1, 0, 0, 0, 0), (.if_icmp .ne 30, 3, 0, 94, 0, 0), (.aload_n 0, 1, 0, 0, 0, 0), (.getfield 41, 3, 0, 10, 13, 814), (.iload 6, 2, 0, 0, 0, 0), (.iaload, 1, 0, 0, 0, 0), (.i2l, 1, 0, 0, 0, 0), (.iload_n 3, 1, 0, 0, 0, 0), (.i2l, 1, 0, 0, 0, 0), (.iload_n 3, 1, 0, 0, 0, 0), (.iload 4, 2, 0, 0, 0, 0), (.iadd, 1, 0, 0, 0, 0), (.iconst 1, 1, 1, 0, 0, 0), (.isub, 1, 0, 0, 0, 0), (.i2l, 1, 0, 0, 0, 0), (.invokestatic 89, 3, 0, 101, 3, 939), (.ifCond .eq 7, 3, 0, 94, 0, 0)]),
  (90, [(.iconst 1, 1, 1, 0, 0, 0), (.goto 4, 3, 0, 95, 0, 0)]),
  (94, [(.iconst 0, 1, 0, 0, 0, 0)]),
  (95, [(.istore 5, 2, 0, 0, 0, 0), (.iinc 6 1, 3, 1, 0, 0, 0), (.goto (-58), 3, 0, 42, 0, 0)]),
  (103, [(.iconst 0, 1, 0, 0, 0, 0), (.istore 6, 2, 0, 0, 0, 0)]),
  (106, [(.iload 6, 2, 0, 0, 0, 0), (.bipush 6, 2, 6, 0, 0, 0), (.if_icmp .ge 82, 3, 0, 192, 0, 0), (.iconst 5, 1, 5, 0, 0, 0), (.iload 6, 2, 0, 0, 0, 0), (.imul, 1, 0, 0, 0, 0), (.iload_n 2, 1, 0, 0, 0, 0), (.iadd, 1, 0, 0, 0, 0), (.istore 7, 2, 0, 0, 0, 0), (.iload 5, 2, 0, 0, 0, 0), (.ifCond .ne 56, 3, 0, 179, 0, 0), (.iload 6, 2, 0, 0, 0, 0), (.iload_n 1, 1, 0, 0, 0, 0), (.if_icmp .eq 54, 3, 0, 183, 0, 0), (.aload_n 0, 1, 0, 0, 0, 0), (.getfield 16, 3, 0, 10, 3, 804), (.iload 7, 2, 0, 0, 0, 0), (.iaload, 1, 0, 0, 0, 0), (.iload_n 3, 1, 0, 0, 0, 0), (.iload 4, 2, 0, 0, 0, 0), (.iadd, 1, 0, 0, 0, 0), (.if_icmp .ge 40, 3, 0, 183, 0, 0), (.iload_n 3, 1, 0, 0, 0, 0), (.aload_n 0, 1, 0, 0, 0, 0), (.getfield 19, 3, 0, 10, 4, 805), (.iload 7, 2, 0, 0, 0, 0), (.iaload, 1, 0, 0, 0, 0), (.if_icmp .ge 29, 3, 0, 183, 0, 0), (.aload_n 0, 1, 0, 0, 0, 0), (.getfield 16, 3, 0, 10, 3, 804), (.iload 7, 2, 0, 0, 0, 0), (.iaload, 1, 0, 0, 0, 0), (.aload_n 0, 1, 0, 0, 0, 0), (.getfield 19, 3, 0, 10, 4, 805), (.iload 7, 2, 0, 0, 0, 0), (.iaload, 1, 0, 0, 0, 0), (.if_icmp .ge 12, 3, 0, 183, 0, 0), (.iload 4, 2, 0, 0, 0, 0), (.ifCond .le 7, 3, 0, 183, 0, 0)]),
  (179, [(.iconst 1, 1, 1, 0, 0, 0), (.goto 4, 3, 0, 184, 0, 0)]),
  (183, [(.iconst 0, 1, 0, 0, 0, 0)]),
  (184, [(.istore 5, 2, 0, 0, 0, 0), (.iinc 6 1, 3, 1, 0, 0, 0), (.goto (-83), 3, 0, 106, 0, 0)]),
  (192, [(.iload 5, 2, 0, 0, 0, 0), (.ifCond .eq 6, 3, 0, 200, 0, 0), (.bipush (-2), 2, -2, 0, 0, 0), (.ireturn, 1, 0, 0, 0, 0)]),
  (200, [(.iconst 5, 1, 5, 0, 0, 0), (.iload_n 1, 1, 0, 0, 0, 0), (.imul, 1, 0, 0, 0, 0), (.iload_n 2, 1, 0, 0, 0, 0), (.iadd, 1, 0, 0, 0, 0), (.istore 6, 2, 0, 0, 0, 0), (.aload_n 0, 1, 0, 0, 0, 0), (.getfield 19, 3, 0, 10, 4, 805), (.iload 6, 2, 0, 0, 0, 0), (.iaload, 1, 0, 0, 0, 0), (.aload_n 0, 1, 0, 0, 0, 0), (.getfield 16, 3, 0, 10, 3, 804), (.iload 6, 2, 0, 0, 0, 0), (.iaload, 1, 0, 0, 0, 0), (.isub, 1, 0, 0, 0, 0), (.istore 7, 2, 0, 0, 0, 0), (.aload_n 0, 1, 0, 0, 0, 0), (.getfield 16, 3, 0, 10, 3, 804), (.iload 6, 2, 0, 0, 0, 0), (.iload_n 3, 1, 0, 0, 0, 0), (.iastore, 1, 0, 0, 0, 0), (.aload_n 0, 1, 0, 0, 0, 0), (.getfield 19, 3, 0, 10, 4, 805), (.iload 6, 2, 0, 0, 0, 0), (.iload_n 3, 1, 0, 0, 0, 0), (.iload 4, 2, 0, 0, 0, 0), (.iadd, 1, 0, 0, 0, 0), (.iastore, 1, 0, 0, 0, 0), (.iload 7, 2, 0, 0, 0, 0), (.ireturn, 1, 0, 0, 0, 0)])]
/-- X10_pack -/
def tp_P105 : List (Nat × List tp_Ins) := [(0, [(.aload_n 0, 1, 0, 0, 0, 0), (.iload_n 1, 1, 0, 0, 0, 0), (.iload_n 2, 1, 0, 0, 0, 0), (.invokevirtual 100, 3, 0, 103, 3, 947), (.ifCond .eq 13, 3, 0, 19, 0, 0), (.iload_n 3, 1, 0, 0, 0, 0), (.i2l, 1, 0, 0, 0, 0), (.lconst 0, 1, 0, 0, 0, 0), (.lconst 1, 1, 0, 0, 0, 0), (.invokestatic 89, 3, 0, 101, 3, 939), (.ifCond .ne 5, 3, 0, 21, 0, 0)]),
  (19, [(.iconst (-1), 1, -1, 0, 0, 0), (.ireturn, 1, 0, 0, 0, 0)]),
  (21, [(.iconst 5, 1, 5, 0, 0, 0), (.iload_n 1, 1, 0, 0, 0, 0), (.imul, 1, 0, 0, 0, 0), (.iload_n 2, 1, 0, 0, 0, 0), (.iadd, 1, 0, 0, 0, 0), (.istore 4, 2, 0, 0, 0, 0), (.iload_n 3, 1, 0, 0, 0, 0), (.iconst 1, 1, 1, 0, 0, 0), (.if_icmp .ne 21, 3, 0, 51, 0, 0), (.aload_n 0, 1, 0, 0, 0, 0), (.getfield 19, 3, 0, 10, 4, 805), (.iload 4, 2, 0, 0, 0, 0), (.iaload, 1, 0, 0, 0, 0), (.aload_n 0, 1, 0, 0, 0, 0), (.getfield 16, 3, 0, 10, 3, 804), (.iload 4, 2, 0, 0, 0, 0), (.iaload, 1, 0, 0, 0, 0), (.isub, 1, 0, 0, 0, 0), (.goto 32, 3, 0, 80, 0, 0)]),
  (51, [(.aload_n 0, 1, 0, 0, 0, 0), (.getfield 16, 3, 0, 10, 3, 804), (.iload 4, 2, 0, 0, 0, 0), (.iaload, 1, 0, 0, 0, 0), (.aload_n 0, 1, 0, 0, 0, 0), (.getfield 19, 3, 0, 10, 4, 805), (.iload 4, 2, 0, 0, 0, 0), (.iaload, 1, 0, 0, 0, 0), (.if_icmp .ge 13, 3, 0, 78, 0, 0), (.aload_n 0, 1, 0, 0, 0, 0), (.getfield 16, 3, 0, 10, 3, 804), (.iload 4, 2, 0, 0, 0, 0), (.iaload, 1, 0, 0, 0, 0), (.goto 5, 3, 0, 80, 0, 0)]),
  (78, [(.bipush (-4), 2, -4, 0, 0, 0)]),
  (80, [(.ireturn, 1, 0, 0, 0, 0)])]
/-- X10_trip -/
def tp_P106 : List (Nat × List tp_Ins) := [(0, [(.iload_n 1, 1, 0, 0, 0, 0), (.i2l, 1, 0, 0, 0, 0), (.lconst 0, 1, 0, 0, 0, 0), (.ldc2_w 98, 3, 0, 5, 0, 951), (.invokestatic 89, 3, 0, 101, 3, 939), (.ifCond .ne 5, 3, 0, 14, 0, 0), (.iconst (-1), 1, -1, 0, 0, 0), (.ireturn, 1, 0, 0, 0, 0)]),
  (14, [(.iconst 0, 1, 0, 0, 0, 0), (.istore_n 3, 1, 0, 0, 0, 0)]),
  (16, [(.iload_n 3, 1, 0, 0, 0, 0), (.aload_n 0, 1, 0, 0, 0, 0), (.getfield 111, 3, 0, 10, 5, 806), (.if_icmp .ge 31, 3, 0, 52, 0, 0), (.aload_n 0, 1, 0, 0, 0, 0), (.getfield 22, 3, 0, 10, 6, 807), (.iload_n 3, 1, 0, 0, 0, 0), (.iaload, 1, 0, 0, 0, 0), (.iload_n 1, 1, 0, 0, 0, 0), (.if_icmp .ne 15, 3, 0, 46, 0, 0), (.aload_n 0, 1, 0, 0, 0, 0), (.getfield 29, 3, 0, 10, 8, 809), (.iload_n 3, 1, 0, 0, 0, 0), (.baload, 1, 0, 0, 0, 0), (.ifCond .eq 6, 3, 0, 46, 0, 0), (.bipush (-2), 2, -2, 0, 0, 0), (.ireturn, 1, 0, 0, 0, 0)]),
  (46, [(.iinc 3 1, 3, 1, 0, 0, 0), (.goto (-33), 3, 0, 16, 0, 0)]),
  (52, [(.aload_n 0, 1, 0, 0, 0, 0), (.getfield 111, 3, 0, 10, 5, 806), (.bipush 16, 2, 16, 0, 0, 0), (.if_icmp .ne 6, 3, 0, 64, 0, 0), (.bipush (-3), 2, -3, 0, 0, 0), (.ireturn, 1, 0, 0, 0, 0)]),
  (64, [(.aload_n 0, 1, 0, 0, 0, 0), (.getfield 22, 3, 0, 10, 6, 807), (.aload_n 0, 1, 0, 0, 0, 0), (.getfield 111, 3, 0, 10, 5, 806), (.iload_n 1, 1, 0, 0, 0, 0), (.iastore, 1, 0, 0, 0, 0), (.aload_n 0, 1, 0, 0, 0, 0), (.getfield 25, 3, 0, 10, 7, 808), (.aload_n 0, 1, 0, 0, 0, 0), (.getfield 111, 3, 0, 10, 5, 806), (.iload_n 2, 1, 0, 0, 0, 0), (.bastore, 1, 0, 0, 0, 0), (.aload_n 0, 1, 0, 0, 0, 0), (.getfield 29, 3, 0, 10, 8, 809), (.aload_n 0, 1, 0, 0, 0, 0), (.getfield 111, 3, 0, 10, 5, 806), (.iconst 1, 1, 1, 0, 0, 0), (.bastore, 1, 0, 0, 0, 0), (.aload_n 0, 1, 0, 0, 0, 0), (.dup, 1, 0, 0, 0, 0), (.getfield 111, 3, 0, 10, 5, 806), (.iconst 1, 1, 1, 0, 0, 0), (.iadd, 1, 0, 0, 0, 0), (.putfield 111, 3, 0, 10, 5, 806), (.aload_n 0, 1, 0, 0, 0, 0), (.getfield 111, 3, 0, 10, 5, 806), (.iconst 1, 1, 1, 0, 0, 0), (.isub, 1, 0, 0, 0, 0), (.ireturn, 1, 0, 0, 0, 0)])]
/-- X10_isTrip -/
def tp_P107 : List (Nat × List tp_Ins) := [(0, [(.iload_n 1, 1, 0, 0, 0, 0), (.i2l, 1, 0, 0, 0, 0), (.lconst 0, 1, 0, 0, 0, 0), (.aload_n 0, 1, 0, 0, 0, 0), (.getfield 111, 3, 0, 10, 5, 806), (.iconst 1, 1, 1, 0, 0, 0), (.isub, 1, 0, 0, 0, 0), (.i2l, 1, 0, 0, 0, 0), (.invokestatic 89, 3, 0, 101, 3, 939), (.ireturn, 1, 0, 0, 0, 0)])]
/-- X10_moneyOf -/
def tp_P108 : List (Nat × List tp_Ins) := [(0, [(.iconst 0, 1, 0, 0, 0, 0), (.istore_n 2, 1, 0, 0, 0, 0), (.iconst 0, 1, 0, 0, 0, 0), (.istore_n 3, 1, 0, 0, 0, 0)]),
  (4, [(.iload_n 3, 1, 0, 0, 0, 0), (.aload_n 0, 1, 0, 0, 0, 0), (.getfield 108, 3, 0, 10, 9, 810), (.if_icmp .ge 37, 3, 0, 46, 0, 0), (.iload_n 2, 1, 0, 0, 0, 0), (.aload_n 0, 1, 0, 0, 0, 0), (.getfield 32, 3, 0, 10, 10, 811), (.iload_n 3, 1, 0, 0, 0, 0), (.iaload, 1, 0, 0, 0, 0), (.iload_n 1, 1, 0, 0, 0, 0), (.if_icmp .ne 17, 3, 0, 37, 0, 0), (.aload_n 0, 1, 0, 0, 0, 0), (.getfield 7, 3, 0, 10, 1, 802), (.aload_n 0, 1, 0, 0, 0, 0), (.getfield 35, 3, 0, 10, 11, 812), (.iload_n 3, 1, 0, 0, 0, 0), (.iaload, 1, 0, 0, 0, 0), (.iaload, 1, 0, 0, 0, 0), (.goto 4, 3, 0, 38, 0, 0)]),
  (37, [(.iconst 0, 1, 0, 0, 0, 0)]),
  (38, [(.iadd, 1, 0, 0, 0, 0), (.istore_n 2, 1, 0, 0, 0, 0), (.iinc 3 1, 3, 1, 0, 0, 0), (.goto (-39), 3, 0, 4, 0, 0)]),
  (46, [(.iload_n 2, 1, 0, 0, 0, 0), (.ireturn, 1, 0, 0, 0, 0)])]
/-- X10_close -/
def tp_P109 : List (Nat × List tp_Ins) := [(0, [(.aload_n 0, 1, 0, 0, 0, 0), (.iload_n 1, 1, 0, 0, 0, 0), (.invokevirtual 114, 3, 0, 107, 2, 966), (.ifCond .ne 5, 3, 0, 10, 0, 0), (.iconst (-1), 1, -1, 0, 0, 0), (.ireturn, 1, 0, 0, 0, 0)]),
  (10, [(.aload_n 0, 1, 0, 0, 0, 0), (.getfield 29, 3, 0, 10, 8, 809), (.iload_n 1, 1, 0, 0, 0, 0), (.baload, 1, 0, 0, 0, 0), (.ifCond .ne 6, 3, 0, 22, 0, 0), (.bipush (-2), 2, -2, 0, 0, 0), (.ireturn, 1, 0, 0, 0, 0)]),
  (22, [(.aload_n 0, 1, 0, 0, 0, 0), (.getfield 29, 3, 0, 10, 8, 809), (.iload_n 1, 1, 0, 0, 0, 0), (.iconst 0, 1, 0, 0, 0, 0), (.bastore, 1, 0, 0, 0, 0), (.aload_n 0, 1, 0, 0, 0, 0), (.iload_n 1, 1, 0, 0, 0, 0), (.invokevirtual 118, 3, 0, 108, 2, 970), (.ireturn, 1, 0, 0, 0, 0)])]
/-- X10_along -/
def tp_P110 : List (Nat × List tp_Ins) := [(0, [(.aload_n 0, 1, 0, 0, 0, 0), (.getfield 25, 3, 0, 10, 7, 808), (.iload_n 1, 1, 0, 0, 0, 0), (.baload, 1, 0, 0, 0, 0), (.ifCond .eq 7, 3, 0, 13, 0, 0), (.iload_n 2, 1, 0, 0, 0, 0), (.goto 7, 3, 0, 17, 0, 0)]),
  (13, [(.bipush 9, 2, 9, 0, 0, 0), (.iload_n 2, 1, 0, 0, 0, 0), (.isub, 1, 0, 0, 0, 0)]),
  (17, [(.ireturn, 1, 0, 0, 0, 0)])]
/-- X10_latestOf -/
def tp_P111 : List (Nat × List tp_Ins) := [(0, [(.iconst 0, 1, 0, 0, 0, 0), (.istore_n 2, 1, 0, 0, 0, 0), (.iconst 0, 1, 0, 0, 0, 0), (.istore_n 3, 1, 0, 0, 0, 0)]),
  (4, [(.iload_n 3, 1, 0, 0, 0, 0), (.aload_n 0, 1, 0, 0, 0, 0), (.getfield 108, 3, 0, 10, 9, 810), (.if_icmp .ge 35, 3, 0, 44, 0, 0), (.aload_n 0, 1, 0, 0, 0, 0), (.getfield 32, 3, 0, 10, 10, 811), (.iload_n 3, 1, 0, 0, 0, 0), (.iaload, 1, 0, 0, 0, 0), (.iload_n 1, 1, 0, 0, 0, 0), (.if_icmp .ne 17, 3, 0, 36, 0, 0), (.aload_n 0, 1, 0, 0, 0, 0), (.iload_n 1, 1, 0, 0, 0, 0), (.aload_n 0, 1, 0, 0, 0, 0), (.getfield 38, 3, 0, 10, 12, 813), (.iload_n 3, 1, 0, 0, 0, 0), (.iaload, 1, 0, 0, 0, 0), (.invokevirtual 122, 3, 0, 110, 3, 978), (.goto 4, 3, 0, 37, 0, 0)]),
  (36, [(.iload_n 2, 1, 0, 0, 0, 0)]),
  (37, [(.istore_n 2, 1, 0, 0, 0, 0), (.iinc 3 1, 3, 1, 0, 0, 0), (.goto (-37), 3, 0, 4, 0, 0)]),
  (44, [(.iload_n 2, 1, 0, 0, 0, 0), (.ireturn, 1, 0, 0, 0, 0)])]
/-- X10_sell -/
def tp_P112 : List (Nat × List tp_Ins) := [(0, [(.aload_n 0, 1, 0, 0, 0, 0), (.iload_n 1, 1, 0, 0, 0, 0), (.invokevirtual 114, 3, 0, 107, 2, 966), (.ifCond .eq 31, 3, 0, 36, 0, 0), (.iload_n 2, 1, 0, 0, 0, 0), (.i2l, 1, 0, 0, 0, 0), (.lconst 0, 1, 0, 0, 0, 0), (.aload_n 0, 1, 0, 0, 0, 0), (.getfield 95, 3, 0, 10, 0, 801), (.iconst 1, 1, 1, 0, 0, 0), (.isub, 1, 0, 0, 0, 0), (.i2l, 1, 0, 0, 0, 0), (.invokestatic 89, 3, 0, 101, 3, 939), (.ifCond .eq 15, 3, 0, 36, 0, 0), (.iload_n 3, 1, 0, 0, 0, 0), (.i2l, 1, 0, 0, 0, 0), (.lconst 0, 1, 0, 0, 0, 0), (.ldc2_w 93, 3, 0, 9, 0, 942), (.invokestatic 89, 3, 0, 101, 3, 939), (.ifCond .ne 5, 3, 0, 38, 0, 0)]),
  (36, [(.iconst (-1), 1, -1, 0, 0, 0), (.ireturn, 1, 0, 0, 0, 0)]),
  (38, [(.aload_n 0, 1, 0, 0, 0, 0), (.getfield 29, 3, 0, 10, 8, 809), (.iload_n 1, 1, 0, 0, 0, 0), (.baload, 1, 0, 0, 0, 0), (.ifCond .eq 28, 3, 0, 72, 0, 0), (.aload_n 0, 1, 0, 0, 0, 0), (.iload_n 1, 1, 0, 0, 0, 0), (.iload_n 3, 1, 0, 0, 0, 0), (.invokevirtual 122, 3, 0, 110, 3, 978), (.aload_n 0, 1, 0, 0, 0, 0), (.iload_n 1, 1, 0, 0, 0, 0), (.invokevirtual 126, 3, 0, 111, 2, 982), (.if_icmp .lt 14, 3, 0, 72, 0, 0), (.aload_n 0, 1, 0, 0, 0, 0), (.iload_n 1, 1, 0, 0, 0, 0), (.iload_n 3, 1, 0, 0, 0, 0), (.invokevirtual 122, 3, 0, 110, 3, 978), (.bipush 9, 2, 9, 0, 0, 0), (.if_icmp .ne 6, 3, 0, 75, 0, 0)]),
  (72, [(.bipush (-2), 2, -2, 0, 0, 0), (.ireturn, 1, 0, 0, 0, 0)]),
  (75, [(.aload_n 0, 1, 0, 0, 0, 0), (.getfield 108, 3, 0, 10, 9, 810), (.sipush 200, 3, 200, 0, 0, 0), (.if_icmp .ne 6, 3, 0, 88, 0, 0), (.bipush (-3), 2, -3, 0, 0, 0), (.ireturn, 1, 0, 0, 0, 0)]),
  (88, [(.iconst 5, 1, 5, 0, 0, 0), (.aload_n 0, 1, 0, 0, 0, 0), (.getfield 22, 3, 0, 10, 6, 807), (.iload_n 1, 1, 0, 0, 0, 0), (.iaload, 1, 0, 0, 0, 0), (.imul, 1, 0, 0, 0, 0), (.iload_n 2, 1, 0, 0, 0, 0), (.iadd, 1, 0, 0, 0, 0), (.istore 4, 2, 0, 0, 0, 0), (.aload_n 0, 1, 0, 0, 0, 0), (.getfield 16, 3, 0, 10, 3, 804), (.iload 4, 2, 0, 0, 0, 0), (.iaload, 1, 0, 0, 0, 0), (.aload_n 0, 1, 0, 0, 0, 0), (.getfield 19, 3, 0, 10, 4, 805), (.iload 4, 2, 0, 0, 0, 0), (.iaload, 1, 0, 0, 0, 0), (.if_icmp .ne 6, 3, 0, 120, 0, 0), (.bipush (-4), 2, -4, 0, 0, 0), (.ireturn, 1, 0, 0, 0, 0)]),
  (120, [(.aload_n 0, 1, 0, 0, 0, 0), (.getfield 32, 3, 0, 10, 10, 811), (.aload_n 0, 1, 0, 0, 0, 0), (.getfield 108, 3, 0, 10, 9, 810), (.iload_n 1, 1, 0, 0, 0, 0), (.iastore, 1, 0, 0, 0, 0), (.aload_n 0, 1, 0, 0, 0, 0), (.getfield 35, 3, 0, 10, 11, 812), (.aload_n 0, 1, 0, 0, 0, 0), (.getfield 108, 3, 0, 10, 9, 810), (.iload_n 2, 1, 0, 0, 0, 0), (.iastore, 1, 0, 0, 0, 0), (.aload_n 0, 1, 0, 0, 0, 0), (.getfield 38, 3, 0, 10, 12, 813), (.aload_n 0, 1, 0, 0, 0, 0), (.getfield 108, 3, 0, 10, 9, 810), (.iload_n 3, 1, 0, 0, 0, 0), (.iastore, 1, 0, 0, 0, 0), (.aload_n 0, 1, 0, 0, 0, 0), (.getfield 41, 3, 0, 10, 13, 814), (.aload_n 0, 1, 0, 0, 0, 0), (.getfield 108, 3, 0, 10, 9, 810), (.aload_n 0, 1, 0, 0, 0, 0), (.getfield 16, 3, 0, 10, 3, 804), (.iload 4, 2, 0, 0, 0, 0), (.iaload, 1, 0, 0, 0, 0), (.iastore, 1, 0, 0, 0, 0), (.aload_n 0, 1, 0, 0, 0, 0), (.getfield 16, 3, 0, 10, 3, 804), (.iload 4, 2, 0, 0, 0, 0), (.dup2, 1, 0, 0, 0, 0), (.iaload, 1, 0, 0, 0, 0), (.iconst 1, 1, 1, 0, 0, 0), (.iadd, 1, 0, 0, 0, 0), (.iastore, 1, 0, 0, 0, 0), (.aload_n 0, 1, 0, 0, 0, 0), (.dup, 1, 0, 0, 0, 0), (.getfield 108, 3, 0, 10, 9, 810), (.iconst 1, 1, 1, 0, 0, 0), (.iadd, 1, 0, 0, 0, 0), (.putfield 108, 3, 0, 10, 9, 810), (.aload_n 0, 1, 0, 0, 0, 0), (.getfield 41, 3, 0, 10, 13, 814), (.aload_n 0, 1, 0, 0, 0, 0), (.getfield 108, 3, 0, 10, 9, 810), (.iconst 1, 1, 1, 0, 0, 0), (.isub, 1, 0, 0, 0, 0), (.iaload, 1, 0, 0, 0, 0), (.ireturn, 1, 0, 0, 0, 0)])]
/-- X10_undo -/
def tp_P113 : List (Nat × List tp_Ins) := [(0, [(.aload_n 0, 1, 0, 0, 0, 0), (.getfield 108, 3, 0, 10, 9, 810), (.ifCond .ne 6, 3, 0, 10, 0, 0), (.bipush (-4), 2, -4, 0, 0, 0), (.ireturn, 1, 0, 0, 0, 0)]),
  (10, [(.aload_n 0, 1, 0, 0, 0, 0), (.getfield 108, 3, 0, 10, 9, 810), (.iconst 1, 1, 1, 0, 0, 0), (.isub, 1, 0, 0, 0, 0), (.istore_n 1, 1, 0, 0, 0, 0), (.iconst 5, 1, 5, 0, 0, 0), (.aload_n 0, 1, 0, 0, 0, 0), (.getfield 22, 3, 0, 10, 6, 807), (.aload_n 0, 1, 0, 0, 0, 0), (.getfield 32, 3, 0, 10, 10, 811), (.iload_n 1, 1, 0, 0, 0, 0), (.iaload, 1, 0, 0, 0, 0), (.iaload, 1, 0, 0, 0, 0), (.imul, 1, 0, 0, 0, 0), (.aload_n 0, 1, 0, 0, 0, 0), (.getfield 35, 3, 0, 10, 11, 812), (.iload_n 1, 1, 0, 0, 0, 0), (.iaload, 1, 0, 0, 0, 0), (.iadd, 1, 0, 0, 0, 0), (.istore_n 2, 1, 0, 0, 0, 0), (.aload_n 0, 1, 0, 0, 0, 0), (.getfield 29, 3, 0, 10, 8, 809), (.aload_n 0, 1, 0, 0, 0, 0), (.getfield 32, 3, 0, 10, 10, 811), (.iload_n 1, 1, 0, 0, 0, 0), (.iaload, 1, 0, 0, 0, 0), (.baload, 1, 0, 0, 0, 0), (.ifCond .eq 20, 3, 0, 69, 0, 0), (.aload_n 0, 1, 0, 0, 0, 0), (.getfield 16, 3, 0, 10, 3, 804), (.iload_n 2, 1, 0, 0, 0, 0), (.iaload, 1, 0, 0, 0, 0), (.aload_n 0, 1, 0, 0, 0, 0), (.getfield 41, 3, 0, 10, 13, 814), (.iload_n 1, 1, 0, 0, 0, 0), (.iaload, 1, 0, 0, 0, 0), (.iconst 1, 1, 1, 0, 0, 0), (.iadd, 1, 0, 0, 0, 0), (.if_icmp .eq 6, 3, 0, 72, 0, 0)]),
  (69, [(.bipush (-2), 2, -2, 0, 0, 0), (.ireturn, 1, 0, 0, 0, 0)]),
  (72, [(.aload_n 0, 1, 0, 0, 0, 0), (.getfield 16, 3, 0, 10, 3, 804), (.iload_n 2, 1, 0, 0, 0, 0), (.dup2, 1, 0, 0, 0, 0), (.iaload, 1, 0, 0, 0, 0), (.iconst 1, 1, 1, 0, 0, 0), (.isub, 1, 0, 0, 0, 0), (.iastore, 1, 0, 0, 0, 0), (.aload_n 0, 1, 0, 0, 0, 0), (.dup, 1, 0, 0, 0, 0), (.getfield 108, 3, 0, 10, 9, 810), (.iconst 1, 1, 1, 0, 0, 0), (.isub, 1, 0, 0, 0, 0), (.putfield 108, 3, 0, 10, 9, 810), (.aload_n 0, 1, 0, 0, 0, 0), (.getfield 108, 3, 0, 10, 9, 810), (.ireturn, 1, 0, 0, 0, 0)])]
/-- X10_sheet -/
def tp_P114 : List (Nat × List tp_Ins) := [(0, [(.iload_n 1, 1, 0, 0, 0, 0), (.i2l, 1, 0, 0, 0, 0), (.lconst 0, 1, 0, 0, 0, 0), (.ldc2_w 129, 3, 0, 3, 0, 994), (.invokestatic 89, 3, 0, 101, 3, 939), (.ifCond .eq 21, 3, 0, 30, 0, 0), (.iload_n 2, 1, 0, 0, 0, 0), (.i2l, 1, 0, 0, 0, 0), (.lconst 0, 1, 0, 0, 0, 0), (.ldc2_w 131, 3, 0, 2, 0, 995), (.invokestatic 89, 3, 0, 101, 3, 939), (.ifCond .eq 9, 3, 0, 30, 0, 0), (.iload_n 3, 1, 0, 0, 0, 0), (.bipush 64, 2, 64, 0, 0, 0), (.if_icmp .le 5, 3, 0, 32, 0, 0)]),
  (30, [(.iconst (-1), 1, -1, 0, 0, 0), (.ireturn, 1, 0, 0, 0, 0)]),
  (32, [(.iload_n 3, 1, 0, 0, 0, 0), (.ifCond .ge 6, 3, 0, 39, 0, 0), (.bipush (-14), 2, -14, 0, 0, 0), (.ireturn, 1, 0, 0, 0, 0)]),
  (39, [(.aload_n 0, 1, 0, 0, 0, 0), (.getfield 44, 3, 0, 10, 14, 815), (.iload_n 1, 1, 0, 0, 0, 0), (.iload_n 2, 1, 0, 0, 0, 0), (.iastore, 1, 0, 0, 0, 0), (.aload_n 0, 1, 0, 0, 0, 0), (.getfield 47, 3, 0, 10, 15, 816), (.iload_n 1, 1, 0, 0, 0, 0), (.iload_n 3, 1, 0, 0, 0, 0), (.iastore, 1, 0, 0, 0, 0), (.iconst 0, 1, 0, 0, 0, 0), (.istore 4, 2, 0, 0, 0, 0)]),
  (56, [(.iload 4, 2, 0, 0, 0, 0), (.bipush 64, 2, 64, 0, 0, 0), (.if_icmp .ge 22, 3, 0, 82, 0, 0), (.aload_n 0, 1, 0, 0, 0, 0), (.getfield 50, 3, 0, 10, 16, 817), (.bipush 64, 2, 64, 0, 0, 0), (.iload_n 1, 1, 0, 0, 0, 0), (.imul, 1, 0, 0, 0, 0), (.iload 4, 2, 0, 0, 0, 0), (.iadd, 1, 0, 0, 0, 0), (.iconst 0, 1, 0, 0, 0, 0), (.iastore, 1, 0, 0, 0, 0), (.iinc 4 1, 3, 1, 0, 0, 0), (.goto (-23), 3, 0, 56, 0, 0)]),
  (82, [(.iconst 1, 1, 1, 0, 0, 0), (.ireturn, 1, 0, 0, 0, 0)])]
/-- X10_lay -/
def tp_P115 : List (Nat × List tp_Ins) := [(0, [(.iload_n 1, 1, 0, 0, 0, 0), (.i2l, 1, 0, 0, 0, 0), (.lconst 0, 1, 0, 0, 0, 0), (.ldc2_w 129, 3, 0, 3, 0, 994), (.invokestatic 89, 3, 0, 101, 3, 939), (.ifCond .ne 5, 3, 0, 14, 0, 0), (.iconst (-1), 1, -1, 0, 0, 0), (.ireturn, 1, 0, 0, 0, 0)]),
  (14, [(.aload_n 0, 1, 0, 0, 0, 0), (.getfield 44, 3, 0, 10, 14, 815), (.iload_n 1, 1, 0, 0, 0, 0), (.iaload, 1, 0, 0, 0, 0), (.bipush (-4), 2, -4, 0, 0, 0), (.if_icmp .ne 6, 3, 0, 28, 0, 0), (.bipush (-11), 2, -11, 0, 0, 0), (.ireturn, 1, 0, 0, 0, 0)]),
  (28, [(.iload_n 2, 1, 0, 0, 0, 0), (.i2l, 1, 0, 0, 0, 0), (.lconst 0, 1, 0, 0, 0, 0), (.aload_n 0, 1, 0, 0, 0, 0), (.getfield 47, 3, 0, 10, 15, 816), (.iload_n 1, 1, 0, 0, 0, 0), (.iaload, 1, 0, 0, 0, 0), (.iconst 1, 1, 1, 0, 0, 0), (.isub, 1, 0, 0, 0, 0), (.i2l, 1, 0, 0, 0, 0), (.invokestatic 89, 3, 0, 101, 3, 939), (.ifCond .ne 6, 3, 0, 49, 0, 0), (.bipush (-12), 2, -12, 0, 0, 0), (.ireturn, 1, 0, 0, 0, 0)]),
  (49, [(.aload_n 0, 1, 0, 0, 0, 0), (.getfield 50, 3, 0, 10, 16, 817), (.bipush 64, 2, 64, 0, 0, 0), (.iload_n 1, 1, 0, 0, 0, 0), (.imul, 1, 0, 0, 0, 0), (.iload_n 2, 1, 0, 0, 0, 0), (.iadd, 1, 0, 0, 0, 0), (.aload_n 0, 1, 0, 0, 0, 0), (.getfield 44, 3, 0, 10, 14, 815), (.iload_n 1, 1, 0, 0, 0, 0), (.iaload, 1, 0, 0, 0, 0), (.ifCond .ne 13, 3, 0, 78, 0, 0), (.iload_n 3, 1, 0, 0, 0, 0), (.bipush 24, 2, 24, 0, 0, 0), (.ishl, 1, 0, 0, 0, 0), (.bipush 24, 2, 24, 0, 0, 0), (.ishr, 1, 0, 0, 0, 0), (.goto 24, 3, 0, 99, 0, 0)]),
  (78, [(.aload_n 0, 1, 0, 0, 0, 0), (.getfield 44, 3, 0, 10, 14, 815), (.iload_n 1, 1, 0, 0, 0, 0), (.iaload, 1, 0, 0, 0, 0), (.iconst 1, 1, 1, 0, 0, 0), (.if_icmp .ne 13, 3, 0, 98, 0, 0), (.iload_n 3, 1, 0, 0, 0, 0), (.bipush 16, 2, 16, 0, 0, 0), (.ishl, 1, 0, 0, 0, 0), (.bipush 16, 2, 16, 0, 0, 0), (.ishr, 1, 0, 0, 0, 0), (.goto 4, 3, 0, 99, 0, 0)]),
  (98, [(.iload_n 3, 1, 0, 0, 0, 0)]),
  (99, [(.iastore, 1, 0, 0, 0, 0), (.iconst 1, 1, 1, 0, 0, 0), (.ireturn, 1, 0, 0, 0, 0)])]
/-- X10_scan -/
def tp_P116 : List (Nat × List tp_Ins) := [(0, [(.aload_n 0, 1, 0, 0, 0, 0), (.iload_n 1, 1, 0, 0, 0, 0), (.invokevirtual 114, 3, 0, 107, 2, 966), (.ifCond .eq 40, 3, 0, 45, 0, 0), (.iload_n 2, 1, 0, 0, 0, 0), (.i2l, 1, 0, 0, 0, 0), (.lconst 0, 1, 0, 0, 0, 0), (.ldc2_w 129, 3, 0, 3, 0, 994), (.invokestatic 89, 3, 0, 101, 3, 939), (.ifCond .eq 28, 3, 0, 45, 0, 0), (.iload_n 3, 1, 0, 0, 0, 0), (.i2l, 1, 0, 0, 0, 0), (.lconst 0, 1, 0, 0, 0, 0), (.ldc2_w 131, 3, 0, 2, 0, 995), (.invokestatic 89, 3, 0, 101, 3, 939), (.ifCond .eq 16, 3, 0, 45, 0, 0), (.iload 5, 2, 0, 0, 0, 0), (.i2l, 1, 0, 0, 0, 0), (.lconst 0, 1, 0, 0, 0, 0), (.ldc2_w 133, 3, 0, 32, 0, 1004), (.invokestatic 89, 3, 0, 101, 3, 939), (.ifCond .ne 5, 3, 0, 47, 0, 0)]),
  (45, [(.iconst (-1), 1, -1, 0, 0, 0), (.ireturn, 1, 0, 0, 0, 0)]),
  (47, [(.aload_n 0, 1, 0, 0, 0, 0), (.getfield 44, 3, 0, 10, 14, 815), (.iload_n 2, 1, 0, 0, 0, 0), (.iaload, 1, 0, 0, 0, 0), (.iload_n 3, 1, 0, 0, 0, 0), (.if_icmp .eq 22, 3, 0, 76, 0, 0), (.aload_n 0, 1, 0, 0, 0, 0), (.getfield 44, 3, 0, 10, 14, 815), (.iload_n 2, 1, 0, 0, 0, 0), (.iaload, 1, 0, 0, 0, 0), (.bipush (-4), 2, -4, 0, 0, 0), (.if_icmp .ne 8, 3, 0, 73, 0, 0), (.bipush (-11), 2, -11, 0, 0, 0), (.goto 5, 3, 0, 75, 0, 0)]),
  (73, [(.bipush (-13), 2, -13, 0, 0, 0)]),
  (75, [(.ireturn, 1, 0, 0, 0, 0)]),
  (76, [(.aload_n 0, 1, 0, 0, 0, 0), (.getfield 108, 3, 0, 10, 9, 810), (.istore 6, 2, 0, 0, 0, 0), (.iconst 0, 1, 0, 0, 0, 0), (.istore 7, 2, 0, 0, 0, 0), (.iconst 0, 1, 0, 0, 0, 0), (.istore 8, 2, 0, 0, 0, 0)]),
  (88, [(.iload 8, 2, 0, 0, 0, 0), (.iload 5, 2, 0, 0, 0, 0), (.if_icmp .ge 99, 3, 0, 191, 0, 0), (.iload 7, 2, 0, 0, 0, 0), (.ifCond .ne 94, 3, 0, 191, 0, 0), (.iload 4, 2, 0, 0, 0, 0), (.i2l, 1, 0, 0, 0, 0), (.iconst 2, 1, 2, 0, 0, 0), (.iload 8, 2, 0, 0, 0, 0), (.imul, 1, 0, 0, 0, 0), (.i2l, 1, 0, 0, 0, 0), (.ladd, 1, 0, 0, 0, 0), (.lstore 9, 2, 0, 0, 0, 0), (.lload 9, 2, 0, 0, 0, 0), (.lconst 0, 1, 0, 0, 0, 0), (.aload_n 0, 1, 0, 0, 0, 0), (.getfield 47, 3, 0, 10, 15, 816), (.iload_n 2, 1, 0, 0, 0, 0), (.iaload, 1, 0, 0, 0, 0), (.iconst 2, 1, 2, 0, 0, 0), (.isub, 1, 0, 0, 0, 0), (.i2l, 1, 0, 0, 0, 0), (.invokestatic 89, 3, 0, 101, 3, 939), (.ifCond .ne 10, 3, 0, 136, 0, 0), (.bipush (-12), 2, -12, 0, 0, 0), (.istore 7, 2, 0, 0, 0, 0), (.goto 52, 3, 0, 185, 0, 0)]),
  (136, [(.bipush 64, 2, 64, 0, 0, 0), (.iload_n 2, 1, 0, 0, 0, 0), (.imul, 1, 0, 0, 0, 0), (.lload 9, 2, 0, 0, 0, 0), (.l2i, 1, 0, 0, 0, 0), (.iadd, 1, 0, 0, 0, 0), (.istore 11, 2, 0, 0, 0, 0), (.aload_n 0, 1, 0, 0, 0, 0), (.iload_n 1, 1, 0, 0, 0, 0), (.aload_n 0, 1, 0, 0, 0, 0), (.getfield 50, 3, 0, 10, 16, 817), (.iload 11, 2, 0, 0, 0, 0), (.iaload, 1, 0, 0, 0, 0), (.aload_n 0, 1, 0, 0, 0, 0), (.getfield 50, 3, 0, 10, 16, 817), (.iload 11, 2, 0, 0, 0, 0), (.iconst 1, 1, 1, 0, 0, 0), (.iadd, 1, 0, 0, 0, 0), (.iaload, 1, 0, 0, 0, 0), (.invokevirtual 135, 3, 0, 112, 4, 1005), (.istore 12, 2, 0, 0, 0, 0), (.iload 12, 2, 0, 0, 0, 0), (.ifCond .ge 11, 3, 0, 182, 0, 0), (.bipush (-20), 2, -20, 0, 0, 0), (.iload 12, 2, 0, 0, 0, 0), (.iadd, 1, 0, 0, 0, 0), (.goto 4, 3, 0, 183, 0, 0)]),
  (182, [(.iconst 0, 1, 0, 0, 0, 0)]),
  (183, [(.istore 7, 2, 0, 0, 0, 0)]),
  (185, [(.iinc 8 1, 3, 1, 0, 0, 0), (.goto (-100), 3, 0, 88, 0, 0)]),
  (191, [(.iload 7, 2, 0, 0, 0, 0), (.ifCond .ge 54, 3, 0, 247, 0, 0), (.aload_n 0, 1, 0, 0, 0, 0), (.getfield 108, 3, 0, 10, 9, 810), (.iload 6, 2, 0, 0, 0, 0), (.if_icmp .le 45, 3, 0, 247, 0, 0), (.aload_n 0, 1, 0, 0, 0, 0), (.getfield 16, 3, 0, 10, 3, 804), (.iconst 5, 1, 5, 0, 0, 0), (.aload_n 0, 1, 0, 0, 0, 0), (.getfield 22, 3, 0, 10, 6, 807), (.iload_n 1, 1, 0, 0, 0, 0), (.iaload, 1, 0, 0, 0, 0), (.imul, 1, 0, 0, 0, 0), (.aload_n 0, 1, 0, 0, 0, 0), (.getfield 35, 3, 0, 10, 11, 812), (.aload_n 0, 1, 0, 0, 0, 0), (.getfield 108, 3, 0, 10, 9, 810), (.iconst 1, 1, 1, 0, 0, 0), (.isub, 1, 0, 0, 0, 0), (.iaload, 1, 0, 0, 0, 0), (.iadd, 1, 0, 0, 0, 0), (.dup2, 1, 0, 0, 0, 0), (.iaload, 1, 0, 0, 0, 0), (.iconst 1, 1, 1, 0, 0, 0), (.isub, 1, 0, 0, 0, 0), (.iastore, 1, 0, 0, 0, 0), (.aload_n 0, 1, 0, 0, 0, 0), (.dup, 1, 0, 0, 0, 0), (.getfield 108, 3, 0, 10, 9, 810), (.iconst 1, 1, 1, 0, 0, 0), (.isub, 1, 0, 0, 0, 0), (.putfield 108, 3, 0, 10, 9, 810), (.goto (-53), 3, 0, 191, 0, 0)]),
  (247, [(.iload 7, 2, 0, 0, 0, 0), (.ifCond .ge 8, 3, 0, 257, 0, 0), (.iload 7, 2, 0, 0, 0, 0), (.goto 5, 3, 0, 259, 0, 0)]),
  (257, [(.iload 5, 2, 0, 0, 0, 0)]),
  (259, [(.ireturn, 1, 0, 0, 0, 0)])]
/-- X10_waybill -/
def tp_P117 : List (Nat × List tp_Ins) := [(0, [(.aload_n 0, 1, 0, 0, 0, 0), (.iload_n 1, 1, 0, 0, 0, 0), (.invokevirtual 114, 3, 0, 107, 2, 966), (.ifCond .eq 31, 3, 0, 36, 0, 0), (.iload_n 2, 1, 0, 0, 0, 0), (.i2l, 1, 0, 0, 0, 0), (.lconst 0, 1, 0, 0, 0, 0), (.aload_n 0, 1, 0, 0, 0, 0), (.getfield 95, 3, 0, 10, 0, 801), (.iconst 1, 1, 1, 0, 0, 0), (.isub, 1, 0, 0, 0, 0), (.i2l, 1, 0, 0, 0, 0), (.invokestatic 89, 3, 0, 101, 3, 939), (.ifCond .eq 15, 3, 0, 36, 0, 0), (.iload_n 3, 1, 0, 0, 0, 0), (.i2l, 1, 0, 0, 0, 0), (.lconst 0, 1, 0, 0, 0, 0), (.ldc2_w 131, 3, 0, 2, 0, 995), (.invokestatic 89, 3, 0, 101, 3, 939), (.ifCond .ne 5, 3, 0, 38, 0, 0)]),
  (36, [(.iconst (-1), 1, -1, 0, 0, 0), (.ireturn, 1, 0, 0, 0, 0)]),
  (38, [(.iconst 0, 1, 0, 0, 0, 0), (.istore 4, 2, 0, 0, 0, 0), (.bipush (-4), 2, -4, 0, 0, 0), (.istore 5, 2, 0, 0, 0, 0), (.bipush (-4), 2, -4, 0, 0, 0), (.istore 6, 2, 0, 0, 0, 0), (.iconst 0, 1, 0, 0, 0, 0), (.istore 7, 2, 0, 0, 0, 0)]),
  (52, [(.iload 7, 2, 0, 0, 0, 0), (.aload_n 0, 1, 0, 0, 0, 0), (.getfield 108, 3, 0, 10, 9, 810), (.if_icmp .ge 62, 3, 0, 120, 0, 0), (.aload_n 0, 1, 0, 0, 0, 0), (.getfield 32, 3, 0, 10, 10, 811), (.iload 7, 2, 0, 0, 0, 0), (.iaload, 1, 0, 0, 0, 0), (.iload_n 1, 1, 0, 0, 0, 0), (.if_icmp .ne 45, 3, 0, 114, 0, 0), (.aload_n 0, 1, 0, 0, 0, 0), (.getfield 35, 3, 0, 10, 11, 812), (.iload 7, 2, 0, 0, 0, 0), (.iaload, 1, 0, 0, 0, 0), (.iload_n 2, 1, 0, 0, 0, 0), (.if_icmp .ne 34, 3, 0, 114, 0, 0), (.iload 4, 2, 0, 0, 0, 0), (.ifCond .ne 13, 3, 0, 98, 0, 0), (.aload_n 0, 1, 0, 0, 0, 0), (.getfield 41, 3, 0, 10, 13, 814), (.iload 7, 2, 0, 0, 0, 0), (.iaload, 1, 0, 0, 0, 0), (.goto 5, 3, 0, 100, 0, 0)]),
  (98, [(.iload 5, 2, 0, 0, 0, 0)]),
  (100, [(.istore 5, 2, 0, 0, 0, 0), (.aload_n 0, 1, 0, 0, 0, 0), (.getfield 41, 3, 0, 10, 13, 814), (.iload 7, 2, 0, 0, 0, 0), (.iaload, 1, 0, 0, 0, 0), (.istore 6, 2, 0, 0, 0, 0), (.iinc 4 1, 3, 1, 0, 0, 0)]),
  (114, [(.iinc 7 1, 3, 1, 0, 0, 0), (.goto (-65), 3, 0, 52, 0, 0)]),
  (120, [(.iload_n 3, 1, 0, 0, 0, 0), (.ifCond .ne 8, 3, 0, 129, 0, 0), (.iload 4, 2, 0, 0, 0, 0), (.goto 15, 3, 0, 141, 0, 0)]),
  (129, [(.iload_n 3, 1, 0, 0, 0, 0), (.iconst 1, 1, 1, 0, 0, 0), (.if_icmp .ne 8, 3, 0, 139, 0, 0), (.iload 5, 2, 0, 0, 0, 0), (.goto 5, 3, 0, 141, 0, 0)]),
  (139, [(.iload 6, 2, 0, 0, 0, 0)]),
  (141, [(.ireturn, 1, 0, 0, 0, 0)])]
/-- X10_money -/
def tp_P118 : List (Nat × List tp_Ins) := [(0, [(.aload_n 0, 1, 0, 0, 0, 0), (.iload_n 1, 1, 0, 0, 0, 0), (.invokevirtual 114, 3, 0, 107, 2, 966), (.ifCond .eq 11, 3, 0, 16, 0, 0), (.aload_n 0, 1, 0, 0, 0, 0), (.iload_n 1, 1, 0, 0, 0, 0), (.invokevirtual 118, 3, 0, 108, 2, 970), (.goto 4, 3, 0, 17, 0, 0)]),
  (16, [(.iconst (-1), 1, -1, 0, 0, 0)]),
  (17, [(.ireturn, 1, 0, 0, 0, 0)])]
/-- X10_paid -/
def tp_P119 : List (Nat × List tp_Ins) := [(0, [(.iload_n 1, 1, 0, 0, 0, 0), (.i2l, 1, 0, 0, 0, 0), (.lconst 0, 1, 0, 0, 0, 0), (.ldc2_w 98, 3, 0, 5, 0, 951), (.invokestatic 89, 3, 0, 101, 3, 939), (.ifCond .eq 15, 3, 0, 24, 0, 0), (.iload_n 2, 1, 0, 0, 0, 0), (.i2l, 1, 0, 0, 0, 0), (.lconst 0, 1, 0, 0, 0, 0), (.ldc2_w 104, 3, 0, 100000, 0, 952), (.invokestatic 89, 3, 0, 101, 3, 939), (.ifCond .ne 6, 3, 0, 27, 0, 0)]),
  (24, [(.ldc 139, 2, -1000000, 0, 0, 1018), (.ireturn, 1, 0, 0, 0, 0)]),
  (27, [(.iload_n 2, 1, 0, 0, 0, 0), (.istore_n 3, 1, 0, 0, 0, 0), (.iconst 0, 1, 0, 0, 0, 0), (.istore 4, 2, 0, 0, 0, 0)]),
  (32, [(.iload 4, 2, 0, 0, 0, 0), (.aload_n 0, 1, 0, 0, 0, 0), (.getfield 111, 3, 0, 10, 5, 806), (.if_icmp .ge 43, 3, 0, 81, 0, 0), (.iload_n 3, 1, 0, 0, 0, 0), (.aload_n 0, 1, 0, 0, 0, 0), (.getfield 22, 3, 0, 10, 6, 807), (.iload 4, 2, 0, 0, 0, 0), (.iaload, 1, 0, 0, 0, 0), (.iload_n 1, 1, 0, 0, 0, 0), (.if_icmp .ne 22, 3, 0, 72, 0, 0), (.aload_n 0, 1, 0, 0, 0, 0), (.getfield 29, 3, 0, 10, 8, 809), (.iload 4, 2, 0, 0, 0, 0), (.baload, 1, 0, 0, 0, 0), (.ifCond .ne 12, 3, 0, 72, 0, 0), (.aload_n 0, 1, 0, 0, 0, 0), (.iload 4, 2, 0, 0, 0, 0), (.invokevirtual 118, 3, 0, 108, 2, 970), (.goto 4, 3, 0, 73, 0, 0)]),
  (72, [(.iconst 0, 1, 0, 0, 0, 0)]),
  (73, [(.isub, 1, 0, 0, 0, 0), (.istore_n 3, 1, 0, 0, 0, 0), (.iinc 4 1, 3, 1, 0, 0, 0), (.goto (-46), 3, 0, 32, 0, 0)]),
  (81, [(.iload_n 3, 1, 0, 0, 0, 0), (.ireturn, 1, 0, 0, 0, 0)])]
/-- X10_beginOf -/
def tp_P120 : List (Nat × List tp_Ins) := [(0, [(.aload_n 0, 1, 0, 0, 0, 0), (.getfield 25, 3, 0, 10, 7, 808), (.iload_n 1, 1, 0, 0, 0, 0), (.baload, 1, 0, 0, 0, 0), (.ifCond .eq 7, 3, 0, 13, 0, 0), (.iload_n 2, 1, 0, 0, 0, 0), (.goto 7, 3, 0, 17, 0, 0)]),
  (13, [(.bipush 8, 2, 8, 0, 0, 0), (.iload_n 2, 1, 0, 0, 0, 0), (.isub, 1, 0, 0, 0, 0)]),
  (17, [(.ireturn, 1, 0, 0, 0, 0)])]
/-- X10_aboardOf -/
def tp_P121 : List (Nat × List tp_Ins) := [(0, [(.aload_n 0, 1, 0, 0, 0, 0), (.iload_n 1, 1, 0, 0, 0, 0), (.iload_n 2, 1, 0, 0, 0, 0), (.invokevirtual 140, 3, 0, 120, 3, 1028), (.istore 4, 2, 0, 0, 0, 0), (.iconst 0, 1, 0, 0, 0, 0), (.istore 5, 2, 0, 0, 0, 0), (.iconst 0, 1, 0, 0, 0, 0), (.istore 6, 2, 0, 0, 0, 0)]),
  (14, [(.iload 6, 2, 0, 0, 0, 0), (.aload_n 0, 1, 0, 0, 0, 0), (.getfield 108, 3, 0, 10, 9, 810), (.if_icmp .ge 90, 3, 0, 110, 0, 0), (.aload_n 0, 1, 0, 0, 0, 0), (.getfield 32, 3, 0, 10, 10, 811), (.iload 6, 2, 0, 0, 0, 0), (.iaload, 1, 0, 0, 0, 0), (.iload_n 1, 1, 0, 0, 0, 0), (.if_icmp .ne 73, 3, 0, 104, 0, 0), (.aload_n 0, 1, 0, 0, 0, 0), (.iload_n 1, 1, 0, 0, 0, 0), (.aload_n 0, 1, 0, 0, 0, 0), (.getfield 38, 3, 0, 10, 12, 813), (.iload 6, 2, 0, 0, 0, 0), (.iaload, 1, 0, 0, 0, 0), (.invokevirtual 122, 3, 0, 110, 3, 978), (.istore 7, 2, 0, 0, 0, 0), (.iload 5, 2, 0, 0, 0, 0), (.iload_n 3, 1, 0, 0, 0, 0), (.ifCond .eq 38, 3, 0, 89, 0, 0), (.iload 7, 2, 0, 0, 0, 0), (.iload 4, 2, 0, 0, 0, 0), (.if_icmp .gt 27, 3, 0, 85, 0, 0), (.iload 4, 2, 0, 0, 0, 0), (.iload 7, 2, 0, 0, 0, 0), (.aload_n 0, 1, 0, 0, 0, 0), (.getfield 13, 3, 0, 10, 2, 803), (.aload_n 0, 1, 0, 0, 0, 0), (.getfield 35, 3, 0, 10, 11, 812), (.iload 6, 2, 0, 0, 0, 0), (.iaload, 1, 0, 0, 0, 0), (.iaload, 1, 0, 0, 0, 0), (.iadd, 1, 0, 0, 0, 0), (.if_icmp .ge 7, 3, 0, 85, 0, 0), (.iconst 1, 1, 1, 0, 0, 0), (.goto 19, 3, 0, 101, 0, 0)]),
  (85, [(.iconst 0, 1, 0, 0, 0, 0), (.goto 15, 3, 0, 101, 0, 0)]),
  (89, [(.iload 7, 2, 0, 0, 0, 0), (.iload 4, 2, 0, 0, 0, 0), (.if_icmp .ne 7, 3, 0, 100, 0, 0), (.iconst 1, 1, 1, 0, 0, 0), (.goto 4, 3, 0, 101, 0, 0)]),
  (100, [(.iconst 0, 1, 0, 0, 0, 0)]),
  (101, [(.iadd, 1, 0, 0, 0, 0), (.istore 5, 2, 0, 0, 0, 0)]),
  (104, [(.iinc 6 1, 3, 1, 0, 0, 0), (.goto (-93), 3, 0, 14, 0, 0)]),
  (110, [(.iload 5, 2, 0, 0, 0, 0), (.ireturn, 1, 0, 0, 0, 0)])]
/-- X10_aboard -/
def tp_P122 : List (Nat × List tp_Ins) := [(0, [(.aload_n 0, 1, 0, 0, 0, 0), (.iload_n 1, 1, 0, 0, 0, 0), (.invokevirtual 114, 3, 0, 107, 2, 966), (.ifCond .eq 44, 3, 0, 49, 0, 0), (.iload_n 2, 1, 0, 0, 0, 0), (.i2l, 1, 0, 0, 0, 0), (.lconst 0, 1, 0, 0, 0, 0), (.ldc2_w 143, 3, 0, 8, 0, 1023), (.invokestatic 89, 3, 0, 101, 3, 939), (.ifCond .eq 32, 3, 0, 49, 0, 0), (.iload_n 3, 1, 0, 0, 0, 0), (.i2l, 1, 0, 0, 0, 0), (.lconst 0, 1, 0, 0, 0, 0), (.lconst 1, 1, 0, 0, 0, 0), (.invokestatic 89, 3, 0, 101, 3, 939), (.ifCond .eq 22, 3, 0, 49, 0, 0), (.aload_n 0, 1, 0, 0, 0, 0), (.iload_n 1, 1, 0, 0, 0, 0), (.iload_n 2, 1, 0, 0, 0, 0), (.iload_n 3, 1, 0, 0, 0, 0), (.iconst 1, 1, 1, 0, 0, 0), (.if_icmp .ne 7, 3, 0, 42, 0, 0), (.iconst 1, 1, 1, 0, 0, 0), (.goto 4, 3, 0, 43, 0, 0)]),
  (42, [(.iconst 0, 1, 0, 0, 0, 0)]),
  (43, [(.invokevirtual 145, 3, 0, 121, 4, 1024), (.goto 4, 3, 0, 50, 0, 0)]),
  (49, [(.iconst (-1), 1, -1, 0, 0, 0)]),
  (50, [(.ireturn, 1, 0, 0, 0, 0)])]
/-- X10_riders -/
def tp_P123 : List (Nat × List tp_Ins) := [(0, [(.iload_n 2, 1, 0, 0, 0, 0), (.i2l, 1, 0, 0, 0, 0), (.lconst 0, 1, 0, 0, 0, 0), (.ldc2_w 143, 3, 0, 8, 0, 1023), (.invokestatic 89, 3, 0, 101, 3, 939), (.ifCond .eq 13, 3, 0, 22, 0, 0), (.iload_n 3, 1, 0, 0, 0, 0), (.i2l, 1, 0, 0, 0, 0), (.lconst 0, 1, 0, 0, 0, 0), (.lconst 1, 1, 0, 0, 0, 0), (.invokestatic 89, 3, 0, 101, 3, 939), (.ifCond .ne 5, 3, 0, 24, 0, 0)]),
  (22, [(.iconst (-1), 1, -1, 0, 0, 0), (.ireturn, 1, 0, 0, 0, 0)]),
  (24, [(.iconst 0, 1, 0, 0, 0, 0), (.istore 4, 2, 0, 0, 0, 0), (.iconst 0, 1, 0, 0, 0, 0), (.istore 5, 2, 0, 0, 0, 0)]),
  (30, [(.iload 5, 2, 0, 0, 0, 0), (.aload_n 0, 1, 0, 0, 0, 0), (.getfield 111, 3, 0, 10, 5, 806), (.if_icmp .ge 46, 3, 0, 82, 0, 0), (.iload 4, 2, 0, 0, 0, 0), (.aload_n 0, 1, 0, 0, 0, 0), (.getfield 25, 3, 0, 10, 7, 808), (.iload 5, 2, 0, 0, 0, 0), (.baload, 1, 0, 0, 0, 0), (.iload_n 1, 1, 0, 0, 0, 0), (.if_icmp .ne 23, 3, 0, 72, 0, 0), (.aload_n 0, 1, 0, 0, 0, 0), (.iload 5, 2, 0, 0, 0, 0), (.iload_n 2, 1, 0, 0, 0, 0), (.iload_n 3, 1, 0, 0, 0, 0), (.iconst 1, 1, 1, 0, 0, 0), (.if_icmp .ne 7, 3, 0, 65, 0, 0), (.iconst 1, 1, 1, 0, 0, 0), (.goto 4, 3, 0, 66, 0, 0)]),
  (65, [(.iconst 0, 1, 0, 0, 0, 0)]),
  (66, [(.invokevirtual 145, 3, 0, 121, 4, 1024), (.goto 4, 3, 0, 73, 0, 0)]),
  (72, [(.iconst 0, 1, 0, 0, 0, 0)]),
  (73, [(.iadd, 1, 0, 0, 0, 0), (.istore 4, 2, 0, 0, 0, 0), (.iinc 5 1, 3, 1, 0, 0, 0), (.goto (-49), 3, 0, 30, 0, 0)]),
  (82, [(.iload 4, 2, 0, 0, 0, 0), (.ireturn, 1, 0, 0, 0, 0)])]
/-- X10_shown -/
def tp_P124 : List (Nat × List tp_Ins) := [(0, [(.aload_n 0, 1, 0, 0, 0, 0), (.iload_n 1, 1, 0, 0, 0, 0), (.invokevirtual 114, 3, 0, 107, 2, 966), (.ifCond .eq 36, 3, 0, 41, 0, 0), (.iload_n 2, 1, 0, 0, 0, 0), (.i2l, 1, 0, 0, 0, 0), (.lconst 0, 1, 0, 0, 0, 0), (.ldc2_w 143, 3, 0, 8, 0, 1023), (.invokestatic 89, 3, 0, 101, 3, 939), (.ifCond .eq 24, 3, 0, 41, 0, 0), (.iload_n 3, 1, 0, 0, 0, 0), (.i2l, 1, 0, 0, 0, 0), (.lconst 0, 1, 0, 0, 0, 0), (.aload_n 0, 1, 0, 0, 0, 0), (.getfield 95, 3, 0, 10, 0, 801), (.iconst 1, 1, 1, 0, 0, 0), (.isub, 1, 0, 0, 0, 0), (.i2l, 1, 0, 0, 0, 0), (.invokestatic 89, 3, 0, 101, 3, 939), (.ifCond .eq 8, 3, 0, 41, 0, 0), (.iload 4, 2, 0, 0, 0, 0), (.ifCond .ge 5, 3, 0, 43, 0, 0)]),
  (41, [(.iconst (-1), 1, -1, 0, 0, 0), (.ireturn, 1, 0, 0, 0, 0)]),
  (43, [(.iconst 0, 1, 0, 0, 0, 0), (.istore 5, 2, 0, 0, 0, 0)]),
  (46, [(.iload 5, 2, 0, 0, 0, 0), (.aload_n 0, 1, 0, 0, 0, 0), (.getfield 108, 3, 0, 10, 9, 810), (.if_icmp .ge 100, 3, 0, 152, 0, 0), (.aload_n 0, 1, 0, 0, 0, 0), (.getfield 35, 3, 0, 10, 11, 812), (.iload 5, 2, 0, 0, 0, 0), (.iaload, 1, 0, 0, 0, 0), (.iload_n 3, 1, 0, 0, 0, 0), (.if_icmp .ne 83, 3, 0, 146, 0, 0), (.aload_n 0, 1, 0, 0, 0, 0), (.getfield 41, 3, 0, 10, 13, 814), (.iload 5, 2, 0, 0, 0, 0), (.iaload, 1, 0, 0, 0, 0), (.iload 4, 2, 0, 0, 0, 0), (.if_icmp .ne 71, 3, 0, 146, 0, 0), (.aload_n 0, 1, 0, 0, 0, 0), (.iload_n 1, 1, 0, 0, 0, 0), (.iload_n 2, 1, 0, 0, 0, 0), (.invokevirtual 140, 3, 0, 120, 3, 1028), (.istore 6, 2, 0, 0, 0, 0), (.aload_n 0, 1, 0, 0, 0, 0), (.iload_n 1, 1, 0, 0, 0, 0), (.aload_n 0, 1, 0, 0, 0, 0), (.getfield 38, 3, 0, 10, 12, 813), (.iload 5, 2, 0, 0, 0, 0), (.iaload, 1, 0, 0, 0, 0), (.invokevirtual 122, 3, 0, 110, 3, 978), (.istore 7, 2, 0, 0, 0, 0), (.aload_n 0, 1, 0, 0, 0, 0), (.getfield 32, 3, 0, 10, 10, 811), (.iload 5, 2, 0, 0, 0, 0), (.iaload, 1, 0, 0, 0, 0), (.iload_n 1, 1, 0, 0, 0, 0), (.if_icmp .eq 7, 3, 0, 115, 0, 0), (.iconst 2, 1, 2, 0, 0, 0), (.goto 33, 3, 0, 145, 0, 0)]),
  (115, [(.iload 7, 2, 0, 0, 0, 0), (.iload 6, 2, 0, 0, 0, 0), (.if_icmp .le 7, 3, 0, 126, 0, 0), (.iconst 3, 1, 3, 0, 0, 0), (.goto 22, 3, 0, 145, 0, 0)]),
  (126, [(.iload 6, 2, 0, 0, 0, 0), (.iload 7, 2, 0, 0, 0, 0), (.aload_n 0, 1, 0, 0, 0, 0), (.getfield 13, 3, 0, 10, 2, 803), (.iload_n 3, 1, 0, 0, 0, 0), (.iaload, 1, 0, 0, 0, 0), (.iadd, 1, 0, 0, 0, 0), (.if_icmp .lt 7, 3, 0, 144, 0, 0), (.iconst 4, 1, 4, 0, 0, 0), (.goto 4, 3, 0, 145, 0, 0)]),
  (144, [(.iconst 0, 1, 0, 0, 0, 0)]),
  (145, [(.ireturn, 1, 0, 0, 0, 0)]),
  (146, [(.iinc 5 1, 3, 1, 0, 0, 0), (.goto (-103), 3, 0, 46, 0, 0)]),
  (152, [(.iconst 1, 1, 1, 0, 0, 0), (.ireturn, 1, 0, 0, 0, 0)])]
/-- X10_heads -/
def tp_P125 : List (Nat × List tp_Ins) := [(0, [(.aload_n 0, 1, 0, 0, 0, 0), (.iload_n 1, 1, 0, 0, 0, 0), (.invokevirtual 114, 3, 0, 107, 2, 966), (.ifCond .eq 27, 3, 0, 32, 0, 0), (.iload_n 2, 1, 0, 0, 0, 0), (.i2l, 1, 0, 0, 0, 0), (.lconst 0, 1, 0, 0, 0, 0), (.ldc2_w 143, 3, 0, 8, 0, 1023), (.invokestatic 89, 3, 0, 101, 3, 939), (.ifCond .eq 15, 3, 0, 32, 0, 0), (.iload_n 3, 1, 0, 0, 0, 0), (.i2l, 1, 0, 0, 0, 0), (.lconst 0, 1, 0, 0, 0, 0), (.ldc2_w 106, 3, 0, 1000, 0, 953), (.invokestatic 89, 3, 0, 101, 3, 939), (.ifCond .ne 6, 3, 0, 35, 0, 0)]),
  (32, [(.ldc 139, 2, -1000000, 0, 0, 1018), (.ireturn, 1, 0, 0, 0, 0)]),
  (35, [(.aload_n 0, 1, 0, 0, 0, 0), (.iload_n 1, 1, 0, 0, 0, 0), (.iload_n 2, 1, 0, 0, 0, 0), (.iconst 1, 1, 1, 0, 0, 0), (.invokevirtual 145, 3, 0, 121, 4, 1024), (.istore 4, 2, 0, 0, 0, 0), (.aload_n 0, 1, 0, 0, 0, 0), (.iload_n 1, 1, 0, 0, 0, 0), (.iload_n 2, 1, 0, 0, 0, 0), (.iconst 0, 1, 0, 0, 0, 0), (.invokevirtual 145, 3, 0, 121, 4, 1024), (.istore 5, 2, 0, 0, 0, 0), (.iload_n 3, 1, 0, 0, 0, 0), (.iload 4, 2, 0, 0, 0, 0), (.if_icmp .le 10, 3, 0, 66, 0, 0), (.iload_n 3, 1, 0, 0, 0, 0), (.iload 4, 2, 0, 0, 0, 0), (.isub, 1, 0, 0, 0, 0), (.goto 17, 3, 0, 80, 0, 0)]),
  (66, [(.iload_n 3, 1, 0, 0, 0, 0), (.iload 5, 2, 0, 0, 0, 0), (.if_icmp .ge 10, 3, 0, 79, 0, 0), (.iload_n 3, 1, 0, 0, 0, 0), (.iload 5, 2, 0, 0, 0, 0), (.isub, 1, 0, 0, 0, 0), (.goto 4, 3, 0, 80, 0, 0)]),
  (79, [(.iconst 0, 1, 0, 0, 0, 0)]),
  (80, [(.ireturn, 1, 0, 0, 0, 0)])]
/-- X10_gap -/
def tp_P126 : List (Nat × List tp_Ins) := [(0, [(.iload_n 1, 1, 0, 0, 0, 0), (.i2l, 1, 0, 0, 0, 0), (.lconst 0, 1, 0, 0, 0, 0), (.aload_n 0, 1, 0, 0, 0, 0), (.getfield 95, 3, 0, 10, 0, 801), (.iconst 1, 1, 1, 0, 0, 0), (.isub, 1, 0, 0, 0, 0), (.i2l, 1, 0, 0, 0, 0), (.invokestatic 89, 3, 0, 101, 3, 939), (.ifCond .ne 5, 3, 0, 18, 0, 0), (.iconst (-1), 1, -1, 0, 0, 0), (.ireturn, 1, 0, 0, 0, 0)]),
  (18, [(.iconst (-1), 1, -1, 0, 0, 0), (.istore_n 2, 1, 0, 0, 0, 0), (.iconst 0, 1, 0, 0, 0, 0), (.istore_n 3, 1, 0, 0, 0, 0)]),
  (22, [(.iload_n 3, 1, 0, 0, 0, 0), (.aload_n 0, 1, 0, 0, 0, 0), (.getfield 108, 3, 0, 10, 9, 810), (.if_icmp .ge 40, 3, 0, 67, 0, 0), (.aload_n 0, 1, 0, 0, 0, 0), (.getfield 35, 3, 0, 10, 11, 812), (.iload_n 3, 1, 0, 0, 0, 0), (.iaload, 1, 0, 0, 0, 0), (.iload_n 1, 1, 0, 0, 0, 0), (.if_icmp .ne 22, 3, 0, 59, 0, 0), (.aload_n 0, 1, 0, 0, 0, 0), (.getfield 41, 3, 0, 10, 13, 814), (.iload_n 3, 1, 0, 0, 0, 0), (.iaload, 1, 0, 0, 0, 0), (.iload_n 2, 1, 0, 0, 0, 0), (.if_icmp .le 12, 3, 0, 59, 0, 0), (.aload_n 0, 1, 0, 0, 0, 0), (.getfield 41, 3, 0, 10, 13, 814), (.iload_n 3, 1, 0, 0, 0, 0), (.iaload, 1, 0, 0, 0, 0), (.goto 4, 3, 0, 60, 0, 0)]),
  (59, [(.iload_n 2, 1, 0, 0, 0, 0)]),
  (60, [(.istore_n 2, 1, 0, 0, 0, 0), (.iinc 3 1, 3, 1, 0, 0, 0), (.goto (-42), 3, 0, 22, 0, 0)]),
  (67, [(.iconst 0, 1, 0, 0, 0, 0), (.istore_n 3, 1, 0, 0, 0, 0)]),
  (69, [(.iload_n 3, 1, 0, 0, 0, 0), (.iload_n 2, 1, 0, 0, 0, 0), (.if_icmp .ge 130, 3, 0, 201, 0, 0), (.iload_n 3, 1, 0, 0, 0, 0), (.istore 4, 2, 0, 0, 0, 0), (.iconst 0, 1, 0, 0, 0, 0), (.istore 5, 2, 0, 0, 0, 0)]),
  (80, [(.iload 5, 2, 0, 0, 0, 0), (.aload_n 0, 1, 0, 0, 0, 0), (.getfield 108, 3, 0, 10, 9, 810), (.if_icmp .ge 41, 3, 0, 127, 0, 0), (.aload_n 0, 1, 0, 0, 0, 0), (.getfield 35, 3, 0, 10, 11, 812), (.iload 5, 2, 0, 0, 0, 0), (.iaload, 1, 0, 0, 0, 0), (.iload_n 1, 1, 0, 0, 0, 0), (.if_icmp .ne 20, 3, 0, 117, 0, 0), (.aload_n 0, 1, 0, 0, 0, 0), (.getfield 41, 3, 0, 10, 13, 814), (.iload 5, 2, 0, 0, 0, 0), (.iaload, 1, 0, 0, 0, 0), (.iload_n 3, 1, 0, 0, 0, 0), (.if_icmp .ne 9, 3, 0, 117, 0, 0), (.iload_n 3, 1, 0, 0, 0, 0), (.iconst 1, 1, 1, 0, 0, 0), (.iadd, 1, 0, 0, 0, 0), (.goto 5, 3, 0, 119, 0, 0)]),
  (117, [(.iload 4, 2, 0, 0, 0, 0)]),
  (119, [(.istore 4, 2, 0, 0, 0, 0), (.iinc 5 1, 3, 1, 0, 0, 0), (.goto (-44), 3, 0, 80, 0, 0)]),
  (127, [(.iconst 0, 1, 0, 0, 0, 0), (.istore 5, 2, 0, 0, 0, 0)]),
  (130, [(.iload 5, 2, 0, 0, 0, 0), (.bipush 6, 2, 6, 0, 0, 0), (.if_icmp .ge 53, 3, 0, 187, 0, 0), (.iconst 5, 1, 5, 0, 0, 0), (.iload 5, 2, 0, 0, 0, 0), (.imul, 1, 0, 0, 0, 0), (.iload_n 1, 1, 0, 0, 0, 0), (.iadd, 1, 0, 0, 0, 0), (.istore 6, 2, 0, 0, 0, 0), (.aload_n 0, 1, 0, 0, 0, 0), (.getfield 16, 3, 0, 10, 3, 804), (.iload 6, 2, 0, 0, 0, 0), (.iaload, 1, 0, 0, 0, 0), (.iload_n 3, 1, 0, 0, 0, 0), (.if_icmp .gt 24, 3, 0, 177, 0, 0), (.iload_n 3, 1, 0, 0, 0, 0), (.aload_n 0, 1, 0, 0, 0, 0), (.getfield 19, 3, 0, 10, 4, 805), (.iload 6, 2, 0, 0, 0, 0), (.iaload, 1, 0, 0, 0, 0), (.if_icmp .ge 13, 3, 0, 177, 0, 0), (.aload_n 0, 1, 0, 0, 0, 0), (.getfield 19, 3, 0, 10, 4, 805), (.iload 6, 2, 0, 0, 0, 0), (.iaload, 1, 0, 0, 0, 0), (.goto 5, 3, 0, 179, 0, 0)]),
  (177, [(.iload 4, 2, 0, 0, 0, 0)]),
  (179, [(.istore 4, 2, 0, 0, 0, 0), (.iinc 5 1, 3, 1, 0, 0, 0), (.goto (-54), 3, 0, 130, 0, 0)]),
  (187, [(.iload 4, 2, 0, 0, 0, 0), (.iload_n 3, 1, 0, 0, 0, 0), (.if_icmp .ne 5, 3, 0, 195, 0, 0), (.iload_n 3, 1, 0, 0, 0, 0), (.ireturn, 1, 0, 0, 0, 0)]),
  (195, [(.iload 4, 2, 0, 0, 0, 0), (.istore_n 3, 1, 0, 0, 0, 0), (.goto (-129), 3, 0, 69, 0, 0)]),
  (201, [(.bipush (-4), 2, -4, 0, 0, 0), (.ireturn, 1, 0, 0, 0, 0)])]
/-- X10_feed -/
def tp_P127 : List (Nat × List tp_Ins) := [(0, [(.aload_n 0, 1, 0, 0, 0, 0), (.getfield 149, 3, 0, 10, 18, 819), (.bipush 8, 2, 8, 0, 0, 0), (.iadd, 1, 0, 0, 0, 0), (.sipush 200, 3, 200, 0, 0, 0), (.if_icmp .le 6, 3, 0, 16, 0, 0), (.bipush (-3), 2, -3, 0, 0, 0), (.ireturn, 1, 0, 0, 0, 0)]),
  (16, [(.bipush 56, 2, 56, 0, 0, 0), (.istore_n 3, 1, 0, 0, 0, 0)]),
  (19, [(.iload_n 3, 1, 0, 0, 0, 0), (.ifCond .lt 36, 3, 0, 56, 0, 0), (.aload_n 0, 1, 0, 0, 0, 0), (.getfield 53, 3, 0, 10, 17, 818), (.aload_n 0, 1, 0, 0, 0, 0), (.getfield 149, 3, 0, 10, 18, 819), (.lload_n 1, 1, 0, 0, 0, 0), (.iload_n 3, 1, 0, 0, 0, 0), (.lshr, 1, 0, 0, 0, 0), (.l2i, 1, 0, 0, 0, 0), (.sipush 255, 3, 255, 0, 0, 0), (.iand, 1, 0, 0, 0, 0), (.iastore, 1, 0, 0, 0, 0), (.aload_n 0, 1, 0, 0, 0, 0), (.dup, 1, 0, 0, 0, 0), (.getfield 149, 3, 0, 10, 18, 819), (.iconst 1, 1, 1, 0, 0, 0), (.iadd, 1, 0, 0, 0, 0), (.putfield 149, 3, 0, 10, 18, 819), (.iinc 3 (-8), 3, -8, 0, 0, 0), (.goto (-34), 3, 0, 19, 0, 0)]),
  (56, [(.aload_n 0, 1, 0, 0, 0, 0), (.getfield 149, 3, 0, 10, 18, 819), (.ireturn, 1, 0, 0, 0, 0)])]
/-- X10_end -/
def tp_P128 : List (Nat × List tp_Ins) := [(0, [(.iload_n 1, 1, 0, 0, 0, 0), (.i2l, 1, 0, 0, 0, 0), (.lconst 0, 1, 0, 0, 0, 0), (.aload_n 0, 1, 0, 0, 0, 0), (.getfield 149, 3, 0, 10, 18, 819), (.i2l, 1, 0, 0, 0, 0), (.invokestatic 89, 3, 0, 101, 3, 939), (.ifCond .ne 5, 3, 0, 16, 0, 0), (.iconst (-1), 1, -1, 0, 0, 0), (.ireturn, 1, 0, 0, 0, 0)]),
  (16, [(.aload_n 0, 1, 0, 0, 0, 0), (.getfield 149, 3, 0, 10, 18, 819), (.istore_n 2, 1, 0, 0, 0, 0), (.aload_n 0, 1, 0, 0, 0, 0), (.iload_n 1, 1, 0, 0, 0, 0), (.putfield 149, 3, 0, 10, 18, 819), (.iload_n 2, 1, 0, 0, 0, 0), (.ireturn, 1, 0, 0, 0, 0)])]
/-- X10_byteAt -/
def tp_P129 : List (Nat × List tp_Ins) := [(0, [(.iload_n 1, 1, 0, 0, 0, 0), (.aload_n 0, 1, 0, 0, 0, 0), (.getfield 149, 3, 0, 10, 18, 819), (.if_icmp .ge 12, 3, 0, 17, 0, 0), (.aload_n 0, 1, 0, 0, 0, 0), (.getfield 53, 3, 0, 10, 17, 818), (.iload_n 1, 1, 0, 0, 0, 0), (.iaload, 1, 0, 0, 0, 0), (.goto 5, 3, 0, 19, 0, 0)]),
  (17, [(.bipush (-4), 2, -4, 0, 0, 0)]),
  (19, [(.ireturn, 1, 0, 0, 0, 0)])]
/-- X10_fails -/
def tp_P130 : List (Nat × List tp_Ins) := [(0, [(.aload_n 0, 1, 0, 0, 0, 0), (.getfield 152, 3, 0, 10, 30, 831), (.ifCond .ne 13, 3, 0, 17, 0, 0), (.aload_n 0, 1, 0, 0, 0, 0), (.iload_n 1, 1, 0, 0, 0, 0), (.putfield 152, 3, 0, 10, 30, 831), (.aload_n 0, 1, 0, 0, 0, 0), (.iload_n 2, 1, 0, 0, 0, 0), (.putfield 155, 3, 0, 10, 31, 832)]),
  (17, [(.return_, 1, 0, 0, 0, 0)])]
/-- X10_isName -/
def tp_P131 : List (Nat × List tp_Ins) := [(0, [(.aload_n 0, 1, 0, 0, 0, 0), (.getfield 66, 3, 0, 10, 32, 833), (.astore 9, 2, 0, 0, 0, 0), (.aload 9, 2, 0, 0, 0, 0), (.iconst 0, 1, 0, 0, 0, 0), (.iload_n 2, 1, 0, 0, 0, 0), (.iastore, 1, 0, 0, 0, 0), (.aload 9, 2, 0, 0, 0, 0), (.iconst 1, 1, 1, 0, 0, 0), (.iload_n 3, 1, 0, 0, 0, 0), (.iastore, 1, 0, 0, 0, 0), (.aload 9, 2, 0, 0, 0, 0), (.iconst 2, 1, 2, 0, 0, 0), (.iload 4, 2, 0, 0, 0, 0), (.iastore, 1, 0, 0, 0, 0), (.aload 9, 2, 0, 0, 0, 0), (.iconst 3, 1, 3, 0, 0, 0), (.iload 5, 2, 0, 0, 0, 0), (.iastore, 1, 0, 0, 0, 0), (.aload 9, 2, 0, 0, 0, 0), (.iconst 4, 1, 4, 0, 0, 0), (.iload 6, 2, 0, 0, 0, 0), (.iastore, 1, 0, 0, 0, 0), (.aload 9, 2, 0, 0, 0, 0), (.iconst 5, 1, 5, 0, 0, 0), (.iload 7, 2, 0, 0, 0, 0), (.iastore, 1, 0, 0, 0, 0), (.aload_n 0, 1, 0, 0, 0, 0), (.getfield 158, 3, 0, 10, 27, 828), (.iload_n 1, 1, 0, 0, 0, 0), (.isub, 1, 0, 0, 0, 0), (.iload 8, 2, 0, 0, 0, 0), (.if_icmp .ne 7, 3, 0, 55, 0, 0), (.iconst 1, 1, 1, 0, 0, 0), (.goto 4, 3, 0, 56, 0, 0)]),
  (55, [(.iconst 0, 1, 0, 0, 0, 0)]),
  (56, [(.istore 10, 2, 0, 0, 0, 0), (.iconst 0, 1, 0, 0, 0, 0), (.istore 11, 2, 0, 0, 0, 0)]),
  (61, [(.iload 11, 2, 0, 0, 0, 0), (.iload 8, 2, 0, 0, 0, 0), (.if_icmp .ge 37, 3, 0, 102, 0, 0), (.iload 10, 2, 0, 0, 0, 0), (.ifCond .eq 32, 3, 0, 102, 0, 0), (.aload_n 0, 1, 0, 0, 0, 0), (.iload_n 1, 1, 0, 0, 0, 0), (.iload 11, 2, 0, 0, 0, 0), (.iadd, 1, 0, 0, 0, 0), (.invokevirtual 161, 3, 0, 129, 2, 1064), (.aload 9, 2, 0, 0, 0, 0), (.iload 11, 2, 0, 0, 0, 0), (.iaload, 1, 0, 0, 0, 0), (.if_icmp .ne 7, 3, 0, 93, 0, 0), (.iconst 1, 1, 1, 0, 0, 0), (.goto 4, 3, 0, 94, 0, 0)]),
  (93, [(.iconst 0, 1, 0, 0, 0, 0)]),
  (94, [(.istore 10, 2, 0, 0, 0, 0), (.iinc 11 1, 3, 1, 0, 0, 0), (.goto (-38), 3, 0, 61, 0, 0)]),
  (102, [(.iload 10, 2, 0, 0, 0, 0), (.ireturn, 1, 0, 0, 0, 0)])]
/-- X10_next -/
def tp_P132 : List (Nat × List tp_Ins) := [(0, [(.aload_n 0, 1, 0, 0, 0, 0), (.getfield 152, 3, 0, 10, 30, 831), (.ifCond .le 4, 3, 0, 8, 0, 0), (.return_, 1, 0, 0, 0, 0)]),
  (8, [(.aload_n 0, 1, 0, 0, 0, 0), (.aload_n 0, 1, 0, 0, 0, 0), (.getfield 158, 3, 0, 10, 27, 828), (.invokevirtual 161, 3, 0, 129, 2, 1064), (.bipush 32, 2, 32, 0, 0, 0), (.if_icmp .ne 16, 3, 0, 34, 0, 0), (.aload_n 0, 1, 0, 0, 0, 0), (.dup, 1, 0, 0, 0, 0), (.getfield 158, 3, 0, 10, 27, 828), (.iconst 1, 1, 1, 0, 0, 0), (.iadd, 1, 0, 0, 0, 0), (.putfield 158, 3, 0, 10, 27, 828), (.goto (-23), 3, 0, 8, 0, 0)]),
  (34, [(.aload_n 0, 1, 0, 0, 0, 0), (.aload_n 0, 1, 0, 0, 0, 0), (.getfield 158, 3, 0, 10, 27, 828), (.putfield 164, 3, 0, 10, 26, 827), (.aload_n 0, 1, 0, 0, 0, 0), (.aload_n 0, 1, 0, 0, 0, 0), (.getfield 158, 3, 0, 10, 27, 828), (.invokevirtual 161, 3, 0, 129, 2, 1064), (.istore_n 1, 1, 0, 0, 0, 0), (.aload_n 0, 1, 0, 0, 0, 0), (.iload_n 1, 1, 0, 0, 0, 0), (.putfield 167, 3, 0, 10, 29, 830), (.iload_n 1, 1, 0, 0, 0, 0), (.bipush (-4), 2, -4, 0, 0, 0), (.if_icmp .ne 11, 3, 0, 70, 0, 0), (.aload_n 0, 1, 0, 0, 0, 0), (.iconst 0, 1, 0, 0, 0, 0), (.putfield 170, 3, 0, 10, 28, 829), (.goto 323, 3, 0, 390, 0, 0)]),
  (70, [(.iload_n 1, 1, 0, 0, 0, 0), (.i2l, 1, 0, 0, 0, 0), (.ldc2_w 173, 3, 0, 97, 0, 1068), (.ldc2_w 175, 3, 0, 122, 0, 1069), (.invokestatic 89, 3, 0, 101, 3, 939), (.ifCond .eq 150, 3, 0, 231, 0, 0)]),
  (84, [(.aload_n 0, 1, 0, 0, 0, 0), (.aload_n 0, 1, 0, 0, 0, 0), (.getfield 158, 3, 0, 10, 27, 828), (.invokevirtual 161, 3, 0, 129, 2, 1064), (.i2l, 1, 0, 0, 0, 0), (.ldc2_w 173, 3, 0, 97, 0, 1068), (.ldc2_w 175, 3, 0, 122, 0, 1069), (.invokestatic 89, 3, 0, 101, 3, 939), (.ifCond .eq 16, 3, 0, 118, 0, 0), (.aload_n 0, 1, 0, 0, 0, 0), (.dup, 1, 0, 0, 0, 0), (.getfield 158, 3, 0, 10, 27, 828), (.iconst 1, 1, 1, 0, 0, 0), (.iadd, 1, 0, 0, 0, 0), (.putfield 158, 3, 0, 10, 27, 828), (.goto (-31), 3, 0, 84, 0, 0)]),
  (118, [(.aload_n 0, 1, 0, 0, 0, 0), (.iconst 1, 1, 1, 0, 0, 0), (.putfield 170, 3, 0, 10, 28, 829), (.aload_n 0, 1, 0, 0, 0, 0), (.aload_n 0, 1, 0, 0, 0, 0), (.aload_n 0, 1, 0, 0, 0, 0), (.getfield 164, 3, 0, 10, 26, 827), (.bipush 102, 2, 102, 0, 0, 0), (.bipush 97, 2, 97, 0, 0, 0), (.bipush 114, 2, 114, 0, 0, 0), (.bipush 101, 2, 101, 0, 0, 0), (.iconst 0, 1, 0, 0, 0, 0), (.iconst 0, 1, 0, 0, 0, 0), (.iconst 4, 1, 4, 0, 0, 0), (.invokevirtual 177, 3, 0, 131, 9, 1070), (.ifCond .eq 7, 3, 0, 150, 0, 0), (.iconst 0, 1, 0, 0, 0, 0), (.goto 60, 3, 0, 207, 0, 0)]),
  (150, [(.aload_n 0, 1, 0, 0, 0, 0), (.aload_n 0, 1, 0, 0, 0, 0), (.getfield 164, 3, 0, 10, 26, 827), (.bipush 119, 2, 119, 0, 0, 0), (.bipush 111, 2, 111, 0, 0, 0), (.bipush 114, 2, 114, 0, 0, 0), (.bipush 107, 2, 107, 0, 0, 0), (.iconst 0, 1, 0, 0, 0, 0), (.iconst 0, 1, 0, 0, 0, 0), (.iconst 4, 1, 4, 0, 0, 0), (.invokevirtual 177, 3, 0, 131, 9, 1070), (.ifCond .eq 7, 3, 0, 176, 0, 0), (.iconst 1, 1, 1, 0, 0, 0), (.goto 34, 3, 0, 207, 0, 0)]),
  (176, [(.aload_n 0, 1, 0, 0, 0, 0), (.aload_n 0, 1, 0, 0, 0, 0), (.getfield 164, 3, 0, 10, 26, 827), (.bipush 99, 2, 99, 0, 0, 0), (.bipush 104, 2, 104, 0, 0, 0), (.bipush 97, 2, 97, 0, 0, 0), (.bipush 110, 2, 110, 0, 0, 0), (.bipush 103, 2, 103, 0, 0, 0), (.bipush 101, 2, 101, 0, 0, 0), (.bipush 6, 2, 6, 0, 0, 0), (.invokevirtual 177, 3, 0, 131, 9, 1070), (.ifCond .eq 7, 3, 0, 205, 0, 0), (.iconst 2, 1, 2, 0, 0, 0), (.goto 5, 3, 0, 207, 0, 0)]),
  (205, [(.bipush (-4), 2, -4, 0, 0, 0)]),
  (207, [(.putfield 167, 3, 0, 10, 29, 830), (.aload_n 0, 1, 0, 0, 0, 0), (.getfield 167, 3, 0, 10, 29, 830), (.bipush (-4), 2, -4, 0, 0, 0), (.if_icmp .ne 174, 3, 0, 390, 0, 0), (.aload_n 0, 1, 0, 0, 0, 0), (.iconst 1, 1, 1, 0, 0, 0), (.aload_n 0, 1, 0, 0, 0, 0), (.getfield 164, 3, 0, 10, 26, 827), (.invokevirtual 181, 3, 0, 130, 3, 1074), (.goto 162, 3, 0, 390, 0, 0)]),
  (231, [(.iload_n 1, 1, 0, 0, 0, 0), (.i2l, 1, 0, 0, 0, 0), (.ldc2_w 185, 3, 0, 48, 0, 1078), (.ldc2_w 187, 3, 0, 57, 0, 1079), (.invokestatic 89, 3, 0, 101, 3, 939), (.ifCond .eq 115, 3, 0, 357, 0, 0), (.aload_n 0, 1, 0, 0, 0, 0), (.iconst 0, 1, 0, 0, 0, 0), (.putfield 167, 3, 0, 10, 29, 830)]),
  (250, [(.aload_n 0, 1, 0, 0, 0, 0), (.aload_n 0, 1, 0, 0, 0, 0), (.getfield 158, 3, 0, 10, 27, 828), (.invokevirtual 161, 3, 0, 129, 2, 1064), (.i2l, 1, 0, 0, 0, 0), (.ldc2_w 185, 3, 0, 48, 0, 1078), (.ldc2_w 187, 3, 0, 57, 0, 1079), (.invokestatic 89, 3, 0, 101, 3, 939), (.ifCond .eq 59, 3, 0, 327, 0, 0), (.aload_n 0, 1, 0, 0, 0, 0), (.aload_n 0, 1, 0, 0, 0, 0), (.getfield 158, 3, 0, 10, 27, 828), (.aload_n 0, 1, 0, 0, 0, 0), (.getfield 164, 3, 0, 10, 26, 827), (.isub, 1, 0, 0, 0, 0), (.iconst 4, 1, 4, 0, 0, 0), (.if_icmp .ge 25, 3, 0, 307, 0, 0), (.bipush 10, 2, 10, 0, 0, 0), (.aload_n 0, 1, 0, 0, 0, 0), (.getfield 167, 3, 0, 10, 29, 830), (.imul, 1, 0, 0, 0, 0), (.aload_n 0, 1, 0, 0, 0, 0), (.aload_n 0, 1, 0, 0, 0, 0), (.getfield 158, 3, 0, 10, 27, 828), (.invokevirtual 161, 3, 0, 129, 2, 1064), (.iadd, 1, 0, 0, 0, 0), (.bipush 48, 2, 48, 0, 0, 0), (.isub, 1, 0, 0, 0, 0), (.goto 7, 3, 0, 311, 0, 0)]),
  (307, [(.aload_n 0, 1, 0, 0, 0, 0), (.getfield 167, 3, 0, 10, 29, 830)]),
  (311, [(.putfield 167, 3, 0, 10, 29, 830), (.aload_n 0, 1, 0, 0, 0, 0), (.dup, 1, 0, 0, 0, 0), (.getfield 158, 3, 0, 10, 27, 828), (.iconst 1, 1, 1, 0, 0, 0), (.iadd, 1, 0, 0, 0, 0), (.putfield 158, 3, 0, 10, 27, 828), (.goto (-74), 3, 0, 250, 0, 0)]),
  (327, [(.aload_n 0, 1, 0, 0, 0, 0), (.iconst 2, 1, 2, 0, 0, 0), (.putfield 170, 3, 0, 10, 28, 829), (.aload_n 0, 1, 0, 0, 0, 0), (.getfield 158, 3, 0, 10, 27, 828), (.aload_n 0, 1, 0, 0, 0, 0), (.getfield 164, 3, 0, 10, 26, 827), (.isub, 1, 0, 0, 0, 0), (.iconst 4, 1, 4, 0, 0, 0), (.if_icmp .le 48, 3, 0, 390, 0, 0), (.aload_n 0, 1, 0, 0, 0, 0), (.iconst 1, 1, 1, 0, 0, 0), (.aload_n 0, 1, 0, 0, 0, 0), (.getfield 164, 3, 0, 10, 26, 827), (.invokevirtual 181, 3, 0, 130, 3, 1074), (.goto 36, 3, 0, 390, 0, 0)]),
  (357, [(.iload_n 1, 1, 0, 0, 0, 0), (.bipush 59, 2, 59, 0, 0, 0), (.if_icmp .ne 21, 3, 0, 381, 0, 0), (.aload_n 0, 1, 0, 0, 0, 0), (.dup, 1, 0, 0, 0, 0), (.getfield 158, 3, 0, 10, 27, 828), (.iconst 1, 1, 1, 0, 0, 0), (.iadd, 1, 0, 0, 0, 0), (.putfield 158, 3, 0, 10, 27, 828), (.aload_n 0, 1, 0, 0, 0, 0), (.iconst 3, 1, 3, 0, 0, 0), (.putfield 170, 3, 0, 10, 28, 829), (.goto 12, 3, 0, 390, 0, 0)]),
  (381, [(.aload_n 0, 1, 0, 0, 0, 0), (.iconst 1, 1, 1, 0, 0, 0), (.aload_n 0, 1, 0, 0, 0, 0), (.getfield 164, 3, 0, 10, 26, 827), (.invokevirtual 181, 3, 0, 130, 3, 1074)]),
  (390, [(.return_, 1, 0, 0, 0, 0)])]
/-- X10_number -/
def tp_P133 : List (Nat × List tp_Ins) := [(0, [(.aload_n 0, 1, 0, 0, 0, 0), (.getfield 152, 3, 0, 10, 30, 831), (.ifCond .le 5, 3, 0, 9, 0, 0), (.iconst 0, 1, 0, 0, 0, 0), (.ireturn, 1, 0, 0, 0, 0)]),
  (9, [(.aload_n 0, 1, 0, 0, 0, 0), (.getfield 170, 3, 0, 10, 28, 829), (.iconst 2, 1, 2, 0, 0, 0), (.if_icmp .eq 15, 3, 0, 29, 0, 0), (.aload_n 0, 1, 0, 0, 0, 0), (.iconst 2, 1, 2, 0, 0, 0), (.aload_n 0, 1, 0, 0, 0, 0), (.getfield 164, 3, 0, 10, 26, 827), (.invokevirtual 181, 3, 0, 130, 3, 1074), (.goto 27, 3, 0, 53, 0, 0)]),
  (29, [(.aload_n 0, 1, 0, 0, 0, 0), (.getfield 167, 3, 0, 10, 29, 830), (.i2l, 1, 0, 0, 0, 0), (.iload_n 1, 1, 0, 0, 0, 0), (.i2l, 1, 0, 0, 0, 0), (.iload_n 2, 1, 0, 0, 0, 0), (.i2l, 1, 0, 0, 0, 0), (.invokestatic 89, 3, 0, 101, 3, 939), (.ifCond .ne 12, 3, 0, 53, 0, 0), (.aload_n 0, 1, 0, 0, 0, 0), (.iconst 3, 1, 3, 0, 0, 0), (.aload_n 0, 1, 0, 0, 0, 0), (.getfield 164, 3, 0, 10, 26, 827), (.invokevirtual 181, 3, 0, 130, 3, 1074)]),
  (53, [(.aload_n 0, 1, 0, 0, 0, 0), (.getfield 167, 3, 0, 10, 29, 830), (.istore_n 3, 1, 0, 0, 0, 0), (.aload_n 0, 1, 0, 0, 0, 0), (.invokevirtual 189, 3, 0, 132, 1, 1060), (.iload_n 3, 1, 0, 0, 0, 0), (.ireturn, 1, 0, 0, 0, 0)])]
/-- X10_above -/
def tp_P134 : List (Nat × List tp_Ins) := [(0, [(.aload_n 0, 1, 0, 0, 0, 0), (.getfield 152, 3, 0, 10, 30, 831), (.ifCond .ne 43, 3, 0, 47, 0, 0), (.aload_n 0, 1, 0, 0, 0, 0), (.getfield 170, 3, 0, 10, 28, 829), (.iconst 2, 1, 2, 0, 0, 0), (.if_icmp .ne 35, 3, 0, 47, 0, 0), (.aload_n 0, 1, 0, 0, 0, 0), (.getfield 167, 3, 0, 10, 29, 830), (.i2l, 1, 0, 0, 0, 0), (.iload_n 1, 1, 0, 0, 0, 0), (.i2l, 1, 0, 0, 0, 0), (.iload_n 2, 1, 0, 0, 0, 0), (.i2l, 1, 0, 0, 0, 0), (.invokestatic 89, 3, 0, 101, 3, 939), (.ifCond .eq 20, 3, 0, 47, 0, 0), (.aload_n 0, 1, 0, 0, 0, 0), (.getfield 167, 3, 0, 10, 29, 830), (.iload_n 3, 1, 0, 0, 0, 0), (.if_icmp .gt 12, 3, 0, 47, 0, 0), (.aload_n 0, 1, 0, 0, 0, 0), (.iconst 4, 1, 4, 0, 0, 0), (.aload_n 0, 1, 0, 0, 0, 0), (.getfield 164, 3, 0, 10, 26, 827), (.invokevirtual 181, 3, 0, 130, 3, 1074)]),
  (47, [(.aload_n 0, 1, 0, 0, 0, 0), (.iload_n 1, 1, 0, 0, 0, 0), (.iload_n 2, 1, 0, 0, 0, 0), (.invokevirtual 192, 3, 0, 133, 3, 1088), (.ireturn, 1, 0, 0, 0, 0)])]
/-- X10_law -/
def tp_P135 : List (Nat × List tp_Ins) := [(0, [(.aload_n 0, 1, 0, 0, 0, 0), (.getfield 170, 3, 0, 10, 28, 829), (.iconst 1, 1, 1, 0, 0, 0), (.if_icmp .eq 13, 3, 0, 18, 0, 0), (.aload_n 0, 1, 0, 0, 0, 0), (.iconst 2, 1, 2, 0, 0, 0), (.aload_n 0, 1, 0, 0, 0, 0), (.getfield 164, 3, 0, 10, 26, 827), (.invokevirtual 181, 3, 0, 130, 3, 1074), (.return_, 1, 0, 0, 0, 0)]),
  (18, [(.aload_n 0, 1, 0, 0, 0, 0), (.getfield 167, 3, 0, 10, 29, 830), (.istore_n 1, 1, 0, 0, 0, 0), (.iload_n 1, 1, 0, 0, 0, 0), (.ifCond .ne 12, 3, 0, 36, 0, 0), (.aload_n 0, 1, 0, 0, 0, 0), (.getfield 195, 3, 0, 10, 33, 834), (.bipush 9, 2, 9, 0, 0, 0), (.if_icmp .eq 30, 3, 0, 63, 0, 0)]),
  (36, [(.iload_n 1, 1, 0, 0, 0, 0), (.iconst 1, 1, 1, 0, 0, 0), (.if_icmp .ne 11, 3, 0, 49, 0, 0), (.aload_n 0, 1, 0, 0, 0, 0), (.getfield 198, 3, 0, 10, 34, 835), (.iconst 4, 1, 4, 0, 0, 0), (.if_icmp .eq 17, 3, 0, 63, 0, 0)]),
  (49, [(.iload_n 1, 1, 0, 0, 0, 0), (.iconst 2, 1, 2, 0, 0, 0), (.if_icmp .ne 22, 3, 0, 73, 0, 0), (.aload_n 0, 1, 0, 0, 0, 0), (.getfield 201, 3, 0, 10, 35, 836), (.bipush (-4), 2, -4, 0, 0, 0), (.if_icmp .eq 13, 3, 0, 73, 0, 0)]),
  (63, [(.aload_n 0, 1, 0, 0, 0, 0), (.iconst 5, 1, 5, 0, 0, 0), (.aload_n 0, 1, 0, 0, 0, 0), (.getfield 164, 3, 0, 10, 26, 827), (.invokevirtual 181, 3, 0, 130, 3, 1074), (.return_, 1, 0, 0, 0, 0)]),
  (73, [(.aload_n 0, 1, 0, 0, 0, 0), (.invokevirtual 189, 3, 0, 132, 1, 1060), (.iload_n 1, 1, 0, 0, 0, 0), (.ifCond .ne 90, 3, 0, 168, 0, 0), (.iconst 2, 1, 2, 0, 0, 0), (.aload_n 0, 1, 0, 0, 0, 0), (.getfield 195, 3, 0, 10, 33, 834), (.imul, 1, 0, 0, 0, 0), (.istore_n 2, 1, 0, 0, 0, 0), (.aload_n 0, 1, 0, 0, 0, 0), (.getfield 69, 3, 0, 10, 36, 837), (.iload_n 2, 1, 0, 0, 0, 0), (.aload_n 0, 1, 0, 0, 0, 0), (.iconst 1, 1, 1, 0, 0, 0), (.bipush 9, 2, 9, 0, 0, 0), (.aload_n 0, 1, 0, 0, 0, 0), (.getfield 195, 3, 0, 10, 33, 834), (.ifCond .ne 7, 3, 0, 108, 0, 0), (.iconst 0, 1, 0, 0, 0, 0), (.goto 11, 3, 0, 116, 0, 0)]),
  (108, [(.aload_n 0, 1, 0, 0, 0, 0), (.getfield 69, 3, 0, 10, 36, 837), (.iload_n 2, 1, 0, 0, 0, 0), (.iconst 2, 1, 2, 0, 0, 0), (.isub, 1, 0, 0, 0, 0), (.iaload, 1, 0, 0, 0, 0)]),
  (116, [(.invokevirtual 204, 3, 0, 134, 4, 1084), (.iastore, 1, 0, 0, 0, 0), (.aload_n 0, 1, 0, 0, 0, 0), (.getfield 69, 3, 0, 10, 36, 837), (.iload_n 2, 1, 0, 0, 0, 0), (.iconst 1, 1, 1, 0, 0, 0), (.iadd, 1, 0, 0, 0, 0), (.aload_n 0, 1, 0, 0, 0, 0), (.iconst 1, 1, 1, 0, 0, 0), (.sipush 999, 3, 999, 0, 0, 0), (.aload_n 0, 1, 0, 0, 0, 0), (.getfield 195, 3, 0, 10, 33, 834), (.ifCond .ne 7, 3, 0, 143, 0, 0), (.iconst 0, 1, 0, 0, 0, 0), (.goto 11, 3, 0, 151, 0, 0)]),
  (143, [(.aload_n 0, 1, 0, 0, 0, 0), (.getfield 69, 3, 0, 10, 36, 837), (.iload_n 2, 1, 0, 0, 0, 0), (.iconst 1, 1, 1, 0, 0, 0), (.isub, 1, 0, 0, 0, 0), (.iaload, 1, 0, 0, 0, 0)]),
  (151, [(.invokevirtual 204, 3, 0, 134, 4, 1084), (.iastore, 1, 0, 0, 0, 0), (.aload_n 0, 1, 0, 0, 0, 0), (.dup, 1, 0, 0, 0, 0), (.getfield 195, 3, 0, 10, 33, 834), (.iconst 1, 1, 1, 0, 0, 0), (.iadd, 1, 0, 0, 0, 0), (.putfield 195, 3, 0, 10, 33, 834), (.goto 89, 3, 0, 254, 0, 0)]),
  (168, [(.iload_n 1, 1, 0, 0, 0, 0), (.iconst 1, 1, 1, 0, 0, 0), (.if_icmp .ne 73, 3, 0, 243, 0, 0), (.iconst 3, 1, 3, 0, 0, 0), (.aload_n 0, 1, 0, 0, 0, 0), (.getfield 198, 3, 0, 10, 34, 835), (.imul, 1, 0, 0, 0, 0), (.istore_n 2, 1, 0, 0, 0, 0), (.aload_n 0, 1, 0, 0, 0, 0), (.getfield 72, 3, 0, 10, 37, 838), (.iload_n 2, 1, 0, 0, 0, 0), (.aload_n 0, 1, 0, 0, 0, 0), (.iconst 0, 1, 0, 0, 0, 0), (.bipush 23, 2, 23, 0, 0, 0), (.invokevirtual 192, 3, 0, 133, 3, 1088), (.iastore, 1, 0, 0, 0, 0), (.aload_n 0, 1, 0, 0, 0, 0), (.getfield 72, 3, 0, 10, 37, 838), (.iload_n 2, 1, 0, 0, 0, 0), (.iconst 1, 1, 1, 0, 0, 0), (.iadd, 1, 0, 0, 0, 0), (.aload_n 0, 1, 0, 0, 0, 0), (.aload_n 0, 1, 0, 0, 0, 0), (.getfield 72, 3, 0, 10, 37, 838), (.iload_n 2, 1, 0, 0, 0, 0), (.iaload, 1, 0, 0, 0, 0), (.iconst 1, 1, 1, 0, 0, 0), (.iadd, 1, 0, 0, 0, 0), (.bipush 24, 2, 24, 0, 0, 0), (.invokevirtual 192, 3, 0, 133, 3, 1088), (.iastore, 1, 0, 0, 0, 0), (.aload_n 0, 1, 0, 0, 0, 0), (.getfield 72, 3, 0, 10, 37, 838), (.iload_n 2, 1, 0, 0, 0, 0), (.iconst 2, 1, 2, 0, 0, 0), (.iadd, 1, 0, 0, 0, 0), (.aload_n 0, 1, 0, 0, 0, 0), (.iconst 0, 1, 0, 0, 0, 0), (.bipush 100, 2, 100, 0, 0, 0), (.invokevirtual 192, 3, 0, 133, 3, 1088), (.iastore, 1, 0, 0, 0, 0), (.aload_n 0, 1, 0, 0, 0, 0), (.dup, 1, 0, 0, 0, 0), (.getfield 198, 3, 0, 10, 34, 835), (.iconst 1, 1, 1, 0, 0, 0), (.iadd, 1, 0, 0, 0, 0), (.putfield 198, 3, 0, 10, 34, 835), (.goto 14, 3, 0, 254, 0, 0)]),
  (243, [(.aload_n 0, 1, 0, 0, 0, 0), (.aload_n 0, 1, 0, 0, 0, 0), (.iconst 0, 1, 0, 0, 0, 0), (.bipush 120, 2, 120, 0, 0, 0), (.invokevirtual 192, 3, 0, 133, 3, 1088), (.putfield 201, 3, 0, 10, 35, 836)]),
  (254, [(.aload_n 0, 1, 0, 0, 0, 0), (.getfield 152, 3, 0, 10, 30, 831), (.ifCond .ne 20, 3, 0, 278, 0, 0), (.aload_n 0, 1, 0, 0, 0, 0), (.getfield 170, 3, 0, 10, 28, 829), (.iconst 3, 1, 3, 0, 0, 0), (.if_icmp .eq 12, 3, 0, 278, 0, 0), (.aload_n 0, 1, 0, 0, 0, 0), (.iconst 2, 1, 2, 0, 0, 0), (.aload_n 0, 1, 0, 0, 0, 0), (.getfield 164, 3, 0, 10, 26, 827), (.invokevirtual 181, 3, 0, 130, 3, 1074)]),
  (278, [(.aload_n 0, 1, 0, 0, 0, 0), (.invokevirtual 189, 3, 0, 132, 1, 1060), (.return_, 1, 0, 0, 0, 0)])]
/-- X10_laws -/
def tp_P136 : List (Nat × List tp_Ins) := [(0, [(.aload_n 0, 1, 0, 0, 0, 0), (.iconst 0, 1, 0, 0, 0, 0), (.putfield 152, 3, 0, 10, 30, 831), (.aload_n 0, 1, 0, 0, 0, 0), (.iconst 0, 1, 0, 0, 0, 0), (.putfield 158, 3, 0, 10, 27, 828), (.aload_n 0, 1, 0, 0, 0, 0), (.iconst 0, 1, 0, 0, 0, 0), (.putfield 195, 3, 0, 10, 33, 834), (.aload_n 0, 1, 0, 0, 0, 0), (.iconst 0, 1, 0, 0, 0, 0), (.putfield 198, 3, 0, 10, 34, 835), (.aload_n 0, 1, 0, 0, 0, 0), (.bipush (-4), 2, -4, 0, 0, 0), (.putfield 201, 3, 0, 10, 35, 836), (.aload_n 0, 1, 0, 0, 0, 0), (.invokevirtual 189, 3, 0, 132, 1, 1060)]),
  (30, [(.aload_n 0, 1, 0, 0, 0, 0), (.getfield 152, 3, 0, 10, 30, 831), (.ifCond .ne 17, 3, 0, 51, 0, 0), (.aload_n 0, 1, 0, 0, 0, 0), (.getfield 170, 3, 0, 10, 28, 829), (.ifCond .eq 10, 3, 0, 51, 0, 0), (.aload_n 0, 1, 0, 0, 0, 0), (.invokevirtual 207, 3, 0, 135, 1, 1080), (.goto (-18), 3, 0, 30, 0, 0)]),
  (51, [(.aload_n 0, 1, 0, 0, 0, 0), (.iconst 0, 1, 0, 0, 0, 0), (.putfield 149, 3, 0, 10, 18, 819), (.aload_n 0, 1, 0, 0, 0, 0), (.aload_n 0, 1, 0, 0, 0, 0), (.getfield 152, 3, 0, 10, 30, 831), (.putfield 210, 3, 0, 10, 19, 820), (.aload_n 0, 1, 0, 0, 0, 0), (.getfield 152, 3, 0, 10, 30, 831), (.ifCond .le 11, 3, 0, 79, 0, 0), (.bipush (-10), 2, -10, 0, 0, 0), (.aload_n 0, 1, 0, 0, 0, 0), (.getfield 155, 3, 0, 10, 31, 832), (.isub, 1, 0, 0, 0, 0), (.ireturn, 1, 0, 0, 0, 0)]),
  (79, [(.aload_n 0, 1, 0, 0, 0, 0), (.aload_n 0, 1, 0, 0, 0, 0), (.getfield 195, 3, 0, 10, 33, 834), (.putfield 213, 3, 0, 10, 20, 821), (.aload_n 0, 1, 0, 0, 0, 0), (.aload_n 0, 1, 0, 0, 0, 0), (.getfield 198, 3, 0, 10, 34, 835), (.putfield 216, 3, 0, 10, 22, 823), (.aload_n 0, 1, 0, 0, 0, 0), (.aload_n 0, 1, 0, 0, 0, 0), (.getfield 201, 3, 0, 10, 35, 836), (.putfield 62, 3, 0, 10, 24, 825), (.iconst 0, 1, 0, 0, 0, 0), (.istore_n 1, 1, 0, 0, 0, 0)]),
  (105, [(.iload_n 1, 1, 0, 0, 0, 0), (.bipush 18, 2, 18, 0, 0, 0), (.if_icmp .ge 21, 3, 0, 129, 0, 0), (.aload_n 0, 1, 0, 0, 0, 0), (.getfield 56, 3, 0, 10, 21, 822), (.iload_n 1, 1, 0, 0, 0, 0), (.aload_n 0, 1, 0, 0, 0, 0), (.getfield 69, 3, 0, 10, 36, 837), (.iload_n 1, 1, 0, 0, 0, 0), (.iaload, 1, 0, 0, 0, 0), (.iastore, 1, 0, 0, 0, 0), (.iinc 1 1, 3, 1, 0, 0, 0), (.goto (-21), 3, 0, 105, 0, 0)]),
  (129, [(.iconst 0, 1, 0, 0, 0, 0), (.istore_n 1, 1, 0, 0, 0, 0)]),
  (131, [(.iload_n 1, 1, 0, 0, 0, 0), (.bipush 12, 2, 12, 0, 0, 0), (.if_icmp .ge 21, 3, 0, 155, 0, 0), (.aload_n 0, 1, 0, 0, 0, 0), (.getfield 59, 3, 0, 10, 23, 824), (.iload_n 1, 1, 0, 0, 0, 0), (.aload_n 0, 1, 0, 0, 0, 0), (.getfield 72, 3, 0, 10, 37, 838), (.iload_n 1, 1, 0, 0, 0, 0), (.iaload, 1, 0, 0, 0, 0), (.iastore, 1, 0, 0, 0, 0), (.iinc 1 1, 3, 1, 0, 0, 0), (.goto (-21), 3, 0, 131, 0, 0)]),
  (155, [(.aload_n 0, 1, 0, 0, 0, 0), (.aload_n 0, 1, 0, 0, 0, 0), (.getfield 213, 3, 0, 10, 20, 821), (.aload_n 0, 1, 0, 0, 0, 0), (.getfield 216, 3, 0, 10, 22, 823), (.iadd, 1, 0, 0, 0, 0), (.aload_n 0, 1, 0, 0, 0, 0), (.getfield 62, 3, 0, 10, 24, 825), (.bipush (-4), 2, -4, 0, 0, 0), (.if_icmp .ne 7, 3, 0, 178, 0, 0), (.iconst 0, 1, 0, 0, 0, 0), (.goto 4, 3, 0, 179, 0, 0)]),
  (178, [(.iconst 1, 1, 1, 0, 0, 0)]),
  (179, [(.iadd, 1, 0, 0, 0, 0), (.putfield 219, 3, 0, 10, 25, 826), (.aload_n 0, 1, 0, 0, 0, 0), (.getfield 219, 3, 0, 10, 25, 826), (.ireturn, 1, 0, 0, 0, 0)])]
/-- X10_fault -/
def tp_P137 : List (Nat × List tp_Ins) := [(0, [(.aload_n 0, 1, 0, 0, 0, 0), (.getfield 210, 3, 0, 10, 19, 820), (.ireturn, 1, 0, 0, 0, 0)])]
/-- X10_fare -/
def tp_P138 : List (Nat × List tp_Ins) := [(0, [(.iload_n 1, 1, 0, 0, 0, 0), (.i2l, 1, 0, 0, 0, 0), (.lconst 1, 1, 0, 0, 0, 0), (.ldc2_w 93, 3, 0, 9, 0, 942), (.invokestatic 89, 3, 0, 101, 3, 939), (.ifCond .eq 15, 3, 0, 24, 0, 0), (.iload_n 2, 1, 0, 0, 0, 0), (.i2l, 1, 0, 0, 0, 0), (.lconst 0, 1, 0, 0, 0, 0), (.ldc2_w 222, 3, 0, 1439, 0, 1100), (.invokestatic 89, 3, 0, 101, 3, 939), (.ifCond .ne 5, 3, 0, 26, 0, 0)]),
  (24, [(.iconst (-1), 1, -1, 0, 0, 0), (.ireturn, 1, 0, 0, 0, 0)]),
  (26, [(.bipush (-4), 2, -4, 0, 0, 0), (.istore_n 3, 1, 0, 0, 0, 0), (.aload_n 0, 1, 0, 0, 0, 0), (.getfield 213, 3, 0, 10, 20, 821), (.iconst 1, 1, 1, 0, 0, 0), (.isub, 1, 0, 0, 0, 0), (.istore 4, 2, 0, 0, 0, 0)]),
  (37, [(.iload 4, 2, 0, 0, 0, 0), (.ifCond .lt 38, 3, 0, 77, 0, 0), (.aload_n 0, 1, 0, 0, 0, 0), (.getfield 56, 3, 0, 10, 21, 822), (.iconst 2, 1, 2, 0, 0, 0), (.iload 4, 2, 0, 0, 0, 0), (.imul, 1, 0, 0, 0, 0), (.iaload, 1, 0, 0, 0, 0), (.iload_n 1, 1, 0, 0, 0, 0), (.if_icmp .lt 17, 3, 0, 69, 0, 0), (.aload_n 0, 1, 0, 0, 0, 0), (.getfield 56, 3, 0, 10, 21, 822), (.iconst 2, 1, 2, 0, 0, 0), (.iload 4, 2, 0, 0, 0, 0), (.imul, 1, 0, 0, 0, 0), (.iconst 1, 1, 1, 0, 0, 0), (.iadd, 1, 0, 0, 0, 0), (.iaload, 1, 0, 0, 0, 0), (.goto 4, 3, 0, 70, 0, 0)]),
  (69, [(.iload_n 3, 1, 0, 0, 0, 0)]),
  (70, [(.istore_n 3, 1, 0, 0, 0, 0), (.iinc 4 (-1), 3, -1, 0, 0, 0), (.goto (-37), 3, 0, 37, 0, 0)]),
  (77, [(.iconst 0, 1, 0, 0, 0, 0), (.istore 4, 2, 0, 0, 0, 0)]),
  (80, [(.iload 4, 2, 0, 0, 0, 0), (.aload_n 0, 1, 0, 0, 0, 0), (.getfield 216, 3, 0, 10, 22, 823), (.if_icmp .ge 70, 3, 0, 156, 0, 0), (.iload_n 3, 1, 0, 0, 0, 0), (.bipush (-4), 2, -4, 0, 0, 0), (.if_icmp .eq 64, 3, 0, 156, 0, 0), (.iload_n 2, 1, 0, 0, 0, 0), (.bipush 60, 2, 60, 0, 0, 0), (.idiv, 1, 0, 0, 0, 0), (.i2l, 1, 0, 0, 0, 0), (.aload_n 0, 1, 0, 0, 0, 0), (.getfield 59, 3, 0, 10, 23, 824), (.iconst 3, 1, 3, 0, 0, 0), (.iload 4, 2, 0, 0, 0, 0), (.imul, 1, 0, 0, 0, 0), (.iaload, 1, 0, 0, 0, 0), (.i2l, 1, 0, 0, 0, 0), (.aload_n 0, 1, 0, 0, 0, 0), (.getfield 59, 3, 0, 10, 23, 824), (.iconst 3, 1, 3, 0, 0, 0), (.iload 4, 2, 0, 0, 0, 0), (.imul, 1, 0, 0, 0, 0), (.iconst 1, 1, 1, 0, 0, 0), (.iadd, 1, 0, 0, 0, 0), (.iaload, 1, 0, 0, 0, 0), (.iconst 1, 1, 1, 0, 0, 0), (.isub, 1, 0, 0, 0, 0), (.i2l, 1, 0, 0, 0, 0), (.invokestatic 89, 3, 0, 101, 3, 939), (.ifCond .eq 23, 3, 0, 150, 0, 0), (.iload_n 3, 1, 0, 0, 0, 0), (.aload_n 0, 1, 0, 0, 0, 0), (.getfield 59, 3, 0, 10, 23, 824), (.iconst 3, 1, 3, 0, 0, 0), (.iload 4, 2, 0, 0, 0, 0), (.imul, 1, 0, 0, 0, 0), (.iconst 2, 1, 2, 0, 0, 0), (.iadd, 1, 0, 0, 0, 0), (.iaload, 1, 0, 0, 0, 0), (.imul, 1, 0, 0, 0, 0), (.bipush 99, 2, 99, 0, 0, 0), (.iadd, 1, 0, 0, 0, 0), (.bipush 100, 2, 100, 0, 0, 0), (.idiv, 1, 0, 0, 0, 0), (.ireturn, 1, 0, 0, 0, 0)]),
  (150, [(.iinc 4 1, 3, 1, 0, 0, 0), (.goto (-73), 3, 0, 80, 0, 0)]),
  (156, [(.iload_n 3, 1, 0, 0, 0, 0), (.ireturn, 1, 0, 0, 0, 0)])]
/-- X10_change -/
def tp_P139 : List (Nat × List tp_Ins) := [(0, [(.iload_n 1, 1, 0, 0, 0, 0), (.i2l, 1, 0, 0, 0, 0), (.lconst 0, 1, 0, 0, 0, 0), (.ldc2_w 222, 3, 0, 1439, 0, 1100), (.invokestatic 89, 3, 0, 101, 3, 939), (.ifCond .eq 16, 3, 0, 25, 0, 0), (.iload_n 2, 1, 0, 0, 0, 0), (.i2l, 1, 0, 0, 0, 0), (.iload_n 1, 1, 0, 0, 0, 0), (.i2l, 1, 0, 0, 0, 0), (.ldc2_w 222, 3, 0, 1439, 0, 1100), (.invokestatic 89, 3, 0, 101, 3, 939), (.ifCond .ne 5, 3, 0, 27, 0, 0)]),
  (25, [(.iconst (-1), 1, -1, 0, 0, 0), (.ireturn, 1, 0, 0, 0, 0)]),
  (27, [(.aload_n 0, 1, 0, 0, 0, 0), (.getfield 62, 3, 0, 10, 24, 825), (.bipush (-4), 2, -4, 0, 0, 0), (.if_icmp .eq 17, 3, 0, 50, 0, 0), (.iload_n 2, 1, 0, 0, 0, 0), (.iload_n 1, 1, 0, 0, 0, 0), (.isub, 1, 0, 0, 0, 0), (.aload_n 0, 1, 0, 0, 0, 0), (.getfield 62, 3, 0, 10, 24, 825), (.if_icmp .gt 7, 3, 0, 50, 0, 0), (.iconst 1, 1, 1, 0, 0, 0), (.goto 4, 3, 0, 51, 0, 0)]),
  (50, [(.iconst 0, 1, 0, 0, 0, 0)]),
  (51, [(.ireturn, 1, 0, 0, 0, 0)])]
/-- X10_duty -/
def tp_P140 : List (Nat × List tp_Ins) := [(0, [(.iload_n 1, 1, 0, 0, 0, 0), (.i2l, 1, 0, 0, 0, 0), (.lconst 0, 1, 0, 0, 0, 0), (.ldc2_w 224, 3, 0, 1440, 0, 1109), (.invokestatic 89, 3, 0, 101, 3, 939), (.ifCond .eq 18, 3, 0, 27, 0, 0), (.iload_n 2, 1, 0, 0, 0, 0), (.i2l, 1, 0, 0, 0, 0), (.iload_n 1, 1, 0, 0, 0, 0), (.i2l, 1, 0, 0, 0, 0), (.lconst 1, 1, 0, 0, 0, 0), (.ladd, 1, 0, 0, 0, 0), (.ldc2_w 224, 3, 0, 1440, 0, 1109), (.invokestatic 89, 3, 0, 101, 3, 939), (.ifCond .ne 5, 3, 0, 29, 0, 0)]),
  (27, [(.iconst (-1), 1, -1, 0, 0, 0), (.ireturn, 1, 0, 0, 0, 0)]),
  (29, [(.aload_n 0, 1, 0, 0, 0, 0), (.getfield 226, 3, 0, 10, 38, 839), (.bipush 10, 2, 10, 0, 0, 0), (.if_icmp .ne 6, 3, 0, 41, 0, 0), (.bipush (-3), 2, -3, 0, 0, 0), (.ireturn, 1, 0, 0, 0, 0)]),
  (41, [(.aload_n 0, 1, 0, 0, 0, 0), (.getfield 75, 3, 0, 10, 39, 840), (.aload_n 0, 1, 0, 0, 0, 0), (.getfield 226, 3, 0, 10, 38, 839), (.iload_n 1, 1, 0, 0, 0, 0), (.iastore, 1, 0, 0, 0, 0), (.aload_n 0, 1, 0, 0, 0, 0), (.getfield 78, 3, 0, 10, 40, 841), (.aload_n 0, 1, 0, 0, 0, 0), (.getfield 226, 3, 0, 10, 38, 839), (.iload_n 2, 1, 0, 0, 0, 0), (.iastore, 1, 0, 0, 0, 0), (.aload_n 0, 1, 0, 0, 0, 0), (.dup, 1, 0, 0, 0, 0), (.getfield 226, 3, 0, 10, 38, 839), (.iconst 1, 1, 1, 0, 0, 0), (.iadd, 1, 0, 0, 0, 0), (.putfield 226, 3, 0, 10, 38, 839), (.aload_n 0, 1, 0, 0, 0, 0), (.getfield 226, 3, 0, 10, 38, 839), (.iconst 1, 1, 1, 0, 0, 0), (.isub, 1, 0, 0, 0, 0), (.ireturn, 1, 0, 0, 0, 0)])]
/-- X10_rest -/
def tp_P141 : List (Nat × List tp_Ins) := [(0, [(.iload_n 1, 1, 0, 0, 0, 0), (.i2l, 1, 0, 0, 0, 0), (.lconst 0, 1, 0, 0, 0, 0), (.ldc2_w 229, 3, 0, 600, 0, 1114), (.invokestatic 89, 3, 0, 101, 3, 939), (.ifCond .ne 5, 3, 0, 14, 0, 0), (.iconst (-1), 1, -1, 0, 0, 0), (.ireturn, 1, 0, 0, 0, 0)]),
  (14, [(.aload_n 0, 1, 0, 0, 0, 0), (.getfield 81, 3, 0, 10, 41, 842), (.istore_n 2, 1, 0, 0, 0, 0), (.aload_n 0, 1, 0, 0, 0, 0), (.iload_n 1, 1, 0, 0, 0, 0), (.putfield 81, 3, 0, 10, 41, 842), (.iload_n 2, 1, 0, 0, 0, 0), (.ireturn, 1, 0, 0, 0, 0)])]
/-- X10_layCrews -/
def tp_P142 : List (Nat × List tp_Ins) := [(0, [(.aload_n 0, 1, 0, 0, 0, 0), (.iconst 0, 1, 0, 0, 0, 0), (.putfield 231, 3, 0, 10, 43, 844), (.iconst 0, 1, 0, 0, 0, 0), (.istore_n 1, 1, 0, 0, 0, 0)]),
  (7, [(.iload_n 1, 1, 0, 0, 0, 0), (.aload_n 0, 1, 0, 0, 0, 0), (.getfield 226, 3, 0, 10, 38, 839), (.if_icmp .ge 17, 3, 0, 29, 0, 0), (.aload_n 0, 1, 0, 0, 0, 0), (.getfield 84, 3, 0, 10, 42, 843), (.iload_n 1, 1, 0, 0, 0, 0), (.bipush (-4), 2, -4, 0, 0, 0), (.iastore, 1, 0, 0, 0, 0), (.iinc 1 1, 3, 1, 0, 0, 0), (.goto (-19), 3, 0, 7, 0, 0)]),
  (29, [(.iconst 0, 1, 0, 0, 0, 0), (.istore_n 1, 1, 0, 0, 0, 0)]),
  (31, [(.iload_n 1, 1, 0, 0, 0, 0), (.aload_n 0, 1, 0, 0, 0, 0), (.getfield 226, 3, 0, 10, 38, 839), (.if_icmp .ge 114, 3, 0, 150, 0, 0), (.bipush (-4), 2, -4, 0, 0, 0), (.istore_n 2, 1, 0, 0, 0, 0), (.iconst 0, 1, 0, 0, 0, 0), (.istore_n 3, 1, 0, 0, 0, 0)]),
  (44, [(.iload_n 3, 1, 0, 0, 0, 0), (.aload_n 0, 1, 0, 0, 0, 0), (.getfield 226, 3, 0, 10, 38, 839), (.if_icmp .ge 47, 3, 0, 96, 0, 0), (.aload_n 0, 1, 0, 0, 0, 0), (.getfield 84, 3, 0, 10, 42, 843), (.iload_n 3, 1, 0, 0, 0, 0), (.iaload, 1, 0, 0, 0, 0), (.bipush (-4), 2, -4, 0, 0, 0), (.if_icmp .ne 28, 3, 0, 88, 0, 0), (.iload_n 2, 1, 0, 0, 0, 0), (.bipush (-4), 2, -4, 0, 0, 0), (.if_icmp .eq 18, 3, 0, 84, 0, 0), (.aload_n 0, 1, 0, 0, 0, 0), (.getfield 75, 3, 0, 10, 39, 840), (.iload_n 3, 1, 0, 0, 0, 0), (.iaload, 1, 0, 0, 0, 0), (.aload_n 0, 1, 0, 0, 0, 0), (.getfield 75, 3, 0, 10, 39, 840), (.iload_n 2, 1, 0, 0, 0, 0), (.iaload, 1, 0, 0, 0, 0), (.if_icmp .ge 7, 3, 0, 88, 0, 0)]),
  (84, [(.iload_n 3, 1, 0, 0, 0, 0), (.goto 4, 3, 0, 89, 0, 0)]),
  (88, [(.iload_n 2, 1, 0, 0, 0, 0)]),
  (89, [(.istore_n 2, 1, 0, 0, 0, 0), (.iinc 3 1, 3, 1, 0, 0, 0), (.goto (-49), 3, 0, 44, 0, 0)]),
  (96, [(.iconst 0, 1, 0, 0, 0, 0), (.istore_n 3, 1, 0, 0, 0, 0)]),
  (98, [(.aload_n 0, 1, 0, 0, 0, 0), (.iload_n 3, 1, 0, 0, 0, 0), (.iload_n 2, 1, 0, 0, 0, 0), (.invokevirtual 234, 3, 0, 143, 3, 1123), (.ifCond .ne 9, 3, 0, 113, 0, 0), (.iinc 3 1, 3, 1, 0, 0, 0), (.goto (-12), 3, 0, 98, 0, 0)]),
  (113, [(.aload_n 0, 1, 0, 0, 0, 0), (.getfield 84, 3, 0, 10, 42, 843), (.iload_n 2, 1, 0, 0, 0, 0), (.iload_n 3, 1, 0, 0, 0, 0), (.iastore, 1, 0, 0, 0, 0), (.aload_n 0, 1, 0, 0, 0, 0), (.iload_n 3, 1, 0, 0, 0, 0), (.iconst 1, 1, 1, 0, 0, 0), (.iadd, 1, 0, 0, 0, 0), (.aload_n 0, 1, 0, 0, 0, 0), (.getfield 231, 3, 0, 10, 43, 844), (.if_icmp .le 9, 3, 0, 137, 0, 0), (.iload_n 3, 1, 0, 0, 0, 0), (.iconst 1, 1, 1, 0, 0, 0), (.iadd, 1, 0, 0, 0, 0), (.goto 7, 3, 0, 141, 0, 0)]),
  (137, [(.aload_n 0, 1, 0, 0, 0, 0), (.getfield 231, 3, 0, 10, 43, 844)]),
  (141, [(.putfield 231, 3, 0, 10, 43, 844), (.iinc 1 1, 3, 1, 0, 0, 0), (.goto (-116), 3, 0, 31, 0, 0)]),
  (150, [(.return_, 1, 0, 0, 0, 0)])]
/-- X10_mayHave -/
def tp_P143 : List (Nat × List tp_Ins) := [(0, [(.iconst 1, 1, 1, 0, 0, 0), (.istore_n 3, 1, 0, 0, 0, 0), (.iconst 0, 1, 0, 0, 0, 0), (.istore 4, 2, 0, 0, 0, 0)]),
  (5, [(.iload 4, 2, 0, 0, 0, 0), (.aload_n 0, 1, 0, 0, 0, 0), (.getfield 226, 3, 0, 10, 38, 839), (.if_icmp .ge 51, 3, 0, 62, 0, 0), (.iload_n 3, 1, 0, 0, 0, 0), (.ifCond .eq 39, 3, 0, 54, 0, 0), (.aload_n 0, 1, 0, 0, 0, 0), (.getfield 84, 3, 0, 10, 42, 843), (.iload 4, 2, 0, 0, 0, 0), (.iaload, 1, 0, 0, 0, 0), (.iload_n 1, 1, 0, 0, 0, 0), (.if_icmp .ne 24, 3, 0, 50, 0, 0), (.aload_n 0, 1, 0, 0, 0, 0), (.getfield 78, 3, 0, 10, 40, 841), (.iload 4, 2, 0, 0, 0, 0), (.iaload, 1, 0, 0, 0, 0), (.aload_n 0, 1, 0, 0, 0, 0), (.getfield 81, 3, 0, 10, 41, 842), (.iadd, 1, 0, 0, 0, 0), (.aload_n 0, 1, 0, 0, 0, 0), (.getfield 75, 3, 0, 10, 39, 840), (.iload_n 2, 1, 0, 0, 0, 0), (.iaload, 1, 0, 0, 0, 0), (.if_icmp .gt 7, 3, 0, 54, 0, 0)]),
  (50, [(.iconst 1, 1, 1, 0, 0, 0), (.goto 4, 3, 0, 55, 0, 0)]),
  (54, [(.iconst 0, 1, 0, 0, 0, 0)]),
  (55, [(.istore_n 3, 1, 0, 0, 0, 0), (.iinc 4 1, 3, 1, 0, 0, 0), (.goto (-54), 3, 0, 5, 0, 0)]),
  (62, [(.iload_n 3, 1, 0, 0, 0, 0), (.ireturn, 1, 0, 0, 0, 0)])]
/-- X10_crew -/
def tp_P144 : List (Nat × List tp_Ins) := [(0, [(.iload_n 1, 1, 0, 0, 0, 0), (.i2l, 1, 0, 0, 0, 0), (.lconst 0, 1, 0, 0, 0, 0), (.aload_n 0, 1, 0, 0, 0, 0), (.getfield 226, 3, 0, 10, 38, 839), (.iconst 1, 1, 1, 0, 0, 0), (.isub, 1, 0, 0, 0, 0), (.i2l, 1, 0, 0, 0, 0), (.invokestatic 89, 3, 0, 101, 3, 939), (.ifCond .ne 5, 3, 0, 18, 0, 0), (.iconst (-1), 1, -1, 0, 0, 0), (.ireturn, 1, 0, 0, 0, 0)]),
  (18, [(.aload_n 0, 1, 0, 0, 0, 0), (.invokevirtual 237, 3, 0, 142, 1, 1119), (.aload_n 0, 1, 0, 0, 0, 0), (.getfield 84, 3, 0, 10, 42, 843), (.iload_n 1, 1, 0, 0, 0, 0), (.iaload, 1, 0, 0, 0, 0), (.ireturn, 1, 0, 0, 0, 0)])]
/-- X10_minutesOf -/
def tp_P145 : List (Nat × List tp_Ins) := [(0, [(.iconst 0, 1, 0, 0, 0, 0), (.istore_n 2, 1, 0, 0, 0, 0), (.iconst 0, 1, 0, 0, 0, 0), (.istore_n 3, 1, 0, 0, 0, 0)]),
  (4, [(.iload_n 3, 1, 0, 0, 0, 0), (.aload_n 0, 1, 0, 0, 0, 0), (.getfield 226, 3, 0, 10, 38, 839), (.if_icmp .ge 39, 3, 0, 48, 0, 0), (.iload_n 2, 1, 0, 0, 0, 0), (.aload_n 0, 1, 0, 0, 0, 0), (.getfield 84, 3, 0, 10, 42, 843), (.iload_n 3, 1, 0, 0, 0, 0), (.iaload, 1, 0, 0, 0, 0), (.iload_n 1, 1, 0, 0, 0, 0), (.if_icmp .ne 19, 3, 0, 39, 0, 0), (.aload_n 0, 1, 0, 0, 0, 0), (.getfield 78, 3, 0, 10, 40, 841), (.iload_n 3, 1, 0, 0, 0, 0), (.iaload, 1, 0, 0, 0, 0), (.aload_n 0, 1, 0, 0, 0, 0), (.getfield 75, 3, 0, 10, 39, 840), (.iload_n 3, 1, 0, 0, 0, 0), (.iaload, 1, 0, 0, 0, 0), (.isub, 1, 0, 0, 0, 0), (.goto 4, 3, 0, 40, 0, 0)]),
  (39, [(.iconst 0, 1, 0, 0, 0, 0)]),
  (40, [(.iadd, 1, 0, 0, 0, 0), (.istore_n 2, 1, 0, 0, 0, 0), (.iinc 3 1, 3, 1, 0, 0, 0), (.goto (-41), 3, 0, 4, 0, 0)]),
  (48, [(.iload_n 2, 1, 0, 0, 0, 0), (.ireturn, 1, 0, 0, 0, 0)])]
/-- X10_crews -/
def tp_P146 : List (Nat × List tp_Ins) := [(0, [(.iload_n 1, 1, 0, 0, 0, 0), (.i2l, 1, 0, 0, 0, 0), (.lconst 0, 1, 0, 0, 0, 0), (.ldc2_w 131, 3, 0, 2, 0, 995), (.invokestatic 89, 3, 0, 101, 3, 939), (.ifCond .ne 5, 3, 0, 14, 0, 0), (.iconst (-1), 1, -1, 0, 0, 0), (.ireturn, 1, 0, 0, 0, 0)]),
  (14, [(.aload_n 0, 1, 0, 0, 0, 0), (.invokevirtual 237, 3, 0, 142, 1, 1119), (.bipush (-4), 2, -4, 0, 0, 0), (.istore_n 2, 1, 0, 0, 0, 0), (.aload_n 0, 1, 0, 0, 0, 0), (.getfield 231, 3, 0, 10, 43, 844), (.iconst 1, 1, 1, 0, 0, 0), (.isub, 1, 0, 0, 0, 0), (.istore_n 3, 1, 0, 0, 0, 0)]),
  (28, [(.iload_n 3, 1, 0, 0, 0, 0), (.ifCond .lt 34, 3, 0, 63, 0, 0), (.iload_n 2, 1, 0, 0, 0, 0), (.bipush (-4), 2, -4, 0, 0, 0), (.if_icmp .eq 16, 3, 0, 51, 0, 0), (.aload_n 0, 1, 0, 0, 0, 0), (.iload_n 3, 1, 0, 0, 0, 0), (.invokevirtual 240, 3, 0, 145, 2, 1131), (.aload_n 0, 1, 0, 0, 0, 0), (.iload_n 2, 1, 0, 0, 0, 0), (.invokevirtual 240, 3, 0, 145, 2, 1131), (.if_icmp .lt 7, 3, 0, 55, 0, 0)]),
  (51, [(.iload_n 3, 1, 0, 0, 0, 0), (.goto 4, 3, 0, 56, 0, 0)]),
  (55, [(.iload_n 2, 1, 0, 0, 0, 0)]),
  (56, [(.istore_n 2, 1, 0, 0, 0, 0), (.iinc 3 (-1), 3, -1, 0, 0, 0), (.goto (-32), 3, 0, 28, 0, 0)]),
  (63, [(.iload_n 1, 1, 0, 0, 0, 0), (.ifCond .ne 10, 3, 0, 74, 0, 0), (.aload_n 0, 1, 0, 0, 0, 0), (.getfield 231, 3, 0, 10, 43, 844), (.goto 27, 3, 0, 98, 0, 0)]),
  (74, [(.iload_n 1, 1, 0, 0, 0, 0), (.iconst 2, 1, 2, 0, 0, 0), (.if_icmp .ne 7, 3, 0, 83, 0, 0), (.iload_n 2, 1, 0, 0, 0, 0), (.goto 18, 3, 0, 98, 0, 0)]),
  (83, [(.iload_n 2, 1, 0, 0, 0, 0), (.bipush (-4), 2, -4, 0, 0, 0), (.if_icmp .ne 7, 3, 0, 93, 0, 0), (.iconst 0, 1, 0, 0, 0, 0), (.goto 8, 3, 0, 98, 0, 0)]),
  (93, [(.aload_n 0, 1, 0, 0, 0, 0), (.iload_n 2, 1, 0, 0, 0, 0), (.invokevirtual 240, 3, 0, 145, 2, 1131)]),
  (98, [(.ireturn, 1, 0, 0, 0, 0)])]
/-- X10_ill -/
def tp_P147 : List (Nat × List tp_Ins) := [(0, [(.aload_n 0, 1, 0, 0, 0, 0), (.invokevirtual 237, 3, 0, 142, 1, 1119), (.iload_n 1, 1, 0, 0, 0, 0), (.i2l, 1, 0, 0, 0, 0), (.lconst 0, 1, 0, 0, 0, 0), (.aload_n 0, 1, 0, 0, 0, 0), (.getfield 231, 3, 0, 10, 43, 844), (.iconst 1, 1, 1, 0, 0, 0), (.isub, 1, 0, 0, 0, 0), (.i2l, 1, 0, 0, 0, 0), (.invokestatic 89, 3, 0, 101, 3, 939), (.ifCond .ne 5, 3, 0, 22, 0, 0), (.iconst (-1), 1, -1, 0, 0, 0), (.ireturn, 1, 0, 0, 0, 0)]),
  (22, [(.iconst 0, 1, 0, 0, 0, 0), (.istore_n 2, 1, 0, 0, 0, 0), (.iconst 0, 1, 0, 0, 0, 0), (.istore_n 3, 1, 0, 0, 0, 0)]),
  (26, [(.iload_n 3, 1, 0, 0, 0, 0), (.aload_n 0, 1, 0, 0, 0, 0), (.getfield 226, 3, 0, 10, 38, 839), (.if_icmp .ge 163, 3, 0, 194, 0, 0), (.aload_n 0, 1, 0, 0, 0, 0), (.getfield 84, 3, 0, 10, 42, 843), (.iload_n 3, 1, 0, 0, 0, 0), (.iaload, 1, 0, 0, 0, 0), (.iload_n 1, 1, 0, 0, 0, 0), (.if_icmp .eq 7, 3, 0, 48, 0, 0), (.iconst 1, 1, 1, 0, 0, 0), (.goto 4, 3, 0, 49, 0, 0)]),
  (48, [(.iconst 0, 1, 0, 0, 0, 0)]),
  (49, [(.istore 4, 2, 0, 0, 0, 0), (.iconst 0, 1, 0, 0, 0, 0), (.istore 5, 2, 0, 0, 0, 0)]),
  (54, [(.iload 5, 2, 0, 0, 0, 0), (.aload_n 0, 1, 0, 0, 0, 0), (.getfield 231, 3, 0, 10, 43, 844), (.if_icmp .ge 115, 3, 0, 175, 0, 0), (.iload 4, 2, 0, 0, 0, 0), (.ifCond .ne 110, 3, 0, 175, 0, 0), (.iload 5, 2, 0, 0, 0, 0), (.iload_n 1, 1, 0, 0, 0, 0), (.if_icmp .eq 7, 3, 0, 78, 0, 0), (.iconst 1, 1, 1, 0, 0, 0), (.goto 4, 3, 0, 79, 0, 0)]),
  (78, [(.iconst 0, 1, 0, 0, 0, 0)]),
  (79, [(.istore 6, 2, 0, 0, 0, 0), (.iconst 0, 1, 0, 0, 0, 0), (.istore 7, 2, 0, 0, 0, 0)]),
  (84, [(.iload 7, 2, 0, 0, 0, 0), (.aload_n 0, 1, 0, 0, 0, 0), (.getfield 226, 3, 0, 10, 38, 839), (.if_icmp .ge 75, 3, 0, 165, 0, 0), (.iload 6, 2, 0, 0, 0, 0), (.ifCond .eq 61, 3, 0, 156, 0, 0), (.aload_n 0, 1, 0, 0, 0, 0), (.getfield 84, 3, 0, 10, 42, 843), (.iload 7, 2, 0, 0, 0, 0), (.iaload, 1, 0, 0, 0, 0), (.iload 5, 2, 0, 0, 0, 0), (.if_icmp .ne 45, 3, 0, 152, 0, 0), (.aload_n 0, 1, 0, 0, 0, 0), (.getfield 78, 3, 0, 10, 40, 841), (.iload 7, 2, 0, 0, 0, 0), (.iaload, 1, 0, 0, 0, 0), (.aload_n 0, 1, 0, 0, 0, 0), (.getfield 81, 3, 0, 10, 41, 842), (.iadd, 1, 0, 0, 0, 0), (.aload_n 0, 1, 0, 0, 0, 0), (.getfield 75, 3, 0, 10, 39, 840), (.iload_n 3, 1, 0, 0, 0, 0), (.iaload, 1, 0, 0, 0, 0), (.if_icmp .le 24, 3, 0, 152, 0, 0), (.aload_n 0, 1, 0, 0, 0, 0), (.getfield 78, 3, 0, 10, 40, 841), (.iload_n 3, 1, 0, 0, 0, 0), (.iaload, 1, 0, 0, 0, 0), (.aload_n 0, 1, 0, 0, 0, 0), (.getfield 81, 3, 0, 10, 41, 842), (.iadd, 1, 0, 0, 0, 0), (.aload_n 0, 1, 0, 0, 0, 0), (.getfield 75, 3, 0, 10, 39, 840), (.iload 7, 2, 0, 0, 0, 0), (.iaload, 1, 0, 0, 0, 0), (.if_icmp .gt 7, 3, 0, 156, 0, 0)]),
  (152, [(.iconst 1, 1, 1, 0, 0, 0), (.goto 4, 3, 0, 157, 0, 0)]),
  (156, [(.iconst 0, 1, 0, 0, 0, 0)]),
  (157, [(.istore 6, 2, 0, 0, 0, 0), (.iinc 7 1, 3, 1, 0, 0, 0), (.goto (-78), 3, 0, 84, 0, 0)]),
  (165, [(.iload 6, 2, 0, 0, 0, 0), (.istore 4, 2, 0, 0, 0, 0), (.iinc 5 1, 3, 1, 0, 0, 0), (.goto (-118), 3, 0, 54, 0, 0)]),
  (175, [(.iload_n 2, 1, 0, 0, 0, 0), (.iload 4, 2, 0, 0, 0, 0), (.ifCond .eq 7, 3, 0, 185, 0, 0), (.iconst 0, 1, 0, 0, 0, 0), (.goto 4, 3, 0, 186, 0, 0)]),
  (185, [(.iconst 1, 1, 1, 0, 0, 0)]),
  (186, [(.iadd, 1, 0, 0, 0, 0), (.istore_n 2, 1, 0, 0, 0, 0), (.iinc 3 1, 3, 1, 0, 0, 0), (.goto (-165), 3, 0, 26, 0, 0)]),
  (194, [(.iload_n 2, 1, 0, 0, 0, 0), (.ireturn, 1, 0, 0, 0, 0)])]
/-- X10_count -/
def tp_P148 : List (Nat × List tp_Ins) := [(0, [(.iconst 0, 1, 0, 0, 0, 0), (.istore_n 2, 1, 0, 0, 0, 0), (.iload_n 1, 1, 0, 0, 0, 0), (.tableswitch 133 0 7 #[45, 50, 55, 60, 95, 100, 105, 128], 45, 0, 0, 0, 0)]),
  (48, [(.aload_n 0, 1, 0, 0, 0, 0), (.getfield 95, 3, 0, 10, 0, 801), (.ireturn, 1, 0, 0, 0, 0)]),
  (53, [(.aload_n 0, 1, 0, 0, 0, 0), (.getfield 111, 3, 0, 10, 5, 806), (.ireturn, 1, 0, 0, 0, 0)]),
  (58, [(.aload_n 0, 1, 0, 0, 0, 0), (.getfield 108, 3, 0, 10, 9, 810), (.ireturn, 1, 0, 0, 0, 0)]),
  (63, [(.iconst 0, 1, 0, 0, 0, 0), (.istore_n 3, 1, 0, 0, 0, 0)]),
  (65, [(.iload_n 3, 1, 0, 0, 0, 0), (.aload_n 0, 1, 0, 0, 0, 0), (.getfield 111, 3, 0, 10, 5, 806), (.if_icmp .ge 26, 3, 0, 96, 0, 0), (.iload_n 2, 1, 0, 0, 0, 0), (.aload_n 0, 1, 0, 0, 0, 0), (.getfield 29, 3, 0, 10, 8, 809), (.iload_n 3, 1, 0, 0, 0, 0), (.baload, 1, 0, 0, 0, 0), (.ifCond .eq 7, 3, 0, 87, 0, 0), (.iconst 1, 1, 1, 0, 0, 0), (.goto 4, 3, 0, 88, 0, 0)]),
  (87, [(.iconst 0, 1, 0, 0, 0, 0)]),
  (88, [(.iadd, 1, 0, 0, 0, 0), (.istore_n 2, 1, 0, 0, 0, 0), (.iinc 3 1, 3, 1, 0, 0, 0), (.goto (-28), 3, 0, 65, 0, 0)]),
  (96, [(.iload_n 2, 1, 0, 0, 0, 0), (.ireturn, 1, 0, 0, 0, 0)]),
  (98, [(.aload_n 0, 1, 0, 0, 0, 0), (.getfield 226, 3, 0, 10, 38, 839), (.ireturn, 1, 0, 0, 0, 0)]),
  (103, [(.aload_n 0, 1, 0, 0, 0, 0), (.getfield 219, 3, 0, 10, 25, 826), (.ireturn, 1, 0, 0, 0, 0)]),
  (108, [(.aload_n 0, 1, 0, 0, 0, 0), (.getfield 44, 3, 0, 10, 14, 815), (.iconst 0, 1, 0, 0, 0, 0), (.iaload, 1, 0, 0, 0, 0), (.bipush (-4), 2, -4, 0, 0, 0), (.if_icmp .ne 8, 3, 0, 124, 0, 0), (.bipush (-4), 2, -4, 0, 0, 0), (.goto 9, 3, 0, 130, 0, 0)]),
  (124, [(.aload_n 0, 1, 0, 0, 0, 0), (.getfield 47, 3, 0, 10, 15, 816), (.iconst 0, 1, 0, 0, 0, 0), (.iaload, 1, 0, 0, 0, 0)]),
  (130, [(.ireturn, 1, 0, 0, 0, 0)]),
  (131, [(.aload_n 0, 1, 0, 0, 0, 0), (.getfield 149, 3, 0, 10, 18, 819), (.ireturn, 1, 0, 0, 0, 0)]),
  (136, [(.iconst (-1), 1, -1, 0, 0, 0), (.ireturn, 1, 0, 0, 0, 0)])]
/-- J0_length_8abf5 -/
def tp_P149 : List (Nat × List tp_Ins) := [(0, [(.aload_n 0, 1, 0, 0, 0, 0), (.getfield 9, 3, 0, 28, 0, 1144), (.arraylength, 1, 0, 0, 0, 0), (.aload_n 0, 1, 0, 0, 0, 0), (.invokevirtual 335, 3, 0, 151, 1, 598), (.ishr, 1, 0, 0, 0, 0), (.ireturn, 1, 0, 0, 0, 0)])]
/-- J0_charAt_5068e -/
def tp_P150 : List (Nat × List tp_Ins) := [(0, [(.aload_n 0, 1, 0, 0, 0, 0), (.invokevirtual 492, 3, 0, 152, 1, 608), (.ifCond .eq 12, 3, 0, 16, 0, 0), (.aload_n 0, 1, 0, 0, 0, 0), (.getfield 9, 3, 0, 28, 0, 1144), (.iload_n 1, 1, 0, 0, 0, 0), (.invokestatic 495, 3, 0, 154, 2, 612), (.ireturn, 1, 0, 0, 0, 0)])]
/-- J0_coder_7d493 -/
def tp_P151 : List (Nat × List tp_Ins) := [(0, [(.getstatic 38, 3, 1, 0, 1, 602), (.ifCond .eq 10, 3, 0, 13, 0, 0), (.aload_n 0, 1, 0, 0, 0, 0), (.getfield 15, 3, 0, 28, 1, 1145), (.goto 4, 3, 0, 14, 0, 0)]),
  (13, [(.iconst 1, 1, 1, 0, 0, 0)]),
  (14, [(.ireturn, 1, 0, 0, 0, 0)])]
/-- J0_isLatin1_aae02 -/
def tp_P152 : List (Nat × List tp_Ins) := [(0, [(.getstatic 38, 3, 1, 0, 1, 602), (.ifCond .eq 14, 3, 0, 17, 0, 0), (.aload_n 0, 1, 0, 0, 0, 0), (.getfield 15, 3, 0, 28, 1, 1145), (.ifCond .ne 7, 3, 0, 17, 0, 0), (.iconst 1, 1, 1, 0, 0, 0), (.goto 4, 3, 0, 18, 0, 0)]),
  (17, [(.iconst 0, 1, 0, 0, 0, 0)]),
  (18, [(.ireturn, 1, 0, 0, 0, 0)])]
/-- J0_checkIndex_df160 -/
def tp_P153 : List (Nat × List tp_Ins) := [(0, [(.iload_n 0, 1, 0, 0, 0, 0), (.iload_n 1, 1, 0, 0, 0, 0), (.getstatic 1053, 3, 0, 100, 2, 618), (.invokestatic 1059, 3, 0, 155, 3, 620), (.pop, 1, 0, 0, 0, 0), (.return_, 1, 0, 0, 0, 0)])]
/-- J1_charAt_3b067 -/
def tp_P154 : List (Nat × List tp_Ins) := [(0, [(.iload_n 1, 1, 0, 0, 0, 0), (.aload_n 0, 1, 0, 0, 0, 0), (.arraylength, 1, 0, 0, 0, 0), (.invokestatic 9, 3, 0, 153, 2, 615), (.aload_n 0, 1, 0, 0, 0, 0), (.iload_n 1, 1, 0, 0, 0, 0), (.baload, 1, 0, 0, 0, 0), (.sipush 255, 3, 255, 0, 0, 0), (.iand, 1, 0, 0, 0, 0), (.i2c, 1, 0, 0, 0, 0), (.ireturn, 1, 0, 0, 0, 0)])]
/-- J3_checkIndex_8e157 -/
def tp_P155 : List (Nat × List tp_Ins) := [(0, [(.iload_n 0, 1, 0, 0, 0, 0), (.ifCond .lt 8, 3, 0, 9, 0, 0), (.iload_n 0, 1, 0, 0, 0, 0), (.iload_n 1, 1, 0, 0, 0, 0), (.if_icmp .lt 10, 3, 0, 16, 0, 0)]),
  (16, [(.iload_n 0, 1, 0, 0, 0, 0), (.ireturn, 1, 0, 0, 0, 0)])]
def tp_P156_0 : List (Nat × List tp_Ins) := [(18, [(.iload_n 3, 1, 0, 0, 0, 0), (.aload_n 0, 1, 0, 0, 0, 0), (.arraylength, 1, 0, 0, 0, 0), (.bipush 6, 2, 6, 0, 0, 0), (.isub, 1, 0, 0, 0, 0), (.if_icmp .gt 1192, 3, 0, 1216, 0, 0), (.aload_n 0, 1, 0, 0, 0, 0), (.iload_n 3, 1, 0, 0, 0, 0), (.iaload, 1, 0, 0, 0, 0), (.bipush 31, 2, 31, 0, 0, 0), (.iand, 1, 0, 0, 0, 0), (.tableswitch 1177 0 29 #[135, 168, 221, 264, 313, 336, 379, 392, 435, 478, 541, 584, 607, 640, 683, 742, 795, 838, 861, 914, 937, 950, 963, 996, 1029, 1062, 1085, 1108, 1131, 1154], 135, 0, 0, 0, 0)]),
  (168, [(.aload_n 1, 1, 0, 0, 0, 0), (.aload_n 0, 1, 0, 0, 0, 0), (.iload_n 3, 1, 0, 0, 0, 0), (.iconst 1, 1, 1, 0, 0, 0), (.iadd, 1, 0, 0, 0, 0), (.iaload, 1, 0, 0, 0, 0), (.aload_n 0, 1, 0, 0, 0, 0), (.iload_n 3, 1, 0, 0, 0, 0), (.iconst 2, 1, 2, 0, 0, 0), (.iadd, 1, 0, 0, 0, 0), (.iaload, 1, 0, 0, 0, 0), (.invokevirtual 13, 3, 0, 61, 3, 318), (.aload_n 2, 1, 0, 0, 0, 0), (.aload_n 0, 1, 0, 0, 0, 0), (.iload_n 3, 1, 0, 0, 0, 0), (.iconst 1, 1, 1, 0, 0, 0), (.iadd, 1, 0, 0, 0, 0), (.iaload, 1, 0, 0, 0, 0), (.aload_n 0, 1, 0, 0, 0, 0), (.iload_n 3, 1, 0, 0, 0, 0), (.iconst 2, 1, 2, 0, 0, 0), (.iadd, 1, 0, 0, 0, 0), (.iaload, 1, 0, 0, 0, 0), (.invokevirtual 17, 3, 0, 102, 3, 934), (.if_icmp .eq 1014, 3, 0, 1210, 0, 0), (.iconst 0, 1, 0, 0, 0, 0), (.ireturn, 1, 0, 0, 0, 0)]),
  (201, [(.aload_n 1, 1, 0, 0, 0, 0), (.aload_n 0, 1, 0, 0, 0, 0), (.iload_n 3, 1, 0, 0, 0, 0), (.iconst 1, 1, 1, 0, 0, 0), (.iadd, 1, 0, 0, 0, 0), (.iaload, 1, 0, 0, 0, 0), (.aload_n 0, 1, 0, 0, 0, 0), (.iload_n 3, 1, 0, 0, 0, 0), (.iconst 2, 1, 2, 0, 0, 0), (.iadd, 1, 0, 0, 0, 0), (.iaload, 1, 0, 0, 0, 0), (.aload_n 0, 1, 0, 0, 0, 0), (.iload_n 3, 1, 0, 0, 0, 0), (.iconst 3, 1, 3, 0, 0, 0), (.iadd, 1, 0, 0, 0, 0), (.iaload, 1, 0, 0, 0, 0), (.aload_n 0, 1, 0, 0, 0, 0), (.iload_n 3, 1, 0, 0, 0, 0), (.iconst 4, 1, 4, 0, 0, 0), (.iadd, 1, 0, 0, 0, 0), (.iaload, 1, 0, 0, 0, 0), (.invokevirtual 18, 3, 0, 62, 5, 329), (.aload_n 2, 1, 0, 0, 0, 0), (.aload_n 0, 1, 0, 0, 0, 0), (.iload_n 3, 1, 0, 0, 0, 0), (.iconst 1, 1, 1, 0, 0, 0), (.iadd, 1, 0, 0, 0, 0), (.iaload, 1, 0, 0, 0, 0), (.aload_n 0, 1, 0, 0, 0, 0), (.iload_n 3, 1, 0, 0, 0, 0), (.iconst 2, 1, 2, 0, 0, 0), (.iadd, 1, 0, 0, 0, 0), (.iaload, 1, 0, 0, 0, 0), (.aload_n 0, 1, 0, 0, 0, 0), (.iload_n 3, 1, 0, 0, 0, 0), (.iconst 3, 1, 3, 0, 0, 0), (.iadd, 1, 0, 0, 0, 0), (.iaload, 1, 0, 0, 0, 0), (.aload_n 0, 1, 0, 0, 0, 0), (.iload_n 3, 1, 0, 0, 0, 0), (.iconst 4, 1, 4, 0, 0, 0), (.iadd, 1, 0, 0, 0, 0), (.iaload, 1, 0, 0, 0, 0), (.invokevirtual 22, 3, 0, 104, 5, 943), (.if_icmp .eq 961, 3, 0, 1210, 0, 0), (.iconst 0, 1, 0, 0, 0, 0), (.ireturn, 1, 0, 0, 0, 0)]),
  (254, [(.aload_n 1, 1, 0, 0, 0, 0), (.aload_n 0, 1, 0, 0, 0, 0), (.iload_n 3, 1, 0, 0, 0, 0), (.iconst 1, 1, 1, 0, 0, 0), (.iadd, 1, 0, 0, 0, 0), (.iaload, 1, 0, 0, 0, 0), (.aload_n 0, 1, 0, 0, 0, 0), (.iload_n 3, 1, 0, 0, 0, 0), (.iconst 2, 1, 2, 0, 0, 0), (.iadd, 1, 0, 0, 0, 0), (.iaload, 1, 0, 0, 0, 0), (.aload_n 0, 1, 0, 0, 0, 0), (.iload_n 3, 1, 0, 0, 0, 0), (.iconst 3, 1, 3, 0, 0, 0), (.iadd, 1, 0, 0, 0, 0), (.iaload, 1, 0, 0, 0, 0), (.invokevirtual 23, 3, 0, 63, 4, 364), (.aload_n 2, 1, 0, 0, 0, 0), (.aload_n 0, 1, 0, 0, 0, 0), (.iload_n 3, 1, 0, 0, 0, 0), (.iconst 1, 1, 1, 0, 0, 0), (.iadd, 1, 0, 0, 0, 0), (.iaload, 1, 0, 0, 0, 0), (.aload_n 0, 1, 0, 0, 0, 0), (.iload_n 3, 1, 0, 0, 0, 0), (.iconst 2, 1, 2, 0, 0, 0), (.iadd, 1, 0, 0, 0, 0), (.iaload, 1, 0, 0, 0, 0), (.aload_n 0, 1, 0, 0, 0, 0), (.iload_n 3, 1, 0, 0, 0, 0), (.iconst 3, 1, 3, 0, 0, 0), (.iadd, 1, 0, 0, 0, 0), (.iaload, 1, 0, 0, 0, 0), (.invokevirtual 27, 3, 0, 105, 4, 954), (.if_icmp .eq 918, 3, 0, 1210, 0, 0), (.iconst 0, 1, 0, 0, 0, 0), (.ireturn, 1, 0, 0, 0, 0)]),
  (297, [(.aload_n 1, 1, 0, 0, 0, 0), (.aload_n 0, 1, 0, 0, 0, 0), (.iload_n 3, 1, 0, 0, 0, 0), (.iconst 1, 1, 1, 0, 0, 0), (.iadd, 1, 0, 0, 0, 0), (.iaload, 1, 0, 0, 0, 0), (.aload_n 0, 1, 0, 0, 0, 0), (.iload_n 3, 1, 0, 0, 0, 0), (.iconst 2, 1, 2, 0, 0, 0), (.iadd, 1, 0, 0, 0, 0), (.iaload, 1, 0, 0, 0, 0), (.ifCond .eq 7, 3, 0, 315, 0, 0), (.iconst 1, 1, 1, 0, 0, 0), (.goto 4, 3, 0, 316, 0, 0)]),
  (315, [(.iconst 0, 1, 0, 0, 0, 0)]),
  (316, [(.invokevirtual 28, 3, 0, 64, 3, 368), (.aload_n 2, 1, 0, 0, 0, 0), (.aload_n 0, 1, 0, 0, 0, 0), (.iload_n 3, 1, 0, 0, 0, 0), (.iconst 1, 1, 1, 0, 0, 0), (.iadd, 1, 0, 0, 0, 0), (.iaload, 1, 0, 0, 0, 0), (.aload_n 0, 1, 0, 0, 0, 0), (.iload_n 3, 1, 0, 0, 0, 0), (.iconst 2, 1, 2, 0, 0, 0), (.iadd, 1, 0, 0, 0, 0), (.iaload, 1, 0, 0, 0, 0), (.ifCond .eq 7, 3, 0, 337, 0, 0), (.iconst 1, 1, 1, 0, 0, 0), (.goto 4, 3, 0, 338, 0, 0)]),
  (337, [(.iconst 0, 1, 0, 0, 0, 0)]),
  (338, [(.invokevirtual 32, 3, 0, 106, 3, 958), (.if_icmp .eq 869, 3, 0, 1210, 0, 0), (.iconst 0, 1, 0, 0, 0, 0), (.ireturn, 1, 0, 0, 0, 0)]),
  (346, [(.aload_n 1, 1, 0, 0, 0, 0), (.aload_n 0, 1, 0, 0, 0, 0), (.iload_n 3, 1, 0, 0, 0, 0), (.iconst 1, 1, 1, 0, 0, 0), (.iadd, 1, 0, 0, 0, 0), (.iaload, 1, 0, 0, 0, 0), (.invokevirtual 33, 3, 0, 65, 2, 380), (.aload_n 2, 1, 0, 0, 0, 0), (.aload_n 0, 1, 0, 0, 0, 0), (.iload_n 3, 1, 0, 0, 0, 0), (.iconst 1, 1, 1, 0, 0, 0), (.iadd, 1, 0, 0, 0, 0), (.iaload, 1, 0, 0, 0, 0), (.invokevirtual 37, 3, 0, 109, 2, 962), (.if_icmp .eq 846, 3, 0, 1210, 0, 0), (.iconst 0, 1, 0, 0, 0, 0), (.ireturn, 1, 0, 0, 0, 0)]),
  (369, [(.aload_n 1, 1, 0, 0, 0, 0), (.aload_n 0, 1, 0, 0, 0, 0), (.iload_n 3, 1, 0, 0, 0, 0), (.iconst 1, 1, 1, 0, 0, 0), (.iadd, 1, 0, 0, 0, 0), (.iaload, 1, 0, 0, 0, 0), (.aload_n 0, 1, 0, 0, 0, 0), (.iload_n 3, 1, 0, 0, 0, 0), (.iconst 2, 1, 2, 0, 0, 0), (.iadd, 1, 0, 0, 0, 0), (.iaload, 1, 0, 0, 0, 0), (.aload_n 0, 1, 0, 0, 0, 0), (.iload_n 3, 1, 0, 0, 0, 0), (.iconst 3, 1, 3, 0, 0, 0), (.iadd, 1, 0, 0, 0, 0), (.iaload, 1, 0, 0, 0, 0), (.invokevirtual 38, 3, 0, 66, 4, 392), (.aload_n 2, 1, 0, 0, 0, 0), (.aload_n 0, 1, 0, 0, 0, 0), (.iload_n 3, 1, 0, 0, 0, 0), (.iconst 1, 1, 1, 0, 0, 0), (.iadd, 1, 0, 0, 0, 0), (.iaload, 1, 0, 0, 0, 0), (.aload_n 0, 1, 0, 0, 0, 0), (.iload_n 3, 1, 0, 0, 0, 0), (.iconst 2, 1, 2, 0, 0, 0), (.iadd, 1, 0, 0, 0, 0), (.iaload, 1, 0, 0, 0, 0), (.aload_n 0, 1, 0, 0, 0, 0), (.iload_n 3, 1, 0, 0, 0, 0), (.iconst 3, 1, 3, 0, 0, 0), (.iadd, 1, 0, 0, 0, 0), (.iaload, 1, 0, 0, 0, 0), (.invokevirtual 41, 3, 0, 112, 4, 974), (.if_icmp .eq 803, 3, 0, 1210, 0, 0), (.iconst 0, 1, 0, 0, 0, 0), (.ireturn, 1, 0, 0, 0, 0)]),
  (412, [(.aload_n 1, 1, 0, 0, 0, 0), (.invokevirtual 42, 3, 0, 67, 1, 417), (.aload_n 2, 1, 0, 0, 0, 0), (.invokevirtual 46, 3, 0, 113, 1, 986), (.if_icmp .eq 790, 3, 0, 1210, 0, 0), (.iconst 0, 1, 0, 0, 0, 0), (.ireturn, 1, 0, 0, 0, 0)]),
  (425, [(.aload_n 1, 1, 0, 0, 0, 0), (.aload_n 0, 1, 0, 0, 0, 0), (.iload_n 3, 1, 0, 0, 0, 0), (.iconst 1, 1, 1, 0, 0, 0), (.iadd, 1, 0, 0, 0, 0), (.iaload, 1, 0, 0, 0, 0), (.aload_n 0, 1, 0, 0, 0, 0), (.iload_n 3, 1, 0, 0, 0, 0), (.iconst 2, 1, 2, 0, 0, 0), (.iadd, 1, 0, 0, 0, 0), (.iaload, 1, 0, 0, 0, 0), (.aload_n 0, 1, 0, 0, 0, 0), (.iload_n 3, 1, 0, 0, 0, 0), (.iconst 3, 1, 3, 0, 0, 0), (.iadd, 1, 0, 0, 0, 0), (.iaload, 1, 0, 0, 0, 0), (.invokevirtual 47, 3, 0, 68, 4, 425), (.aload_n 2, 1, 0, 0, 0, 0), (.aload_n 0, 1, 0, 0, 0, 0), (.iload_n 3, 1, 0, 0, 0, 0), (.iconst 1, 1, 1, 0, 0, 0), (.iadd, 1, 0, 0, 0, 0), (.iaload, 1, 0, 0, 0, 0), (.aload_n 0, 1, 0, 0, 0, 0), (.iload_n 3, 1, 0, 0, 0, 0), (.iconst 2, 1, 2, 0, 0, 0), (.iadd, 1, 0, 0, 0, 0), (.iaload, 1, 0, 0, 0, 0), (.aload_n 0, 1, 0, 0, 0, 0), (.iload_n 3, 1, 0, 0, 0, 0), (.iconst 3, 1, 3, 0, 0, 0), (.iadd, 1, 0, 0, 0, 0), (.iaload, 1, 0, 0, 0, 0), (.invokevirtual 50, 3, 0, 114, 4, 990), (.if_icmp .eq 747, 3, 0, 1210, 0, 0), (.iconst 0, 1, 0, 0, 0, 0), (.ireturn, 1, 0, 0, 0, 0)]),
  (468, [(.aload_n 1, 1, 0, 0, 0, 0), (.aload_n 0, 1, 0, 0, 0, 0), (.iload_n 3, 1, 0, 0, 0, 0), (.iconst 1, 1, 1, 0, 0, 0), (.iadd, 1, 0, 0, 0, 0), (.iaload, 1, 0, 0, 0, 0), (.aload_n 0, 1, 0, 0, 0, 0), (.iload_n 3, 1, 0, 0, 0, 0), (.iconst 2, 1, 2, 0, 0, 0), (.iadd, 1, 0, 0, 0, 0), (.iaload, 1, 0, 0, 0, 0), (.aload_n 0, 1, 0, 0, 0, 0), (.iload_n 3, 1, 0, 0, 0, 0), (.iconst 3, 1, 3, 0, 0, 0), (.iadd, 1, 0, 0, 0, 0), (.iaload, 1, 0, 0, 0, 0), (.invokevirtual 51, 3, 0, 69, 4, 433), (.aload_n 2, 1, 0, 0, 0, 0), (.aload_n 0, 1, 0, 0, 0, 0), (.iload_n 3, 1, 0, 0, 0, 0), (.iconst 1, 1, 1, 0, 0, 0), (.iadd, 1, 0, 0, 0, 0), (.iaload, 1, 0, 0, 0, 0), (.aload_n 0, 1, 0, 0, 0, 0), (.iload_n 3, 1, 0, 0, 0, 0), (.iconst 2, 1, 2, 0, 0, 0), (.iadd, 1, 0, 0, 0, 0), (.iaload, 1, 0, 0, 0, 0), (.aload_n 0, 1, 0, 0, 0, 0), (.iload_n 3, 1, 0, 0, 0, 0), (.iconst 3, 1, 3, 0, 0, 0), (.iadd, 1, 0, 0, 0, 0), (.iaload, 1, 0, 0, 0, 0), (.invokevirtual 54, 3, 0, 115, 4, 996), (.if_icmp .eq 704, 3, 0, 1210, 0, 0), (.iconst 0, 1, 0, 0, 0, 0), (.ireturn, 1, 0, 0, 0, 0)]),
  (511, [(.aload_n 1, 1, 0, 0, 0, 0), (.aload_n 0, 1, 0, 0, 0, 0), (.iload_n 3, 1, 0, 0, 0, 0), (.iconst 1, 1, 1, 0, 0, 0), (.iadd, 1, 0, 0, 0, 0), (.iaload, 1, 0, 0, 0, 0), (.aload_n 0, 1, 0, 0, 0, 0), (.iload_n 3, 1, 0, 0, 0, 0), (.iconst 2, 1, 2, 0, 0, 0), (.iadd, 1, 0, 0, 0, 0), (.iaload, 1, 0, 0, 0, 0), (.aload_n 0, 1, 0, 0, 0, 0), (.iload_n 3, 1, 0, 0, 0, 0), (.iconst 3, 1, 3, 0, 0, 0), (.iadd, 1, 0, 0, 0, 0), (.iaload, 1, 0, 0, 0, 0), (.aload_n 0, 1, 0, 0, 0, 0), (.iload_n 3, 1, 0, 0, 0, 0), (.iconst 4, 1, 4, 0, 0, 0), (.iadd, 1, 0, 0, 0, 0), (.iaload, 1, 0, 0, 0, 0), (.aload_n 0, 1, 0, 0, 0, 0), (.iload_n 3, 1, 0, 0, 0, 0), (.iconst 5, 1, 5, 0, 0, 0), (.iadd, 1, 0, 0, 0, 0), (.iaload, 1, 0, 0, 0, 0), (.invokevirtual 55, 3, 0, 70, 6, 450), (.aload_n 2, 1, 0, 0, 0, 0), (.aload_n 0, 1, 0, 0, 0, 0), (.iload_n 3, 1, 0, 0, 0, 0), (.iconst 1, 1, 1, 0, 0, 0), (.iadd, 1, 0, 0, 0, 0), (.iaload, 1, 0, 0, 0, 0), (.aload_n 0, 1, 0, 0, 0, 0), (.iload_n 3, 1, 0, 0, 0, 0), (.iconst 2, 1, 2, 0, 0, 0), (.iadd, 1, 0, 0, 0, 0), (.iaload, 1, 0, 0, 0, 0), (.aload_n 0, 1, 0, 0, 0, 0), (.iload_n 3, 1, 0, 0, 0, 0), (.iconst 3, 1, 3, 0, 0, 0), (.iadd, 1, 0, 0, 0, 0), (.iaload, 1, 0, 0, 0, 0), (.aload_n 0, 1, 0, 0, 0, 0), (.iload_n 3, 1, 0, 0, 0, 0), (.iconst 4, 1, 4, 0, 0, 0), (.iadd, 1, 0, 0, 0, 0), (.iaload, 1, 0, 0, 0, 0), (.aload_n 0, 1, 0, 0, 0, 0), (.iload_n 3, 1, 0, 0, 0, 0), (.iconst 5, 1, 5, 0, 0, 0), (.iadd, 1, 0, 0, 0, 0), (.iaload, 1, 0, 0, 0, 0), (.invokevirtual 59, 3, 0, 116, 6, 1000), (.if_icmp .eq 641, 3, 0, 1210, 0, 0), (.iconst 0, 1, 0, 0, 0, 0), (.ireturn, 1, 0, 0, 0, 0)]),
  (574, [(.aload_n 1, 1, 0, 0, 0, 0), (.aload_n 0, 1, 0, 0, 0, 0), (.iload_n 3, 1, 0, 0, 0, 0), (.iconst 1, 1, 1, 0, 0, 0), (.iadd, 1, 0, 0, 0, 0), (.iaload, 1, 0, 0, 0, 0), (.aload_n 0, 1, 0, 0, 0, 0), (.iload_n 3, 1, 0, 0, 0, 0), (.iconst 2, 1, 2, 0, 0, 0), (.iadd, 1, 0, 0, 0, 0), (.iaload, 1, 0, 0, 0, 0), (.aload_n 0, 1, 0, 0, 0, 0), (.iload_n 3, 1, 0, 0, 0, 0), (.iconst 3, 1, 3, 0, 0, 0), (.iadd, 1, 0, 0, 0, 0), (.iaload, 1, 0, 0, 0, 0), (.invokevirtual 60, 3, 0, 71, 4, 463), (.aload_n 2, 1, 0, 0, 0, 0), (.aload_n 0, 1, 0, 0, 0, 0), (.iload_n 3, 1, 0, 0, 0, 0), (.iconst 1, 1, 1, 0, 0, 0), (.iadd, 1, 0, 0, 0, 0), (.iaload, 1, 0, 0, 0, 0), (.aload_n 0, 1, 0, 0, 0, 0), (.iload_n 3, 1, 0, 0, 0, 0), (.iconst 2, 1, 2, 0, 0, 0), (.iadd, 1, 0, 0, 0, 0), (.iaload, 1, 0, 0, 0, 0), (.aload_n 0, 1, 0, 0, 0, 0), (.iload_n 3, 1, 0, 0, 0, 0), (.iconst 3, 1, 3, 0, 0, 0), (.iadd, 1, 0, 0, 0, 0), (.iaload, 1, 0, 0, 0, 0), (.invokevirtual 63, 3, 0, 117, 4, 1006), (.if_icmp .eq 598, 3, 0, 1210, 0, 0), (.iconst 0, 1, 0, 0, 0, 0), (.ireturn, 1, 0, 0, 0, 0)]),
  (617, [(.aload_n 1, 1, 0, 0, 0, 0), (.aload_n 0, 1, 0, 0, 0, 0), (.iload_n 3, 1, 0, 0, 0, 0), (.iconst 1, 1, 1, 0, 0, 0), (.iadd, 1, 0, 0, 0, 0), (.iaload, 1, 0, 0, 0, 0), (.invokevirtual 64, 3, 0, 72, 2, 483), (.aload_n 2, 1, 0, 0, 0, 0), (.aload_n 0, 1, 0, 0, 0, 0), (.iload_n 3, 1, 0, 0, 0, 0), (.iconst 1, 1, 1, 0, 0, 0), (.iadd, 1, 0, 0, 0, 0), (.iaload, 1, 0, 0, 0, 0), (.invokevirtual 67, 3, 0, 118, 2, 1010), (.if_icmp .eq 575, 3, 0, 1210, 0, 0), (.iconst 0, 1, 0, 0, 0, 0), (.ireturn, 1, 0, 0, 0, 0)]),
  (640, [(.aload_n 1, 1, 0, 0, 0, 0), (.aload_n 0, 1, 0, 0, 0, 0), (.iload_n 3, 1, 0, 0, 0, 0), (.iconst 1, 1, 1, 0, 0, 0), (.iadd, 1, 0, 0, 0, 0), (.iaload, 1, 0, 0, 0, 0), (.aload_n 0, 1, 0, 0, 0, 0), (.iload_n 3, 1, 0, 0, 0, 0), (.iconst 2, 1, 2, 0, 0, 0), (.iadd, 1, 0, 0, 0, 0), (.iaload, 1, 0, 0, 0, 0), (.invokevirtual 68, 3, 0, 73, 3, 487), (.aload_n 2, 1, 0, 0, 0, 0), (.aload_n 0, 1, 0, 0, 0, 0), (.iload_n 3, 1, 0, 0, 0, 0), (.iconst 1, 1, 1, 0, 0, 0), (.iadd, 1, 0, 0, 0, 0), (.iaload, 1, 0, 0, 0, 0), (.aload_n 0, 1, 0, 0, 0, 0), (.iload_n 3, 1, 0, 0, 0, 0), (.iconst 2, 1, 2, 0, 0, 0), (.iadd, 1, 0, 0, 0, 0), (.iaload, 1, 0, 0, 0, 0), (.invokevirtual 71, 3, 0, 119, 3, 1014), (.if_icmp .eq 542, 3, 0, 1210, 0, 0), (.iconst 0, 1, 0, 0, 0, 0), (.ireturn, 1, 0, 0, 0, 0)]),
  (673, [(.aload_n 1, 1, 0, 0, 0, 0), (.aload_n 0, 1, 0, 0, 0, 0), (.iload_n 3, 1, 0, 0, 0, 0), (.iconst 1, 1, 1, 0, 0, 0), (.iadd, 1, 0, 0, 0, 0), (.iaload, 1, 0, 0, 0, 0), (.aload_n 0, 1, 0, 0, 0, 0), (.iload_n 3, 1, 0, 0, 0, 0), (.iconst 2, 1, 2, 0, 0, 0), (.iadd, 1, 0, 0, 0, 0), (.iaload, 1, 0, 0, 0, 0), (.aload_n 0, 1, 0, 0, 0, 0), (.iload_n 3, 1, 0, 0, 0, 0), (.iconst 3, 1, 3, 0, 0, 0), (.iadd, 1, 0, 0, 0, 0), (.iaload, 1, 0, 0, 0, 0), (.invokevirtual 72, 3, 0, 74, 4, 492), (.aload_n 2, 1, 0, 0, 0, 0), (.aload_n 0, 1, 0, 0, 0, 0), (.iload_n 3, 1, 0, 0, 0, 0), (.iconst 1, 1, 1, 0, 0, 0), (.iadd, 1, 0, 0, 0, 0), (.iaload, 1, 0, 0, 0, 0), (.aload_n 0, 1, 0, 0, 0, 0), (.iload_n 3, 1, 0, 0, 0, 0), (.iconst 2, 1, 2, 0, 0, 0), (.iadd, 1, 0, 0, 0, 0), (.iaload, 1, 0, 0, 0, 0), (.aload_n 0, 1, 0, 0, 0, 0), (.iload_n 3, 1, 0, 0, 0, 0), (.iconst 3, 1, 3, 0, 0, 0), (.iadd, 1, 0, 0, 0, 0), (.iaload, 1, 0, 0, 0, 0), (.invokevirtual 75, 3, 0, 122, 4, 1019), (.if_icmp .eq 499, 3, 0, 1210, 0, 0), (.iconst 0, 1, 0, 0, 0, 0), (.ireturn, 1, 0, 0, 0, 0)]),
  (716, [(.aload_n 1, 1, 0, 0, 0, 0), (.aload_n 0, 1, 0, 0, 0, 0), (.iload_n 3, 1, 0, 0, 0, 0), (.iconst 1, 1, 1, 0, 0, 0), (.iadd, 1, 0, 0, 0, 0), (.iaload, 1, 0, 0, 0, 0), (.ifCond .eq 7, 3, 0, 729, 0, 0), (.iconst 1, 1, 1, 0, 0, 0), (.goto 4, 3, 0, 730, 0, 0)])]
def tp_P156_20 : List (Nat × List tp_Ins) := [(729, [(.iconst 0, 1, 0, 0, 0, 0)]),
  (730, [(.aload_n 0, 1, 0, 0, 0, 0), (.iload_n 3, 1, 0, 0, 0, 0), (.iconst 2, 1, 2, 0, 0, 0), (.iadd, 1, 0, 0, 0, 0), (.iaload, 1, 0, 0, 0, 0), (.aload_n 0, 1, 0, 0, 0, 0), (.iload_n 3, 1, 0, 0, 0, 0), (.iconst 3, 1, 3, 0, 0, 0), (.iadd, 1, 0, 0, 0, 0), (.iaload, 1, 0, 0, 0, 0), (.invokevirtual 76, 3, 0, 75, 4, 512), (.aload_n 2, 1, 0, 0, 0, 0), (.aload_n 0, 1, 0, 0, 0, 0), (.iload_n 3, 1, 0, 0, 0, 0), (.iconst 1, 1, 1, 0, 0, 0), (.iadd, 1, 0, 0, 0, 0), (.iaload, 1, 0, 0, 0, 0), (.ifCond .eq 7, 3, 0, 756, 0, 0), (.iconst 1, 1, 1, 0, 0, 0), (.goto 4, 3, 0, 757, 0, 0)]),
  (756, [(.iconst 0, 1, 0, 0, 0, 0)]),
  (757, [(.aload_n 0, 1, 0, 0, 0, 0), (.iload_n 3, 1, 0, 0, 0, 0), (.iconst 2, 1, 2, 0, 0, 0), (.iadd, 1, 0, 0, 0, 0), (.iaload, 1, 0, 0, 0, 0), (.aload_n 0, 1, 0, 0, 0, 0), (.iload_n 3, 1, 0, 0, 0, 0), (.iconst 3, 1, 3, 0, 0, 0), (.iadd, 1, 0, 0, 0, 0), (.iaload, 1, 0, 0, 0, 0), (.invokevirtual 80, 3, 0, 123, 4, 1032), (.if_icmp .eq 440, 3, 0, 1210, 0, 0), (.iconst 0, 1, 0, 0, 0, 0), (.ireturn, 1, 0, 0, 0, 0)]),
  (775, [(.aload_n 1, 1, 0, 0, 0, 0), (.aload_n 0, 1, 0, 0, 0, 0), (.iload_n 3, 1, 0, 0, 0, 0), (.iconst 1, 1, 1, 0, 0, 0), (.iadd, 1, 0, 0, 0, 0), (.iaload, 1, 0, 0, 0, 0), (.aload_n 0, 1, 0, 0, 0, 0), (.iload_n 3, 1, 0, 0, 0, 0), (.iconst 2, 1, 2, 0, 0, 0), (.iadd, 1, 0, 0, 0, 0), (.iaload, 1, 0, 0, 0, 0), (.aload_n 0, 1, 0, 0, 0, 0), (.iload_n 3, 1, 0, 0, 0, 0), (.iconst 3, 1, 3, 0, 0, 0), (.iadd, 1, 0, 0, 0, 0), (.iaload, 1, 0, 0, 0, 0), (.aload_n 0, 1, 0, 0, 0, 0), (.iload_n 3, 1, 0, 0, 0, 0), (.iconst 4, 1, 4, 0, 0, 0), (.iadd, 1, 0, 0, 0, 0), (.iaload, 1, 0, 0, 0, 0), (.invokevirtual 81, 3, 0, 76, 5, 516), (.aload_n 2, 1, 0, 0, 0, 0), (.aload_n 0, 1, 0, 0, 0, 0), (.iload_n 3, 1, 0, 0, 0, 0), (.iconst 1, 1, 1, 0, 0, 0), (.iadd, 1, 0, 0, 0, 0), (.iaload, 1, 0, 0, 0, 0), (.aload_n 0, 1, 0, 0, 0, 0), (.iload_n 3, 1, 0, 0, 0, 0), (.iconst 2, 1, 2, 0, 0, 0), (.iadd, 1, 0, 0, 0, 0), (.iaload, 1, 0, 0, 0, 0), (.aload_n 0, 1, 0, 0, 0, 0), (.iload_n 3, 1, 0, 0, 0, 0), (.iconst 3, 1, 3, 0, 0, 0), (.iadd, 1, 0, 0, 0, 0), (.iaload, 1, 0, 0, 0, 0), (.aload_n 0, 1, 0, 0, 0, 0), (.iload_n 3, 1, 0, 0, 0, 0), (.iconst 4, 1, 4, 0, 0, 0), (.iadd, 1, 0, 0, 0, 0), (.iaload, 1, 0, 0, 0, 0), (.invokevirtual 84, 3, 0, 124, 5, 1036), (.if_icmp .eq 387, 3, 0, 1210, 0, 0), (.iconst 0, 1, 0, 0, 0, 0), (.ireturn, 1, 0, 0, 0, 0)]),
  (828, [(.aload_n 1, 1, 0, 0, 0, 0), (.aload_n 0, 1, 0, 0, 0, 0), (.iload_n 3, 1, 0, 0, 0, 0), (.iconst 1, 1, 1, 0, 0, 0), (.iadd, 1, 0, 0, 0, 0), (.iaload, 1, 0, 0, 0, 0), (.aload_n 0, 1, 0, 0, 0, 0), (.iload_n 3, 1, 0, 0, 0, 0), (.iconst 2, 1, 2, 0, 0, 0), (.iadd, 1, 0, 0, 0, 0), (.iaload, 1, 0, 0, 0, 0), (.aload_n 0, 1, 0, 0, 0, 0), (.iload_n 3, 1, 0, 0, 0, 0), (.iconst 3, 1, 3, 0, 0, 0), (.iadd, 1, 0, 0, 0, 0), (.iaload, 1, 0, 0, 0, 0), (.invokevirtual 85, 3, 0, 77, 4, 524), (.aload_n 2, 1, 0, 0, 0, 0), (.aload_n 0, 1, 0, 0, 0, 0), (.iload_n 3, 1, 0, 0, 0, 0), (.iconst 1, 1, 1, 0, 0, 0), (.iadd, 1, 0, 0, 0, 0), (.iaload, 1, 0, 0, 0, 0), (.aload_n 0, 1, 0, 0, 0, 0), (.iload_n 3, 1, 0, 0, 0, 0), (.iconst 2, 1, 2, 0, 0, 0), (.iadd, 1, 0, 0, 0, 0), (.iaload, 1, 0, 0, 0, 0), (.aload_n 0, 1, 0, 0, 0, 0), (.iload_n 3, 1, 0, 0, 0, 0), (.iconst 3, 1, 3, 0, 0, 0), (.iadd, 1, 0, 0, 0, 0), (.iaload, 1, 0, 0, 0, 0), (.invokevirtual 88, 3, 0, 125, 4, 1040), (.if_icmp .eq 344, 3, 0, 1210, 0, 0), (.iconst 0, 1, 0, 0, 0, 0), (.ireturn, 1, 0, 0, 0, 0)]),
  (871, [(.aload_n 1, 1, 0, 0, 0, 0), (.aload_n 0, 1, 0, 0, 0, 0), (.iload_n 3, 1, 0, 0, 0, 0), (.iconst 1, 1, 1, 0, 0, 0), (.iadd, 1, 0, 0, 0, 0), (.iaload, 1, 0, 0, 0, 0), (.invokevirtual 89, 3, 0, 78, 2, 528), (.aload_n 2, 1, 0, 0, 0, 0), (.aload_n 0, 1, 0, 0, 0, 0), (.iload_n 3, 1, 0, 0, 0, 0), (.iconst 1, 1, 1, 0, 0, 0), (.iadd, 1, 0, 0, 0, 0), (.iaload, 1, 0, 0, 0, 0), (.invokevirtual 92, 3, 0, 126, 2, 1044), (.if_icmp .eq 321, 3, 0, 1210, 0, 0), (.iconst 0, 1, 0, 0, 0, 0), (.ireturn, 1, 0, 0, 0, 0)]),
  (894, [(.aload_n 1, 1, 0, 0, 0, 0), (.aload_n 0, 1, 0, 0, 0, 0), (.iload_n 3, 1, 0, 0, 0, 0), (.iconst 1, 1, 1, 0, 0, 0), (.iadd, 1, 0, 0, 0, 0), (.iaload, 1, 0, 0, 0, 0), (.i2l, 1, 0, 0, 0, 0), (.bipush 32, 2, 32, 0, 0, 0), (.lshl, 1, 0, 0, 0, 0), (.aload_n 0, 1, 0, 0, 0, 0), (.iload_n 3, 1, 0, 0, 0, 0), (.iconst 2, 1, 2, 0, 0, 0), (.iadd, 1, 0, 0, 0, 0), (.iaload, 1, 0, 0, 0, 0), (.i2l, 1, 0, 0, 0, 0), (.ldc2_w 93, 3, 0, 4294967295, 0, 1143), (.land, 1, 0, 0, 0, 0), (.lor, 1, 0, 0, 0, 0), (.invokevirtual 95, 3, 0, 79, 2, 549), (.aload_n 2, 1, 0, 0, 0, 0), (.aload_n 0, 1, 0, 0, 0, 0), (.iload_n 3, 1, 0, 0, 0, 0), (.iconst 1, 1, 1, 0, 0, 0), (.iadd, 1, 0, 0, 0, 0), (.iaload, 1, 0, 0, 0, 0), (.i2l, 1, 0, 0, 0, 0), (.bipush 32, 2, 32, 0, 0, 0), (.lshl, 1, 0, 0, 0, 0), (.aload_n 0, 1, 0, 0, 0, 0), (.iload_n 3, 1, 0, 0, 0, 0), (.iconst 2, 1, 2, 0, 0, 0), (.iadd, 1, 0, 0, 0, 0), (.iaload, 1, 0, 0, 0, 0), (.i2l, 1, 0, 0, 0, 0), (.ldc2_w 93, 3, 0, 4294967295, 0, 1143), (.land, 1, 0, 0, 0, 0), (.lor, 1, 0, 0, 0, 0), (.invokevirtual 99, 3, 0, 127, 2, 1048), (.if_icmp .eq 268, 3, 0, 1210, 0, 0), (.iconst 0, 1, 0, 0, 0, 0), (.ireturn, 1, 0, 0, 0, 0)]),
  (947, [(.aload_n 1, 1, 0, 0, 0, 0), (.aload_n 0, 1, 0, 0, 0, 0), (.iload_n 3, 1, 0, 0, 0, 0), (.iconst 1, 1, 1, 0, 0, 0), (.iadd, 1, 0, 0, 0, 0), (.iaload, 1, 0, 0, 0, 0), (.invokevirtual 100, 3, 0, 80, 2, 557), (.aload_n 2, 1, 0, 0, 0, 0), (.aload_n 0, 1, 0, 0, 0, 0), (.iload_n 3, 1, 0, 0, 0, 0), (.iconst 1, 1, 1, 0, 0, 0), (.iadd, 1, 0, 0, 0, 0), (.iaload, 1, 0, 0, 0, 0), (.invokevirtual 103, 3, 0, 128, 2, 1052), (.if_icmp .eq 245, 3, 0, 1210, 0, 0), (.iconst 0, 1, 0, 0, 0, 0), (.ireturn, 1, 0, 0, 0, 0)]),
  (970, [(.aload_n 1, 1, 0, 0, 0, 0), (.invokevirtual 104, 3, 0, 81, 1, 561), (.aload_n 2, 1, 0, 0, 0, 0), (.invokevirtual 107, 3, 0, 136, 1, 1056), (.if_icmp .eq 232, 3, 0, 1210, 0, 0), (.iconst 0, 1, 0, 0, 0, 0), (.ireturn, 1, 0, 0, 0, 0)]),
  (983, [(.aload_n 1, 1, 0, 0, 0, 0), (.invokevirtual 108, 3, 0, 82, 1, 696), (.aload_n 2, 1, 0, 0, 0, 0), (.invokevirtual 111, 3, 0, 137, 1, 1092), (.if_icmp .eq 219, 3, 0, 1210, 0, 0), (.iconst 0, 1, 0, 0, 0, 0), (.ireturn, 1, 0, 0, 0, 0)]),
  (996, [(.aload_n 1, 1, 0, 0, 0, 0), (.aload_n 0, 1, 0, 0, 0, 0), (.iload_n 3, 1, 0, 0, 0, 0), (.iconst 1, 1, 1, 0, 0, 0), (.iadd, 1, 0, 0, 0, 0), (.iaload, 1, 0, 0, 0, 0), (.aload_n 0, 1, 0, 0, 0, 0), (.iload_n 3, 1, 0, 0, 0, 0), (.iconst 2, 1, 2, 0, 0, 0), (.iadd, 1, 0, 0, 0, 0), (.iaload, 1, 0, 0, 0, 0), (.invokevirtual 112, 3, 0, 83, 3, 700), (.aload_n 2, 1, 0, 0, 0, 0), (.aload_n 0, 1, 0, 0, 0, 0), (.iload_n 3, 1, 0, 0, 0, 0), (.iconst 1, 1, 1, 0, 0, 0), (.iadd, 1, 0, 0, 0, 0), (.iaload, 1, 0, 0, 0, 0), (.aload_n 0, 1, 0, 0, 0, 0), (.iload_n 3, 1, 0, 0, 0, 0), (.iconst 2, 1, 2, 0, 0, 0), (.iadd, 1, 0, 0, 0, 0), (.iaload, 1, 0, 0, 0, 0), (.invokevirtual 115, 3, 0, 138, 3, 1096), (.if_icmp .eq 186, 3, 0, 1210, 0, 0), (.iconst 0, 1, 0, 0, 0, 0), (.ireturn, 1, 0, 0, 0, 0)]),
  (1029, [(.aload_n 1, 1, 0, 0, 0, 0), (.aload_n 0, 1, 0, 0, 0, 0), (.iload_n 3, 1, 0, 0, 0, 0), (.iconst 1, 1, 1, 0, 0, 0), (.iadd, 1, 0, 0, 0, 0), (.iaload, 1, 0, 0, 0, 0), (.aload_n 0, 1, 0, 0, 0, 0), (.iload_n 3, 1, 0, 0, 0, 0), (.iconst 2, 1, 2, 0, 0, 0), (.iadd, 1, 0, 0, 0, 0), (.iaload, 1, 0, 0, 0, 0), (.invokevirtual 116, 3, 0, 84, 3, 712), (.aload_n 2, 1, 0, 0, 0, 0), (.aload_n 0, 1, 0, 0, 0, 0), (.iload_n 3, 1, 0, 0, 0, 0), (.iconst 1, 1, 1, 0, 0, 0), (.iadd, 1, 0, 0, 0, 0), (.iaload, 1, 0, 0, 0, 0), (.aload_n 0, 1, 0, 0, 0, 0), (.iload_n 3, 1, 0, 0, 0, 0), (.iconst 2, 1, 2, 0, 0, 0), (.iadd, 1, 0, 0, 0, 0), (.iaload, 1, 0, 0, 0, 0), (.invokevirtual 119, 3, 0, 139, 3, 1101), (.if_icmp .eq 153, 3, 0, 1210, 0, 0), (.iconst 0, 1, 0, 0, 0, 0), (.ireturn, 1, 0, 0, 0, 0)]),
  (1062, [(.aload_n 1, 1, 0, 0, 0, 0), (.aload_n 0, 1, 0, 0, 0, 0), (.iload_n 3, 1, 0, 0, 0, 0), (.iconst 1, 1, 1, 0, 0, 0), (.iadd, 1, 0, 0, 0, 0), (.iaload, 1, 0, 0, 0, 0), (.aload_n 0, 1, 0, 0, 0, 0), (.iload_n 3, 1, 0, 0, 0, 0), (.iconst 2, 1, 2, 0, 0, 0), (.iadd, 1, 0, 0, 0, 0), (.iaload, 1, 0, 0, 0, 0), (.invokevirtual 120, 3, 0, 85, 3, 720), (.aload_n 2, 1, 0, 0, 0, 0), (.aload_n 0, 1, 0, 0, 0, 0), (.iload_n 3, 1, 0, 0, 0, 0), (.iconst 1, 1, 1, 0, 0, 0), (.iadd, 1, 0, 0, 0, 0), (.iaload, 1, 0, 0, 0, 0), (.aload_n 0, 1, 0, 0, 0, 0), (.iload_n 3, 1, 0, 0, 0, 0), (.iconst 2, 1, 2, 0, 0, 0), (.iadd, 1, 0, 0, 0, 0), (.iaload, 1, 0, 0, 0, 0), (.invokevirtual 123, 3, 0, 140, 3, 1105), (.if_icmp .eq 120, 3, 0, 1210, 0, 0), (.iconst 0, 1, 0, 0, 0, 0), (.ireturn, 1, 0, 0, 0, 0)]),
  (1095, [(.aload_n 1, 1, 0, 0, 0, 0), (.aload_n 0, 1, 0, 0, 0, 0), (.iload_n 3, 1, 0, 0, 0, 0), (.iconst 1, 1, 1, 0, 0, 0), (.iadd, 1, 0, 0, 0, 0), (.iaload, 1, 0, 0, 0, 0), (.invokevirtual 124, 3, 0, 86, 2, 741), (.aload_n 2, 1, 0, 0, 0, 0), (.aload_n 0, 1, 0, 0, 0, 0), (.iload_n 3, 1, 0, 0, 0, 0), (.iconst 1, 1, 1, 0, 0, 0), (.iadd, 1, 0, 0, 0, 0), (.iaload, 1, 0, 0, 0, 0), (.invokevirtual 127, 3, 0, 141, 2, 1110), (.if_icmp .eq 97, 3, 0, 1210, 0, 0), (.iconst 0, 1, 0, 0, 0, 0), (.ireturn, 1, 0, 0, 0, 0)]),
  (1118, [(.aload_n 1, 1, 0, 0, 0, 0), (.aload_n 0, 1, 0, 0, 0, 0), (.iload_n 3, 1, 0, 0, 0, 0), (.iconst 1, 1, 1, 0, 0, 0), (.iadd, 1, 0, 0, 0, 0), (.iaload, 1, 0, 0, 0, 0), (.invokevirtual 128, 3, 0, 87, 2, 749), (.aload_n 2, 1, 0, 0, 0, 0), (.aload_n 0, 1, 0, 0, 0, 0), (.iload_n 3, 1, 0, 0, 0, 0), (.iconst 1, 1, 1, 0, 0, 0), (.iadd, 1, 0, 0, 0, 0), (.iaload, 1, 0, 0, 0, 0), (.invokevirtual 131, 3, 0, 144, 2, 1115), (.if_icmp .eq 74, 3, 0, 1210, 0, 0), (.iconst 0, 1, 0, 0, 0, 0), (.ireturn, 1, 0, 0, 0, 0)]),
  (1141, [(.aload_n 1, 1, 0, 0, 0, 0), (.aload_n 0, 1, 0, 0, 0, 0), (.iload_n 3, 1, 0, 0, 0, 0), (.iconst 1, 1, 1, 0, 0, 0), (.iadd, 1, 0, 0, 0, 0), (.iaload, 1, 0, 0, 0, 0), (.invokevirtual 132, 3, 0, 88, 2, 753), (.aload_n 2, 1, 0, 0, 0, 0), (.aload_n 0, 1, 0, 0, 0, 0), (.iload_n 3, 1, 0, 0, 0, 0), (.iconst 1, 1, 1, 0, 0, 0), (.iadd, 1, 0, 0, 0, 0), (.iaload, 1, 0, 0, 0, 0), (.invokevirtual 135, 3, 0, 146, 2, 1127), (.if_icmp .eq 51, 3, 0, 1210, 0, 0), (.iconst 0, 1, 0, 0, 0, 0), (.ireturn, 1, 0, 0, 0, 0)]),
  (1164, [(.aload_n 1, 1, 0, 0, 0, 0), (.aload_n 0, 1, 0, 0, 0, 0), (.iload_n 3, 1, 0, 0, 0, 0), (.iconst 1, 1, 1, 0, 0, 0), (.iadd, 1, 0, 0, 0, 0), (.iaload, 1, 0, 0, 0, 0), (.invokevirtual 136, 3, 0, 89, 2, 766), (.aload_n 2, 1, 0, 0, 0, 0), (.aload_n 0, 1, 0, 0, 0, 0), (.iload_n 3, 1, 0, 0, 0, 0), (.iconst 1, 1, 1, 0, 0, 0), (.iadd, 1, 0, 0, 0, 0), (.iaload, 1, 0, 0, 0, 0), (.invokevirtual 139, 3, 0, 147, 2, 1135), (.if_icmp .eq 28, 3, 0, 1210, 0, 0), (.iconst 0, 1, 0, 0, 0, 0), (.ireturn, 1, 0, 0, 0, 0)]),
  (1187, [(.aload_n 1, 1, 0, 0, 0, 0), (.aload_n 0, 1, 0, 0, 0, 0), (.iload_n 3, 1, 0, 0, 0, 0), (.iconst 1, 1, 1, 0, 0, 0), (.iadd, 1, 0, 0, 0, 0), (.iaload, 1, 0, 0, 0, 0), (.invokevirtual 140, 3, 0, 90, 2, 786), (.aload_n 2, 1, 0, 0, 0, 0), (.aload_n 0, 1, 0, 0, 0, 0), (.iload_n 3, 1, 0, 0, 0, 0), (.iconst 1, 1, 1, 0, 0, 0), (.iadd, 1, 0, 0, 0, 0), (.iaload, 1, 0, 0, 0, 0), (.invokevirtual 143, 3, 0, 148, 2, 1139), (.if_icmp .eq 5, 3, 0, 1210, 0, 0), (.iconst 0, 1, 0, 0, 0, 0), (.ireturn, 1, 0, 0, 0, 0)]),
  (1210, [(.iinc 3 6, 3, 6, 0, 0, 0), (.goto (-1195), 3, 0, 18, 0, 0)])]
def tp_P156_40 : List (Nat × List tp_Ins) := [(1216, [(.iconst 1, 1, 1, 0, 0, 0), (.ireturn, 1, 0, 0, 0, 0)])]
/-- L_law -/
def tp_P156 : List (Nat × List tp_Ins) := tp_P156_0 ++ tp_P156_20 ++ tp_P156_40
def tp_PP0 : List (List (Nat × List tp_Ins)) := [tp_P0, tp_P1, tp_P2, tp_P3, tp_P4, tp_P5, tp_P6, tp_P7, tp_P8, tp_P9, tp_P10, tp_P11, tp_P12, tp_P13, tp_P14, tp_P15, tp_P16, tp_P17, tp_P18, tp_P19, tp_P20, tp_P21, tp_P22, tp_P23, tp_P24, tp_P25, tp_P26, tp_P27, tp_P28, tp_P29, tp_P30, tp_P31, tp_P32, tp_P33, tp_P34, tp_P35, tp_P36, tp_P37, tp_P38, tp_P39]
def tp_PP1 : List (List (Nat × List tp_Ins)) := [tp_P40, tp_P41, tp_P42, tp_P43, tp_P44, tp_P45, tp_P46, tp_P47, tp_P48, tp_P49, tp_P50, tp_P51, tp_P52, tp_P53, tp_P54, tp_P55, tp_P56, tp_P57, tp_P58, tp_P59, tp_P60, tp_P61, tp_P62, tp_P63, tp_P64, tp_P65, tp_P66, tp_P67, tp_P68, tp_P69, tp_P70, tp_P71, tp_P72, tp_P73, tp_P74, tp_P75, tp_P76, tp_P77, tp_P78, tp_P79]
def tp_PP2 : List (List (Nat × List tp_Ins)) := [tp_P80, tp_P81, tp_P82, tp_P83, tp_P84, tp_P85, tp_P86, tp_P87, tp_P88, tp_P89, tp_P90, tp_P91, tp_P92, tp_P93, tp_P94, tp_P95, tp_P96, tp_P97, tp_P98, tp_P99, tp_P100, tp_P101, tp_P102, tp_P103, tp_P104, tp_P105, tp_P106, tp_P107, tp_P108, tp_P109, tp_P110, tp_P111, tp_P112, tp_P113, tp_P114, tp_P115, tp_P116, tp_P117, tp_P118, tp_P119]
def tp_PP3 : List (List (Nat × List tp_Ins)) := [tp_P120, tp_P121, tp_P122, tp_P123, tp_P124, tp_P125, tp_P126, tp_P127, tp_P128, tp_P129, tp_P130, tp_P131, tp_P132, tp_P133, tp_P134, tp_P135, tp_P136, tp_P137, tp_P138, tp_P139, tp_P140, tp_P141, tp_P142, tp_P143, tp_P144, tp_P145, tp_P146, tp_P147, tp_P148, tp_P149, tp_P150, tp_P151, tp_P152, tp_P153, tp_P154, tp_P155, tp_P156]
def tp_PP : List (List (Nat × List tp_Ins)) := tp_PP0 ++ tp_PP1 ++ tp_PP2 ++ tp_PP3
def tp_prg (i : Nat) : List (Nat × List tp_Ins) := tp_PP.getD i []
def tp_blk (i pc : Nat) : List tp_Ins := ((tp_prg i).lookup pc).getD []
def tp_nest : Cond := .methodLinkNest RX0 93 yX9_isOutside "TramPence"
def tp_sk : List (String × Nat × String) := [("TramPence$Tape", 39, "fare"), ("TramPence$Tape", 50, "work"), ("TramPence$Tape", 52, "change")]
def tp_st : List (String × Nat) := [("HAS", 91), ("LEAST_OF", 92), ("MOST_OF", 93)]
def tp_pmax : Nat × Nat × Nat := (351, 56, 352)
def tp_pmin : Nat × Nat × Nat := (354, 56, 355)
/-- the places of a method's words: its code, instance or static, selects, its class is initialised -/
def tp_mpl : List (Nat × Nat × Nat × Nat) := [(568, 566, 567, 51), (691, 690, 19, 51), (655, 654, 15, 51), (659, 658, 16, 51), (678, 677, 18, 51), (669, 668, 17, 51), (572, 570, 571, 53), (695, 693, 694, 53), (663, 661, 662, 53), (673, 671, 672, 53), (687, 685, 686, 53), (707, 705, 706, 53), (711, 710, 20, 53), (719, 717, 718, 53), (359, 357, 358, 47), (363, 361, 362, 47), (411, 409, 410, 47), (349, 347, 348, 47), (548, 546, 547, 47), (727, 725, 726, 54), (748, 746, 747, 54), (731, 730, 21, 54), (735, 734, 22, 54), (739, 738, 23, 54), (764, 762, 763, 54), (760, 758, 759, 54), (773, 771, 772, 54), (777, 776, 24, 54), (781, 780, 25, 54), (785, 784, 26, 54), (407, 405, 406, 49), (415, 413, 414, 49), (403, 401, 402, 49), (523, 521, 522, 49), (345, 343, 344, 49), (544, 542, 543, 49), (535, 533, 534, 49), (470, 468, 469, 49), (478, 476, 477, 49), (482, 480, 481, 49), (474, 473, 5, 49), (440, 438, 439, 50), (444, 442, 443, 50), (432, 430, 431, 50), (448, 446, 447, 50), (556, 554, 555, 52), (576, 574, 575, 52), (580, 578, 579, 52), (588, 587, 11, 52), (651, 650, 14, 52), (584, 583, 10, 52), (647, 646, 13, 52), (593, 592, 12, 52), (387, 385, 386, 48), (379, 377, 378, 48), (375, 373, 374, 48), (793, 791, 792, 48), (399, 397, 398, 48), (507, 505, 506, 48), (340, 338, 339, 46), (328, 326, 327, 46), (321, 319, 320, 45), (332, 330, 331, 45), (367, 365, 366, 45), (371, 369, 370, 45), (383, 381, 382, 45), (395, 393, 394, 45), (420, 418, 419, 45), (428, 426, 427, 45), (436, 434, 435, 45), (453, 451, 452, 45), (466, 464, 465, 45), (486, 484, 485, 45), (490, 488, 489, 45), (495, 493, 494, 45), (515, 513, 514, 45), (519, 517, 518, 45), (527, 525, 526, 45), (531, 529, 530, 45), (552, 550, 551, 45), (560, 558, 559, 45), (564, 562, 563, 45), (699, 697, 698, 45), (703, 701, 702, 45), (715, 713, 714, 45), (723, 721, 722, 45), (744, 742, 743, 45), (752, 750, 751, 45), (756, 754, 755, 45), (769, 767, 768, 45), (789, 787, 788, 45), (324, 323, 0, 45), (336, 335, 0, 45), (391, 390, 1, 45), (499, 498, 6, 45), (503, 502, 7, 45), (511, 510, 8, 45), (457, 456, 3, 45), (462, 461, 4, 45), (424, 423, 2, 45), (540, 539, 9, 45), (941, 940, 0, 55), (937, 935, 936, 55), (950, 949, 27, 55), (946, 944, 945, 55), (957, 955, 956, 55), (961, 959, 960, 55), (969, 968, 28, 55), (973, 972, 29, 55), (965, 963, 964, 55), (981, 980, 30, 55), (985, 984, 31, 55), (977, 975, 976, 55), (989, 987, 988, 55), (993, 991, 992, 55), (999, 997, 998, 55), (1003, 1001, 1002, 55), (1009, 1007, 1008, 55), (1013, 1011, 1012, 55), (1017, 1015, 1016, 55), (1031, 1030, 33, 55), (1027, 1026, 32, 55), (1022, 1020, 1021, 55), (1035, 1033, 1034, 55), (1039, 1037, 1038, 55), (1043, 1041, 1042, 55), (1047, 1045, 1046, 55), (1051, 1049, 1050, 55), (1055, 1053, 1054, 55), (1067, 1066, 35, 55), (1077, 1076, 37, 55), (1073, 1072, 36, 55), (1063, 1062, 34, 55), (1091, 1090, 40, 55), (1087, 1086, 39, 55), (1083, 1082, 38, 55), (1059, 1057, 1058, 55), (1095, 1093, 1094, 55), (1099, 1097, 1098, 55), (1104, 1102, 1103, 55), (1108, 1106, 1107, 55), (1113, 1111, 1112, 55), (1122, 1121, 41, 55), (1126, 1125, 42, 55), (1118, 1116, 1117, 55), (1134, 1133, 43, 55), (1130, 1128, 1129, 55), (1138, 1136, 1137, 55), (1142, 1140, 1141, 55), (597, 595, 596, 57), (607, 605, 606, 57), (601, 599, 600, 57), (611, 609, 610, 57), (617, 616, 0, 57), (614, 613, 0, 58), (622, 621, 0, 59)]
def tp_bytes : List (List Int32) := [[102, 97, 114, 101], [119, 111, 114, 107], [99, 104, 97, 110, 103, 101]]
/-- what is given of statics and String constants, none of which is written -/
def tp_ro (ad : Nat → Nat) (A : Nat → Prop) (U : State) (H : Heap) (σ : tp_St) : Prop :=
  va_Z RX0 "HAS" "[I" (.ref (ad 91)) A U H ∧
  va_Z RX0 "LEAST_OF" "[I" (.ref (ad 92)) A U H ∧
  va_Z RX0 "MOST_OF" "[I" (.ref (ad 93)) A U H ∧
  (∀ o, tp_kd o = 27 → va_T .int (ad o) (tp_ln o) (fun j => .int (σ.1 o j)) A U H) ∧
  va_Z "java/lang/String" "COMPACT_STRINGS" "Z" (.int 1) A U H ∧
  (va_Z "jdk/internal/util/Preconditions" "SIOOBE_FORMATTER" "Ljava/util/function/BiFunction;" .null A U H ∨ va_Z "jdk/internal/util/Preconditions" "SIOOBE_FORMATTER" "Ljava/util/function/BiFunction;" (.ref (ad 100)) A U H) ∧
  vk_S 3 [4, 4, 6] tp_bytes (fun i => ad (94 + i)) (fun i => ad (97 + i)) A U H ∧
  vk_R "TramPence$Tape" 39 "fare" (ad 94) U ∧
  vk_R "TramPence$Tape" 50 "work" (ad 95) U ∧
  vk_R "TramPence$Tape" 52 "change" (ad 96) U ∧
  va_Nw tp_nest U
end
section
def tp_cls (i : Nat) : String := (tp_mi i).1
def tp_y (i : Nat) : MethodName := (tp_mi i).2.1
def tp_cc (i : Nat) : ByteArray := (tp_mi i).2.2.1
def tp_n (i : Nat) : Nat := (tp_mi i).2.2.2.1
def tp_ret (i : Nat) : Option FieldType := (tp_mi i).2.2.2.2.1
def tp_rf (i : Nat) : Nat := (tp_mi i).2.2.2.2.2.1.1
def tp_rl (i : Nat) : Nat := (tp_mi i).2.2.2.2.2.1.2
def tp_rk (i : Nat) : Nat := (tp_mi i).2.2.2.2.2.2.1
def tp_na (i : Nat) : Nat := (tp_mi i).2.2.2.2.2.2.2
/-! the check of an instruction -/
def tp_gt : List Cond := lw_tbl.filter goodWord
def tp_wd (c : Cond) (i : Nat) : Bool := decide (lw_tbl[i]? = some c) && goodWord c
theorem tp_gt_in {c : Cond} {i : Nat} (h : tp_wd c i = true) : c ∈ tp_gt := by
  simp only [tp_wd, Bool.and_eq_true, decide_eq_true_eq] at h
  exact List.mem_filter.mpr ⟨List.mem_of_getElem? h.1, h.2⟩
def tp_rm (i : Nat) : Room := { frames := tp_rf i, cells := 0, slots := 0, locals := tp_rl i }
def tp_wl (i : Nat) : List Cond := .code (tp_y i) (tp_cc i) (tp_n i) (tp_ret i) :: tp_gt
def tp_okc (mid a : Nat) : Bool := decide (a < tp_law) && decide (tp_rf a + 1 ≤ tp_rf mid ∧ 8 + (tp_n a + 11) + tp_rl a ≤ tp_rl mid)
def tp_ok2 (mid pc : Nat) (x : tp_Ins) : Bool := match x with
  | (i, n, v, a, b, w) => match i with
    | .iload_n _ => n == 1
    | .aload_n _ => n == 1
    | .lload_n _ => n == 1
    | .iload _ => n == 2
    | .aload _ => n == 2
    | .lload _ => n == 2
    | .iconst k => n == 1 && decide (Int32.ofInt k = v)
    | .bipush k => n == 2 && decide ((Int8.ofInt k).toInt32 = v)
    | .sipush k => n == 3 && decide ((Int16.ofInt k).toInt32 = v)
    | .ldc k => n == 2 && (match a with
      | 0 => tp_wd (.constant (tp_cls mid) k v) w
      | a => decide (93 < a ∧ a < 97) && decide (tp_sk[a - 94]? = some (tp_cls mid, k, (tp_sk.getD (a - 94) ("", 0, "")).2.2)))
    | .lconst _ => n == 1
    | .ldc2_w k => n == 3 && tp_wd (.constantLong (tp_cls mid) k (Int64.ofNat a)) w
    | .istore_n _ => n == 1
    | .astore_n _ => n == 1
    | .istore _ => n == 2
    | .astore _ => n == 2
    | .lstore _ => n == 2
    | .iinc _ k => n == 3 && decide (Int32.ofInt k = v)
    | .iadd => n == 1
    | .isub => n == 1
    | .imul => n == 1
    | .idiv => n == 1
    | .iand => n == 1
    | .ior => n == 1
    | .ishl => n == 1
    | .ishr => n == 1
    | .i2l => n == 1
    | .i2b => n == 1
    | .i2s => n == 1
    | .i2c => n == 1
    | .l2i => n == 1
    | .ladd => n == 1
    | .land => n == 1
    | .lor => n == 1
    | .lcmp => n == 1
    | .lshl => n == 1
    | .lshr => n == 1
    | .lushr => n == 1
    | .dup => n == 1
    | .pop => n == 1
    | .dup_x1 => n == 1
    | .dup_x2 => n == 1
    | .dup2 => n == 1
    | .ifCond _ off => n == 3 && decide ((pc : Int) + off = (a : Int))
    | .if_icmp _ off => n == 3 && decide ((pc : Int) + off = (a : Int))
    | .goto off => n == 3 && decide ((pc : Int) + off = (a : Int))
    | .tableswitch d lo hi os => decide (0 ≤ (pc : Int) + d) && (os.toList.all (fun o => decide (0 ≤ (pc : Int) + o)) && decide (lo + os.size = hi + 1 ∧ lo = 0))
    | .lookupswitch d ps => decide (0 ≤ (pc : Int) + d) && (ps.toList.all (fun o => decide (0 ≤ (pc : Int) + o.2)) && (ps.toList.zip (ps.toList.drop 1)).all (fun (a, next) => a.1 < next.1))
    | .getfield k => n == 3 && (match a with
      | 28 => match b with
        | 0 => tp_wd (.fieldLink (tp_cls mid) k "java/lang/String" "value" "[B") w
        | _ => tp_wd (.fieldLink (tp_cls mid) k "java/lang/String" "coder" "B") w
      | a => match vwCl[a]? with
        | some q => decide (b < q.2.2) && tp_wd (.fieldLink (tp_cls mid) k (q.2.1 b).1 (q.2.1 b).2.1 (q.2.1 b).2.2.1) w
        | none => false)
    | .putfield k => n == 3 && (match vwCl[a]? with
        | some q => decide (b < q.2.2) && (tp_wd (.fieldLink (tp_cls mid) k (q.2.1 b).1 (q.2.1 b).2.1 (q.2.1 b).2.2.1) w && (decide ((q.2.1 b).2.2.2 = false) && decide (parseFieldDescriptor (q.2.1 b).2.2.1 = some (match tp_isR a b with
          | true => .object RX1
          | false => .int))))
        | none => false)
    | .getstatic k => n == 3 && (match b with
      | 0 => decide (90 < a ∧ a < 94) && tp_wd (.fieldLink (tp_cls mid) k RX0 (tp_st.getD (a - 91) ("", 0)).1 "[I") w
      | 1 => decide (v = 1) && tp_wd (.fieldLink (tp_cls mid) k "java/lang/String" "COMPACT_STRINGS" "Z") w
      | _ => tp_wd (.fieldLink (tp_cls mid) k "jdk/internal/util/Preconditions" "SIOOBE_FORMATTER" "Ljava/util/function/BiFunction;") w)
    | .iaload => n == 1
    | .baload => n == 1
    | .aaload => n == 1
    | .iastore => n == 1
    | .bastore => n == 1
    | .arraylength => n == 1
    | .invokevirtual k => n == 3 && (tp_okc mid a && (decide (tp_rk a < 11 ∨ tp_rk a = 28) && tp_wd (.methodLink (tp_cls mid) k (tp_y a)) w))
    | .invokestatic k => n == 3 && (match a with
      | 900 => decide (1 ≤ tp_rf mid ∧ 21 ≤ tp_rl mid) && tp_wd (.methodLink (tp_cls mid) k Lib.Math.max.name) w
      | 901 => decide (1 ≤ tp_rf mid ∧ 21 ≤ tp_rl mid) && tp_wd (.methodLink (tp_cls mid) k Lib.Math.min.name) w
      | a => tp_okc mid a && (decide (tp_rk a = 50) && (tp_wd (.methodLink (tp_cls mid) k (tp_y a)) w || decide (Cond.methodLinkNest (tp_cls mid) k (tp_y a) "TramPence" = tp_nest))))
    | .ireturn => n == 1
    | .return_ => n == 1
    | _ => true
def tp_ok (mid pc : Nat) (x : tp_Ins) : Bool := decide (decode (tp_cc mid) pc = .ok (x.1, x.2.1)) && tp_ok2 mid pc x
def tp_okL (mid : Nat) : Nat → List tp_Ins → Bool
  | _, [] => true
  | pc, x :: is => tp_ok mid pc x && tp_okL mid (pc + x.2.1) is
/-- a method's own words -/
def tp_okM (i : Nat) : Bool := match tp_mpl.getD i (0, 0, 0, 0) with
  | (_, q2, q3, q4) => (match tp_rk i with
    | 50 => tp_wd (.static (tp_y i)) q2 && decide ((parseMethodDescriptor (tp_y i).desc).map (fun d => d.parameters.length) = some (tp_na i))
    | _ => tp_wd (.instanceMethod (tp_y i)) q2 && (tp_wd (.selects (tp_y i).cls (tp_y i) (tp_y i)) q3 && decide ((parseMethodDescriptor (tp_y i).desc).map (fun d => d.parameters.length) = some (tp_na i - 1) ∧ 0 < tp_na i)))
    && (tp_wd (.initialized (tp_y i).cls) q4 && (decide ((tp_y i).cls ≠ "java/lang/invoke/MethodHandle" ∧ (tp_y i).cls ≠ "java/lang/invoke/VarHandle") && (decide ((tp_y i).cls = tp_cls i) && (plainName (tp_y i).cls && (if tp_rk i < 11 then decide ((vwCl[tp_rk i]?).map (fun q => q.1) = some (tp_y i).cls) else true)))))
end
section
set_option maxRecDepth 100000 in
theorem tp_okp0 : (tp_prg 0).all (fun q => tp_okL 0 q.1 q.2) = true := by decide +kernel
set_option maxRecDepth 100000 in
theorem tp_okp1 : (tp_prg 1).all (fun q => tp_okL 1 q.1 q.2) = true := by decide +kernel
set_option maxRecDepth 100000 in
theorem tp_okp2 : (tp_prg 2).all (fun q => tp_okL 2 q.1 q.2) = true := by decide +kernel
set_option maxRecDepth 100000 in
theorem tp_okp3 : (tp_prg 3).all (fun q => tp_okL 3 q.1 q.2) = true := by decide +kernel
set_option maxRecDepth 100000 in
theorem tp_okp4 : (tp_prg 4).all (fun q => tp_okL 4 q.1 q.2) = true := by decide +kernel
set_option maxRecDepth 100000 in
theorem tp_okp5 : (tp_prg 5).all (fun q => tp_okL 5 q.1 q.2) = true := by decide +kernel
set_option maxRecDepth 100000 in
theorem tp_okp6 : (tp_prg 6).all (fun q => tp_okL 6 q.1 q.2) = true := by decide +kernel
set_option maxRecDepth 100000 in
theorem tp_okp7 : (tp_prg 7).all (fun q => tp_okL 7 q.1 q.2) = true := by decide +kernel
set_option maxRecDepth 100000 in
theorem tp_okp8 : (tp_prg 8).all (fun q => tp_okL 8 q.1 q.2) = true := by decide +kernel
set_option maxRecDepth 100000 in
theorem tp_okp9 : (tp_prg 9).all (fun q => tp_okL 9 q.1 q.2) = true := by decide +kernel
set_option maxRecDepth 100000 in
theorem tp_okp10 : (tp_prg 10).all (fun q => tp_okL 10 q.1 q.2) = true := by decide +kernel
set_option maxRecDepth 100000 in
theorem tp_okp11 : (tp_prg 11).all (fun q => tp_okL 11 q.1 q.2) = true := by decide +kernel
set_option maxRecDepth 100000 in
theorem tp_okp12 : (tp_prg 12).all (fun q => tp_okL 12 q.1 q.2) = true := by decide +kernel
set_option maxRecDepth 100000 in
theorem tp_okp13 : (tp_prg 13).all (fun q => tp_okL 13 q.1 q.2) = true := by decide +kernel
set_option maxRecDepth 100000 in
theorem tp_okp14 : (tp_prg 14).all (fun q => tp_okL 14 q.1 q.2) = true := by decide +kernel
set_option maxRecDepth 100000 in
theorem tp_okp15 : (tp_prg 15).all (fun q => tp_okL 15 q.1 q.2) = true := by decide +kernel
set_option maxRecDepth 100000 in
theorem tp_okp16 : (tp_prg 16).all (fun q => tp_okL 16 q.1 q.2) = true := by decide +kernel
set_option maxRecDepth 100000 in
theorem tp_okp17 : (tp_prg 17).all (fun q => tp_okL 17 q.1 q.2) = true := by decide +kernel
set_option maxRecDepth 100000 in
theorem tp_okp18 : (tp_prg 18).all (fun q => tp_okL 18 q.1 q.2) = true := by decide +kernel
set_option maxRecDepth 100000 in
theorem tp_okp19 : (tp_prg 19).all (fun q => tp_okL 19 q.1 q.2) = true := by decide +kernel
set_option maxRecDepth 100000 in
theorem tp_okp20 : (tp_prg 20).all (fun q => tp_okL 20 q.1 q.2) = true := by decide +kernel
set_option maxRecDepth 100000 in
theorem tp_okp21 : (tp_prg 21).all (fun q => tp_okL 21 q.1 q.2) = true := by decide +kernel
set_option maxRecDepth 100000 in
theorem tp_okp22 : (tp_prg 22).all (fun q => tp_okL 22 q.1 q.2) = true := by decide +kernel
set_option maxRecDepth 100000 in
theorem tp_okp23 : (tp_prg 23).all (fun q => tp_okL 23 q.1 q.2) = true := by decide +kernel
set_option maxRecDepth 100000 in
theorem tp_okp24 : (tp_prg 24).all (fun q => tp_okL 24 q.1 q.2) = true := by decide +kernel
set_option maxRecDepth 100000 in
theorem tp_okp25 : (tp_prg 25).all (fun q => tp_okL 25 q.1 q.2) = true := by decide +kernel
set_option maxRecDepth 100000 in
theorem tp_okp26 : (tp_prg 26).all (fun q => tp_okL 26 q.1 q.2) = true := by decide +kernel
set_option maxRecDepth 100000 in
theorem tp_okp27 : (tp_prg 27).all (fun q => tp_okL 27 q.1 q.2) = true := by decide +kernel
set_option maxRecDepth 100000 in
theorem tp_okp28 : (tp_prg 28).all (fun q => tp_okL 28 q.1 q.2) = true := by decide +kernel
set_option maxRecDepth 100000 in
theorem tp_okp29 : (tp_prg 29).all (fun q => tp_okL 29 q.1 q.2) = true := by decide +kernel
set_option maxRecDepth 100000 in
theorem tp_okp30 : (tp_prg 30).all (fun q => tp_okL 30 q.1 q.2) = true := by decide +kernel
set_option maxRecDepth 100000 in
theorem tp_okp31 : (tp_prg 31).all (fun q => tp_okL 31 q.1 q.2) = true := by decide +kernel
set_option maxRecDepth 100000 in
theorem tp_okp32 : (tp_prg 32).all (fun q => tp_okL 32 q.1 q.2) = true := by decide +kernel
set_option maxRecDepth 100000 in
theorem tp_okp33 : (tp_prg 33).all (fun q => tp_okL 33 q.1 q.2) = true := by decide +kernel
set_option maxRecDepth 100000 in
theorem tp_okp34 : (tp_prg 34).all (fun q => tp_okL 34 q.1 q.2) = true := by decide +kernel
set_option maxRecDepth 100000 in
theorem tp_okp35 : (tp_prg 35).all (fun q => tp_okL 35 q.1 q.2) = true := by decide +kernel
set_option maxRecDepth 100000 in
theorem tp_okp36 : (tp_prg 36).all (fun q => tp_okL 36 q.1 q.2) = true := by decide +kernel
set_option maxRecDepth 100000 in
theorem tp_okp37 : (tp_prg 37).all (fun q => tp_okL 37 q.1 q.2) = true := by decide +kernel
set_option maxRecDepth 100000 in
theorem tp_okp38 : (tp_prg 38).all (fun q => tp_okL 38 q.1 q.2) = true := by decide +kernel
set_option maxRecDepth 100000 in
theorem tp_okp39 : (tp_prg 39).all (fun q => tp_okL 39 q.1 q.2) = true := by decide +kernel
set_option maxRecDepth 100000 in
theorem tp_okp40 : (tp_prg 40).all (fun q => tp_okL 40 q.1 q.2) = true := by decide +kernel
set_option maxRecDepth 100000 in
theorem tp_okp41 : (tp_prg 41).all (fun q => tp_okL 41 q.1 q.2) = true := by decide +kernel
set_option maxRecDepth 100000 in
theorem tp_okp42 : (tp_prg 42).all (fun q => tp_okL 42 q.1 q.2) = true := by decide +kernel
set_option maxRecDepth 100000 in
theorem tp_okp43 : (tp_prg 43).all (fun q => tp_okL 43 q.1 q.2) = true := by decide +kernel
set_option maxRecDepth 100000 in
theorem tp_okp44 : (tp_prg 44).all (fun q => tp_okL 44 q.1 q.2) = true := by decide +kernel
set_option maxRecDepth 100000 in
theorem tp_okp45 : (tp_prg 45).all (fun q => tp_okL 45 q.1 q.2) = true := by decide +kernel
set_option maxRecDepth 100000 in
theorem tp_okp46 : (tp_prg 46).all (fun q => tp_okL 46 q.1 q.2) = true := by decide +kernel
set_option maxRecDepth 100000 in
theorem tp_okp47 : (tp_prg 47).all (fun q => tp_okL 47 q.1 q.2) = true := by decide +kernel
set_option maxRecDepth 100000 in
theorem tp_okp48 : (tp_prg 48).all (fun q => tp_okL 48 q.1 q.2) = true := by decide +kernel
set_option maxRecDepth 100000 in
theorem tp_okp49 : (tp_prg 49).all (fun q => tp_okL 49 q.1 q.2) = true := by decide +kernel
set_option maxRecDepth 100000 in
theorem tp_okp50 : (tp_prg 50).all (fun q => tp_okL 50 q.1 q.2) = true := by decide +kernel
set_option maxRecDepth 100000 in
theorem tp_okp51 : (tp_prg 51).all (fun q => tp_okL 51 q.1 q.2) = true := by decide +kernel
set_option maxRecDepth 100000 in
theorem tp_okp52 : (tp_prg 52).all (fun q => tp_okL 52 q.1 q.2) = true := by decide +kernel
set_option maxRecDepth 100000 in
theorem tp_okp53 : (tp_prg 53).all (fun q => tp_okL 53 q.1 q.2) = true := by decide +kernel
set_option maxRecDepth 100000 in
theorem tp_okp54 : (tp_prg 54).all (fun q => tp_okL 54 q.1 q.2) = true := by decide +kernel
set_option maxRecDepth 100000 in
theorem tp_okp55 : (tp_prg 55).all (fun q => tp_okL 55 q.1 q.2) = true := by decide +kernel
set_option maxRecDepth 100000 in
theorem tp_okp56 : (tp_prg 56).all (fun q => tp_okL 56 q.1 q.2) = true := by decide +kernel
set_option maxRecDepth 100000 in
theorem tp_okp57 : (tp_prg 57).all (fun q => tp_okL 57 q.1 q.2) = true := by decide +kernel
set_option maxRecDepth 100000 in
theorem tp_okp58 : (tp_prg 58).all (fun q => tp_okL 58 q.1 q.2) = true := by decide +kernel
set_option maxRecDepth 100000 in
theorem tp_okp59 : (tp_prg 59).all (fun q => tp_okL 59 q.1 q.2) = true := by decide +kernel
set_option maxRecDepth 100000 in
theorem tp_okp60 : (tp_prg 60).all (fun q => tp_okL 60 q.1 q.2) = true := by decide +kernel
set_option maxRecDepth 100000 in
theorem tp_okp61 : (tp_prg 61).all (fun q => tp_okL 61 q.1 q.2) = true := by decide +kernel
set_option maxRecDepth 100000 in
theorem tp_okp62 : (tp_prg 62).all (fun q => tp_okL 62 q.1 q.2) = true := by decide +kernel
set_option maxRecDepth 100000 in
theorem tp_okp63 : (tp_prg 63).all (fun q => tp_okL 63 q.1 q.2) = true := by decide +kernel
set_option maxRecDepth 100000 in
theorem tp_okp64 : (tp_prg 64).all (fun q => tp_okL 64 q.1 q.2) = true := by decide +kernel
set_option maxRecDepth 100000 in
theorem tp_okp65 : (tp_prg 65).all (fun q => tp_okL 65 q.1 q.2) = true := by decide +kernel
set_option maxRecDepth 100000 in
theorem tp_okp66 : (tp_prg 66).all (fun q => tp_okL 66 q.1 q.2) = true := by decide +kernel
set_option maxRecDepth 100000 in
theorem tp_okp67 : (tp_prg 67).all (fun q => tp_okL 67 q.1 q.2) = true := by decide +kernel
set_option maxRecDepth 100000 in
theorem tp_okp68 : (tp_prg 68).all (fun q => tp_okL 68 q.1 q.2) = true := by decide +kernel
set_option maxRecDepth 100000 in
theorem tp_okp69 : (tp_prg 69).all (fun q => tp_okL 69 q.1 q.2) = true := by decide +kernel
set_option maxRecDepth 100000 in
theorem tp_okp70 : (tp_prg 70).all (fun q => tp_okL 70 q.1 q.2) = true := by decide +kernel
set_option maxRecDepth 100000 in
theorem tp_okp71 : (tp_prg 71).all (fun q => tp_okL 71 q.1 q.2) = true := by decide +kernel
set_option maxRecDepth 100000 in
theorem tp_okp72 : (tp_prg 72).all (fun q => tp_okL 72 q.1 q.2) = true := by decide +kernel
set_option maxRecDepth 100000 in
theorem tp_okp73 : (tp_prg 73).all (fun q => tp_okL 73 q.1 q.2) = true := by decide +kernel
set_option maxRecDepth 100000 in
theorem tp_okp74 : (tp_prg 74).all (fun q => tp_okL 74 q.1 q.2) = true := by decide +kernel
set_option maxRecDepth 100000 in
theorem tp_okp75 : (tp_prg 75).all (fun q => tp_okL 75 q.1 q.2) = true := by decide +kernel
set_option maxRecDepth 100000 in
theorem tp_okp76 : (tp_prg 76).all (fun q => tp_okL 76 q.1 q.2) = true := by decide +kernel
set_option maxRecDepth 100000 in
theorem tp_okp77 : (tp_prg 77).all (fun q => tp_okL 77 q.1 q.2) = true := by decide +kernel
set_option maxRecDepth 100000 in
theorem tp_okp78 : (tp_prg 78).all (fun q => tp_okL 78 q.1 q.2) = true := by decide +kernel
set_option maxRecDepth 100000 in
theorem tp_okp79 : (tp_prg 79).all (fun q => tp_okL 79 q.1 q.2) = true := by decide +kernel
set_option maxRecDepth 100000 in
theorem tp_okp80 : (tp_prg 80).all (fun q => tp_okL 80 q.1 q.2) = true := by decide +kernel
set_option maxRecDepth 100000 in
theorem tp_okp81 : (tp_prg 81).all (fun q => tp_okL 81 q.1 q.2) = true := by decide +kernel
set_option maxRecDepth 100000 in
theorem tp_okp82 : (tp_prg 82).all (fun q => tp_okL 82 q.1 q.2) = true := by decide +kernel
set_option maxRecDepth 100000 in
theorem tp_okp83 : (tp_prg 83).all (fun q => tp_okL 83 q.1 q.2) = true := by decide +kernel
set_option maxRecDepth 100000 in
theorem tp_okp84 : (tp_prg 84).all (fun q => tp_okL 84 q.1 q.2) = true := by decide +kernel
set_option maxRecDepth 100000 in
theorem tp_okp85 : (tp_prg 85).all (fun q => tp_okL 85 q.1 q.2) = true := by decide +kernel
set_option maxRecDepth 100000 in
theorem tp_okp86 : (tp_prg 86).all (fun q => tp_okL 86 q.1 q.2) = true := by decide +kernel
set_option maxRecDepth 100000 in
theorem tp_okp87 : (tp_prg 87).all (fun q => tp_okL 87 q.1 q.2) = true := by decide +kernel
set_option maxRecDepth 100000 in
theorem tp_okp88 : (tp_prg 88).all (fun q => tp_okL 88 q.1 q.2) = true := by decide +kernel
set_option maxRecDepth 100000 in
theorem tp_okp89 : (tp_prg 89).all (fun q => tp_okL 89 q.1 q.2) = true := by decide +kernel
set_option maxRecDepth 100000 in
theorem tp_okp90 : (tp_prg 90).all (fun q => tp_okL 90 q.1 q.2) = true := by decide +kernel
set_option maxRecDepth 100000 in
theorem tp_okp91 : (tp_prg 91).all (fun q => tp_okL 91 q.1 q.2) = true := by decide +kernel
set_option maxRecDepth 100000 in
theorem tp_okp92 : (tp_prg 92).all (fun q => tp_okL 92 q.1 q.2) = true := by decide +kernel
set_option maxRecDepth 100000 in
theorem tp_okp93 : (tp_prg 93).all (fun q => tp_okL 93 q.1 q.2) = true := by decide +kernel
set_option maxRecDepth 100000 in
theorem tp_okp94 : (tp_prg 94).all (fun q => tp_okL 94 q.1 q.2) = true := by decide +kernel
set_option maxRecDepth 100000 in
theorem tp_okp95 : (tp_prg 95).all (fun q => tp_okL 95 q.1 q.2) = true := by decide +kernel
set_option maxRecDepth 100000 in
theorem tp_okp96 : (tp_prg 96).all (fun q => tp_okL 96 q.1 q.2) = true := by decide +kernel
set_option maxRecDepth 100000 in
theorem tp_okp97 : (tp_prg 97).all (fun q => tp_okL 97 q.1 q.2) = true := by decide +kernel
set_option maxRecDepth 100000 in
theorem tp_okp98 : (tp_prg 98).all (fun q => tp_okL 98 q.1 q.2) = true := by decide +kernel
set_option maxRecDepth 100000 in
theorem tp_okp99 : (tp_prg 99).all (fun q => tp_okL 99 q.1 q.2) = true := by decide +kernel
set_option maxRecDepth 100000 in
theorem tp_okp100 : (tp_prg 100).all (fun q => tp_okL 100 q.1 q.2) = true := by decide +kernel
set_option maxRecDepth 100000 in
theorem tp_okp101 : (tp_prg 101).all (fun q => tp_okL 101 q.1 q.2) = true := by decide +kernel
set_option maxRecDepth 100000 in
theorem tp_okp102 : (tp_prg 102).all (fun q => tp_okL 102 q.1 q.2) = true := by decide +kernel
set_option maxRecDepth 100000 in
theorem tp_okp103 : (tp_prg 103).all (fun q => tp_okL 103 q.1 q.2) = true := by decide +kernel
set_option maxRecDepth 100000 in
theorem tp_okp104 : (tp_prg 104).all (fun q => tp_okL 104 q.1 q.2) = true := by decide +kernel
set_option maxRecDepth 100000 in
theorem tp_okp105 : (tp_prg 105).all (fun q => tp_okL 105 q.1 q.2) = true := by decide +kernel
set_option maxRecDepth 100000 in
theorem tp_okp106 : (tp_prg 106).all (fun q => tp_okL 106 q.1 q.2) = true := by decide +kernel
set_option maxRecDepth 100000 in
theorem tp_okp107 : (tp_prg 107).all (fun q => tp_okL 107 q.1 q.2) = true := by decide +kernel
set_option maxRecDepth 100000 in
theorem tp_okp108 : (tp_prg 108).all (fun q => tp_okL 108 q.1 q.2) = true := by decide +kernel
set_option maxRecDepth 100000 in
theorem tp_okp109 : (tp_prg 109).all (fun q => tp_okL 109 q.1 q.2) = true := by decide +kernel
set_option maxRecDepth 100000 in
theorem tp_okp110 : (tp_prg 110).all (fun q => tp_okL 110 q.1 q.2) = true := by decide +kernel
set_option maxRecDepth 100000 in
theorem tp_okp111 : (tp_prg 111).all (fun q => tp_okL 111 q.1 q.2) = true := by decide +kernel
set_option maxRecDepth 100000 in
theorem tp_okp112 : (tp_prg 112).all (fun q => tp_okL 112 q.1 q.2) = true := by decide +kernel
set_option maxRecDepth 100000 in
theorem tp_okp113 : (tp_prg 113).all (fun q => tp_okL 113 q.1 q.2) = true := by decide +kernel
set_option maxRecDepth 100000 in
theorem tp_okp114 : (tp_prg 114).all (fun q => tp_okL 114 q.1 q.2) = true := by decide +kernel
set_option maxRecDepth 100000 in
theorem tp_okp115 : (tp_prg 115).all (fun q => tp_okL 115 q.1 q.2) = true := by decide +kernel
set_option maxRecDepth 100000 in
theorem tp_okp116 : (tp_prg 116).all (fun q => tp_okL 116 q.1 q.2) = true := by decide +kernel
set_option maxRecDepth 100000 in
theorem tp_okp117 : (tp_prg 117).all (fun q => tp_okL 117 q.1 q.2) = true := by decide +kernel
set_option maxRecDepth 100000 in
theorem tp_okp118 : (tp_prg 118).all (fun q => tp_okL 118 q.1 q.2) = true := by decide +kernel
set_option maxRecDepth 100000 in
theorem tp_okp119 : (tp_prg 119).all (fun q => tp_okL 119 q.1 q.2) = true := by decide +kernel
set_option maxRecDepth 100000 in
theorem tp_okp120 : (tp_prg 120).all (fun q => tp_okL 120 q.1 q.2) = true := by decide +kernel
set_option maxRecDepth 100000 in
theorem tp_okp121 : (tp_prg 121).all (fun q => tp_okL 121 q.1 q.2) = true := by decide +kernel
set_option maxRecDepth 100000 in
theorem tp_okp122 : (tp_prg 122).all (fun q => tp_okL 122 q.1 q.2) = true := by decide +kernel
set_option maxRecDepth 100000 in
theorem tp_okp123 : (tp_prg 123).all (fun q => tp_okL 123 q.1 q.2) = true := by decide +kernel
set_option maxRecDepth 100000 in
theorem tp_okp124 : (tp_prg 124).all (fun q => tp_okL 124 q.1 q.2) = true := by decide +kernel
set_option maxRecDepth 100000 in
theorem tp_okp125 : (tp_prg 125).all (fun q => tp_okL 125 q.1 q.2) = true := by decide +kernel
set_option maxRecDepth 100000 in
theorem tp_okp126 : (tp_prg 126).all (fun q => tp_okL 126 q.1 q.2) = true := by decide +kernel
set_option maxRecDepth 100000 in
theorem tp_okp127 : (tp_prg 127).all (fun q => tp_okL 127 q.1 q.2) = true := by decide +kernel
set_option maxRecDepth 100000 in
theorem tp_okp128 : (tp_prg 128).all (fun q => tp_okL 128 q.1 q.2) = true := by decide +kernel
set_option maxRecDepth 100000 in
theorem tp_okp129 : (tp_prg 129).all (fun q => tp_okL 129 q.1 q.2) = true := by decide +kernel
set_option maxRecDepth 100000 in
theorem tp_okp130 : (tp_prg 130).all (fun q => tp_okL 130 q.1 q.2) = true := by decide +kernel
set_option maxRecDepth 100000 in
theorem tp_okp131 : (tp_prg 131).all (fun q => tp_okL 131 q.1 q.2) = true := by decide +kernel
set_option maxRecDepth 100000 in
theorem tp_okp132 : (tp_prg 132).all (fun q => tp_okL 132 q.1 q.2) = true := by decide +kernel
set_option maxRecDepth 100000 in
theorem tp_okp133 : (tp_prg 133).all (fun q => tp_okL 133 q.1 q.2) = true := by decide +kernel
set_option maxRecDepth 100000 in
theorem tp_okp134 : (tp_prg 134).all (fun q => tp_okL 134 q.1 q.2) = true := by decide +kernel
set_option maxRecDepth 100000 in
theorem tp_okp135 : (tp_prg 135).all (fun q => tp_okL 135 q.1 q.2) = true := by decide +kernel
set_option maxRecDepth 100000 in
theorem tp_okp136 : (tp_prg 136).all (fun q => tp_okL 136 q.1 q.2) = true := by decide +kernel
set_option maxRecDepth 100000 in
theorem tp_okp137 : (tp_prg 137).all (fun q => tp_okL 137 q.1 q.2) = true := by decide +kernel
set_option maxRecDepth 100000 in
theorem tp_okp138 : (tp_prg 138).all (fun q => tp_okL 138 q.1 q.2) = true := by decide +kernel
set_option maxRecDepth 100000 in
theorem tp_okp139 : (tp_prg 139).all (fun q => tp_okL 139 q.1 q.2) = true := by decide +kernel
set_option maxRecDepth 100000 in
theorem tp_okp140 : (tp_prg 140).all (fun q => tp_okL 140 q.1 q.2) = true := by decide +kernel
set_option maxRecDepth 100000 in
theorem tp_okp141 : (tp_prg 141).all (fun q => tp_okL 141 q.1 q.2) = true := by decide +kernel
set_option maxRecDepth 100000 in
theorem tp_okp142 : (tp_prg 142).all (fun q => tp_okL 142 q.1 q.2) = true := by decide +kernel
set_option maxRecDepth 100000 in
theorem tp_okp143 : (tp_prg 143).all (fun q => tp_okL 143 q.1 q.2) = true := by decide +kernel
set_option maxRecDepth 100000 in
theorem tp_okp144 : (tp_prg 144).all (fun q => tp_okL 144 q.1 q.2) = true := by decide +kernel
set_option maxRecDepth 100000 in
theorem tp_okp145 : (tp_prg 145).all (fun q => tp_okL 145 q.1 q.2) = true := by decide +kernel
set_option maxRecDepth 100000 in
theorem tp_okp146 : (tp_prg 146).all (fun q => tp_okL 146 q.1 q.2) = true := by decide +kernel
set_option maxRecDepth 100000 in
theorem tp_okp147 : (tp_prg 147).all (fun q => tp_okL 147 q.1 q.2) = true := by decide +kernel
set_option maxRecDepth 100000 in
theorem tp_okp148 : (tp_prg 148).all (fun q => tp_okL 148 q.1 q.2) = true := by decide +kernel
set_option maxRecDepth 100000 in
theorem tp_okp149 : (tp_prg 149).all (fun q => tp_okL 149 q.1 q.2) = true := by decide +kernel
set_option maxRecDepth 100000 in
theorem tp_okp150 : (tp_prg 150).all (fun q => tp_okL 150 q.1 q.2) = true := by decide +kernel
set_option maxRecDepth 100000 in
theorem tp_okp151 : (tp_prg 151).all (fun q => tp_okL 151 q.1 q.2) = true := by decide +kernel
set_option maxRecDepth 100000 in
theorem tp_okp152 : (tp_prg 152).all (fun q => tp_okL 152 q.1 q.2) = true := by decide +kernel
set_option maxRecDepth 100000 in
theorem tp_okp153 : (tp_prg 153).all (fun q => tp_okL 153 q.1 q.2) = true := by decide +kernel
set_option maxRecDepth 100000 in
theorem tp_okp154 : (tp_prg 154).all (fun q => tp_okL 154 q.1 q.2) = true := by decide +kernel
set_option maxRecDepth 100000 in
theorem tp_okp155 : (tp_prg 155).all (fun q => tp_okL 155 q.1 q.2) = true := by decide +kernel
set_option maxRecDepth 100000 in
theorem tp_okq0 : ((tp_prg 156)[0]?).all (fun q => tp_okL 156 q.1 q.2) = true := by decide +kernel
set_option maxRecDepth 100000 in
theorem tp_okq1 : ((tp_prg 156)[1]?).all (fun q => tp_okL 156 q.1 q.2) = true := by decide +kernel
set_option maxRecDepth 100000 in
theorem tp_okq2 : ((tp_prg 156)[2]?).all (fun q => tp_okL 156 q.1 q.2) = true := by decide +kernel
set_option maxRecDepth 100000 in
theorem tp_okq3 : ((tp_prg 156)[3]?).all (fun q => tp_okL 156 q.1 q.2) = true := by decide +kernel
set_option maxRecDepth 100000 in
theorem tp_okq4 : ((tp_prg 156)[4]?).all (fun q => tp_okL 156 q.1 q.2) = true := by decide +kernel
set_option maxRecDepth 100000 in
theorem tp_okq5 : ((tp_prg 156)[5]?).all (fun q => tp_okL 156 q.1 q.2) = true := by decide +kernel
set_option maxRecDepth 100000 in
theorem tp_okq6 : ((tp_prg 156)[6]?).all (fun q => tp_okL 156 q.1 q.2) = true := by decide +kernel
set_option maxRecDepth 100000 in
theorem tp_okq7 : ((tp_prg 156)[7]?).all (fun q => tp_okL 156 q.1 q.2) = true := by decide +kernel
set_option maxRecDepth 100000 in
theorem tp_okq8 : ((tp_prg 156)[8]?).all (fun q => tp_okL 156 q.1 q.2) = true := by decide +kernel
set_option maxRecDepth 100000 in
theorem tp_okq9 : ((tp_prg 156)[9]?).all (fun q => tp_okL 156 q.1 q.2) = true := by decide +kernel
set_option maxRecDepth 100000 in
theorem tp_okq10 : ((tp_prg 156)[10]?).all (fun q => tp_okL 156 q.1 q.2) = true := by decide +kernel
set_option maxRecDepth 100000 in
theorem tp_okq11 : ((tp_prg 156)[11]?).all (fun q => tp_okL 156 q.1 q.2) = true := by decide +kernel
set_option maxRecDepth 100000 in
theorem tp_okq12 : ((tp_prg 156)[12]?).all (fun q => tp_okL 156 q.1 q.2) = true := by decide +kernel
set_option maxRecDepth 100000 in
theorem tp_okq13 : ((tp_prg 156)[13]?).all (fun q => tp_okL 156 q.1 q.2) = true := by decide +kernel
set_option maxRecDepth 100000 in
theorem tp_okq14 : ((tp_prg 156)[14]?).all (fun q => tp_okL 156 q.1 q.2) = true := by decide +kernel
set_option maxRecDepth 100000 in
theorem tp_okq15 : ((tp_prg 156)[15]?).all (fun q => tp_okL 156 q.1 q.2) = true := by decide +kernel
set_option maxRecDepth 100000 in
theorem tp_okq16 : ((tp_prg 156)[16]?).all (fun q => tp_okL 156 q.1 q.2) = true := by decide +kernel
set_option maxRecDepth 100000 in
theorem tp_okq17 : ((tp_prg 156)[17]?).all (fun q => tp_okL 156 q.1 q.2) = true := by decide +kernel
set_option maxRecDepth 100000 in
theorem tp_okq18 : ((tp_prg 156)[18]?).all (fun q => tp_okL 156 q.1 q.2) = true := by decide +kernel
set_option maxRecDepth 100000 in
theorem tp_okq19 : ((tp_prg 156)[19]?).all (fun q => tp_okL 156 q.1 q.2) = true := by decide +kernel
set_option maxRecDepth 100000 in
theorem tp_okq20 : ((tp_prg 156)[20]?).all (fun q => tp_okL 156 q.1 q.2) = true := by decide +kernel
set_option maxRecDepth 100000 in
theorem tp_okq21 : ((tp_prg 156)[21]?).all (fun q => tp_okL 156 q.1 q.2) = true := by decide +kernel
set_option maxRecDepth 100000 in
theorem tp_okq22 : ((tp_prg 156)[22]?).all (fun q => tp_okL 156 q.1 q.2) = true := by decide +kernel
set_option maxRecDepth 100000 in
theorem tp_okq23 : ((tp_prg 156)[23]?).all (fun q => tp_okL 156 q.1 q.2) = true := by decide +kernel
set_option maxRecDepth 100000 in
theorem tp_okq24 : ((tp_prg 156)[24]?).all (fun q => tp_okL 156 q.1 q.2) = true := by decide +kernel
set_option maxRecDepth 100000 in
theorem tp_okq25 : ((tp_prg 156)[25]?).all (fun q => tp_okL 156 q.1 q.2) = true := by decide +kernel
set_option maxRecDepth 100000 in
theorem tp_okq26 : ((tp_prg 156)[26]?).all (fun q => tp_okL 156 q.1 q.2) = true := by decide +kernel
set_option maxRecDepth 100000 in
theorem tp_okq27 : ((tp_prg 156)[27]?).all (fun q => tp_okL 156 q.1 q.2) = true := by decide +kernel
set_option maxRecDepth 100000 in
theorem tp_okq28 : ((tp_prg 156)[28]?).all (fun q => tp_okL 156 q.1 q.2) = true := by decide +kernel
set_option maxRecDepth 100000 in
theorem tp_okq29 : ((tp_prg 156)[29]?).all (fun q => tp_okL 156 q.1 q.2) = true := by decide +kernel
set_option maxRecDepth 100000 in
theorem tp_okq30 : ((tp_prg 156)[30]?).all (fun q => tp_okL 156 q.1 q.2) = true := by decide +kernel
set_option maxRecDepth 100000 in
theorem tp_okq31 : ((tp_prg 156)[31]?).all (fun q => tp_okL 156 q.1 q.2) = true := by decide +kernel
set_option maxRecDepth 100000 in
theorem tp_okq32 : ((tp_prg 156)[32]?).all (fun q => tp_okL 156 q.1 q.2) = true := by decide +kernel
set_option maxRecDepth 100000 in
theorem tp_okq33 : ((tp_prg 156)[33]?).all (fun q => tp_okL 156 q.1 q.2) = true := by decide +kernel
set_option maxRecDepth 100000 in
theorem tp_okq34 : ((tp_prg 156)[34]?).all (fun q => tp_okL 156 q.1 q.2) = true := by decide +kernel
set_option maxRecDepth 100000 in
theorem tp_okq35 : ((tp_prg 156)[35]?).all (fun q => tp_okL 156 q.1 q.2) = true := by decide +kernel
set_option maxRecDepth 100000 in
theorem tp_okq36 : ((tp_prg 156)[36]?).all (fun q => tp_okL 156 q.1 q.2) = true := by decide +kernel
set_option maxRecDepth 100000 in
theorem tp_okq37 : ((tp_prg 156)[37]?).all (fun q => tp_okL 156 q.1 q.2) = true := by decide +kernel
set_option maxRecDepth 100000 in
theorem tp_okq38 : ((tp_prg 156)[38]?).all (fun q => tp_okL 156 q.1 q.2) = true := by decide +kernel
set_option maxRecDepth 100000 in
theorem tp_okq39 : ((tp_prg 156)[39]?).all (fun q => tp_okL 156 q.1 q.2) = true := by decide +kernel
set_option maxRecDepth 100000 in
theorem tp_okq40 : ((tp_prg 156)[40]?).all (fun q => tp_okL 156 q.1 q.2) = true := by decide +kernel
theorem tp_cw0 : lw_tbl[(tp_mpl.getD 0 (0, 0, 0, 0)).1]? = some (.code (tp_y 0) (tp_cc 0) (tp_n 0) (tp_ret 0)) := by decide +kernel
theorem tp_cw1 : lw_tbl[(tp_mpl.getD 1 (0, 0, 0, 0)).1]? = some (.code (tp_y 1) (tp_cc 1) (tp_n 1) (tp_ret 1)) := by decide +kernel
theorem tp_cw2 : lw_tbl[(tp_mpl.getD 2 (0, 0, 0, 0)).1]? = some (.code (tp_y 2) (tp_cc 2) (tp_n 2) (tp_ret 2)) := by decide +kernel
theorem tp_cw3 : lw_tbl[(tp_mpl.getD 3 (0, 0, 0, 0)).1]? = some (.code (tp_y 3) (tp_cc 3) (tp_n 3) (tp_ret 3)) := by decide +kernel
theorem tp_cw4 : lw_tbl[(tp_mpl.getD 4 (0, 0, 0, 0)).1]? = some (.code (tp_y 4) (tp_cc 4) (tp_n 4) (tp_ret 4)) := by decide +kernel
theorem tp_cw5 : lw_tbl[(tp_mpl.getD 5 (0, 0, 0, 0)).1]? = some (.code (tp_y 5) (tp_cc 5) (tp_n 5) (tp_ret 5)) := by decide +kernel
theorem tp_cw6 : lw_tbl[(tp_mpl.getD 6 (0, 0, 0, 0)).1]? = some (.code (tp_y 6) (tp_cc 6) (tp_n 6) (tp_ret 6)) := by decide +kernel
theorem tp_cw7 : lw_tbl[(tp_mpl.getD 7 (0, 0, 0, 0)).1]? = some (.code (tp_y 7) (tp_cc 7) (tp_n 7) (tp_ret 7)) := by decide +kernel
theorem tp_cw8 : lw_tbl[(tp_mpl.getD 8 (0, 0, 0, 0)).1]? = some (.code (tp_y 8) (tp_cc 8) (tp_n 8) (tp_ret 8)) := by decide +kernel
theorem tp_cw9 : lw_tbl[(tp_mpl.getD 9 (0, 0, 0, 0)).1]? = some (.code (tp_y 9) (tp_cc 9) (tp_n 9) (tp_ret 9)) := by decide +kernel
theorem tp_cw10 : lw_tbl[(tp_mpl.getD 10 (0, 0, 0, 0)).1]? = some (.code (tp_y 10) (tp_cc 10) (tp_n 10) (tp_ret 10)) := by decide +kernel
theorem tp_cw11 : lw_tbl[(tp_mpl.getD 11 (0, 0, 0, 0)).1]? = some (.code (tp_y 11) (tp_cc 11) (tp_n 11) (tp_ret 11)) := by decide +kernel
theorem tp_cw12 : lw_tbl[(tp_mpl.getD 12 (0, 0, 0, 0)).1]? = some (.code (tp_y 12) (tp_cc 12) (tp_n 12) (tp_ret 12)) := by decide +kernel
theorem tp_cw13 : lw_tbl[(tp_mpl.getD 13 (0, 0, 0, 0)).1]? = some (.code (tp_y 13) (tp_cc 13) (tp_n 13) (tp_ret 13)) := by decide +kernel
theorem tp_cw14 : lw_tbl[(tp_mpl.getD 14 (0, 0, 0, 0)).1]? = some (.code (tp_y 14) (tp_cc 14) (tp_n 14) (tp_ret 14)) := by decide +kernel
theorem tp_cw15 : lw_tbl[(tp_mpl.getD 15 (0, 0, 0, 0)).1]? = some (.code (tp_y 15) (tp_cc 15) (tp_n 15) (tp_ret 15)) := by decide +kernel
theorem tp_cw16 : lw_tbl[(tp_mpl.getD 16 (0, 0, 0, 0)).1]? = some (.code (tp_y 16) (tp_cc 16) (tp_n 16) (tp_ret 16)) := by decide +kernel
theorem tp_cw17 : lw_tbl[(tp_mpl.getD 17 (0, 0, 0, 0)).1]? = some (.code (tp_y 17) (tp_cc 17) (tp_n 17) (tp_ret 17)) := by decide +kernel
theorem tp_cw18 : lw_tbl[(tp_mpl.getD 18 (0, 0, 0, 0)).1]? = some (.code (tp_y 18) (tp_cc 18) (tp_n 18) (tp_ret 18)) := by decide +kernel
theorem tp_cw19 : lw_tbl[(tp_mpl.getD 19 (0, 0, 0, 0)).1]? = some (.code (tp_y 19) (tp_cc 19) (tp_n 19) (tp_ret 19)) := by decide +kernel
theorem tp_cw20 : lw_tbl[(tp_mpl.getD 20 (0, 0, 0, 0)).1]? = some (.code (tp_y 20) (tp_cc 20) (tp_n 20) (tp_ret 20)) := by decide +kernel
theorem tp_cw21 : lw_tbl[(tp_mpl.getD 21 (0, 0, 0, 0)).1]? = some (.code (tp_y 21) (tp_cc 21) (tp_n 21) (tp_ret 21)) := by decide +kernel
theorem tp_cw22 : lw_tbl[(tp_mpl.getD 22 (0, 0, 0, 0)).1]? = some (.code (tp_y 22) (tp_cc 22) (tp_n 22) (tp_ret 22)) := by decide +kernel
theorem tp_cw23 : lw_tbl[(tp_mpl.getD 23 (0, 0, 0, 0)).1]? = some (.code (tp_y 23) (tp_cc 23) (tp_n 23) (tp_ret 23)) := by decide +kernel
theorem tp_cw24 : lw_tbl[(tp_mpl.getD 24 (0, 0, 0, 0)).1]? = some (.code (tp_y 24) (tp_cc 24) (tp_n 24) (tp_ret 24)) := by decide +kernel
theorem tp_cw25 : lw_tbl[(tp_mpl.getD 25 (0, 0, 0, 0)).1]? = some (.code (tp_y 25) (tp_cc 25) (tp_n 25) (tp_ret 25)) := by decide +kernel
theorem tp_cw26 : lw_tbl[(tp_mpl.getD 26 (0, 0, 0, 0)).1]? = some (.code (tp_y 26) (tp_cc 26) (tp_n 26) (tp_ret 26)) := by decide +kernel
theorem tp_cw27 : lw_tbl[(tp_mpl.getD 27 (0, 0, 0, 0)).1]? = some (.code (tp_y 27) (tp_cc 27) (tp_n 27) (tp_ret 27)) := by decide +kernel
theorem tp_cw28 : lw_tbl[(tp_mpl.getD 28 (0, 0, 0, 0)).1]? = some (.code (tp_y 28) (tp_cc 28) (tp_n 28) (tp_ret 28)) := by decide +kernel
theorem tp_cw29 : lw_tbl[(tp_mpl.getD 29 (0, 0, 0, 0)).1]? = some (.code (tp_y 29) (tp_cc 29) (tp_n 29) (tp_ret 29)) := by decide +kernel
theorem tp_cw30 : lw_tbl[(tp_mpl.getD 30 (0, 0, 0, 0)).1]? = some (.code (tp_y 30) (tp_cc 30) (tp_n 30) (tp_ret 30)) := by decide +kernel
theorem tp_cw31 : lw_tbl[(tp_mpl.getD 31 (0, 0, 0, 0)).1]? = some (.code (tp_y 31) (tp_cc 31) (tp_n 31) (tp_ret 31)) := by decide +kernel
theorem tp_cw32 : lw_tbl[(tp_mpl.getD 32 (0, 0, 0, 0)).1]? = some (.code (tp_y 32) (tp_cc 32) (tp_n 32) (tp_ret 32)) := by decide +kernel
theorem tp_cw33 : lw_tbl[(tp_mpl.getD 33 (0, 0, 0, 0)).1]? = some (.code (tp_y 33) (tp_cc 33) (tp_n 33) (tp_ret 33)) := by decide +kernel
theorem tp_cw34 : lw_tbl[(tp_mpl.getD 34 (0, 0, 0, 0)).1]? = some (.code (tp_y 34) (tp_cc 34) (tp_n 34) (tp_ret 34)) := by decide +kernel
theorem tp_cw35 : lw_tbl[(tp_mpl.getD 35 (0, 0, 0, 0)).1]? = some (.code (tp_y 35) (tp_cc 35) (tp_n 35) (tp_ret 35)) := by decide +kernel
theorem tp_cw36 : lw_tbl[(tp_mpl.getD 36 (0, 0, 0, 0)).1]? = some (.code (tp_y 36) (tp_cc 36) (tp_n 36) (tp_ret 36)) := by decide +kernel
theorem tp_cw37 : lw_tbl[(tp_mpl.getD 37 (0, 0, 0, 0)).1]? = some (.code (tp_y 37) (tp_cc 37) (tp_n 37) (tp_ret 37)) := by decide +kernel
theorem tp_cw38 : lw_tbl[(tp_mpl.getD 38 (0, 0, 0, 0)).1]? = some (.code (tp_y 38) (tp_cc 38) (tp_n 38) (tp_ret 38)) := by decide +kernel
theorem tp_cw39 : lw_tbl[(tp_mpl.getD 39 (0, 0, 0, 0)).1]? = some (.code (tp_y 39) (tp_cc 39) (tp_n 39) (tp_ret 39)) := by decide +kernel
theorem tp_cw40 : lw_tbl[(tp_mpl.getD 40 (0, 0, 0, 0)).1]? = some (.code (tp_y 40) (tp_cc 40) (tp_n 40) (tp_ret 40)) := by decide +kernel
theorem tp_cw41 : lw_tbl[(tp_mpl.getD 41 (0, 0, 0, 0)).1]? = some (.code (tp_y 41) (tp_cc 41) (tp_n 41) (tp_ret 41)) := by decide +kernel
theorem tp_cw42 : lw_tbl[(tp_mpl.getD 42 (0, 0, 0, 0)).1]? = some (.code (tp_y 42) (tp_cc 42) (tp_n 42) (tp_ret 42)) := by decide +kernel
theorem tp_cw43 : lw_tbl[(tp_mpl.getD 43 (0, 0, 0, 0)).1]? = some (.code (tp_y 43) (tp_cc 43) (tp_n 43) (tp_ret 43)) := by decide +kernel
theorem tp_cw44 : lw_tbl[(tp_mpl.getD 44 (0, 0, 0, 0)).1]? = some (.code (tp_y 44) (tp_cc 44) (tp_n 44) (tp_ret 44)) := by decide +kernel
theorem tp_cw45 : lw_tbl[(tp_mpl.getD 45 (0, 0, 0, 0)).1]? = some (.code (tp_y 45) (tp_cc 45) (tp_n 45) (tp_ret 45)) := by decide +kernel
theorem tp_cw46 : lw_tbl[(tp_mpl.getD 46 (0, 0, 0, 0)).1]? = some (.code (tp_y 46) (tp_cc 46) (tp_n 46) (tp_ret 46)) := by decide +kernel
theorem tp_cw47 : lw_tbl[(tp_mpl.getD 47 (0, 0, 0, 0)).1]? = some (.code (tp_y 47) (tp_cc 47) (tp_n 47) (tp_ret 47)) := by decide +kernel
theorem tp_cw48 : lw_tbl[(tp_mpl.getD 48 (0, 0, 0, 0)).1]? = some (.code (tp_y 48) (tp_cc 48) (tp_n 48) (tp_ret 48)) := by decide +kernel
theorem tp_cw49 : lw_tbl[(tp_mpl.getD 49 (0, 0, 0, 0)).1]? = some (.code (tp_y 49) (tp_cc 49) (tp_n 49) (tp_ret 49)) := by decide +kernel
theorem tp_cw50 : lw_tbl[(tp_mpl.getD 50 (0, 0, 0, 0)).1]? = some (.code (tp_y 50) (tp_cc 50) (tp_n 50) (tp_ret 50)) := by decide +kernel
theorem tp_cw51 : lw_tbl[(tp_mpl.getD 51 (0, 0, 0, 0)).1]? = some (.code (tp_y 51) (tp_cc 51) (tp_n 51) (tp_ret 51)) := by decide +kernel
theorem tp_cw52 : lw_tbl[(tp_mpl.getD 52 (0, 0, 0, 0)).1]? = some (.code (tp_y 52) (tp_cc 52) (tp_n 52) (tp_ret 52)) := by decide +kernel
theorem tp_cw53 : lw_tbl[(tp_mpl.getD 53 (0, 0, 0, 0)).1]? = some (.code (tp_y 53) (tp_cc 53) (tp_n 53) (tp_ret 53)) := by decide +kernel
theorem tp_cw54 : lw_tbl[(tp_mpl.getD 54 (0, 0, 0, 0)).1]? = some (.code (tp_y 54) (tp_cc 54) (tp_n 54) (tp_ret 54)) := by decide +kernel
theorem tp_cw55 : lw_tbl[(tp_mpl.getD 55 (0, 0, 0, 0)).1]? = some (.code (tp_y 55) (tp_cc 55) (tp_n 55) (tp_ret 55)) := by decide +kernel
theorem tp_cw56 : lw_tbl[(tp_mpl.getD 56 (0, 0, 0, 0)).1]? = some (.code (tp_y 56) (tp_cc 56) (tp_n 56) (tp_ret 56)) := by decide +kernel
theorem tp_cw57 : lw_tbl[(tp_mpl.getD 57 (0, 0, 0, 0)).1]? = some (.code (tp_y 57) (tp_cc 57) (tp_n 57) (tp_ret 57)) := by decide +kernel
theorem tp_cw58 : lw_tbl[(tp_mpl.getD 58 (0, 0, 0, 0)).1]? = some (.code (tp_y 58) (tp_cc 58) (tp_n 58) (tp_ret 58)) := by decide +kernel
theorem tp_cw59 : lw_tbl[(tp_mpl.getD 59 (0, 0, 0, 0)).1]? = some (.code (tp_y 59) (tp_cc 59) (tp_n 59) (tp_ret 59)) := by decide +kernel
theorem tp_cw60 : lw_tbl[(tp_mpl.getD 60 (0, 0, 0, 0)).1]? = some (.code (tp_y 60) (tp_cc 60) (tp_n 60) (tp_ret 60)) := by decide +kernel
theorem tp_cw61 : lw_tbl[(tp_mpl.getD 61 (0, 0, 0, 0)).1]? = some (.code (tp_y 61) (tp_cc 61) (tp_n 61) (tp_ret 61)) := by decide +kernel
theorem tp_cw62 : lw_tbl[(tp_mpl.getD 62 (0, 0, 0, 0)).1]? = some (.code (tp_y 62) (tp_cc 62) (tp_n 62) (tp_ret 62)) := by decide +kernel
theorem tp_cw63 : lw_tbl[(tp_mpl.getD 63 (0, 0, 0, 0)).1]? = some (.code (tp_y 63) (tp_cc 63) (tp_n 63) (tp_ret 63)) := by decide +kernel
theorem tp_cw64 : lw_tbl[(tp_mpl.getD 64 (0, 0, 0, 0)).1]? = some (.code (tp_y 64) (tp_cc 64) (tp_n 64) (tp_ret 64)) := by decide +kernel
theorem tp_cw65 : lw_tbl[(tp_mpl.getD 65 (0, 0, 0, 0)).1]? = some (.code (tp_y 65) (tp_cc 65) (tp_n 65) (tp_ret 65)) := by decide +kernel
theorem tp_cw66 : lw_tbl[(tp_mpl.getD 66 (0, 0, 0, 0)).1]? = some (.code (tp_y 66) (tp_cc 66) (tp_n 66) (tp_ret 66)) := by decide +kernel
theorem tp_cw67 : lw_tbl[(tp_mpl.getD 67 (0, 0, 0, 0)).1]? = some (.code (tp_y 67) (tp_cc 67) (tp_n 67) (tp_ret 67)) := by decide +kernel
theorem tp_cw68 : lw_tbl[(tp_mpl.getD 68 (0, 0, 0, 0)).1]? = some (.code (tp_y 68) (tp_cc 68) (tp_n 68) (tp_ret 68)) := by decide +kernel
theorem tp_cw69 : lw_tbl[(tp_mpl.getD 69 (0, 0, 0, 0)).1]? = some (.code (tp_y 69) (tp_cc 69) (tp_n 69) (tp_ret 69)) := by decide +kernel
theorem tp_cw70 : lw_tbl[(tp_mpl.getD 70 (0, 0, 0, 0)).1]? = some (.code (tp_y 70) (tp_cc 70) (tp_n 70) (tp_ret 70)) := by decide +kernel
theorem tp_cw71 : lw_tbl[(tp_mpl.getD 71 (0, 0, 0, 0)).1]? = some (.code (tp_y 71) (tp_cc 71) (tp_n 71) (tp_ret 71)) := by decide +kernel
theorem tp_cw72 : lw_tbl[(tp_mpl.getD 72 (0, 0, 0, 0)).1]? = some (.code (tp_y 72) (tp_cc 72) (tp_n 72) (tp_ret 72)) := by decide +kernel
theorem tp_cw73 : lw_tbl[(tp_mpl.getD 73 (0, 0, 0, 0)).1]? = some (.code (tp_y 73) (tp_cc 73) (tp_n 73) (tp_ret 73)) := by decide +kernel
theorem tp_cw74 : lw_tbl[(tp_mpl.getD 74 (0, 0, 0, 0)).1]? = some (.code (tp_y 74) (tp_cc 74) (tp_n 74) (tp_ret 74)) := by decide +kernel
theorem tp_cw75 : lw_tbl[(tp_mpl.getD 75 (0, 0, 0, 0)).1]? = some (.code (tp_y 75) (tp_cc 75) (tp_n 75) (tp_ret 75)) := by decide +kernel
theorem tp_cw76 : lw_tbl[(tp_mpl.getD 76 (0, 0, 0, 0)).1]? = some (.code (tp_y 76) (tp_cc 76) (tp_n 76) (tp_ret 76)) := by decide +kernel
theorem tp_cw77 : lw_tbl[(tp_mpl.getD 77 (0, 0, 0, 0)).1]? = some (.code (tp_y 77) (tp_cc 77) (tp_n 77) (tp_ret 77)) := by decide +kernel
theorem tp_cw78 : lw_tbl[(tp_mpl.getD 78 (0, 0, 0, 0)).1]? = some (.code (tp_y 78) (tp_cc 78) (tp_n 78) (tp_ret 78)) := by decide +kernel
theorem tp_cw79 : lw_tbl[(tp_mpl.getD 79 (0, 0, 0, 0)).1]? = some (.code (tp_y 79) (tp_cc 79) (tp_n 79) (tp_ret 79)) := by decide +kernel
theorem tp_cw80 : lw_tbl[(tp_mpl.getD 80 (0, 0, 0, 0)).1]? = some (.code (tp_y 80) (tp_cc 80) (tp_n 80) (tp_ret 80)) := by decide +kernel
theorem tp_cw81 : lw_tbl[(tp_mpl.getD 81 (0, 0, 0, 0)).1]? = some (.code (tp_y 81) (tp_cc 81) (tp_n 81) (tp_ret 81)) := by decide +kernel
theorem tp_cw82 : lw_tbl[(tp_mpl.getD 82 (0, 0, 0, 0)).1]? = some (.code (tp_y 82) (tp_cc 82) (tp_n 82) (tp_ret 82)) := by decide +kernel
theorem tp_cw83 : lw_tbl[(tp_mpl.getD 83 (0, 0, 0, 0)).1]? = some (.code (tp_y 83) (tp_cc 83) (tp_n 83) (tp_ret 83)) := by decide +kernel
theorem tp_cw84 : lw_tbl[(tp_mpl.getD 84 (0, 0, 0, 0)).1]? = some (.code (tp_y 84) (tp_cc 84) (tp_n 84) (tp_ret 84)) := by decide +kernel
theorem tp_cw85 : lw_tbl[(tp_mpl.getD 85 (0, 0, 0, 0)).1]? = some (.code (tp_y 85) (tp_cc 85) (tp_n 85) (tp_ret 85)) := by decide +kernel
theorem tp_cw86 : lw_tbl[(tp_mpl.getD 86 (0, 0, 0, 0)).1]? = some (.code (tp_y 86) (tp_cc 86) (tp_n 86) (tp_ret 86)) := by decide +kernel
theorem tp_cw87 : lw_tbl[(tp_mpl.getD 87 (0, 0, 0, 0)).1]? = some (.code (tp_y 87) (tp_cc 87) (tp_n 87) (tp_ret 87)) := by decide +kernel
theorem tp_cw88 : lw_tbl[(tp_mpl.getD 88 (0, 0, 0, 0)).1]? = some (.code (tp_y 88) (tp_cc 88) (tp_n 88) (tp_ret 88)) := by decide +kernel
theorem tp_cw89 : lw_tbl[(tp_mpl.getD 89 (0, 0, 0, 0)).1]? = some (.code (tp_y 89) (tp_cc 89) (tp_n 89) (tp_ret 89)) := by decide +kernel
theorem tp_cw90 : lw_tbl[(tp_mpl.getD 90 (0, 0, 0, 0)).1]? = some (.code (tp_y 90) (tp_cc 90) (tp_n 90) (tp_ret 90)) := by decide +kernel
theorem tp_cw91 : lw_tbl[(tp_mpl.getD 91 (0, 0, 0, 0)).1]? = some (.code (tp_y 91) (tp_cc 91) (tp_n 91) (tp_ret 91)) := by decide +kernel
theorem tp_cw92 : lw_tbl[(tp_mpl.getD 92 (0, 0, 0, 0)).1]? = some (.code (tp_y 92) (tp_cc 92) (tp_n 92) (tp_ret 92)) := by decide +kernel
theorem tp_cw93 : lw_tbl[(tp_mpl.getD 93 (0, 0, 0, 0)).1]? = some (.code (tp_y 93) (tp_cc 93) (tp_n 93) (tp_ret 93)) := by decide +kernel
theorem tp_cw94 : lw_tbl[(tp_mpl.getD 94 (0, 0, 0, 0)).1]? = some (.code (tp_y 94) (tp_cc 94) (tp_n 94) (tp_ret 94)) := by decide +kernel
theorem tp_cw95 : lw_tbl[(tp_mpl.getD 95 (0, 0, 0, 0)).1]? = some (.code (tp_y 95) (tp_cc 95) (tp_n 95) (tp_ret 95)) := by decide +kernel
theorem tp_cw96 : lw_tbl[(tp_mpl.getD 96 (0, 0, 0, 0)).1]? = some (.code (tp_y 96) (tp_cc 96) (tp_n 96) (tp_ret 96)) := by decide +kernel
theorem tp_cw97 : lw_tbl[(tp_mpl.getD 97 (0, 0, 0, 0)).1]? = some (.code (tp_y 97) (tp_cc 97) (tp_n 97) (tp_ret 97)) := by decide +kernel
theorem tp_cw98 : lw_tbl[(tp_mpl.getD 98 (0, 0, 0, 0)).1]? = some (.code (tp_y 98) (tp_cc 98) (tp_n 98) (tp_ret 98)) := by decide +kernel
theorem tp_cw99 : lw_tbl[(tp_mpl.getD 99 (0, 0, 0, 0)).1]? = some (.code (tp_y 99) (tp_cc 99) (tp_n 99) (tp_ret 99)) := by decide +kernel
theorem tp_cw100 : lw_tbl[(tp_mpl.getD 100 (0, 0, 0, 0)).1]? = some (.code (tp_y 100) (tp_cc 100) (tp_n 100) (tp_ret 100)) := by decide +kernel
theorem tp_cw101 : lw_tbl[(tp_mpl.getD 101 (0, 0, 0, 0)).1]? = some (.code (tp_y 101) (tp_cc 101) (tp_n 101) (tp_ret 101)) := by decide +kernel
theorem tp_cw102 : lw_tbl[(tp_mpl.getD 102 (0, 0, 0, 0)).1]? = some (.code (tp_y 102) (tp_cc 102) (tp_n 102) (tp_ret 102)) := by decide +kernel
theorem tp_cw103 : lw_tbl[(tp_mpl.getD 103 (0, 0, 0, 0)).1]? = some (.code (tp_y 103) (tp_cc 103) (tp_n 103) (tp_ret 103)) := by decide +kernel
theorem tp_cw104 : lw_tbl[(tp_mpl.getD 104 (0, 0, 0, 0)).1]? = some (.code (tp_y 104) (tp_cc 104) (tp_n 104) (tp_ret 104)) := by decide +kernel
theorem tp_cw105 : lw_tbl[(tp_mpl.getD 105 (0, 0, 0, 0)).1]? = some (.code (tp_y 105) (tp_cc 105) (tp_n 105) (tp_ret 105)) := by decide +kernel
theorem tp_cw106 : lw_tbl[(tp_mpl.getD 106 (0, 0, 0, 0)).1]? = some (.code (tp_y 106) (tp_cc 106) (tp_n 106) (tp_ret 106)) := by decide +kernel
theorem tp_cw107 : lw_tbl[(tp_mpl.getD 107 (0, 0, 0, 0)).1]? = some (.code (tp_y 107) (tp_cc 107) (tp_n 107) (tp_ret 107)) := by decide +kernel
theorem tp_cw108 : lw_tbl[(tp_mpl.getD 108 (0, 0, 0, 0)).1]? = some (.code (tp_y 108) (tp_cc 108) (tp_n 108) (tp_ret 108)) := by decide +kernel
theorem tp_cw109 : lw_tbl[(tp_mpl.getD 109 (0, 0, 0, 0)).1]? = some (.code (tp_y 109) (tp_cc 109) (tp_n 109) (tp_ret 109)) := by decide +kernel
theorem tp_cw110 : lw_tbl[(tp_mpl.getD 110 (0, 0, 0, 0)).1]? = some (.code (tp_y 110) (tp_cc 110) (tp_n 110) (tp_ret 110)) := by decide +kernel
theorem tp_cw111 : lw_tbl[(tp_mpl.getD 111 (0, 0, 0, 0)).1]? = some (.code (tp_y 111) (tp_cc 111) (tp_n 111) (tp_ret 111)) := by decide +kernel
theorem tp_cw112 : lw_tbl[(tp_mpl.getD 112 (0, 0, 0, 0)).1]? = some (.code (tp_y 112) (tp_cc 112) (tp_n 112) (tp_ret 112)) := by decide +kernel
theorem tp_cw113 : lw_tbl[(tp_mpl.getD 113 (0, 0, 0, 0)).1]? = some (.code (tp_y 113) (tp_cc 113) (tp_n 113) (tp_ret 113)) := by decide +kernel
theorem tp_cw114 : lw_tbl[(tp_mpl.getD 114 (0, 0, 0, 0)).1]? = some (.code (tp_y 114) (tp_cc 114) (tp_n 114) (tp_ret 114)) := by decide +kernel
theorem tp_cw115 : lw_tbl[(tp_mpl.getD 115 (0, 0, 0, 0)).1]? = some (.code (tp_y 115) (tp_cc 115) (tp_n 115) (tp_ret 115)) := by decide +kernel
theorem tp_cw116 : lw_tbl[(tp_mpl.getD 116 (0, 0, 0, 0)).1]? = some (.code (tp_y 116) (tp_cc 116) (tp_n 116) (tp_ret 116)) := by decide +kernel
theorem tp_cw117 : lw_tbl[(tp_mpl.getD 117 (0, 0, 0, 0)).1]? = some (.code (tp_y 117) (tp_cc 117) (tp_n 117) (tp_ret 117)) := by decide +kernel
theorem tp_cw118 : lw_tbl[(tp_mpl.getD 118 (0, 0, 0, 0)).1]? = some (.code (tp_y 118) (tp_cc 118) (tp_n 118) (tp_ret 118)) := by decide +kernel
theorem tp_cw119 : lw_tbl[(tp_mpl.getD 119 (0, 0, 0, 0)).1]? = some (.code (tp_y 119) (tp_cc 119) (tp_n 119) (tp_ret 119)) := by decide +kernel
theorem tp_cw120 : lw_tbl[(tp_mpl.getD 120 (0, 0, 0, 0)).1]? = some (.code (tp_y 120) (tp_cc 120) (tp_n 120) (tp_ret 120)) := by decide +kernel
theorem tp_cw121 : lw_tbl[(tp_mpl.getD 121 (0, 0, 0, 0)).1]? = some (.code (tp_y 121) (tp_cc 121) (tp_n 121) (tp_ret 121)) := by decide +kernel
theorem tp_cw122 : lw_tbl[(tp_mpl.getD 122 (0, 0, 0, 0)).1]? = some (.code (tp_y 122) (tp_cc 122) (tp_n 122) (tp_ret 122)) := by decide +kernel
theorem tp_cw123 : lw_tbl[(tp_mpl.getD 123 (0, 0, 0, 0)).1]? = some (.code (tp_y 123) (tp_cc 123) (tp_n 123) (tp_ret 123)) := by decide +kernel
theorem tp_cw124 : lw_tbl[(tp_mpl.getD 124 (0, 0, 0, 0)).1]? = some (.code (tp_y 124) (tp_cc 124) (tp_n 124) (tp_ret 124)) := by decide +kernel
theorem tp_cw125 : lw_tbl[(tp_mpl.getD 125 (0, 0, 0, 0)).1]? = some (.code (tp_y 125) (tp_cc 125) (tp_n 125) (tp_ret 125)) := by decide +kernel
theorem tp_cw126 : lw_tbl[(tp_mpl.getD 126 (0, 0, 0, 0)).1]? = some (.code (tp_y 126) (tp_cc 126) (tp_n 126) (tp_ret 126)) := by decide +kernel
theorem tp_cw127 : lw_tbl[(tp_mpl.getD 127 (0, 0, 0, 0)).1]? = some (.code (tp_y 127) (tp_cc 127) (tp_n 127) (tp_ret 127)) := by decide +kernel
theorem tp_cw128 : lw_tbl[(tp_mpl.getD 128 (0, 0, 0, 0)).1]? = some (.code (tp_y 128) (tp_cc 128) (tp_n 128) (tp_ret 128)) := by decide +kernel
theorem tp_cw129 : lw_tbl[(tp_mpl.getD 129 (0, 0, 0, 0)).1]? = some (.code (tp_y 129) (tp_cc 129) (tp_n 129) (tp_ret 129)) := by decide +kernel
theorem tp_cw130 : lw_tbl[(tp_mpl.getD 130 (0, 0, 0, 0)).1]? = some (.code (tp_y 130) (tp_cc 130) (tp_n 130) (tp_ret 130)) := by decide +kernel
theorem tp_cw131 : lw_tbl[(tp_mpl.getD 131 (0, 0, 0, 0)).1]? = some (.code (tp_y 131) (tp_cc 131) (tp_n 131) (tp_ret 131)) := by decide +kernel
theorem tp_cw132 : lw_tbl[(tp_mpl.getD 132 (0, 0, 0, 0)).1]? = some (.code (tp_y 132) (tp_cc 132) (tp_n 132) (tp_ret 132)) := by decide +kernel
theorem tp_cw133 : lw_tbl[(tp_mpl.getD 133 (0, 0, 0, 0)).1]? = some (.code (tp_y 133) (tp_cc 133) (tp_n 133) (tp_ret 133)) := by decide +kernel
theorem tp_cw134 : lw_tbl[(tp_mpl.getD 134 (0, 0, 0, 0)).1]? = some (.code (tp_y 134) (tp_cc 134) (tp_n 134) (tp_ret 134)) := by decide +kernel
theorem tp_cw135 : lw_tbl[(tp_mpl.getD 135 (0, 0, 0, 0)).1]? = some (.code (tp_y 135) (tp_cc 135) (tp_n 135) (tp_ret 135)) := by decide +kernel
theorem tp_cw136 : lw_tbl[(tp_mpl.getD 136 (0, 0, 0, 0)).1]? = some (.code (tp_y 136) (tp_cc 136) (tp_n 136) (tp_ret 136)) := by decide +kernel
theorem tp_cw137 : lw_tbl[(tp_mpl.getD 137 (0, 0, 0, 0)).1]? = some (.code (tp_y 137) (tp_cc 137) (tp_n 137) (tp_ret 137)) := by decide +kernel
theorem tp_cw138 : lw_tbl[(tp_mpl.getD 138 (0, 0, 0, 0)).1]? = some (.code (tp_y 138) (tp_cc 138) (tp_n 138) (tp_ret 138)) := by decide +kernel
theorem tp_cw139 : lw_tbl[(tp_mpl.getD 139 (0, 0, 0, 0)).1]? = some (.code (tp_y 139) (tp_cc 139) (tp_n 139) (tp_ret 139)) := by decide +kernel
theorem tp_cw140 : lw_tbl[(tp_mpl.getD 140 (0, 0, 0, 0)).1]? = some (.code (tp_y 140) (tp_cc 140) (tp_n 140) (tp_ret 140)) := by decide +kernel
theorem tp_cw141 : lw_tbl[(tp_mpl.getD 141 (0, 0, 0, 0)).1]? = some (.code (tp_y 141) (tp_cc 141) (tp_n 141) (tp_ret 141)) := by decide +kernel
theorem tp_cw142 : lw_tbl[(tp_mpl.getD 142 (0, 0, 0, 0)).1]? = some (.code (tp_y 142) (tp_cc 142) (tp_n 142) (tp_ret 142)) := by decide +kernel
theorem tp_cw143 : lw_tbl[(tp_mpl.getD 143 (0, 0, 0, 0)).1]? = some (.code (tp_y 143) (tp_cc 143) (tp_n 143) (tp_ret 143)) := by decide +kernel
theorem tp_cw144 : lw_tbl[(tp_mpl.getD 144 (0, 0, 0, 0)).1]? = some (.code (tp_y 144) (tp_cc 144) (tp_n 144) (tp_ret 144)) := by decide +kernel
theorem tp_cw145 : lw_tbl[(tp_mpl.getD 145 (0, 0, 0, 0)).1]? = some (.code (tp_y 145) (tp_cc 145) (tp_n 145) (tp_ret 145)) := by decide +kernel
theorem tp_cw146 : lw_tbl[(tp_mpl.getD 146 (0, 0, 0, 0)).1]? = some (.code (tp_y 146) (tp_cc 146) (tp_n 146) (tp_ret 146)) := by decide +kernel
theorem tp_cw147 : lw_tbl[(tp_mpl.getD 147 (0, 0, 0, 0)).1]? = some (.code (tp_y 147) (tp_cc 147) (tp_n 147) (tp_ret 147)) := by decide +kernel
theorem tp_cw148 : lw_tbl[(tp_mpl.getD 148 (0, 0, 0, 0)).1]? = some (.code (tp_y 148) (tp_cc 148) (tp_n 148) (tp_ret 148)) := by decide +kernel
theorem tp_cw149 : lw_tbl[(tp_mpl.getD 149 (0, 0, 0, 0)).1]? = some (.code (tp_y 149) (tp_cc 149) (tp_n 149) (tp_ret 149)) := by decide +kernel
theorem tp_cw150 : lw_tbl[(tp_mpl.getD 150 (0, 0, 0, 0)).1]? = some (.code (tp_y 150) (tp_cc 150) (tp_n 150) (tp_ret 150)) := by decide +kernel
theorem tp_cw151 : lw_tbl[(tp_mpl.getD 151 (0, 0, 0, 0)).1]? = some (.code (tp_y 151) (tp_cc 151) (tp_n 151) (tp_ret 151)) := by decide +kernel
theorem tp_cw152 : lw_tbl[(tp_mpl.getD 152 (0, 0, 0, 0)).1]? = some (.code (tp_y 152) (tp_cc 152) (tp_n 152) (tp_ret 152)) := by decide +kernel
theorem tp_cw153 : lw_tbl[(tp_mpl.getD 153 (0, 0, 0, 0)).1]? = some (.code (tp_y 153) (tp_cc 153) (tp_n 153) (tp_ret 153)) := by decide +kernel
theorem tp_cw154 : lw_tbl[(tp_mpl.getD 154 (0, 0, 0, 0)).1]? = some (.code (tp_y 154) (tp_cc 154) (tp_n 154) (tp_ret 154)) := by decide +kernel
theorem tp_cw155 : lw_tbl[(tp_mpl.getD 155 (0, 0, 0, 0)).1]? = some (.code (tp_y 155) (tp_cc 155) (tp_n 155) (tp_ret 155)) := by decide +kernel
theorem tp_okMs : (List.range 156).all tp_okM = true := by decide +kernel
end
section
theorem tp_cl0 : ∀ w ∈ wsX00, w ∈ tp_gt := by decide +kernel
theorem tp_cl1 : ∀ w ∈ wsX10, w ∈ tp_gt := by decide +kernel
theorem tp_cl2 : ∀ w ∈ wsX20, w ∈ tp_gt := by decide +kernel
theorem tp_cl3 : ∀ w ∈ wsX30, w ∈ tp_gt := by decide +kernel
theorem tp_cl4 : ∀ w ∈ wsX40, w ∈ tp_gt := by decide +kernel
theorem tp_cl5 : ∀ w ∈ wsX50, w ∈ tp_gt := by decide +kernel
theorem tp_cl6 : ∀ w ∈ wsX60, w ∈ tp_gt := by decide +kernel
theorem tp_cl7 : ∀ w ∈ wsX70, w ∈ tp_gt := by decide +kernel
theorem tp_cl8 : ∀ w ∈ wsX80, w ∈ tp_gt := by decide +kernel
theorem tp_cl9 : ∀ w ∈ wsX90, w ∈ tp_gt := by decide +kernel
theorem tp_cl10 : ∀ w ∈ wsX100, w ∈ tp_gt := by decide +kernel
theorem tp_str28 : ∀ a, a < tp_law → tp_rk a = 28 → (tp_y a).cls = "java/lang/String" := by decide +kernel
end
section
/-! THE MINI MACHINE: what a stretch of bytecode does, as a proposition over symbolic locals, stack and store -/
def tp_chk (b : Bool) (P : Prop) : Prop := match b with
  | true => P
  | false => False
def tp_i1 (st : List Value) (f : Int32 → List Value → Prop) : Prop := match st with
  | .int x :: r => f x r
  | _ => False
def tp_i2 (st : List Value) (f : Int32 → Int32 → List Value → Prop) : Prop := match st with
  | .int y :: .int x :: r => f x y r
  | _ => False
def tp_l1 (st : List Value) (f : Int64 → List Value → Prop) : Prop := match st with
  | .long x :: r => f x r
  | _ => False
def tp_l2 (st : List Value) (f : Int64 → Int64 → List Value → Prop) : Prop := match st with
  | .long y :: .long x :: r => f x y r
  | _ => False
def tp_il (st : List Value) (f : Int64 → Int32 → List Value → Prop) : Prop := match st with
  | .int y :: .long x :: r => f x y r
  | _ => False
def tp_r1 (st : List Value) (f : Nat → List Value → Prop) : Prop := match st with
  | .ref o :: r => f o r
  | _ => False
def tp_ri (st : List Value) (f : Nat → Int32 → List Value → Prop) : Prop := match st with
  | .int j :: .ref o :: r => f o j r
  | _ => False
def tp_rii (st : List Value) (f : Nat → Int32 → Int32 → List Value → Prop) : Prop := match st with
  | .int v :: .int j :: .ref o :: r => f o j v r
  | _ => False
def tp_r2 (st : List Value) (f : Nat → Nat → List Value → Prop) : Prop := match st with
  | .ref v :: .ref o :: r => f o v r
  | _ => False
def tp_a1 (st : List Value) (f : Value → List Value → Prop) : Prop := match st with
  | v :: r => tp_chk (v.category == 1) (f v r)
  | _ => False
def tp_a2 (st : List Value) (f : Value → Value → List Value → Prop) : Prop := match st with
  | v :: u :: r => tp_chk (v.category == 1 && u.category == 1) (f v u r)
  | _ => False
def tp_a3 (st : List Value) (f : Value → Value → Value → List Value → Prop) : Prop := match st with
  | v :: u :: w :: r => tp_chk (v.category == 1 && u.category == 1 && w.category == 1) (f v u w r)
  | _ => False
def tp_gi (L : List Value) (k : Nat) (f : Int32 → Prop) : Prop := match L[k]? with
  | some (.int x) => f x
  | _ => False
def tp_gl (L : List Value) (k : Nat) (f : Int64 → Prop) : Prop := match L[k]? with
  | some (.long x) => f x
  | _ => False
def tp_gr (L : List Value) (k : Nat) (f : Nat → Prop) : Prop := match L[k]? with
  | some (.ref x) => f x
  | _ => False
def tp_ok1 (L : List Value) (k : Nat) : Bool := decide (k < L.length) && (k == 0 || !((L.getD (k - 1) .null).category == 2))
/-- the store, but v at place k of object o -/
def tp_up (f : Nat → Nat → Int32) (o k : Nat) (v : Int32) : Nat → Nat → Int32 := fun o' k' => if o' = o then (if k' = k then v else f o' k') else f o' k'
def tp_set (σ : tp_St) (o k : Nat) (v : Int32) : tp_St := (tp_up σ.1 o k v, σ.2)
def tp_len (σ : tp_St) (o : Nat) : Nat := if tp_kd o = 26 then (σ.1 89 0).toNatClampNeg else tp_ln o
def tp_bv (σ : tp_St) (o j : Nat) : Int32 := if tp_kd o = 29 then tp_rob o j else σ.1 o j
def tp_bt (k : Nat) : FieldType := if k = 21 then .byte else .boolean
def tp_ent1 : List Value → List Value
  | [] => []
  | v :: r => if v.category = 2 then v :: .null :: tp_ent1 r else v :: tp_ent1 r
/-- a method's locals at its begin -/
def tp_ent (i : Nat) (av : List Value) : List Value := tp_ent1 av ++ List.replicate (tp_n i - (tp_ent1 av).length) .null
def tp_push (i : Nat) (r : Int32) (st : List Value) : List Value := match tp_ret i with
  | none => st
  | some _ => .int r :: st
def tp_rcv (v : Option Value) (k : Nat) : Bool := match v with
  | some (.ref o) => tp_kd o == k
  | _ => false
def tp_tl (K : Nat → Prop) (pc : Nat) (x : Int32) : Int → List Int → Prop
  | _, [] => True
  | lo, o :: os => (x.toInt = lo → K ((pc : Int) + o).toNat) ∧ tp_tl K pc x (lo + 1) os
def tp_lk (K : Nat → Prop) (pc : Nat) (x : Int32) (d : Int) : List (Int × Int) → Prop
  | [] => K ((pc : Int) + d).toNat
  | q :: qs => (x.toInt = q.1 → K ((pc : Int) + q.2).toNat) ∧ (¬ x.toInt = q.1 → tp_lk K pc x d qs)
abbrev tp_KT : Type := Nat → List Value → List Value → tp_St → Prop
abbrev tp_CT : Type := Nat → List Value → tp_St → (Int32 → tp_St → Prop) → Prop
/-- which of the two law rows a field holds -/
def tp_dyn (k b : Nat) : Nat := if k = 0 then (if b = 1 then 1 else if b = 3 then 2 else 0) else 0
def tp_two (t : Nat) (f : Nat → Prop) : Prop := (t = 24 ∨ t = 25) ∧ (t = 24 → f 24) ∧ (t = 25 → f 25)
def tp_four (j : Int32) (f : Nat → Prop) : Prop := (j = 0 → f 20) ∧ (j = 1 → f 21) ∧ (j = 2 → f 22) ∧ (j = 3 → f 23)
/-- fewer locals known -/
def tp_wk : List Value → List Value → Prop
  | [], [] => True
  | v :: r, w :: s => (v = .null ∨ v = w) ∧ tp_wk r s
  | _, _ => False
theorem tp_wk_rf : ∀ L : List Value, tp_wk L L
  | [] => trivial
  | _ :: r => ⟨Or.inr rfl, tp_wk_rf r⟩
def tp_pf (b : Nat) (f g : Prop) : Prop := match b with
  | 1 => f
  | 3 => g
  | _ => False
def tp_is (a : Nat) (f g h : Prop) : Prop := match a with
  | 900 => f
  | 901 => g
  | _ => h
theorem tp_pf_e {b : Nat} {f g : Prop} (h : tp_pf b f g) : (b = 1 ∧ f) ∨ (b = 3 ∧ g) := by
  unfold tp_pf at h
  split at h
  · exact Or.inl ⟨rfl, h⟩
  · exact Or.inr ⟨rfl, h⟩
  · exact h.elim
theorem tp_is_e {a : Nat} {f g h : Prop} (q : tp_is a f g h) (h1 : a ≠ 900) (h2 : a ≠ 901) : h := by
  unfold tp_is at q
  split at q
  · exact absurd rfl h1
  · exact absurd rfl h2
  · exact q
def tp_br (P : Prop) (K nx : Prop) : Prop := (P → K) ∧ (¬ P → nx)
/-- one instruction -/
def tp_I (mid : Nat) (K : tp_KT) (C : tp_CT) (post : Int32 → tp_St → Prop) (nx : List Value → List Value → tp_St → Prop) (x : tp_Ins) (pc : Nat) (L st : List Value) (σ : tp_St) : Prop :=
  match x.1 with
  | .iload_n k => tp_gi L k.val (fun v => nx L (.int v :: st) σ)
  | .iload k => tp_gi L k (fun v => nx L (.int v :: st) σ)
  | .lload_n k => tp_gl L k.val (fun v => nx L (.long v :: st) σ)
  | .lload k => tp_gl L k (fun v => nx L (.long v :: st) σ)
  | .aload_n k => tp_gr L k.val (fun v => nx L (.ref v :: st) σ)
  | .aload k => tp_gr L k (fun v => nx L (.ref v :: st) σ)
  | .iconst _ => nx L (.int x.2.2.1 :: st) σ
  | .bipush _ => nx L (.int x.2.2.1 :: st) σ
  | .sipush _ => nx L (.int x.2.2.1 :: st) σ
  | .ldc _ => match x.2.2.2.1 with
    | 0 => nx L (.int x.2.2.1 :: st) σ
    | o => nx L (.ref o :: st) σ
  | .lconst d => nx L (.long (Int64.ofNat d.val) :: st) σ
  | .ldc2_w _ => nx L (.long (Int64.ofNat x.2.2.2.1) :: st) σ
  | .istore_n k => tp_i1 st (fun v r => tp_chk (tp_ok1 L k.val) (nx (L.set k.val (.int v)) r σ))
  | .istore k => tp_i1 st (fun v r => tp_chk (tp_ok1 L k) (nx (L.set k (.int v)) r σ))
  | .astore_n k => tp_r1 st (fun v r => tp_chk (tp_ok1 L k.val) (nx (L.set k.val (.ref v)) r σ))
  | .astore k => tp_r1 st (fun v r => tp_chk (tp_ok1 L k) (nx (L.set k (.ref v)) r σ))
  | .lstore k => tp_l1 st (fun v r => tp_chk (tp_ok1 L k && decide (k + 1 < L.length)) (nx ((L.set k (.long v)).set (k + 1) .null) r σ))
  | .iinc k _ => tp_gi L k (fun v => tp_chk (tp_ok1 L k) (nx (L.set k (.int (v + x.2.2.1))) st σ))
  | .iadd => tp_i2 st (fun u v r => nx L (.int (u + v) :: r) σ)
  | .isub => tp_i2 st (fun u v r => nx L (.int (u - v) :: r) σ)
  | .imul => tp_i2 st (fun u v r => nx L (.int (u * v) :: r) σ)
  | .idiv => tp_i2 st (fun u v r => (¬ v = 0) ∧ nx L (.int (u / v) :: r) σ)
  | .iand => tp_i2 st (fun u v r => nx L (.int (u &&& v) :: r) σ)
  | .ior => tp_i2 st (fun u v r => nx L (.int (u ||| v) :: r) σ)
  | .ishl => tp_i2 st (fun u v r => nx L (.int (u <<< (v &&& 31)) :: r) σ)
  | .ishr => tp_i2 st (fun u v r => nx L (.int (u >>> (v &&& 31)) :: r) σ)
  | .i2l => tp_i1 st (fun v r => nx L (.long v.toInt64 :: r) σ)
  | .i2b => tp_i1 st (fun v r => nx L (.int v.toInt8.toInt32 :: r) σ)
  | .i2s => tp_i1 st (fun v r => nx L (.int v.toInt16.toInt32 :: r) σ)
  | .i2c => tp_i1 st (fun v r => nx L (.int (v.toUInt32 % 65536).toInt32 :: r) σ)
  | .l2i => tp_l1 st (fun v r => nx L (.int v.toInt32 :: r) σ)
  | .ladd => tp_l2 st (fun u v r => nx L (.long (u + v) :: r) σ)
  | .land => tp_l2 st (fun u v r => nx L (.long (u &&& v) :: r) σ)
  | .lor => tp_l2 st (fun u v r => nx L (.long (u ||| v) :: r) σ)
  | .lcmp => tp_l2 st (fun u v r => nx L (.int (lg_cmp u v) :: r) σ)
  | .lshl => tp_il st (fun u v r => nx L (.long (u <<< (v.toInt64 &&& 63)) :: r) σ)
  | .lshr => tp_il st (fun u v r => nx L (.long (u >>> (v.toInt64 &&& 63)) :: r) σ)
  | .lushr => tp_il st (fun u v r => nx L (.long (u.toUInt64 >>> (v.toInt64.toUInt64 &&& Int64.toUInt64 63)).toInt64 :: r) σ)
  | .dup => tp_a1 st (fun v r => nx L (v :: v :: r) σ)
  | .pop => tp_a1 st (fun _ r => nx L r σ)
  | .dup_x1 => tp_a2 st (fun v u r => nx L (v :: u :: v :: r) σ)
  | .dup_x2 => tp_a3 st (fun v u w r => nx L (v :: u :: w :: v :: r) σ)
  | .dup2 => tp_a2 st (fun v u r => nx L (v :: u :: v :: u :: r) σ)
  | .ifCond cd _ => match cd with
    | .eq => tp_i1 st (fun v r => tp_br (v = 0) (K x.2.2.2.1 L r σ) (nx L r σ))
    | .ne => tp_i1 st (fun v r => tp_br (v = 0) (nx L r σ) (K x.2.2.2.1 L r σ))
    | .lt => tp_i1 st (fun v r => tp_br (v < 0) (K x.2.2.2.1 L r σ) (nx L r σ))
    | .ge => tp_i1 st (fun v r => tp_br (0 ≤ v) (K x.2.2.2.1 L r σ) (nx L r σ))
    | .gt => tp_i1 st (fun v r => tp_br (0 < v) (K x.2.2.2.1 L r σ) (nx L r σ))
    | .le => tp_i1 st (fun v r => tp_br (v ≤ 0) (K x.2.2.2.1 L r σ) (nx L r σ))
  | .if_icmp cd _ => match cd with
    | .eq => tp_i2 st (fun u v r => tp_br (u = v) (K x.2.2.2.1 L r σ) (nx L r σ))
    | .ne => tp_i2 st (fun u v r => tp_br (u = v) (nx L r σ) (K x.2.2.2.1 L r σ))
    | .lt => tp_i2 st (fun u v r => tp_br (u < v) (K x.2.2.2.1 L r σ) (nx L r σ))
    | .ge => tp_i2 st (fun u v r => tp_br (v ≤ u) (K x.2.2.2.1 L r σ) (nx L r σ))
    | .gt => tp_i2 st (fun u v r => tp_br (v < u) (K x.2.2.2.1 L r σ) (nx L r σ))
    | .le => tp_i2 st (fun u v r => tp_br (u ≤ v) (K x.2.2.2.1 L r σ) (nx L r σ))
  | .goto _ => K x.2.2.2.1 L st σ
  | .tableswitch d lo hi os => tp_i1 st (fun v r => ((v.toInt < lo ∨ hi < v.toInt) → K ((pc : Int) + d).toNat L r σ) ∧ tp_tl (fun t => K t L r σ) pc v lo os.toList)
  | .lookupswitch d ps => tp_i1 st (fun v r => tp_lk (fun t => K t L r σ) pc v d ps.toList)
  | .getfield _ => tp_r1 st (fun o r => tp_chk (tp_kd o == x.2.2.2.1) (match x.2.2.2.1 with
      | 28 => nx L ((match x.2.2.2.2.1 with
          | 0 => .ref (tp_rr σ o 0)
          | _ => .int 0) :: r) σ
      | k => match tp_isR k x.2.2.2.2.1 with
          | false => nx L (.int (σ.1 o x.2.2.2.2.1) :: r) σ
          | true => match tp_dyn k x.2.2.2.2.1 with
            | 0 => nx L (.ref (tp_rr σ o x.2.2.2.2.1) :: r) σ
            | 1 => tp_two σ.2.1 (fun t => nx L (.ref t :: r) σ)
            | _ => tp_two σ.2.2 (fun t => nx L (.ref t :: r) σ)))
  | .putfield _ => match tp_isR x.2.2.2.1 x.2.2.2.2.1 with
    | false => tp_ri st (fun o v r => tp_chk (tp_kd o == x.2.2.2.1) (nx L r (tp_set σ o x.2.2.2.2.1 v)))
    | true => tp_r2 st (fun o v r => tp_chk (o == 6 && (tp_kd v == 1 && x.2.2.2.1 == 0)) (tp_pf x.2.2.2.2.1 (nx L r (σ.1, (v, σ.2.2))) (nx L r (σ.1, (σ.2.1, v)))))
  | .getstatic _ => match x.2.2.2.2.1 with
    | 0 => nx L (.ref x.2.2.2.1 :: st) σ
    | 1 => nx L (.int x.2.2.1 :: st) σ
    | _ => nx L (.null :: st) σ ∧ nx L (.ref 100 :: st) σ
  | .iaload => tp_ri st (fun o j r => tp_chk (tp_kd o == 20 || (tp_kd o == 27 || (tp_kd o == 26 && mid == tp_law))) (vp_in j (tp_len σ o) ∧ nx L (.int (σ.1 o j.toNatClampNeg) :: r) σ))
  | .baload => tp_ri st (fun o j r => tp_chk (tp_kd o == 21 || (tp_kd o == 22 || tp_kd o == 29)) (vp_in j (tp_ln o) ∧ nx L (.int (tp_bv σ o j.toNatClampNeg) :: r) σ))
  | .aaload => tp_ri st (fun o j r => match tp_kd o with
    | 23 => vp_in j 4 ∧ tp_four j (fun t => nx L (.ref t :: r) σ)
    | _ => tp_chk (tp_kd o == 24) (vp_in j (tp_ln o) ∧ nx L (.ref (tp_rr σ o j.toNatClampNeg) :: r) σ))
  | .iastore => tp_rii st (fun o j v r => tp_chk (tp_kd o == 20) (vp_in j (tp_ln o) ∧ nx L r (tp_set σ o j.toNatClampNeg v)))
  | .bastore => tp_rii st (fun o j v r => tp_chk (tp_kd o == 21 || tp_kd o == 22) (vp_in j (tp_ln o) ∧ nx L r (tp_set σ o j.toNatClampNeg (vp_nar (tp_bt (tp_kd o)) v))))
  | .arraylength => tp_r1 st (fun o r => tp_chk (tp_kd o == 29 || (tp_kd o == 26 && mid == tp_law)) (nx L (.int (Int32.ofNat (tp_len σ o)) :: r) σ))
  | .invokevirtual _ => tp_chk (decide (tp_na x.2.2.2.1 = x.2.2.2.2.1 ∧ x.2.2.2.2.1 ≤ st.length ∧ ((st.drop x.2.2.2.2.1).map fun v => v.category).sum ≤ 8 ∧ (tp_ent1 (st.take x.2.2.2.2.1).reverse).length ≤ tp_n x.2.2.2.1) && tp_rcv (st[x.2.2.2.2.1 - 1]?) (tp_rk x.2.2.2.1)) (C x.2.2.2.1 (st.take x.2.2.2.2.1).reverse σ (fun r σ' => nx L (tp_push x.2.2.2.1 r (st.drop x.2.2.2.2.1)) σ'))
  | .invokestatic _ => tp_is x.2.2.2.1 (tp_i2 st (fun u v r => tp_chk (decide ((r.map fun v => v.category).sum ≤ 8)) (nx L (.int (if u < v then v else u) :: r) σ))) (tp_i2 st (fun u v r => tp_chk (decide ((r.map fun v => v.category).sum ≤ 8)) (nx L (.int (if v < u then v else u) :: r) σ)))
    (tp_chk (decide (tp_na x.2.2.2.1 = x.2.2.2.2.1 ∧ x.2.2.2.2.1 ≤ st.length ∧ ((st.drop x.2.2.2.2.1).map fun v => v.category).sum ≤ 8 ∧ (tp_ent1 (st.take x.2.2.2.2.1).reverse).length ≤ tp_n x.2.2.2.1)) (C x.2.2.2.1 (st.take x.2.2.2.2.1).reverse σ (fun r σ' => nx L (tp_push x.2.2.2.1 r (st.drop x.2.2.2.2.1)) σ')))
  | .ireturn => match tp_ret mid with
    | none => False
    | some t => tp_i1 st (fun v r => tp_chk r.isEmpty (narrow t (.int v) = .int v ∧ post v σ))
  | .return_ => match tp_ret mid with
    | none => tp_chk st.isEmpty (post 0 σ)
    | some _ => False
  | _ => False
/-- a stretch -/
def tp_B (mid : Nat) (K : tp_KT) (C : tp_CT) (post : Int32 → tp_St → Prop) : List tp_Ins → Nat → List Value → List Value → tp_St → Prop
  | [], pc, L, st, σ => K pc L st σ
  | x :: is, pc, L, st, σ => tp_I mid K C post (fun L st σ => tp_B mid K C post is (pc + x.2.1) L st σ) x pc L st σ
abbrev tp_XT : Type := Nat → Nat → List Value → List Value → tp_St → (Int32 → tp_St → Prop) → Prop
def tp_Mono (X : tp_XT) : Prop := ∀ i pc L st σ p p', (∀ r σ, p r σ → p' r σ) → X i pc L st σ p → X i pc L st σ p'
def tp_Cl (X : tp_XT) : Prop := ∀ i pc L st σ post, tp_B i (fun t L st σ => ∃ L', tp_wk L' L ∧ X i t L' st σ post) (fun a av σ p => X a 0 (tp_ent a av) [] σ p) post (tp_blk i pc) pc L st σ → X i pc L st σ post
/-- from here the method ends, with 'post' -/
def tp_E : tp_XT := fun i pc L st σ post => ∀ X : tp_XT, tp_Mono X → tp_Cl X → X i pc L st σ post
section TPM
variable {st L : List Value} {k : Nat}
theorem tp_chk_m {b : Bool} {P P' : Prop} (h : P → P') : tp_chk b P → tp_chk b P' := by cases b <;> first | exact id | exact h
theorem tp_i1_m {f g : Int32 → List Value → Prop} (h : ∀ x r, f x r → g x r) : tp_i1 st f → tp_i1 st g := by unfold tp_i1; split <;> first | exact h _ _ | exact id
theorem tp_i2_m {f g : Int32 → Int32 → List Value → Prop} (h : ∀ x y r, f x y r → g x y r) : tp_i2 st f → tp_i2 st g := by unfold tp_i2; split <;> first | exact h _ _ _ | exact id
theorem tp_l1_m {f g : Int64 → List Value → Prop} (h : ∀ x r, f x r → g x r) : tp_l1 st f → tp_l1 st g := by unfold tp_l1; split <;> first | exact h _ _ | exact id
theorem tp_l2_m {f g : Int64 → Int64 → List Value → Prop} (h : ∀ x y r, f x y r → g x y r) : tp_l2 st f → tp_l2 st g := by unfold tp_l2; split <;> first | exact h _ _ _ | exact id
theorem tp_il_m {f g : Int64 → Int32 → List Value → Prop} (h : ∀ x y r, f x y r → g x y r) : tp_il st f → tp_il st g := by unfold tp_il; split <;> first | exact h _ _ _ | exact id
theorem tp_r1_m {f g : Nat → List Value → Prop} (h : ∀ x r, f x r → g x r) : tp_r1 st f → tp_r1 st g := by unfold tp_r1; split <;> first | exact h _ _ | exact id
theorem tp_ri_m {f g : Nat → Int32 → List Value → Prop} (h : ∀ x y r, f x y r → g x y r) : tp_ri st f → tp_ri st g := by unfold tp_ri; split <;> first | exact h _ _ _ | exact id
theorem tp_rii_m {f g : Nat → Int32 → Int32 → List Value → Prop} (h : ∀ x y z r, f x y z r → g x y z r) : tp_rii st f → tp_rii st g := by unfold tp_rii; split <;> first | exact h _ _ _ _ | exact id
theorem tp_r2_m {f g : Nat → Nat → List Value → Prop} (h : ∀ x y r, f x y r → g x y r) : tp_r2 st f → tp_r2 st g := by unfold tp_r2; split <;> first | exact h _ _ _ | exact id
theorem tp_a1_m {f g : Value → List Value → Prop} (h : ∀ x r, f x r → g x r) : tp_a1 st f → tp_a1 st g := by unfold tp_a1; split <;> first | exact tp_chk_m (h _ _) | exact id
theorem tp_a2_m {f g : Value → Value → List Value → Prop} (h : ∀ x y r, f x y r → g x y r) : tp_a2 st f → tp_a2 st g := by unfold tp_a2; split <;> first | exact tp_chk_m (h _ _ _) | exact id
theorem tp_a3_m {f g : Value → Value → Value → List Value → Prop} (h : ∀ x y z r, f x y z r → g x y z r) : tp_a3 st f → tp_a3 st g := by unfold tp_a3; split <;> first | exact tp_chk_m (h _ _ _ _) | exact id
theorem tp_gi_m {f g : Int32 → Prop} (h : ∀ x, f x → g x) : tp_gi L k f → tp_gi L k g := by unfold tp_gi; split <;> first | exact h _ | exact id
theorem tp_gl_m {f g : Int64 → Prop} (h : ∀ x, f x → g x) : tp_gl L k f → tp_gl L k g := by unfold tp_gl; split <;> first | exact h _ | exact id
theorem tp_gr_m {f g : Nat → Prop} (h : ∀ x, f x → g x) : tp_gr L k f → tp_gr L k g := by unfold tp_gr; split <;> first | exact h _ | exact id
theorem tp_br_m {P A B A' B' : Prop} (h : A → A') (h2 : B → B') : tp_br P A B → tp_br P A' B' := fun q => ⟨fun z => h (q.1 z), fun z => h2 (q.2 z)⟩
theorem tp_pf_m {b : Nat} {f g f' g' : Prop} (h : f → f') (h2 : g → g') : tp_pf b f g → tp_pf b f' g' := by unfold tp_pf; split <;> first | exact h | exact h2 | exact id
theorem tp_is_m {b : Nat} {f g h f' g' h' : Prop} (h1 : f → f') (h2 : g → g') (h3 : h → h') : tp_is b f g h → tp_is b f' g' h' := by unfold tp_is; split <;> first | exact h1 | exact h2 | exact h3
theorem tp_two_m {t : Nat} {f g : Nat → Prop} (h : ∀ x, f x → g x) : tp_two t f → tp_two t g := fun q => ⟨q.1, fun z => h _ (q.2.1 z), fun z => h _ (q.2.2 z)⟩
theorem tp_four_m {t : Int32} {f g : Nat → Prop} (h : ∀ x, f x → g x) : tp_four t f → tp_four t g := fun q => ⟨fun z => h _ (q.1 z), fun z => h _ (q.2.1 z), fun z => h _ (q.2.2.1 z), fun z => h _ (q.2.2.2 z)⟩
theorem tp_tl_m {K K' : Nat → Prop} (h : ∀ t, K t → K' t) {pc : Nat} {x : Int32} : ∀ (os : List Int) (lo : Int), tp_tl K pc x lo os → tp_tl K' pc x lo os
  | [], _ => id
  | _ :: os, _ => fun q => ⟨fun z => h _ (q.1 z), tp_tl_m h os _ q.2⟩
theorem tp_lk_m {K K' : Nat → Prop} (h : ∀ t, K t → K' t) {pc : Nat} {x : Int32} {d : Int} : ∀ (os : List (Int × Int)), tp_lk K pc x d os → tp_lk K' pc x d os
  | [] => h _
  | _ :: os => fun q => ⟨fun z => h _ (q.1 z), fun z => tp_lk_m h os (q.2 z)⟩
end TPM
set_option maxHeartbeats 4000000 in
theorem tp_I_m {mid : Nat} {K K' : tp_KT} {C C' : tp_CT} {post post' : Int32 → tp_St → Prop} {nx nx' : List Value → List Value → tp_St → Prop} (hK : ∀ t L st σ, K t L st σ → K' t L st σ) (hC : ∀ a av σ p p', (∀ r σ, p r σ → p' r σ) → C a av σ p → C' a av σ p')
    (hp : ∀ r σ, post r σ → post' r σ) (hn : ∀ L st σ, nx L st σ → nx' L st σ) (x : tp_Ins) (pc : Nat) (L st : List Value) (σ : tp_St) : tp_I mid K C post nx x pc L st σ → tp_I mid K' C' post' nx' x pc L st σ := by
  obtain ⟨i, n, v, a, b, w⟩ := x
  cases i <;> first
    | exact False.elim
    | exact hn _ _ _
    | exact hK _ _ _ _
    | exact tp_gi_m fun _ => hn _ _ _
    | exact tp_gl_m fun _ => hn _ _ _
    | exact tp_gr_m fun _ => hn _ _ _
    | exact tp_gi_m fun _ => tp_chk_m (hn _ _ _)
    | exact tp_i1_m fun _ _ => hn _ _ _
    | exact tp_i1_m fun _ _ => tp_chk_m (hn _ _ _)
    | exact tp_l1_m fun _ _ => hn _ _ _
    | exact tp_l1_m fun _ _ => tp_chk_m (hn _ _ _)
    | exact tp_i2_m fun _ _ _ => hn _ _ _
    | exact tp_i2_m fun _ _ _ => And.imp_right (hn _ _ _)
    | exact tp_l2_m fun _ _ _ => hn _ _ _
    | exact tp_il_m fun _ _ _ => hn _ _ _
    | exact tp_a1_m fun _ _ => hn _ _ _
    | exact tp_a2_m fun _ _ _ => hn _ _ _
    | exact tp_a3_m fun _ _ _ _ => hn _ _ _
    | exact tp_r1_m fun _ _ => tp_chk_m (hn _ _ _)
    | exact tp_ri_m fun _ _ _ => tp_chk_m (And.imp_right (hn _ _ _))
    | exact tp_rii_m fun _ _ _ _ => tp_chk_m (And.imp_right (hn _ _ _))
    | exact tp_i1_m fun _ _ => And.imp (fun q z => hK _ _ _ _ (q z)) (tp_tl_m (fun _ => hK _ _ _ _) _ _)
    | exact tp_i1_m fun _ _ => tp_lk_m (fun _ => hK _ _ _ _) _
    | exact tp_chk_m (hC _ _ _ _ _ (fun _ _ => hn _ _ _))
    | exact tp_is_m (tp_i2_m fun _ _ _ => tp_chk_m (hn _ _ _)) (tp_i2_m fun _ _ _ => tp_chk_m (hn _ _ _)) (tp_chk_m (hC _ _ _ _ _ (fun _ _ => hn _ _ _)))
    | (rename_i cd _; cases cd <;> first
        | exact tp_i1_m fun _ _ => tp_br_m (hK _ _ _ _) (hn _ _ _)
        | exact tp_i1_m fun _ _ => tp_br_m (hn _ _ _) (hK _ _ _ _)
        | exact tp_i2_m fun _ _ _ => tp_br_m (hn _ _ _) (hK _ _ _ _)
        | exact tp_i2_m fun _ _ _ => tp_br_m (hK _ _ _ _) (hn _ _ _))
    | (simp only [tp_I]; split <;> first
        | exact hn _ _ _
        | exact False.elim
        | exact tp_ri_m fun _ _ _ => tp_chk_m (hn _ _ _)
        | exact And.imp (hn _ _ _) (hn _ _ _)
        | exact tp_chk_m (hp _ _)
        | exact tp_chk_m (hC _ _ _ _ _ (fun _ _ => hn _ _ _))
        | exact tp_i2_m fun _ _ _ => tp_chk_m (hn _ _ _)
        | exact tp_i1_m fun _ _ => tp_chk_m (And.imp_right (hp _ _))
        | exact tp_r2_m fun _ _ _ => tp_chk_m (tp_pf_m (hn _ _ _) (hn _ _ _)))
    | (simp only [tp_I]; refine tp_ri_m fun _ _ _ => ?_; split <;> first
        | exact And.imp_right (tp_four_m fun _ => hn _ _ _)
        | exact tp_chk_m (And.imp_right (hn _ _ _)))
    | (simp only [tp_I]; refine tp_r1_m fun _ _ => tp_chk_m ?_; split <;> first
        | exact hn _ _ _
        | (split <;> first
          | exact hn _ _ _
          | (split <;> first
            | exact hn _ _ _
            | exact tp_two_m fun _ => hn _ _ _)))
theorem tp_B_m {mid : Nat} {K K' : tp_KT} {C C' : tp_CT} {post post' : Int32 → tp_St → Prop} (hK : ∀ t L st σ, K t L st σ → K' t L st σ) (hC : ∀ a av σ p p', (∀ r σ, p r σ → p' r σ) → C a av σ p → C' a av σ p')
    (hp : ∀ r σ, post r σ → post' r σ) : ∀ (is : List tp_Ins) (pc : Nat) (L st : List Value) (σ : tp_St), tp_B mid K C post is pc L st σ → tp_B mid K' C' post' is pc L st σ
  | [], _, _, _, _ => hK _ _ _ _
  | x :: is, pc, L, st, σ => tp_I_m hK hC hp (fun _ _ _ => tp_B_m hK hC hp is _ _ _ _) x pc L st σ
theorem tp_E_mono : tp_Mono tp_E := fun i pc L st σ p p' hp h X hm hc => hm i pc L st σ p p' hp (h X hm hc)
theorem tp_E_step {i pc : Nat} {L st : List Value} {σ : tp_St} {post : Int32 → tp_St → Prop} (h : tp_B i (fun t L st σ => ∃ L', tp_wk L' L ∧ tp_E i t L' st σ post) (fun a av σ p => tp_E a 0 (tp_ent a av) [] σ p) post (tp_blk i pc) pc L st σ) : tp_E i pc L st σ post := fun X hm hc =>
  hc i pc L st σ post (tp_B_m (fun t L st σ ⟨L', q1, q⟩ => ⟨L', q1, q X hm hc⟩) (fun a av σ p p' hp q => hm _ _ _ _ _ _ _ hp (q X hm hc)) (fun _ _ q => q) _ _ _ _ _ h)
end
section
/-! THE WORLD of the mini machine in the heap; the check of the printed instructions -/
def tp_v (ad : Nat → Nat) : Value → Value
  | .ref o => .ref (ad o)
  | v => v
theorem tp_v_cat {ad : Nat → Nat} {v : Value} : (tp_v ad v).category = v.category := by cases v <;> rfl
theorem tp_v_cats {ad : Nat → Nat} {st : List Value} : ((st.map (tp_v ad)).map fun v => v.category).sum = (st.map fun v => v.category).sum := by
  rw [List.map_map]
  congr 1
  exact List.map_congr_left fun v _ => tp_v_cat
def tp_nn : Value → Bool
  | .null => false
  | _ => true
def tp_al (ad : Nat → Nat) (L : List Value) : List (Nat × Value) := (List.range L.length).filterMap (fun i => (L[i]?).bind (fun v => if tp_nn v = true then some (i, tp_v ad v) else none))
theorem tp_al_mem {ad : Nat → Nat} {L : List Value} {q : Nat × Value} : q ∈ tp_al ad L ↔ ∃ v, L[q.1]? = some v ∧ tp_nn v = true ∧ q.2 = tp_v ad v := by
  unfold tp_al
  rw [List.mem_filterMap]
  constructor
  · rintro ⟨i, -, h⟩
    cases hi : L[i]? with
    | none => rw [hi] at h; cases h
    | some v =>
      rw [hi, Option.bind_some] at h
      by_cases hv : tp_nn v = true
      · rw [if_pos hv] at h
        cases h
        exact ⟨v, hi, hv, rfl⟩
      · rw [if_neg hv] at h
        cases h
  · rintro ⟨v, h1, h2, h3⟩
    refine ⟨q.1, List.mem_range.mpr (List.getElem?_eq_some_iff.mp h1).1, ?_⟩
    rw [h1, Option.bind_some, if_pos h2, ← h3]
def tp_lv (ad : Nat → Nat) (ls : Array Slot) (n : Nat) (L : List Value) : Prop := lv_has ls n (tp_al ad L) ∧ L.length = n
theorem tp_lv_get {ad : Nat → Nat} {ls : Array Slot} {n k : Nat} {L : List Value} {v : Value} (h : tp_lv ad ls n L) (hk : L[k]? = some v) (hv : tp_nn v = true) : ls[k]? = some (.val (tp_v ad v)) := h.1.2.2 (k, _) (tp_al_mem.mpr ⟨v, hk, hv, rfl⟩)
theorem tp_ok1_lt {L : List Value} {k : Nat} (h : tp_ok1 L k = true) : k < L.length := by
  simp only [tp_ok1, Bool.and_eq_true, decide_eq_true_eq] at h
  exact h.1
theorem tp_ok1_cat {L : List Value} {k j : Nat} {w : Value} (h : tp_ok1 L k = true) (hj : j + 1 = k) (hw : L[j]? = some w) : ¬ w.category = 2 := by
  subst hj
  simp only [tp_ok1, Bool.and_eq_true, decide_eq_true_eq, Bool.or_eq_true, beq_iff_eq, Bool.not_eq_true', Nat.add_sub_cancel] at h
  have h2 := h.2.resolve_left (by omega)
  rw [List.getD_eq_getElem?_getD, hw, Option.getD_some] at h2
  simpa using h2
theorem tp_lv_set1 {ad : Nat → Nat} {ls ls' : Array Slot} {n k : Nat} {L : List Value} {v : Value} (h : tp_lv ad ls n L) (hok : tp_ok1 L k = true)
    (hl : lv_has ls' n ((k, tp_v ad v) :: (tp_al ad L).filter (fun q => !(q.1 == k) && !(q.1 + 1 == k && q.2.category == 2)))) : tp_lv ad ls' n (L.set k v) := by
  refine ⟨⟨hl.1, hl.2.1, fun q hq => ?_⟩, by rw [List.length_set]; exact h.2⟩
  obtain ⟨w, h1, h2, h3⟩ := tp_al_mem.mp hq
  by_cases e : q.1 = k
  · rw [e, List.getElem?_set_self (tp_ok1_lt hok)] at h1
    cases h1
    have := hl.2.2 (k, tp_v ad v) List.mem_cons_self
    rw [e, h3]
    exact this
  · rw [List.getElem?_set_ne (Ne.symm e)] at h1
    refine hl.2.2 q (List.mem_cons_of_mem _ (List.mem_filter.mpr ⟨tp_al_mem.mpr ⟨w, h1, h2, h3⟩, ?_⟩))
    simp only [Bool.and_eq_true, Bool.not_eq_true', beq_eq_false_iff_ne, ne_eq, Bool.and_eq_false_iff]
    refine ⟨e, ?_⟩
    by_cases e2 : q.1 + 1 = k
    · right
      rw [h3, tp_v_cat]
      exact tp_ok1_cat hok e2 h1
    · exact Or.inl e2
theorem tp_lv_set2 {ad : Nat → Nat} {ls ls' : Array Slot} {n k : Nat} {L : List Value} {x : Int64} (h : tp_lv ad ls n L) (hok : tp_ok1 L k = true)
    (hl : lv_has ls' n ((k, .long x) :: (tp_al ad L).filter (fun q => !(q.1 == k) && (!(q.1 == k + 1) && !(q.1 + 1 == k && q.2.category == 2))))) : tp_lv ad ls' n ((L.set k (.long x)).set (k + 1) .null) := by
  refine ⟨⟨hl.1, hl.2.1, fun q hq => ?_⟩, by rw [List.length_set, List.length_set]; exact h.2⟩
  obtain ⟨w, h1, h2, h3⟩ := tp_al_mem.mp hq
  by_cases e : q.1 = k
  · rw [e, List.getElem?_set_ne (by omega), List.getElem?_set_self (tp_ok1_lt hok)] at h1
    cases h1
    have := hl.2.2 (k, .long x) List.mem_cons_self
    rw [e, h3]
    exact this
  · by_cases e1 : q.1 = k + 1
    · by_cases hlt : k + 1 < L.length
      · rw [e1, List.getElem?_set_self (by rw [List.length_set]; exact hlt)] at h1
        cases h1
        cases h2
      · rw [e1, List.getElem?_eq_none (by rw [List.length_set, List.length_set]; omega)] at h1
        cases h1
    · rw [List.getElem?_set_ne (Ne.symm e1), List.getElem?_set_ne (Ne.symm e)] at h1
      refine hl.2.2 q (List.mem_cons_of_mem _ (List.mem_filter.mpr ⟨tp_al_mem.mpr ⟨w, h1, h2, h3⟩, ?_⟩))
      simp only [Bool.and_eq_true, Bool.not_eq_true', beq_eq_false_iff_ne, ne_eq, Bool.and_eq_false_iff]
      refine ⟨e, e1, ?_⟩
      by_cases e2 : q.1 + 1 = k
      · right
        rw [h3, tp_v_cat]
        exact tp_ok1_cat hok e2 h1
      · exact Or.inl e2
/-! the cells -/
abbrev tp_CS : Type := ClassId × ClassId × ClassId × ClassId × ClassId
def tp_nf (c : Nat) : Nat := ((vwCl[c]?).map (fun q => q.2.2)).getD 0
def tp_fv (ad : Nat → Nat) (σ : tp_St) (o k : Nat) : Value := match tp_isR (tp_kd o) k with
  | true => .ref (ad (tp_rr σ o k))
  | false => .int (σ.1 o k)
def tp_fs (ad : Nat → Nat) (σ : tp_St) (o : Nat) : List Value := (List.range (tp_nf (tp_kd o))).map (tp_fv ad σ o)
def tp_cell (cs : tp_CS) (ad : Nat → Nat) (σ : tp_St) (o : Nat) : va_E :=
  if tp_kd o < 20 then .inr (tp_kd o, tp_fs ad σ o)
  else if tp_kd o = 20 then .inl (cs.1, tp_ln o, .inl (σ.1 o))
  else if tp_kd o = 21 then .inl (cs.2.1, tp_ln o, .inl (σ.1 o))
  else if tp_kd o = 22 then .inl (cs.2.2.1, tp_ln o, .inl (σ.1 o))
  else if tp_kd o = 23 then .inl (cs.2.2.2.1, tp_ln o, .inr (.inr (.inr (.inr (fun j => some (ad (tp_rr σ o j)))))))
  else .inl (cs.2.2.2.2, tp_ln o, .inr (.inr (.inr (.inr (fun j => some (ad (tp_rr σ o j)))))))
def tp_ws (cs : tp_CS) (ad : Nat → Nat) (σ : tp_St) : va_W := (List.range 82).map (fun o => (ad o, tp_cell cs ad σ o))
def tp_tys (cs : tp_CS) : List (ClassId × FieldType) := [(cs.1, .int), (cs.2.1, .byte), (cs.2.2.1, .boolean), (cs.2.2.2.1, .object RX5), (cs.2.2.2.2, .array .int)]
theorem tp_ws_at {cs : tp_CS} {ad : Nat → Nat} {σ : tp_St} {o : Nat} (h : o < 82) : (tp_ws cs ad σ)[o]? = some (ad o, tp_cell cs ad σ o) := by
  unfold tp_ws
  rw [List.getElem?_map, List.getElem?_range h]
  rfl
theorem tp_ws_len {cs : tp_CS} {ad : Nat → Nat} {σ : tp_St} : (tp_ws cs ad σ).length = 82 := by simp [tp_ws]
theorem tp_ws_set {cs : tp_CS} {ad : Nat → Nat} {σ σ' : tp_St} {o : Nat} {e : va_E} (ho : o < 82) (h : e = tp_cell cs ad σ' o) (hh : ∀ o', o' ≠ o → tp_cell cs ad σ' o' = tp_cell cs ad σ o') : (tp_ws cs ad σ).set o (ad o, e) = tp_ws cs ad σ' := by
  apply List.ext_getElem?
  intro k
  by_cases hk : k = o
  · subst hk
    rw [List.getElem?_set_self (by rw [tp_ws_len]; exact ho), tp_ws_at ho, h]
  · rw [List.getElem?_set_ne (Ne.symm hk)]
    by_cases hl : k < 82
    · rw [tp_ws_at hl, tp_ws_at hl, hh k hk]
    · rw [List.getElem?_eq_none (by rw [tp_ws_len]; omega), List.getElem?_eq_none (by rw [tp_ws_len]; omega)]
theorem tp_kd_all : ∀ o, o < 101 → tp_kd o < 25 → o < 82 := by decide +kernel
theorem tp_kd_lt {o : Nat} (h : tp_kd o < 25) : o < 82 := by
  by_cases ho : o < 101
  · exact tp_kd_all o ho h
  · have h2 : tp_kd o = 99 := by
      unfold tp_kd
      rw [List.getD_eq_getElem?_getD, List.getElem?_eq_none (by show 101 ≤ o; omega)]
      rfl
    omega
theorem tp_kd_11a : ∀ o, o < 101 → tp_kd o < 20 → tp_kd o < 11 := by decide +kernel
theorem tp_kd_11 {o : Nat} (h : tp_kd o < 20) : tp_kd o < 11 := tp_kd_11a o (Nat.lt_of_lt_of_le (tp_kd_lt (Nat.lt_of_lt_of_le h (by decide))) (by decide)) h
def tp_ap (ad : Nat → Nat) (A : Nat → Prop) : Prop := (∀ i j, i < 82 → j < 82 → ad i = ad j → i = j) ∧ ∀ i, i < 82 → A (ad i)
theorem tp_ws_q {cs : tp_CS} {ad : Nat → Nat} {σ : tp_St} {k : Nat} {q : Nat × va_E} (h : (tp_ws cs ad σ)[k]? = some q) : k < 82 ∧ q = (ad k, tp_cell cs ad σ k) := by
  have hl : k < 82 := by have := (List.getElem?_eq_some_iff.mp h).1; rwa [tp_ws_len] at this
  rw [tp_ws_at hl] at h
  exact ⟨hl, (Option.some.inj h).symm⟩
theorem tp_ap_D {cs : tp_CS} {ad : Nat → Nat} {σ : tp_St} {A : Nat → Prop} (h : tp_ap ad A) : va_D A (tp_ws cs ad σ) := by
  refine ⟨fun i j x y hi hj hxy => ?_, fun k q hk => ?_⟩
  · obtain ⟨hi2, rfl⟩ := tp_ws_q hi
    obtain ⟨hj2, rfl⟩ := tp_ws_q hj
    exact h.1 i j hi2 hj2 hxy
  · obtain ⟨hk2, rfl⟩ := tp_ws_q hk
    exact h.2 k hk2
theorem tp_D_ap {cs : tp_CS} {ad : Nat → Nat} {σ : tp_St} {A : Nat → Prop} (h : va_D A (tp_ws cs ad σ)) : tp_ap ad A :=
  ⟨fun i j hi hj e => h.1 i j _ _ (tp_ws_at hi) (tp_ws_at hj) e, fun i hi => h.2 i _ (tp_ws_at hi)⟩
theorem tp_A_iff {cs : tp_CS} {ad : Nat → Nat} {σ : tp_St} {sz q : Nat} : va_A (tp_ws cs ad σ) sz q ↔ (∃ i, i < 82 ∧ q = ad i) ∨ sz ≤ q := by
  unfold va_A
  constructor
  · rintro (⟨k, e, h⟩ | h)
    · obtain ⟨hk, he⟩ := tp_ws_q h
      exact Or.inl ⟨k, hk, congrArg Prod.fst he⟩
    · exact Or.inr h
  · rintro (⟨i, hi, rfl⟩ | h)
    · exact Or.inl ⟨i, _, tp_ws_at hi⟩
    · exact Or.inr h
theorem tp_A_same {cs : tp_CS} {ad : Nat → Nat} {σ σ' : tp_St} {sz : Nat} : va_A (tp_ws cs ad σ) sz = va_A (tp_ws cs ad σ') sz := funext fun q => propext (tp_A_iff.trans tp_A_iff.symm)
/-! writing an int -/
theorem tp_up_self {f : Nat → Nat → Int32} {o k : Nat} {v : Int32} : tp_up f o k v o = upd (f o) k v := by
  funext j
  simp [tp_up, upd]
theorem tp_up_ne {f : Nat → Nat → Int32} {o o' k : Nat} {v : Int32} (h : o' ≠ o) : tp_up f o k v o' = f o' := by
  funext j
  simp [tp_up, h]
theorem tp_rr_set {σ : tp_St} {o k o' k' : Nat} {v : Int32} : tp_rr (tp_set σ o k v) o' k' = tp_rr σ o' k' := rfl
theorem tp_cell_ne {cs : tp_CS} {ad : Nat → Nat} {σ : tp_St} {o o' k : Nat} {v : Int32} (h : o' ≠ o) : tp_cell cs ad (tp_set σ o k v) o' = tp_cell cs ad σ o' := by
  have e : (tp_set σ o k v).1 o' = σ.1 o' := tp_up_ne h
  have e2 : tp_fs ad (tp_set σ o k v) o' = tp_fs ad σ o' := by
    unfold tp_fs tp_fv
    rw [e]
    rfl
  unfold tp_cell
  rw [e, e2]
  rfl
theorem tp_fs_set {ad : Nat → Nat} {σ : tp_St} {o k : Nat} {v : Int32} (hr : tp_isR (tp_kd o) k = false) : (tp_fs ad σ o).set k (.int v) = tp_fs ad (tp_set σ o k v) o := by
  apply List.ext_getElem?
  intro j
  unfold tp_fs
  by_cases hj : j = k
  · subst hj
    by_cases hl : j < tp_nf (tp_kd o)
    · rw [List.getElem?_set_self (by simpa using hl), List.getElem?_map, List.getElem?_range hl]
      simp [tp_fv, hr, tp_set, tp_up]
    · rw [List.getElem?_eq_none (by simp; omega), List.getElem?_eq_none (by simp; omega)]
  · rw [List.getElem?_set_ne (Ne.symm hj), List.getElem?_map, List.getElem?_map]
    by_cases hl : j < tp_nf (tp_kd o)
    · rw [List.getElem?_range hl]
      simp only [Option.map_some, tp_fv, tp_rr_set]
      rw [show (tp_set σ o k v).1 o j = σ.1 o j by simp [tp_set, tp_up, hj]]
    · rw [List.getElem?_eq_none (by simp; omega)]
      rfl
theorem tp_set_big {σ : tp_St} {q k o : Nat} {v : Int32} (hq : q < 82) (ho : 82 ≤ o) : (tp_set σ q k v).1 o = σ.1 o := tp_up_ne (by omega)
theorem tp_vwcl : vwCl.length = 11 := by decide +kernel
theorem tp_mathmax : (tp_wd (.static Lib.Math.max.name) tp_pmax.1 && (tp_wd (.initialized "java/lang/Math") tp_pmax.2.1 && tp_wd (.code Lib.Math.max.name Lib.Math.max.code 2 (some .int)) tp_pmax.2.2)) = true := by decide +kernel
theorem tp_mathmin : (tp_wd (.static Lib.Math.min.name) tp_pmin.1 && (tp_wd (.initialized "java/lang/Math") tp_pmin.2.1 && tp_wd (.code Lib.Math.min.name Lib.Math.min.code 2 (some .int)) tp_pmin.2.2)) = true := by decide +kernel
end
section
theorem tp_i1_e {st : List Value} {f : Int32 → List Value → Prop} (h : tp_i1 st f) : ∃ x r, st = .int x :: r ∧ f x r := by
  unfold tp_i1 at h
  split at h <;> first | exact ⟨_, _, rfl, h⟩ | exact h.elim
theorem tp_i2_e {st : List Value} {f : Int32 → Int32 → List Value → Prop} (h : tp_i2 st f) : ∃ x y r, st = .int y :: .int x :: r ∧ f x y r := by
  unfold tp_i2 at h
  split at h <;> first | exact ⟨_, _, _, rfl, h⟩ | exact h.elim
theorem tp_l1_e {st : List Value} {f : Int64 → List Value → Prop} (h : tp_l1 st f) : ∃ x r, st = .long x :: r ∧ f x r := by
  unfold tp_l1 at h
  split at h <;> first | exact ⟨_, _, rfl, h⟩ | exact h.elim
theorem tp_l2_e {st : List Value} {f : Int64 → Int64 → List Value → Prop} (h : tp_l2 st f) : ∃ x y r, st = .long y :: .long x :: r ∧ f x y r := by
  unfold tp_l2 at h
  split at h <;> first | exact ⟨_, _, _, rfl, h⟩ | exact h.elim
theorem tp_il_e {st : List Value} {f : Int64 → Int32 → List Value → Prop} (h : tp_il st f) : ∃ x y r, st = .int y :: .long x :: r ∧ f x y r := by
  unfold tp_il at h
  split at h <;> first | exact ⟨_, _, _, rfl, h⟩ | exact h.elim
theorem tp_r1_e {st : List Value} {f : Nat → List Value → Prop} (h : tp_r1 st f) : ∃ x r, st = .ref x :: r ∧ f x r := by
  unfold tp_r1 at h
  split at h <;> first | exact ⟨_, _, rfl, h⟩ | exact h.elim
theorem tp_ri_e {st : List Value} {f : Nat → Int32 → List Value → Prop} (h : tp_ri st f) : ∃ x y r, st = .int y :: .ref x :: r ∧ f x y r := by
  unfold tp_ri at h
  split at h <;> first | exact ⟨_, _, _, rfl, h⟩ | exact h.elim
theorem tp_rii_e {st : List Value} {f : Nat → Int32 → Int32 → List Value → Prop} (h : tp_rii st f) : ∃ x y z r, st = .int z :: .int y :: .ref x :: r ∧ f x y z r := by
  unfold tp_rii at h
  split at h <;> first | exact ⟨_, _, _, _, rfl, h⟩ | exact h.elim
theorem tp_r2_e {st : List Value} {f : Nat → Nat → List Value → Prop} (h : tp_r2 st f) : ∃ x y r, st = .ref y :: .ref x :: r ∧ f x y r := by
  unfold tp_r2 at h
  split at h <;> first | exact ⟨_, _, _, rfl, h⟩ | exact h.elim
theorem tp_chk_e {b : Bool} {P : Prop} (h : tp_chk b P) : b = true ∧ P := by cases b <;> first | exact h.elim | exact ⟨rfl, h⟩
theorem tp_a1_e {st : List Value} {f : Value → List Value → Prop} (h : tp_a1 st f) : ∃ x r, st = x :: r ∧ x.category = 1 ∧ f x r := by
  unfold tp_a1 at h
  split at h
  · obtain ⟨h1, h2⟩ := tp_chk_e h
    simp only [Bool.and_eq_true, beq_iff_eq] at h1
    exact ⟨_, _, rfl, h1, h2⟩
  · exact h.elim
theorem tp_a2_e {st : List Value} {f : Value → Value → List Value → Prop} (h : tp_a2 st f) : ∃ x y r, st = x :: y :: r ∧ x.category = 1 ∧ y.category = 1 ∧ f x y r := by
  unfold tp_a2 at h
  split at h
  · obtain ⟨h1, h2⟩ := tp_chk_e h
    simp only [Bool.and_eq_true, beq_iff_eq] at h1
    exact ⟨_, _, _, rfl, h1.1, h1.2, h2⟩
  · exact h.elim
theorem tp_a3_e {st : List Value} {f : Value → Value → Value → List Value → Prop} (h : tp_a3 st f) : ∃ x y z r, st = x :: y :: z :: r ∧ x.category = 1 ∧ y.category = 1 ∧ z.category = 1 ∧ f x y z r := by
  unfold tp_a3 at h
  split at h
  · obtain ⟨h1, h2⟩ := tp_chk_e h
    simp only [Bool.and_eq_true, beq_iff_eq] at h1
    exact ⟨_, _, _, _, rfl, h1.1.1, h1.1.2, h1.2, h2⟩
  · exact h.elim
theorem tp_gi_e {L : List Value} {k : Nat} {f : Int32 → Prop} (h : tp_gi L k f) : ∃ x, L[k]? = some (.int x) ∧ f x := by
  unfold tp_gi at h
  split at h
  · rename_i x hx
    exact ⟨x, hx, h⟩
  · exact h.elim
theorem tp_gl_e {L : List Value} {k : Nat} {f : Int64 → Prop} (h : tp_gl L k f) : ∃ x, L[k]? = some (.long x) ∧ f x := by
  unfold tp_gl at h
  split at h
  · rename_i x hx
    exact ⟨x, hx, h⟩
  · exact h.elim
theorem tp_gr_e {L : List Value} {k : Nat} {f : Nat → Prop} (h : tp_gr L k f) : ∃ x, L[k]? = some (.ref x) ∧ f x := by
  unfold tp_gr at h
  split at h
  · rename_i x hx
    exact ⟨x, hx, h⟩
  · exact h.elim
def tp_Wd (D : va_G) (cs : tp_CS) (ad : Nat → Nat) (A : Nat → Prop) (s : State) (σ0 σ : tp_St) (H : Heap) (locs : List Loc) : Prop := va_P D vwCl (tp_ws cs ad σ) H ∧ (∀ o, 82 ≤ o → σ.1 o = σ0.1 o) ∧ va_S A s.heap H locs
def tp_G (p : Program) (l : Launch) (e : Env) (R : Room) (s : State) (m : MethodId) (args : Array Value) (below : List Frame) (meth : Method) (c : Code) (cells slots : Nat) (Q : State → Prop) (D : va_G) (cs : tp_CS) (ad : Nat → Nat) (A : Nat → Prop) (σ0 : tp_St) (n pc : Nat) (L st : List Value) (σ : tp_St) : Prop :=
  ∀ H locs ls, tp_Wd D cs ad A s σ0 σ H locs → tp_lv ad ls n L → W p l e R s m args below meth c H locs cells slots Q (F0 m pc ls (st.map (tp_v ad)))
def tp_Cx (p : Program) (R : Room) (s : State) (m : MethodId) (args : Array Value) (c : Code) (cells slots : Nat) (D : va_G) (cs : tp_CS) (ad : Nat → Nat) (A : Nat → Prop) (σ0 : tp_St) (mid : Nat) : Prop :=
  p.tables.exec = Jvm.exec ∧ c.code = tp_cc mid ∧ c.maxLocals = tp_n mid ∧ s.vm.findClass (tp_cls mid) = some m.cls ∧ (∀ w ∈ tp_gt, w.before args s = true) ∧ va_K D vwCl (tp_tys cs) s ∧ tp_ap ad A ∧ (∀ q, s.heap.size ≤ q → A q) ∧ tp_ro ad A s s.heap σ0 ∧
  (mid = tp_law → va_T .int (ad 90) (σ0.1 89 0).toNatClampNeg (fun j => .int (σ0.1 90 j)) A s s.heap) ∧ tp_rf mid ≤ R.frames ∧ tp_rl mid ≤ R.locals ∧ cells ≤ R.cells ∧ slots ≤ R.slots
def tp_Pre (D : va_G) (cs : tp_CS) (ad : Nat → Nat) (σ : tp_St) (sz : Nat) (U : State) : Prop := U.heap.size = sz ∧ va_P D vwCl (tp_ws cs ad σ) U.heap ∧ va_K D vwCl (tp_tys cs) U ∧ (∀ i j, i < 82 → j < 82 → ad i = ad j → i = j) ∧ tp_ro ad (va_A (tp_ws cs ad σ) sz) U U.heap σ
def tp_Bq (D : va_G) (cs : tp_CS) (ad : Nat → Nat) (σ : tp_St) (σ' : tp_St) (t : State) : Prop := va_P D vwCl (tp_ws cs ad σ') t.heap ∧ ∀ o, 82 ≤ o → σ'.1 o = σ.1 o
def tp_Qc (D : va_G) (cs : tp_CS) (ad : Nat → Nat) (σ : tp_St) (sz : Nat) (rt : Option FieldType) (post : Int32 → tp_St → Prop) : Array Value → State → Outcome → State → Prop := match rt with
  | none => va_Qv (fun σ' => post 0 σ') (tp_Bq D cs ad σ) (va_A (tp_ws cs ad σ) sz)
  | some _ => va_Qi post (tp_Bq D cs ad σ) (va_A (tp_ws cs ad σ) sz)
def tp_MO (l : Launch) (D : va_G) (cs : tp_CS) (ad : Nat → Nat) (a : Nat) (av : List Value) (σ : tp_St) (post : Int32 → tp_St → Prop) : Prop :=
  ∀ sz, Met l (tp_y a) (tp_wl a) (tp_rm a) (va_Pc (av.map (tp_v ad)) (tp_Pre D cs ad σ sz)) (tp_Qc D cs ad σ sz (tp_ret a) post) 0 0 (va_A (tp_ws cs ad σ) sz)
theorem tp_ro.go {ad : Nat → Nat} {A B : Nat → Prop} {u U : State} {H H1 : Heap} {σ σ' : tp_St} (h : tp_ro ad A u H σ) (hvm : u.vm.Alike U.vm) (hR : ∀ own k tx a, vk_R own k tx a u → vk_R own k tx a U) (hN : va_Nw tp_nest u → va_Nw tp_nest U)
    (hk : ∀ a : Nat, a < H.size → ¬ A a → H1[a]? = H[a]?) (hAB : ∀ q, B q → A q) (hσ : ∀ o, 82 ≤ o → σ'.1 o = σ.1 o) : tp_ro ad B U H1 σ' := by
  obtain ⟨h1, h2, h3, h4, h5, h6, h7, h8, h9, h10, h11⟩ := h
  refine ⟨((va_Z.moved hvm h1).kept hk).narrow hAB, ((va_Z.moved hvm h2).kept hk).narrow hAB, ((va_Z.moved hvm h3).kept hk).narrow hAB, fun o ho => ?_, ((va_Z.moved hvm h5).kept hk).narrow hAB, ?_, ((vk_S.moved hvm h7).kept hk).narrow hAB, hR _ _ _ _ h8, hR _ _ _ _ h9, hR _ _ _ _ h10, hN h11⟩
  · have ho2 : 82 ≤ o := by
      by_cases q : o < 82
      · exact absurd ho ((by decide +kernel : ∀ o, o < 82 → ¬ tp_kd o = 27) o q)
      · omega
    rw [hσ o ho2]
    exact ((va_T.moved hvm (h4 o ho)).kept hk).narrow hAB
  · rcases h6 with h6 | h6
    · exact Or.inl (((va_Z.moved hvm h6).kept hk).narrow hAB)
    · exact Or.inr (((va_Z.moved hvm h6).kept hk).narrow hAB)
theorem tp_blind {D : va_G} {cs : tp_CS} {ad : Nat → Nat} {σ : tp_St} {sz : Nat} {av : List Value} : FrameBlind (va_Pc av (tp_Pre D cs ad σ sz)) := fun a U g mk q => by
  obtain ⟨q0, q1, qP, qK, qD, qR⟩ := q
  exact ⟨q0, q1, qP, va_K.moved (u := U) (U := U.calling g mk a) (Vm.Alike.refl U.vm) qK, qD, qR.go (u := U) (U := U.calling g mk a) (Vm.Alike.refl U.vm) (fun _ _ _ _ z => vk_R.same (u := U) (U := U.calling g mk a) rfl z) (fun z => va_tabs (u := U) (U := U.calling g mk a) rfl rfl z) (fun _ _ _ => rfl) (fun _ z => z) (fun _ _ => rfl)⟩

theorem tp_clf : ∀ (a : Nat) (C : String) (T : u_T) (N : Nat), vwCl[a]? = some (C, T, N) → (∀ w ∈ u_ws C T N, w ∈ tp_gt) ∧ (∃ ty0 : Nat → FieldType, ∀ k, k < N → parseFieldDescriptor (T k).2.2.1 = some (ty0 k)) ∧ (∀ a, a < N → ∀ b, b < N → a ≠ b → (T a).2.1 ≠ (T b).2.1) ∧ N = tp_nf a
  | 0, C, T, N, h => by
    cases h
    exact ⟨fun w hw => tp_cl0 w hw, ⟨tyX0, tyX0_ok⟩, nmX0, rfl⟩
  | 1, C, T, N, h => by
    cases h
    exact ⟨fun w hw => tp_cl1 w hw, ⟨tyX1, tyX1_ok⟩, nmX1, rfl⟩
  | 2, C, T, N, h => by
    cases h
    exact ⟨fun w hw => tp_cl2 w hw, ⟨tyX2, tyX2_ok⟩, nmX2, rfl⟩
  | 3, C, T, N, h => by
    cases h
    exact ⟨fun w hw => tp_cl3 w hw, ⟨tyX3, tyX3_ok⟩, nmX3, rfl⟩
  | 4, C, T, N, h => by
    cases h
    exact ⟨fun w hw => tp_cl4 w hw, ⟨tyX4, tyX4_ok⟩, nmX4, rfl⟩
  | 5, C, T, N, h => by
    cases h
    exact ⟨fun w hw => tp_cl5 w hw, ⟨tyX5, tyX5_ok⟩, nmX5, rfl⟩
  | 6, C, T, N, h => by
    cases h
    exact ⟨fun w hw => tp_cl6 w hw, ⟨tyX6, tyX6_ok⟩, nmX6, rfl⟩
  | 7, C, T, N, h => by
    cases h
    exact ⟨fun w hw => tp_cl7 w hw, ⟨tyX7, tyX7_ok⟩, nmX7, rfl⟩
  | 8, C, T, N, h => by
    cases h
    exact ⟨fun w hw => tp_cl8 w hw, ⟨tyX8, tyX8_ok⟩, nmX8, rfl⟩
  | 9, C, T, N, h => by
    cases h
    exact ⟨fun w hw => tp_cl9 w hw, ⟨tyX9, tyX9_ok⟩, nmX9, rfl⟩
  | 10, C, T, N, h => by
    cases h
    exact ⟨fun w hw => tp_cl10 w hw, ⟨tyX10, tyX10_ok⟩, nmX10, rfl⟩
  | k + 11, C, T, N, h => by
    rw [List.getElem?_eq_none (by rw [tp_vwcl]; omega)] at h
    cases h
theorem tp_lens {v : Option Value} {k : Nat} (h : tp_rcv v k = true) : ∃ o, v = some (.ref o) ∧ tp_kd o = k := by
  unfold tp_rcv at h
  split at h
  · rename_i o
    exact ⟨o, rfl, by simpa using h⟩
  · cases h
theorem tp_cell_cls {cs : tp_CS} {ad : Nat → Nat} {σ : tp_St} {o : Nat} (h : tp_kd o < 20) : tp_cell cs ad σ o = .inr (tp_kd o, tp_fs ad σ o) := if_pos h
theorem tp_cell_20 {cs : tp_CS} {ad : Nat → Nat} {σ : tp_St} {o : Nat} (h : tp_kd o = 20) : tp_cell cs ad σ o = .inl (cs.1, tp_ln o, .inl (σ.1 o)) := by simp [tp_cell, h]
theorem tp_cell_21 {cs : tp_CS} {ad : Nat → Nat} {σ : tp_St} {o : Nat} (h : tp_kd o = 21) : tp_cell cs ad σ o = .inl (cs.2.1, tp_ln o, .inl (σ.1 o)) := by simp [tp_cell, h]
theorem tp_cell_22 {cs : tp_CS} {ad : Nat → Nat} {σ : tp_St} {o : Nat} (h : tp_kd o = 22) : tp_cell cs ad σ o = .inl (cs.2.2.1, tp_ln o, .inl (σ.1 o)) := by simp [tp_cell, h]
theorem tp_cell_23 {cs : tp_CS} {ad : Nat → Nat} {σ : tp_St} {o : Nat} (h : tp_kd o = 23) : tp_cell cs ad σ o = .inl (cs.2.2.2.1, tp_ln o, .inr (.inr (.inr (.inr (fun j => some (ad (tp_rr σ o j))))))) := by simp [tp_cell, h]
theorem tp_cell_24 {cs : tp_CS} {ad : Nat → Nat} {σ : tp_St} {o : Nat} (h : tp_kd o = 24) : tp_cell cs ad σ o = .inl (cs.2.2.2.2, tp_ln o, .inr (.inr (.inr (.inr (fun j => some (ad (tp_rr σ o j))))))) := by simp [tp_cell, h]
theorem tp_fs_at {ad : Nat → Nat} {σ : tp_St} {o k : Nat} (h : k < tp_nf (tp_kd o)) : (tp_fs ad σ o)[k]? = some (tp_fv ad σ o k) := by
  unfold tp_fs
  rw [List.getElem?_map, List.getElem?_range h]
  rfl
theorem tp_fs_len {ad : Nat → Nat} {σ : tp_St} {o : Nat} : (tp_fs ad σ o).length = tp_nf (tp_kd o) := by simp [tp_fs]
theorem tp_kd_ne : ∀ o, o < 82 → tp_kd o = 0 → o = 6 := by decide +kernel
theorem tp_cell_refs {cs : tp_CS} {ad : Nat → Nat} {σ : tp_St} {t : Nat × Nat} {o : Nat} (h : o ≠ 6) : tp_cell cs ad (σ.1, t) o = tp_cell cs ad σ o := by
  have e : ∀ k, tp_rr (σ.1, t) o k = tp_rr σ o k := fun k => by simp [tp_rr, h]
  have e2 : tp_fs ad (σ.1, t) o = tp_fs ad σ o := by
    unfold tp_fs tp_fv
    simp only [e]
  unfold tp_cell
  simp only [e, e2]
theorem tp_fs_ref1 {ad : Nat → Nat} {σ : tp_St} {v : Nat} : (tp_fs ad σ 6).set 1 (.ref (ad v)) = tp_fs ad (σ.1, (v, σ.2.2)) 6 := rfl
theorem tp_fs_ref3 {ad : Nat → Nat} {σ : tp_St} {v : Nat} : (tp_fs ad σ 6).set 3 (.ref (ad v)) = tp_fs ad (σ.1, (σ.2.1, v)) 6 := rfl
section VRB
variable {p : Program} {l : Launch} {e : Env} {R : Room} {s : State} {m : MethodId} {args : Array Value} {below : List Frame} {meth : Method} {c : Code} {H : Heap} {locs : List Loc} {cells slots : Nat} {Q : State → Prop}
variable {cc : ByteArray} {pc : Nat} {ls : Array Slot} {rest : List Value} {D : va_G} {cl : List vw_C} {A : Nat → Prop} {a : Nat} {tys : List (ClassId × FieldType)} {ws : va_W} {H0 : Heap}
theorem tp_alda (hexec : p.tables.exec = Jvm.exec) (hb : c.code = cc) (hK : va_K D cl tys s) (hP : va_P D cl ws H) (q0 t0 : Nat) {cA : ClassId} {ty : FieldType} {n : Nat} {f : Nat → Option Nat} (ha : ws[q0]? = some (a, .inl (cA, n, .inr (.inr (.inr (.inr f)))))) (ht : tys[t0]? = some (cA, ty)) (hty : ty.isReference = true) {i : Int32} (hin : vp_in i n) (hdg : decode cc pc = .ok (.aaload, 1))
    (kk : W p l e R s m args below meth c H locs cells slots Q (F0 m (pc + 1) ls (va_rf (f i.toNatClampNeg) :: rest))) : W p l e R s m args below meth c H locs cells slots Q (F0 m pc ls (.int i :: .ref a :: rest)) := by
  have hlt : i.toNatClampNeg < n := Nat.not_le.mp fun q => hin (Or.inr q)
  exact W.aald (v := va_rf (f i.toNatClampNeg)) (ty := ty) hexec hb (hP q0 _ ha) ((hK.2 t0 _ ht).1 n (fun j => va_rf (f j))) hty (fun q => by cases q) (by show ¬ (i < 0 ∨ (arrV _ _ _).slots.size ≤ _); rw [arrV_size]; exact hin) (by show (arrV _ _ _).slots[_]? = _; rw [arrV_read _ _ hlt]) rfl rfl hdg kk
end VRB
theorem tp_cwA : ∀ a, a < tp_law → Cond.code (tp_y a) (tp_cc a) (tp_n a) (tp_ret a) ∈ tp_gt
  | 0, _ => List.mem_filter.mpr ⟨List.mem_of_getElem? tp_cw0, rfl⟩
  | 1, _ => List.mem_filter.mpr ⟨List.mem_of_getElem? tp_cw1, rfl⟩
  | 2, _ => List.mem_filter.mpr ⟨List.mem_of_getElem? tp_cw2, rfl⟩
  | 3, _ => List.mem_filter.mpr ⟨List.mem_of_getElem? tp_cw3, rfl⟩
  | 4, _ => List.mem_filter.mpr ⟨List.mem_of_getElem? tp_cw4, rfl⟩
  | 5, _ => List.mem_filter.mpr ⟨List.mem_of_getElem? tp_cw5, rfl⟩
  | 6, _ => List.mem_filter.mpr ⟨List.mem_of_getElem? tp_cw6, rfl⟩
  | 7, _ => List.mem_filter.mpr ⟨List.mem_of_getElem? tp_cw7, rfl⟩
  | 8, _ => List.mem_filter.mpr ⟨List.mem_of_getElem? tp_cw8, rfl⟩
  | 9, _ => List.mem_filter.mpr ⟨List.mem_of_getElem? tp_cw9, rfl⟩
  | 10, _ => List.mem_filter.mpr ⟨List.mem_of_getElem? tp_cw10, rfl⟩
  | 11, _ => List.mem_filter.mpr ⟨List.mem_of_getElem? tp_cw11, rfl⟩
  | 12, _ => List.mem_filter.mpr ⟨List.mem_of_getElem? tp_cw12, rfl⟩
  | 13, _ => List.mem_filter.mpr ⟨List.mem_of_getElem? tp_cw13, rfl⟩
  | 14, _ => List.mem_filter.mpr ⟨List.mem_of_getElem? tp_cw14, rfl⟩
  | 15, _ => List.mem_filter.mpr ⟨List.mem_of_getElem? tp_cw15, rfl⟩
  | 16, _ => List.mem_filter.mpr ⟨List.mem_of_getElem? tp_cw16, rfl⟩
  | 17, _ => List.mem_filter.mpr ⟨List.mem_of_getElem? tp_cw17, rfl⟩
  | 18, _ => List.mem_filter.mpr ⟨List.mem_of_getElem? tp_cw18, rfl⟩
  | 19, _ => List.mem_filter.mpr ⟨List.mem_of_getElem? tp_cw19, rfl⟩
  | 20, _ => List.mem_filter.mpr ⟨List.mem_of_getElem? tp_cw20, rfl⟩
  | 21, _ => List.mem_filter.mpr ⟨List.mem_of_getElem? tp_cw21, rfl⟩
  | 22, _ => List.mem_filter.mpr ⟨List.mem_of_getElem? tp_cw22, rfl⟩
  | 23, _ => List.mem_filter.mpr ⟨List.mem_of_getElem? tp_cw23, rfl⟩
  | 24, _ => List.mem_filter.mpr ⟨List.mem_of_getElem? tp_cw24, rfl⟩
  | 25, _ => List.mem_filter.mpr ⟨List.mem_of_getElem? tp_cw25, rfl⟩
  | 26, _ => List.mem_filter.mpr ⟨List.mem_of_getElem? tp_cw26, rfl⟩
  | 27, _ => List.mem_filter.mpr ⟨List.mem_of_getElem? tp_cw27, rfl⟩
  | 28, _ => List.mem_filter.mpr ⟨List.mem_of_getElem? tp_cw28, rfl⟩
  | 29, _ => List.mem_filter.mpr ⟨List.mem_of_getElem? tp_cw29, rfl⟩
  | 30, _ => List.mem_filter.mpr ⟨List.mem_of_getElem? tp_cw30, rfl⟩
  | 31, _ => List.mem_filter.mpr ⟨List.mem_of_getElem? tp_cw31, rfl⟩
  | 32, _ => List.mem_filter.mpr ⟨List.mem_of_getElem? tp_cw32, rfl⟩
  | 33, _ => List.mem_filter.mpr ⟨List.mem_of_getElem? tp_cw33, rfl⟩
  | 34, _ => List.mem_filter.mpr ⟨List.mem_of_getElem? tp_cw34, rfl⟩
  | 35, _ => List.mem_filter.mpr ⟨List.mem_of_getElem? tp_cw35, rfl⟩
  | 36, _ => List.mem_filter.mpr ⟨List.mem_of_getElem? tp_cw36, rfl⟩
  | 37, _ => List.mem_filter.mpr ⟨List.mem_of_getElem? tp_cw37, rfl⟩
  | 38, _ => List.mem_filter.mpr ⟨List.mem_of_getElem? tp_cw38, rfl⟩
  | 39, _ => List.mem_filter.mpr ⟨List.mem_of_getElem? tp_cw39, rfl⟩
  | 40, _ => List.mem_filter.mpr ⟨List.mem_of_getElem? tp_cw40, rfl⟩
  | 41, _ => List.mem_filter.mpr ⟨List.mem_of_getElem? tp_cw41, rfl⟩
  | 42, _ => List.mem_filter.mpr ⟨List.mem_of_getElem? tp_cw42, rfl⟩
  | 43, _ => List.mem_filter.mpr ⟨List.mem_of_getElem? tp_cw43, rfl⟩
  | 44, _ => List.mem_filter.mpr ⟨List.mem_of_getElem? tp_cw44, rfl⟩
  | 45, _ => List.mem_filter.mpr ⟨List.mem_of_getElem? tp_cw45, rfl⟩
  | 46, _ => List.mem_filter.mpr ⟨List.mem_of_getElem? tp_cw46, rfl⟩
  | 47, _ => List.mem_filter.mpr ⟨List.mem_of_getElem? tp_cw47, rfl⟩
  | 48, _ => List.mem_filter.mpr ⟨List.mem_of_getElem? tp_cw48, rfl⟩
  | 49, _ => List.mem_filter.mpr ⟨List.mem_of_getElem? tp_cw49, rfl⟩
  | 50, _ => List.mem_filter.mpr ⟨List.mem_of_getElem? tp_cw50, rfl⟩
  | 51, _ => List.mem_filter.mpr ⟨List.mem_of_getElem? tp_cw51, rfl⟩
  | 52, _ => List.mem_filter.mpr ⟨List.mem_of_getElem? tp_cw52, rfl⟩
  | 53, _ => List.mem_filter.mpr ⟨List.mem_of_getElem? tp_cw53, rfl⟩
  | 54, _ => List.mem_filter.mpr ⟨List.mem_of_getElem? tp_cw54, rfl⟩
  | 55, _ => List.mem_filter.mpr ⟨List.mem_of_getElem? tp_cw55, rfl⟩
  | 56, _ => List.mem_filter.mpr ⟨List.mem_of_getElem? tp_cw56, rfl⟩
  | 57, _ => List.mem_filter.mpr ⟨List.mem_of_getElem? tp_cw57, rfl⟩
  | 58, _ => List.mem_filter.mpr ⟨List.mem_of_getElem? tp_cw58, rfl⟩
  | 59, _ => List.mem_filter.mpr ⟨List.mem_of_getElem? tp_cw59, rfl⟩
  | 60, _ => List.mem_filter.mpr ⟨List.mem_of_getElem? tp_cw60, rfl⟩
  | 61, _ => List.mem_filter.mpr ⟨List.mem_of_getElem? tp_cw61, rfl⟩
  | 62, _ => List.mem_filter.mpr ⟨List.mem_of_getElem? tp_cw62, rfl⟩
  | 63, _ => List.mem_filter.mpr ⟨List.mem_of_getElem? tp_cw63, rfl⟩
  | 64, _ => List.mem_filter.mpr ⟨List.mem_of_getElem? tp_cw64, rfl⟩
  | 65, _ => List.mem_filter.mpr ⟨List.mem_of_getElem? tp_cw65, rfl⟩
  | 66, _ => List.mem_filter.mpr ⟨List.mem_of_getElem? tp_cw66, rfl⟩
  | 67, _ => List.mem_filter.mpr ⟨List.mem_of_getElem? tp_cw67, rfl⟩
  | 68, _ => List.mem_filter.mpr ⟨List.mem_of_getElem? tp_cw68, rfl⟩
  | 69, _ => List.mem_filter.mpr ⟨List.mem_of_getElem? tp_cw69, rfl⟩
  | 70, _ => List.mem_filter.mpr ⟨List.mem_of_getElem? tp_cw70, rfl⟩
  | 71, _ => List.mem_filter.mpr ⟨List.mem_of_getElem? tp_cw71, rfl⟩
  | 72, _ => List.mem_filter.mpr ⟨List.mem_of_getElem? tp_cw72, rfl⟩
  | 73, _ => List.mem_filter.mpr ⟨List.mem_of_getElem? tp_cw73, rfl⟩
  | 74, _ => List.mem_filter.mpr ⟨List.mem_of_getElem? tp_cw74, rfl⟩
  | 75, _ => List.mem_filter.mpr ⟨List.mem_of_getElem? tp_cw75, rfl⟩
  | 76, _ => List.mem_filter.mpr ⟨List.mem_of_getElem? tp_cw76, rfl⟩
  | 77, _ => List.mem_filter.mpr ⟨List.mem_of_getElem? tp_cw77, rfl⟩
  | 78, _ => List.mem_filter.mpr ⟨List.mem_of_getElem? tp_cw78, rfl⟩
  | 79, _ => List.mem_filter.mpr ⟨List.mem_of_getElem? tp_cw79, rfl⟩
  | 80, _ => List.mem_filter.mpr ⟨List.mem_of_getElem? tp_cw80, rfl⟩
  | 81, _ => List.mem_filter.mpr ⟨List.mem_of_getElem? tp_cw81, rfl⟩
  | 82, _ => List.mem_filter.mpr ⟨List.mem_of_getElem? tp_cw82, rfl⟩
  | 83, _ => List.mem_filter.mpr ⟨List.mem_of_getElem? tp_cw83, rfl⟩
  | 84, _ => List.mem_filter.mpr ⟨List.mem_of_getElem? tp_cw84, rfl⟩
  | 85, _ => List.mem_filter.mpr ⟨List.mem_of_getElem? tp_cw85, rfl⟩
  | 86, _ => List.mem_filter.mpr ⟨List.mem_of_getElem? tp_cw86, rfl⟩
  | 87, _ => List.mem_filter.mpr ⟨List.mem_of_getElem? tp_cw87, rfl⟩
  | 88, _ => List.mem_filter.mpr ⟨List.mem_of_getElem? tp_cw88, rfl⟩
  | 89, _ => List.mem_filter.mpr ⟨List.mem_of_getElem? tp_cw89, rfl⟩
  | 90, _ => List.mem_filter.mpr ⟨List.mem_of_getElem? tp_cw90, rfl⟩
  | 91, _ => List.mem_filter.mpr ⟨List.mem_of_getElem? tp_cw91, rfl⟩
  | 92, _ => List.mem_filter.mpr ⟨List.mem_of_getElem? tp_cw92, rfl⟩
  | 93, _ => List.mem_filter.mpr ⟨List.mem_of_getElem? tp_cw93, rfl⟩
  | 94, _ => List.mem_filter.mpr ⟨List.mem_of_getElem? tp_cw94, rfl⟩
  | 95, _ => List.mem_filter.mpr ⟨List.mem_of_getElem? tp_cw95, rfl⟩
  | 96, _ => List.mem_filter.mpr ⟨List.mem_of_getElem? tp_cw96, rfl⟩
  | 97, _ => List.mem_filter.mpr ⟨List.mem_of_getElem? tp_cw97, rfl⟩
  | 98, _ => List.mem_filter.mpr ⟨List.mem_of_getElem? tp_cw98, rfl⟩
  | 99, _ => List.mem_filter.mpr ⟨List.mem_of_getElem? tp_cw99, rfl⟩
  | 100, _ => List.mem_filter.mpr ⟨List.mem_of_getElem? tp_cw100, rfl⟩
  | 101, _ => List.mem_filter.mpr ⟨List.mem_of_getElem? tp_cw101, rfl⟩
  | 102, _ => List.mem_filter.mpr ⟨List.mem_of_getElem? tp_cw102, rfl⟩
  | 103, _ => List.mem_filter.mpr ⟨List.mem_of_getElem? tp_cw103, rfl⟩
  | 104, _ => List.mem_filter.mpr ⟨List.mem_of_getElem? tp_cw104, rfl⟩
  | 105, _ => List.mem_filter.mpr ⟨List.mem_of_getElem? tp_cw105, rfl⟩
  | 106, _ => List.mem_filter.mpr ⟨List.mem_of_getElem? tp_cw106, rfl⟩
  | 107, _ => List.mem_filter.mpr ⟨List.mem_of_getElem? tp_cw107, rfl⟩
  | 108, _ => List.mem_filter.mpr ⟨List.mem_of_getElem? tp_cw108, rfl⟩
  | 109, _ => List.mem_filter.mpr ⟨List.mem_of_getElem? tp_cw109, rfl⟩
  | 110, _ => List.mem_filter.mpr ⟨List.mem_of_getElem? tp_cw110, rfl⟩
  | 111, _ => List.mem_filter.mpr ⟨List.mem_of_getElem? tp_cw111, rfl⟩
  | 112, _ => List.mem_filter.mpr ⟨List.mem_of_getElem? tp_cw112, rfl⟩
  | 113, _ => List.mem_filter.mpr ⟨List.mem_of_getElem? tp_cw113, rfl⟩
  | 114, _ => List.mem_filter.mpr ⟨List.mem_of_getElem? tp_cw114, rfl⟩
  | 115, _ => List.mem_filter.mpr ⟨List.mem_of_getElem? tp_cw115, rfl⟩
  | 116, _ => List.mem_filter.mpr ⟨List.mem_of_getElem? tp_cw116, rfl⟩
  | 117, _ => List.mem_filter.mpr ⟨List.mem_of_getElem? tp_cw117, rfl⟩
  | 118, _ => List.mem_filter.mpr ⟨List.mem_of_getElem? tp_cw118, rfl⟩
  | 119, _ => List.mem_filter.mpr ⟨List.mem_of_getElem? tp_cw119, rfl⟩
  | 120, _ => List.mem_filter.mpr ⟨List.mem_of_getElem? tp_cw120, rfl⟩
  | 121, _ => List.mem_filter.mpr ⟨List.mem_of_getElem? tp_cw121, rfl⟩
  | 122, _ => List.mem_filter.mpr ⟨List.mem_of_getElem? tp_cw122, rfl⟩
  | 123, _ => List.mem_filter.mpr ⟨List.mem_of_getElem? tp_cw123, rfl⟩
  | 124, _ => List.mem_filter.mpr ⟨List.mem_of_getElem? tp_cw124, rfl⟩
  | 125, _ => List.mem_filter.mpr ⟨List.mem_of_getElem? tp_cw125, rfl⟩
  | 126, _ => List.mem_filter.mpr ⟨List.mem_of_getElem? tp_cw126, rfl⟩
  | 127, _ => List.mem_filter.mpr ⟨List.mem_of_getElem? tp_cw127, rfl⟩
  | 128, _ => List.mem_filter.mpr ⟨List.mem_of_getElem? tp_cw128, rfl⟩
  | 129, _ => List.mem_filter.mpr ⟨List.mem_of_getElem? tp_cw129, rfl⟩
  | 130, _ => List.mem_filter.mpr ⟨List.mem_of_getElem? tp_cw130, rfl⟩
  | 131, _ => List.mem_filter.mpr ⟨List.mem_of_getElem? tp_cw131, rfl⟩
  | 132, _ => List.mem_filter.mpr ⟨List.mem_of_getElem? tp_cw132, rfl⟩
  | 133, _ => List.mem_filter.mpr ⟨List.mem_of_getElem? tp_cw133, rfl⟩
  | 134, _ => List.mem_filter.mpr ⟨List.mem_of_getElem? tp_cw134, rfl⟩
  | 135, _ => List.mem_filter.mpr ⟨List.mem_of_getElem? tp_cw135, rfl⟩
  | 136, _ => List.mem_filter.mpr ⟨List.mem_of_getElem? tp_cw136, rfl⟩
  | 137, _ => List.mem_filter.mpr ⟨List.mem_of_getElem? tp_cw137, rfl⟩
  | 138, _ => List.mem_filter.mpr ⟨List.mem_of_getElem? tp_cw138, rfl⟩
  | 139, _ => List.mem_filter.mpr ⟨List.mem_of_getElem? tp_cw139, rfl⟩
  | 140, _ => List.mem_filter.mpr ⟨List.mem_of_getElem? tp_cw140, rfl⟩
  | 141, _ => List.mem_filter.mpr ⟨List.mem_of_getElem? tp_cw141, rfl⟩
  | 142, _ => List.mem_filter.mpr ⟨List.mem_of_getElem? tp_cw142, rfl⟩
  | 143, _ => List.mem_filter.mpr ⟨List.mem_of_getElem? tp_cw143, rfl⟩
  | 144, _ => List.mem_filter.mpr ⟨List.mem_of_getElem? tp_cw144, rfl⟩
  | 145, _ => List.mem_filter.mpr ⟨List.mem_of_getElem? tp_cw145, rfl⟩
  | 146, _ => List.mem_filter.mpr ⟨List.mem_of_getElem? tp_cw146, rfl⟩
  | 147, _ => List.mem_filter.mpr ⟨List.mem_of_getElem? tp_cw147, rfl⟩
  | 148, _ => List.mem_filter.mpr ⟨List.mem_of_getElem? tp_cw148, rfl⟩
  | 149, _ => List.mem_filter.mpr ⟨List.mem_of_getElem? tp_cw149, rfl⟩
  | 150, _ => List.mem_filter.mpr ⟨List.mem_of_getElem? tp_cw150, rfl⟩
  | 151, _ => List.mem_filter.mpr ⟨List.mem_of_getElem? tp_cw151, rfl⟩
  | 152, _ => List.mem_filter.mpr ⟨List.mem_of_getElem? tp_cw152, rfl⟩
  | 153, _ => List.mem_filter.mpr ⟨List.mem_of_getElem? tp_cw153, rfl⟩
  | 154, _ => List.mem_filter.mpr ⟨List.mem_of_getElem? tp_cw154, rfl⟩
  | 155, _ => List.mem_filter.mpr ⟨List.mem_of_getElem? tp_cw155, rfl⟩
  | k + 156, h => absurd h (by show ¬ k + 156 < 156; omega)
end
section
section TPI
variable {p : Program} {l : Launch} {e : Env} {R : Room} {s : State} {m : MethodId} {args : Array Value} {below : List Frame} {meth : Method} {c : Code} {cells slots : Nat} {Q : State → Prop}
variable {D : va_G} {cs : tp_CS} {ad : Nat → Nat} {A : Nat → Prop} {σ0 : tp_St} {mid : Nat}
theorem tp_tl_in {K : Nat → Prop} {pc : Nat} {x : Int32} : ∀ (os : List Int) (lo : Int), tp_tl K pc x lo os → ¬ x.toInt < lo → x.toInt < lo + os.length → ∃ off, os[(x.toInt - lo).toNat]? = some off ∧ K ((pc : Int) + off).toNat
  | [], lo, _, h1, h2 => by simp at h2; omega
  | o :: os, lo, h, h1, h2 => by
    by_cases hx : x.toInt = lo
    · exact ⟨o, by rw [hx, Int.sub_self]; rfl, h.1 hx⟩
    · obtain ⟨off, g1, g2⟩ := tp_tl_in os (lo + 1) h.2 (by omega) (by simp at h2; omega)
      refine ⟨off, ?_, g2⟩
      rw [show (x.toInt - lo).toNat = (x.toInt - (lo + 1)).toNat + 1 by omega, List.getElem?_cons_succ]
      exact g1
theorem tp_lk_in {K : Nat → Prop} {pc : Nat} {x : Int32} {d : Int} : ∀ (ps : List (Int × Int)), tp_lk K pc x d ps → ∃ off, Op.lookupswitch.offset ps d x.toInt = off ∧ (off = d ∨ ∃ q ∈ ps, off = q.2) ∧ K ((pc : Int) + off).toNat
  | [], h => ⟨d, rfl, Or.inl rfl, h⟩
  | q :: ps, h => by
    by_cases hx : x.toInt = q.1
    · refine ⟨q.2, ?_, Or.inr ⟨q, List.mem_cons_self, rfl⟩, h.1 hx⟩
      obtain ⟨q1, q2⟩ := q
      rw [Op.lookupswitch.offset_cons, if_pos]
      exact hx.symm
    · obtain ⟨off, g1, g2, g3⟩ := tp_lk_in ps (h.2 hx)
      refine ⟨off, ?_, ?_, g3⟩
      · obtain ⟨q1, q2⟩ := q
        rw [Op.lookupswitch.offset_cons, if_neg]
        · exact g1
        · exact fun z => hx z.symm
      · rcases g2 with g2 | ⟨q', g2, g4⟩
        · exact Or.inl g2
        · exact Or.inr ⟨q', List.mem_cons_of_mem _ g2, g4⟩
theorem tp_kd_big {q k : Nat} (h : tp_kd q = k) (hk : k < 99) : q < 101 := by
  by_cases hq : q < 101
  · exact hq
  · have h2 : tp_kd q = 99 := by
      unfold tp_kd
      rw [List.getD_eq_getElem?_getD, List.getElem?_eq_none (by show 101 ≤ q; omega)]
      rfl
    omega
theorem tp_kd_26 {q : Nat} (h : tp_kd q = 26) : q = 90 := (by decide +kernel : ∀ q, q < 101 → tp_kd q = 26 → q = 90) q (tp_kd_big h (by decide)) h
theorem tp_kd_29 {q : Nat} (h : tp_kd q = 29) : ∃ i, i < 3 ∧ q = 97 + i := by
  have := (by decide +kernel : ∀ q, q < 101 → tp_kd q = 29 → 97 ≤ q ∧ q < 100) q (tp_kd_big h (by decide)) h
  exact ⟨q - 97, by omega, by omega⟩
theorem tp_kd_28 {q : Nat} (h : tp_kd q = 28) : ∃ i, i < 3 ∧ q = 94 + i := by
  have := (by decide +kernel : ∀ q, q < 101 → tp_kd q = 28 → 94 ≤ q ∧ q < 97) q (tp_kd_big h (by decide)) h
  exact ⟨q - 94, by omega, by omega⟩
theorem tp_good {w : Cond} (h : w ∈ tp_gt) : w ∈ tp_gt ∧ ((w.onTables && w.keeps) = true ∨ ∃ ty, w = .arrayClass ty) := ⟨h, good_of_word (List.mem_filter.mp h).2⟩
theorem tp_goodW {a : Nat} (ha : a < tp_law) : GoodIn tp_gt (tp_wl a) := fun w hw => by
  rcases List.mem_cons.mp hw with rfl | hw
  · exact tp_good (tp_cwA a ha)
  · exact tp_good hw
theorem tp_goodV {a : Nat} {own : String} {k : Nat} (ha : a < tp_law) (h1 : Cond.instanceMethod (tp_y a) ∈ tp_gt) (h2 : Cond.selects (tp_y a).cls (tp_y a) (tp_y a) ∈ tp_gt) (h3 : Cond.initialized (tp_y a).cls ∈ tp_gt) (h4 : Cond.methodLink own k (tp_y a) ∈ tp_gt) : GoodIn tp_gt (wsV own k (tp_y a).cls (tp_y a) (tp_wl a)) := fun w hw => by
  rcases List.mem_append.mp hw with hw | hw
  · simp only [List.mem_cons, List.not_mem_nil, or_false] at hw
    rcases hw with rfl | rfl | rfl | rfl
    · exact tp_good h4
    · exact tp_good h1
    · exact tp_good h2
    · exact tp_good h3
  · exact tp_goodW ha w hw
theorem tp_goodS {a : Nat} {own : String} {k : Nat} (ha : a < tp_law) (h1 : Cond.static (tp_y a) ∈ tp_gt) (h3 : Cond.initialized (tp_y a).cls ∈ tp_gt) (h4 : Cond.methodLink own k (tp_y a) ∈ tp_gt) : GoodIn tp_gt (va_wsS own k (tp_y a) (tp_wl a)) := fun w hw => by
  rcases List.mem_append.mp hw with hw | hw
  · simp only [List.mem_cons, List.not_mem_nil, or_false] at hw
    rcases hw with rfl | rfl | rfl
    · exact tp_good h4
    · exact tp_good h1
    · exact tp_good h3
  · exact tp_goodW ha w hw
theorem tp_okM_at {a : Nat} (ha : a < tp_law) : tp_okM a = true := List.all_eq_true.mp tp_okMs a (List.mem_range.mpr ha)
theorem tp_okM_v {a : Nat} (ha : a < tp_law) (hk : tp_rk a < 11 ∨ tp_rk a = 28) : Cond.instanceMethod (tp_y a) ∈ tp_gt ∧ Cond.selects (tp_y a).cls (tp_y a) (tp_y a) ∈ tp_gt ∧ (parseMethodDescriptor (tp_y a).desc).map (fun d => d.parameters.length) = some (tp_na a - 1) ∧ 0 < tp_na a ∧ Cond.initialized (tp_y a).cls ∈ tp_gt ∧ ((tp_y a).cls ≠ "java/lang/invoke/MethodHandle" ∧ (tp_y a).cls ≠ "java/lang/invoke/VarHandle") ∧ (tp_y a).cls = tp_cls a ∧ plainName (tp_y a).cls = true ∧ (tp_rk a < 11 → (vwCl[tp_rk a]?).map (fun q => q.1) = some (tp_y a).cls) := by
  have h := tp_okM_at ha
  unfold tp_okM at h
  simp only [Bool.and_eq_true, decide_eq_true_eq] at h
  obtain ⟨h1, h2, h3, h4, h5, h6⟩ := h
  split at h1
  · rename_i hr
    omega
  · simp only [Bool.and_eq_true, decide_eq_true_eq] at h1
    refine ⟨tp_gt_in h1.1, tp_gt_in h1.2.1, h1.2.2.1, h1.2.2.2, tp_gt_in h2, h3, h4, h5, fun hr => ?_⟩
    rw [if_pos hr] at h6
    simpa using h6
theorem tp_okM_s {a : Nat} (ha : a < tp_law) (hk : tp_rk a = 50) : Cond.static (tp_y a) ∈ tp_gt ∧ (parseMethodDescriptor (tp_y a).desc).map (fun d => d.parameters.length) = some (tp_na a) ∧ Cond.initialized (tp_y a).cls ∈ tp_gt ∧ ((tp_y a).cls ≠ "java/lang/invoke/MethodHandle" ∧ (tp_y a).cls ≠ "java/lang/invoke/VarHandle") := by
  have h := tp_okM_at ha
  unfold tp_okM at h
  simp only [Bool.and_eq_true, decide_eq_true_eq] at h
  obtain ⟨h1, h2, h3, h4, h5, h6⟩ := h
  split at h1
  · simp only [Bool.and_eq_true, decide_eq_true_eq] at h1
    exact ⟨tp_gt_in h1.1, h1.2, tp_gt_in h2, h3⟩
  · rename_i hr
    exact absurd hk hr
theorem tp_recv {a q : Nat} {σ : tp_St} {H : Heap} {locs : List Loc} (cx : tp_Cx p R s m args c cells slots D cs ad A σ0 mid) (hW : tp_Wd D cs ad A s σ0 σ H locs) (ha : a < tp_law) (hk : tp_rk a < 11 ∨ tp_rk a = 28) (hq : tp_kd q = tp_rk a) : ∃ cell : Cell, H[ad q]? = some cell ∧ cell.vm.isStatics = false ∧ s.vm.findClass (tp_y a).cls = some cell.cls := by
  obtain ⟨hx, hb, hml, hown, hts, hK0, hap, hA, hro, hsc, hrf, hrl, hcl, hsl⟩ := cx
  obtain ⟨hP, hσ, hS⟩ := hW
  obtain ⟨m1, m2, m3, m4, m5, m6, m7, m8, m9⟩ := tp_okM_v ha hk
  rcases hk with hk | hk
  · cases hc : vwCl[tp_rk a]? with
    | none =>
      have := List.getElem?_eq_none_iff.mp hc
      rw [tp_vwcl] at this
      omega
    | some t =>
      have h9 := m9 hk
      rw [hc] at h9
      have h10 : t.1 = (tp_y a).cls := Option.some.inj h9
      rw [← h10]
      have hq82 : q < 82 := tp_kd_lt (by omega)
      exact va_recv hK0 hP (ci := tp_rk a) (q0 := q) hc (by rw [tp_ws_at hq82, tp_cell_cls (by omega), hq])
  · rw [hk] at hq
    obtain ⟨i, hi, rfl⟩ := tp_kd_28 hq
    obtain ⟨g1, g2, g3, g4, g5, g6, g7, g8, g9, g10, g11⟩ := hro
    have e : (tp_y a).cls = "java/lang/String" := tp_str28 a ha hk
    rw [e]
    exact vk_recv (i := i) g7 hi hS
theorem tp_pre {σ : tp_St} {H : Heap} {locs : List Loc} {U : State} (cx : tp_Cx p R s m args c cells slots D cs ad A σ0 mid) (hW : tp_Wd D cs ad A s σ0 σ H locs) (hU : U.heap = H) (hWm : s.WarmedH U.vm) : tp_Pre D cs ad σ H.size U := by
  obtain ⟨hx, hb, hml, hown, hts, hK0, hap, hA, hro, hsc, hrf, hrl, hcl, hsl⟩ := cx
  obtain ⟨hP, hσ, hS⟩ := hW
  refine ⟨by rw [hU], by rw [hU]; exact hP, va_K.moved hWm.alike hK0, hap.1, ?_⟩
  refine hro.go hWm.alike (fun _ _ _ _ z => z.warm hWm) (fun z => va_Nw.warmM hWm z) (fun q h1 h2 => by rw [hU]; exact hS.2.1 q h1 h2) (fun q hq => ?_) hσ
  rcases tp_A_iff.mp hq with ⟨i, hi, rfl⟩ | hq
  · exact hap.2 i hi
  · exact hA q (Nat.le_trans hS.1 hq)
theorem tp_after {a pc : Nat} {av : Array Value} {σ : tp_St} {H : Heap} {locs : List Loc} {ls : Array Slot} {st0 rest L : List Value} {post : Int32 → tp_St → Prop}
    (hr : va_Run p l e R s m args below meth c H locs cells slots 0 0 (F0 m pc ls st0) (rest.map (tp_v ad)) (tp_Qc D cs ad σ H.size (tp_ret a) post av) (va_A (tp_ws cs ad σ) H.size)) (hap : tp_ap ad A) (hA : ∀ q, s.heap.size ≤ q → A q)
    (hW : tp_Wd D cs ad A s σ0 σ H locs) (hl : tp_lv ad ls (tp_n mid) L) (kk : ∀ r σ', post r σ' → tp_G p l e R s m args below meth c cells slots Q D cs ad A σ0 (tp_n mid) (pc + 3) L (tp_push a r rest) σ') :
    W p l e R s m args below meth c H locs cells slots Q (F0 m pc ls st0) := by
  obtain ⟨hP, hσ, hS⟩ := hW
  have hAA : ∀ q, va_A (tp_ws cs ad σ) H.size q → A q := fun q hq => by
    rcases tp_A_iff.mp hq with ⟨i, hi, rfl⟩ | hq
    · exact hap.2 i hi
    · exact hA q (Nat.le_trans hS.1 hq)
  unfold tp_Qc at hr
  unfold tp_push at kk
  cases hret : tp_ret a with
  | none =>
    rw [hret] at hr kk
    exact va_callv hr hS (fun q _ h => hAA q h) hAA (fun u t H1 locs1 ht hvm hw hB hz1 hk1 hS1 => kk 0 u hw H1 locs1 ls ⟨by rw [← ht]; exact hB.1, fun o ho => (hB.2 o ho).trans (hσ o ho), hS1⟩ hl)
  | some t0 =>
    rw [hret] at hr kk
    exact va_calli hr hS (fun q _ h => hAA q h) hAA (fun r u t H1 locs1 ht hvm hw hB hz1 hk1 hS1 => kk r u hw H1 locs1 ls ⟨by rw [← ht]; exact hB.1, fun o ho => (hB.2 o ho).trans (hσ o ho), hS1⟩ hl)
set_option maxHeartbeats 4000000 in
theorem tp_snI {K : tp_KT} {C : tp_CT} {post : Int32 → tp_St → Prop} {nx : List Value → List Value → tp_St → Prop} {x : tp_Ins} {pc : Nat} {L st : List Value} {σ : tp_St}
    (cx : tp_Cx p R s m args c cells slots D cs ad A σ0 mid) (hok : tp_ok mid pc x = true) (h : tp_I mid K C post nx x pc L st σ)
    (hnx : ∀ L st σ, nx L st σ → tp_G p l e R s m args below meth c cells slots Q D cs ad A σ0 (tp_n mid) (pc + x.2.1) L st σ)
    (hK : ∀ t L st σ, K t L st σ → tp_G p l e R s m args below meth c cells slots Q D cs ad A σ0 (tp_n mid) t L st σ)
    (hC : ∀ a av σ p', a < tp_law → (tp_ent1 av).length ≤ tp_n a → C a av σ p' → tp_MO l D cs ad a av σ p')
    (hRi : ∀ pc v t σ' H locs ls, tp_ret mid = some t → decode (tp_cc mid) pc = .ok (.ireturn, 1) → narrow t (.int v) = .int v → post v σ' → tp_Wd D cs ad A s σ0 σ' H locs → W p l e R s m args below meth c H locs cells slots Q (F0 m pc ls [.int v]))
    (hRv : ∀ pc σ' H locs ls, tp_ret mid = none → decode (tp_cc mid) pc = .ok (.return_, 1) → post 0 σ' → tp_Wd D cs ad A s σ0 σ' H locs → W p l e R s m args below meth c H locs cells slots Q (F0 m pc ls [])) :
    tp_G p l e R s m args below meth c cells slots Q D cs ad A σ0 (tp_n mid) pc L st σ := by
  obtain ⟨i, n, v, a, b, w⟩ := x
  obtain ⟨hx, hb, hml, hown, hts, hK0, hap, hA, hro, hsc, hrf, hrl, hcl, hsl⟩ := id cx
  simp only [tp_ok, Bool.and_eq_true, decide_eq_true_eq] at hok
  obtain ⟨hdg, hok⟩ := hok
  intro H locs ls hW hl
  obtain ⟨hP, hσ, hS⟩ := id hW
  cases i
  all_goals try exact False.elim h
  case iload_n k =>
    have hn : n = 1 := by simpa [tp_ok2] using hok
    subst hn
    obtain ⟨z, hz, h⟩ := tp_gi_e (L := L) (k := k.val) h
    exact lv_iload_n hx hb hdg rfl (tp_lv_get hl hz rfl) (hnx _ _ _ h H locs ls hW hl)
  case iload k =>
    have hn : n = 2 := by simpa [tp_ok2] using hok
    subst hn
    obtain ⟨z, hz, h⟩ := tp_gi_e (L := L) (k := k) h
    exact lv_iload hx hb hdg (tp_lv_get hl hz rfl) (hnx _ _ _ h H locs ls hW hl)
  case lload_n k =>
    have hn : n = 1 := by simpa [tp_ok2] using hok
    subst hn
    obtain ⟨z, hz, h⟩ := tp_gl_e (L := L) (k := k.val) h
    exact lv_lload_n hx hb hdg rfl (tp_lv_get hl hz rfl) (hnx _ _ _ h H locs ls hW hl)
  case lload k =>
    have hn : n = 2 := by simpa [tp_ok2] using hok
    subst hn
    obtain ⟨z, hz, h⟩ := tp_gl_e (L := L) (k := k) h
    exact lv_lload hx hb hdg (tp_lv_get hl hz rfl) (hnx _ _ _ h H locs ls hW hl)
  case aload_n k =>
    have hn : n = 1 := by simpa [tp_ok2] using hok
    subst hn
    obtain ⟨z, hz, h⟩ := tp_gr_e (L := L) (k := k.val) h
    exact lv_aload_n hx hb hdg rfl (tp_lv_get hl hz rfl) (hnx _ _ _ h H locs ls hW hl)
  case aload k =>
    have hn : n = 2 := by simpa [tp_ok2] using hok
    subst hn
    obtain ⟨z, hz, h⟩ := tp_gr_e (L := L) (k := k) h
    exact lv_aload hx hb hdg (tp_lv_get hl hz rfl) (hnx _ _ _ h H locs ls hW hl)
  case iconst k =>
    simp only [tp_ok2, Bool.and_eq_true, beq_iff_eq, decide_eq_true_eq] at hok
    obtain ⟨hn, hok⟩ := hok
    subst hn
    exact lv_iconst hx hb hdg hok (hnx _ _ _ h H locs ls hW hl)
  case bipush k =>
    simp only [tp_ok2, Bool.and_eq_true, beq_iff_eq, decide_eq_true_eq] at hok
    obtain ⟨hn, hok⟩ := hok
    subst hn
    exact lv_bipush hx hb hdg hok (hnx _ _ _ h H locs ls hW hl)
  case sipush k =>
    simp only [tp_ok2, Bool.and_eq_true, beq_iff_eq, decide_eq_true_eq] at hok
    obtain ⟨hn, hok⟩ := hok
    subst hn
    exact lv_sipush hx hb hdg hok (hnx _ _ _ h H locs ls hW hl)
  case lconst k =>
    have hn : n = 1 := by simpa [tp_ok2] using hok
    subst hn
    exact lv_lconst hx hb hdg rfl (hnx _ _ _ h H locs ls hW hl)
  case ldc2_w k =>
    simp only [tp_ok2, Bool.and_eq_true, beq_iff_eq, decide_eq_true_eq] at hok
    obtain ⟨hn, hok⟩ := hok
    subst hn
    exact lv_ldc2 hx hb hown (hts _ (tp_gt_in hok)) hdg (hnx _ _ _ h H locs ls hW hl)
  case ldc k =>
    simp only [tp_ok2, Bool.and_eq_true, beq_iff_eq] at hok
    obtain ⟨hn, hok⟩ := hok
    subst hn
    cases a with
    | zero => exact lv_ldc hx hb hown (hts _ (tp_gt_in hok)) hdg (hnx _ _ _ h H locs ls hW hl)
    | succ a =>
      have hok : (decide (93 < a + 1 ∧ a + 1 < 97) && decide (tp_sk[a + 1 - 94]? = some (tp_cls mid, k, (tp_sk.getD (a + 1 - 94) ("", 0, "")).2.2))) = true := hok
      simp only [Bool.and_eq_true, decide_eq_true_eq] at hok
      obtain ⟨⟨h1, h2⟩, h3⟩ := hok
      obtain ⟨g1, g2, g3, g4, g5, g6, g7, g8, g9, g10, g11⟩ := hro
      have h : nx L (.ref (a + 1) :: st) σ := h
      have key : ∀ (tx : String), vk_R (tp_cls mid) k tx (ad (a + 1)) s → W p l e R s m args below meth c H locs cells slots Q (F0 m pc ls (st.map (tp_v ad))) := fun tx hk => va_ldcS hx hb hown hk hdg (hnx _ _ _ h H locs ls hW hl)
      rcases (show a + 1 = 94 ∨ a + 1 = 95 ∨ a + 1 = 96 by omega) with q | q | q
      · rw [q] at h3 key
        simp [tp_sk] at h3
        refine key "fare" ?_
        rw [← h3.1, ← h3.2]
        exact g8
      · rw [q] at h3 key
        simp [tp_sk] at h3
        refine key "work" ?_
        rw [← h3.1, ← h3.2]
        exact g9
      · rw [q] at h3 key
        simp [tp_sk] at h3
        refine key "change" ?_
        rw [← h3.1, ← h3.2]
        exact g10
  case istore_n k =>
    have hn : n = 1 := by simpa [tp_ok2] using hok
    subst hn
    obtain ⟨z, r, rfl, h⟩ := tp_i1_e (st := st) h
    obtain ⟨h1, h⟩ := tp_chk_e h
    exact lv_istore_n hx hb hdg rfl hl.1 (by have := tp_ok1_lt h1; have := hl.2; omega) rfl (fun ls' hl' => hnx _ _ _ h H locs ls' hW (tp_lv_set1 (v := .int z) hl h1 hl'))
  case istore k =>
    have hn : n = 2 := by simpa [tp_ok2] using hok
    subst hn
    obtain ⟨z, r, rfl, h⟩ := tp_i1_e (st := st) h
    obtain ⟨h1, h⟩ := tp_chk_e h
    exact lv_istore hx hb hdg hl.1 (by have := tp_ok1_lt h1; have := hl.2; omega) rfl (fun ls' hl' => hnx _ _ _ h H locs ls' hW (tp_lv_set1 (v := .int z) hl h1 hl'))
  case astore_n k =>
    have hn : n = 1 := by simpa [tp_ok2] using hok
    subst hn
    obtain ⟨z, r, rfl, h⟩ := tp_r1_e (st := st) h
    obtain ⟨h1, h⟩ := tp_chk_e h
    exact lv_astore_n hx hb hdg rfl hl.1 (by have := tp_ok1_lt h1; have := hl.2; omega) rfl (fun ls' hl' => hnx _ _ _ h H locs ls' hW (tp_lv_set1 (v := .ref z) hl h1 hl'))
  case astore k =>
    have hn : n = 2 := by simpa [tp_ok2] using hok
    subst hn
    obtain ⟨z, r, rfl, h⟩ := tp_r1_e (st := st) h
    obtain ⟨h1, h⟩ := tp_chk_e h
    exact lv_astore hx hb hdg hl.1 (by have := tp_ok1_lt h1; have := hl.2; omega) rfl (fun ls' hl' => hnx _ _ _ h H locs ls' hW (tp_lv_set1 (v := .ref z) hl h1 hl'))
  case lstore k =>
    have hn : n = 2 := by simpa [tp_ok2] using hok
    subst hn
    obtain ⟨z, r, rfl, h⟩ := tp_l1_e (st := st) h
    obtain ⟨h1, h⟩ := tp_chk_e h
    simp only [Bool.and_eq_true, decide_eq_true_eq] at h1
    exact lv_lstore hx hb hdg hl.1 (by have := h1.2; have := hl.2; omega) rfl (fun ls' hl' => hnx _ _ _ h H locs ls' hW (tp_lv_set2 hl h1.1 hl'))
  case iinc k q =>
    simp only [tp_ok2, Bool.and_eq_true, beq_iff_eq, decide_eq_true_eq] at hok
    obtain ⟨hn, hok⟩ := hok
    subst hn
    obtain ⟨z, hz, h⟩ := tp_gi_e (L := L) (k := k) h
    obtain ⟨h1, h⟩ := tp_chk_e h
    have hmem : (k, Value.int z) ∈ tp_al ad L := tp_al_mem.mpr ⟨.int z, hz, rfl, rfl⟩
    obtain ⟨j, hj⟩ := List.getElem?_of_mem hmem
    refine lv_iinc (v := z + v) hx hb hdg hl.1 hj (by rw [hok]) (by have := tp_ok1_lt h1; have := hl.2; omega) rfl (fun ls' hl' => hnx _ _ _ h H locs ls' hW (tp_lv_set1 (v := .int (z + v)) hl h1 hl'))
  case iadd =>
    have hn : n = 1 := by simpa [tp_ok2] using hok
    subst hn
    obtain ⟨z1, z2, r, rfl, h⟩ := tp_i2_e (st := st) h
    exact lv_iadd hx hb hdg (hnx _ _ _ h H locs ls hW hl)
  case isub =>
    have hn : n = 1 := by simpa [tp_ok2] using hok
    subst hn
    obtain ⟨z1, z2, r, rfl, h⟩ := tp_i2_e (st := st) h
    exact lv_isub hx hb hdg (hnx _ _ _ h H locs ls hW hl)
  case imul =>
    have hn : n = 1 := by simpa [tp_ok2] using hok
    subst hn
    obtain ⟨z1, z2, r, rfl, h⟩ := tp_i2_e (st := st) h
    exact lv_imul hx hb hdg (hnx _ _ _ h H locs ls hW hl)
  case iand =>
    have hn : n = 1 := by simpa [tp_ok2] using hok
    subst hn
    obtain ⟨z1, z2, r, rfl, h⟩ := tp_i2_e (st := st) h
    exact lv_iand hx hb hdg (hnx _ _ _ h H locs ls hW hl)
  case ior =>
    have hn : n = 1 := by simpa [tp_ok2] using hok
    subst hn
    obtain ⟨z1, z2, r, rfl, h⟩ := tp_i2_e (st := st) h
    exact lv_ior hx hb hdg (hnx _ _ _ h H locs ls hW hl)
  case ishl =>
    have hn : n = 1 := by simpa [tp_ok2] using hok
    subst hn
    obtain ⟨z1, z2, r, rfl, h⟩ := tp_i2_e (st := st) h
    exact lv_ishl hx hb hdg (hnx _ _ _ h H locs ls hW hl)
  case ishr =>
    have hn : n = 1 := by simpa [tp_ok2] using hok
    subst hn
    obtain ⟨z1, z2, r, rfl, h⟩ := tp_i2_e (st := st) h
    exact lv_ishr hx hb hdg (hnx _ _ _ h H locs ls hW hl)
  case idiv =>
    have hn : n = 1 := by simpa [tp_ok2] using hok
    subst hn
    obtain ⟨z1, z2, r, rfl, h1, h⟩ := tp_i2_e (st := st) h
    exact lv_idiv hx hb hdg h1 (hnx _ _ _ h H locs ls hW hl)
  case i2l =>
    have hn : n = 1 := by simpa [tp_ok2] using hok
    subst hn
    obtain ⟨z1, r, rfl, h⟩ := tp_i1_e (st := st) h
    exact lv_i2l hx hb hdg rfl (hnx _ _ _ h H locs ls hW hl)
  case i2b =>
    have hn : n = 1 := by simpa [tp_ok2] using hok
    subst hn
    obtain ⟨z1, r, rfl, h⟩ := tp_i1_e (st := st) h
    exact lv_i2b hx hb hdg rfl (hnx _ _ _ h H locs ls hW hl)
  case i2s =>
    have hn : n = 1 := by simpa [tp_ok2] using hok
    subst hn
    obtain ⟨z1, r, rfl, h⟩ := tp_i1_e (st := st) h
    exact lv_i2s hx hb hdg rfl (hnx _ _ _ h H locs ls hW hl)
  case i2c =>
    have hn : n = 1 := by simpa [tp_ok2] using hok
    subst hn
    obtain ⟨z1, r, rfl, h⟩ := tp_i1_e (st := st) h
    exact lv_i2c hx hb hdg rfl (hnx _ _ _ h H locs ls hW hl)
  case l2i =>
    have hn : n = 1 := by simpa [tp_ok2] using hok
    subst hn
    obtain ⟨z1, r, rfl, h⟩ := tp_l1_e (st := st) h
    exact lv_l2i hx hb hdg rfl (hnx _ _ _ h H locs ls hW hl)
  case ladd =>
    have hn : n = 1 := by simpa [tp_ok2] using hok
    subst hn
    obtain ⟨z1, z2, r, rfl, h⟩ := tp_l2_e (st := st) h
    exact lv_ladd hx hb hdg (hnx _ _ _ h H locs ls hW hl)
  case land =>
    have hn : n = 1 := by simpa [tp_ok2] using hok
    subst hn
    obtain ⟨z1, z2, r, rfl, h⟩ := tp_l2_e (st := st) h
    exact lv_land hx hb hdg (hnx _ _ _ h H locs ls hW hl)
  case lor =>
    have hn : n = 1 := by simpa [tp_ok2] using hok
    subst hn
    obtain ⟨z1, z2, r, rfl, h⟩ := tp_l2_e (st := st) h
    exact lv_lor hx hb hdg (hnx _ _ _ h H locs ls hW hl)
  case lcmp =>
    have hn : n = 1 := by simpa [tp_ok2] using hok
    subst hn
    obtain ⟨z1, z2, r, rfl, h⟩ := tp_l2_e (st := st) h
    exact W.lcmp hx hb hdg (hnx _ _ _ h H locs ls hW hl)
  case lshl =>
    have hn : n = 1 := by simpa [tp_ok2] using hok
    subst hn
    obtain ⟨z1, z2, r, rfl, h⟩ := tp_il_e (st := st) h
    exact lv_lshl hx hb hdg rfl (hnx _ _ _ h H locs ls hW hl)
  case lshr =>
    have hn : n = 1 := by simpa [tp_ok2] using hok
    subst hn
    obtain ⟨z1, z2, r, rfl, h⟩ := tp_il_e (st := st) h
    exact lv_lshr hx hb hdg rfl (hnx _ _ _ h H locs ls hW hl)
  case lushr =>
    have hn : n = 1 := by simpa [tp_ok2] using hok
    subst hn
    obtain ⟨z1, z2, r, rfl, h⟩ := tp_il_e (st := st) h
    exact lv_lushr hx hb hdg rfl (hnx _ _ _ h H locs ls hW hl)
  case dup =>
    have hn : n = 1 := by simpa [tp_ok2] using hok
    subst hn
    obtain ⟨z1, r, rfl, h1, h⟩ := tp_a1_e (st := st) h
    exact lv_dup hx hb hdg (tp_v_cat.trans h1) (hnx _ _ _ h H locs ls hW hl)
  case pop =>
    have hn : n = 1 := by simpa [tp_ok2] using hok
    subst hn
    obtain ⟨z1, r, rfl, h1, h⟩ := tp_a1_e (st := st) h
    exact lv_pop hx hb hdg (tp_v_cat.trans h1) (hnx _ _ _ h H locs ls hW hl)
  case dup_x1 =>
    have hn : n = 1 := by simpa [tp_ok2] using hok
    subst hn
    obtain ⟨z1, z2, r, rfl, h1, h2, h⟩ := tp_a2_e (st := st) h
    exact lv_dup_x1 hx hb hdg (tp_v_cat.trans h1) (tp_v_cat.trans h2) (hnx _ _ _ h H locs ls hW hl)
  case dup2 =>
    have hn : n = 1 := by simpa [tp_ok2] using hok
    subst hn
    obtain ⟨z1, z2, r, rfl, h1, h2, h⟩ := tp_a2_e (st := st) h
    exact lv_dup2_11 hx hb hdg (tp_v_cat.trans h1) (tp_v_cat.trans h2) (hnx _ _ _ h H locs ls hW hl)
  case dup_x2 =>
    have hn : n = 1 := by simpa [tp_ok2] using hok
    subst hn
    obtain ⟨z1, z2, z3, r, rfl, h1, h2, h3, h⟩ := tp_a3_e (st := st) h
    exact lv_dup_x2 hx hb hdg (tp_v_cat.trans h1) (tp_v_cat.trans h2) (tp_v_cat.trans h3) (hnx _ _ _ h H locs ls hW hl)
  case ifCond cd off =>
    simp only [tp_ok2, Bool.and_eq_true, beq_iff_eq, decide_eq_true_eq] at hok
    obtain ⟨hn, hok⟩ := hok
    subst hn
    cases cd
    case eq =>
      obtain ⟨z1, r, rfl, h1, h2⟩ := tp_i1_e (st := st) h
      exact lv_if_eq hx hb hdg hok (fun q => hK _ _ _ _ (h1 q) H locs ls hW hl) (fun q => hnx _ _ _ (h2 q) H locs ls hW hl)
    case ne =>
      obtain ⟨z1, r, rfl, h1, h2⟩ := tp_i1_e (st := st) h
      exact lv_if_ne hx hb hdg hok (fun q => hK _ _ _ _ (h2 q) H locs ls hW hl) (fun q => hnx _ _ _ (h1 q) H locs ls hW hl)
    case lt =>
      obtain ⟨z1, r, rfl, h1, h2⟩ := tp_i1_e (st := st) h
      exact lv_if_lt hx hb hdg hok (fun q => hK _ _ _ _ (h1 q) H locs ls hW hl) (fun q => hnx _ _ _ (h2 q) H locs ls hW hl)
    case ge =>
      obtain ⟨z1, r, rfl, h1, h2⟩ := tp_i1_e (st := st) h
      exact lv_if_ge hx hb hdg hok (fun q => hK _ _ _ _ (h1 q) H locs ls hW hl) (fun q => hnx _ _ _ (h2 q) H locs ls hW hl)
    case gt =>
      obtain ⟨z1, r, rfl, h1, h2⟩ := tp_i1_e (st := st) h
      exact lv_if_gt hx hb hdg hok (fun q => hK _ _ _ _ (h1 q) H locs ls hW hl) (fun q => hnx _ _ _ (h2 q) H locs ls hW hl)
    case le =>
      obtain ⟨z1, r, rfl, h1, h2⟩ := tp_i1_e (st := st) h
      exact lv_if_le hx hb hdg hok (fun q => hK _ _ _ _ (h1 q) H locs ls hW hl) (fun q => hnx _ _ _ (h2 q) H locs ls hW hl)
  case if_icmp cd off =>
    simp only [tp_ok2, Bool.and_eq_true, beq_iff_eq, decide_eq_true_eq] at hok
    obtain ⟨hn, hok⟩ := hok
    subst hn
    cases cd
    case eq =>
      obtain ⟨z1, z2, r, rfl, h1, h2⟩ := tp_i2_e (st := st) h
      exact lv_icmp_eq hx hb hdg hok (fun q => hK _ _ _ _ (h1 q) H locs ls hW hl) (fun q => hnx _ _ _ (h2 q) H locs ls hW hl)
    case ne =>
      obtain ⟨z1, z2, r, rfl, h1, h2⟩ := tp_i2_e (st := st) h
      exact lv_icmp_ne hx hb hdg hok (fun q => hK _ _ _ _ (h2 q) H locs ls hW hl) (fun q => hnx _ _ _ (h1 q) H locs ls hW hl)
    case lt =>
      obtain ⟨z1, z2, r, rfl, h1, h2⟩ := tp_i2_e (st := st) h
      exact lv_icmp_lt hx hb hdg hok (fun q => hK _ _ _ _ (h1 q) H locs ls hW hl) (fun q => hnx _ _ _ (h2 q) H locs ls hW hl)
    case ge =>
      obtain ⟨z1, z2, r, rfl, h1, h2⟩ := tp_i2_e (st := st) h
      exact lv_icmp_ge hx hb hdg hok (fun q => hK _ _ _ _ (h1 q) H locs ls hW hl) (fun q => hnx _ _ _ (h2 q) H locs ls hW hl)
    case gt =>
      obtain ⟨z1, z2, r, rfl, h1, h2⟩ := tp_i2_e (st := st) h
      exact lv_icmp_gt hx hb hdg hok (fun q => hK _ _ _ _ (h1 q) H locs ls hW hl) (fun q => hnx _ _ _ (h2 q) H locs ls hW hl)
    case le =>
      obtain ⟨z1, z2, r, rfl, h1, h2⟩ := tp_i2_e (st := st) h
      exact lv_icmp_le hx hb hdg hok (fun q => hK _ _ _ _ (h1 q) H locs ls hW hl) (fun q => hnx _ _ _ (h2 q) H locs ls hW hl)
  case goto off =>
    simp only [tp_ok2, Bool.and_eq_true, beq_iff_eq, decide_eq_true_eq] at hok
    obtain ⟨hn, hok⟩ := hok
    subst hn
    exact lv_goto hx hb hdg hok (hK _ _ _ _ h H locs ls hW hl)
  case tableswitch d lo hi os =>
    simp only [tp_ok2, Bool.and_eq_true, List.all_eq_true, decide_eq_true_eq] at hok
    obtain ⟨h0, h1, h2, h3⟩ := hok
    obtain ⟨z, r, rfl, h4, h5⟩ := tp_i1_e (st := st) h
    by_cases hz : z.toInt < lo ∨ hi < z.toInt
    · exact lv_tableOut hx hb hdg hz (tgt := ((pc : Int) + d).toNat) (by omega) (hK _ _ _ _ (h4 hz) H locs ls hW hl)
    · obtain ⟨off, g1, g2⟩ := tp_tl_in os.toList lo h5 (fun q => hz (Or.inl q)) (by rw [Array.length_toList]; omega)
      have g3 := h1 off (List.mem_of_getElem? g1)
      exact lv_tableIn hx hb hdg (fun q => hz (Or.inl q)) (fun q => hz (Or.inr q)) (off := off) (tgt := ((pc : Int) + off).toNat) (by rw [← Array.getElem?_toList]; exact g1) (by omega) (hK _ _ _ _ g2 H locs ls hW hl)
  case lookupswitch d ps =>
    simp only [tp_ok2, Bool.and_eq_true, List.all_eq_true (l := ps.toList), decide_eq_true_eq] at hok
    obtain ⟨h0, h1, h2⟩ := hok
    obtain ⟨z, r, rfl, h4⟩ := tp_i1_e (st := st) h
    obtain ⟨off, g1, g2, g3⟩ := tp_lk_in ps.toList h4
    have g4 : 0 ≤ (pc : Int) + off := by
      rcases g2 with g2 | ⟨q, g2, g5⟩
      · rw [g2]; exact h0
      · rw [g5]; exact h1 q g2
    exact lv_lookup hx hb hdg h2 g1 (tgt := ((pc : Int) + off).toNat) (by omega) (hK _ _ _ _ g3 H locs ls hW hl)
  case getfield k =>
    simp only [tp_ok2, Bool.and_eq_true, beq_iff_eq] at hok
    obtain ⟨hn, hok⟩ := hok
    subst hn
    obtain ⟨q, r, rfl, h⟩ := tp_r1_e (st := st) h
    obtain ⟨h1, h⟩ := tp_chk_e h
    have h1 : tp_kd q = a := by simpa using h1
    by_cases ha : a = 28
    · subst ha
      have hq := tp_kd_28 h1
      obtain ⟨j, hj, rfl⟩ := hq
      obtain ⟨g1, g2, g3, g4, g5, g6, g7, g8, g9, g10, g11⟩ := hro
      obtain ⟨e1, e2, e3, e4⟩ := g7.1 j hj
      cases b with
      | zero =>
        have hr : tp_rr σ (94 + j) 0 = 97 + j := by
          rcases (show j = 0 ∨ j = 1 ∨ j = 2 by omega) with rfl | rfl | rfl <;> rfl
        have h : nx L (.ref (tp_rr σ (94 + j) 0) :: r) σ := h
        rw [hr] at h
        exact vk_getf hx hb e3 hS hown (hts _ (tp_gt_in hok)) (fun _ z => z) hdg (hnx _ _ _ h H locs ls hW hl)
      | succ b => exact vk_getf hx hb e2 hS hown (hts _ (tp_gt_in hok)) (fun _ z => z) hdg (hnx _ _ _ h H locs ls hW hl)
    · have hok : (match vwCl[a]? with | some q => decide (b < q.2.2) && tp_wd (.fieldLink (tp_cls mid) k (q.2.1 b).1 (q.2.1 b).2.1 (q.2.1 b).2.2.1) w | none => false) = true := by
        revert hok
        split
        · exact absurd rfl ha
        · exact id
      have h : (match tp_isR a b with
          | false => nx L (.int (σ.1 q b) :: r) σ
          | true => match tp_dyn a b with
            | 0 => nx L (.ref (tp_rr σ q b) :: r) σ
            | 1 => tp_two σ.2.1 (fun t => nx L (.ref t :: r) σ)
            | _ => tp_two σ.2.2 (fun t => nx L (.ref t :: r) σ)) := by
        revert h
        dsimp only
        split
        · exact absurd rfl ha
        · exact id
      cases hc : vwCl[a]? with
      | none => rw [hc] at hok; cases hok
      | some t =>
        obtain ⟨Cn, T, N⟩ := t
        rw [hc] at hok
        simp only [Bool.and_eq_true, decide_eq_true_eq] at hok
        obtain ⟨f1, ⟨ty0, f2⟩, f3, f4⟩ := tp_clf a Cn T N hc
        have ha11 : a < 20 := by have := (List.getElem?_eq_some_iff.mp hc).1; rw [tp_vwcl] at this; omega
        have hq82 : q < 82 := tp_kd_lt (by omega)
        have hcell := tp_cell_cls (cs := cs) (ad := ad) (σ := σ) (o := q) (by omega)
        rw [h1] at hcell
        refine va_get hx hb hts f1 hown hK0 hP q (by rw [tp_ws_at hq82, hcell]) hc b hok.1 (hts _ (tp_gt_in hok.2)) (fun _ z => z) (v := tp_fv ad σ q b) (tp_fs_at (by rw [h1, ← f4]; exact hok.1)) hdg ?_
        unfold tp_fv
        rw [h1]
        cases hr : tp_isR a b with
        | false =>
          rw [hr] at h
          exact hnx _ _ _ h H locs ls hW hl
        | true =>
          rw [hr] at h
          have key : ∀ t, tp_two t (fun t => nx L (.ref t :: r) σ) → W p l e R s m args below meth c H locs cells slots Q (F0 m (pc + 3) ls (.ref (ad t) :: r.map (tp_v ad))) := fun t ht => by
            obtain ⟨e1, e2, e3⟩ := ht
            rcases e1 with rfl | rfl
            · exact hnx _ _ _ (e2 rfl) H locs ls hW hl
            · exact hnx _ _ _ (e3 rfl) H locs ls hW hl
          have hd : (tp_dyn a b = 0 ∧ nx L (.ref (tp_rr σ q b) :: r) σ) ∨ (a = 0 ∧ b = 1 ∧ tp_two σ.2.1 (fun t => nx L (.ref t :: r) σ)) ∨ (a = 0 ∧ b = 3 ∧ tp_two σ.2.2 (fun t => nx L (.ref t :: r) σ)) := by
            unfold tp_dyn at h ⊢
            by_cases q0 : a = 0
            · by_cases q1 : b = 1
              · subst q0; subst q1
                exact Or.inr (Or.inl ⟨rfl, rfl, h⟩)
              · by_cases q3 : b = 3
                · subst q0; subst q3
                  exact Or.inr (Or.inr ⟨rfl, rfl, h⟩)
                · simp only [q0, q1, q3, if_true, if_false] at h ⊢
                  exact Or.inl ⟨trivial, h⟩
            · simp only [q0, if_false] at h ⊢
              exact Or.inl ⟨trivial, h⟩
          rcases hd with ⟨-, h⟩ | ⟨rfl, rfl, h⟩ | ⟨rfl, rfl, h⟩
          · exact hnx _ _ _ h H locs ls hW hl
          · obtain rfl := tp_kd_ne q hq82 (by simpa using h1)
            exact key _ h
          · obtain rfl := tp_kd_ne q hq82 (by simpa using h1)
            exact key _ h
  case putfield k =>
    simp only [tp_ok2, Bool.and_eq_true, beq_iff_eq] at hok
    obtain ⟨hn, hok⟩ := hok
    subst hn
    cases hc : vwCl[a]? with
    | none => rw [hc] at hok; cases hok
    | some t =>
      obtain ⟨Cn, T, N⟩ := t
      rw [hc] at hok
      simp only [Bool.and_eq_true, decide_eq_true_eq] at hok
      obtain ⟨k1, k2, k3, k4⟩ := hok
      obtain ⟨f1, ⟨ty0, f2⟩, f3, f4⟩ := tp_clf a Cn T N hc
      have ha11 : a < 20 := by have := (List.getElem?_eq_some_iff.mp hc).1; rw [tp_vwcl] at this; omega
      cases hr : tp_isR a b with
      | false =>
        rw [hr] at k4
        simp only [tp_I, hr] at h
        obtain ⟨q, z, r, rfl, h⟩ := tp_ri_e (st := st) h
        obtain ⟨h1, h⟩ := tp_chk_e h
        have h1 : tp_kd q = a := by simpa using h1
        have hq82 : q < 82 := tp_kd_lt (by omega)
        have hcell := tp_cell_cls (cs := cs) (ad := ad) (σ := σ) (o := q) (by omega)
        rw [h1] at hcell
        refine va_put (D := D) (v := .int z) (ty := .int) hx hb hts f1 ty0 f2 f3 hown hK0 hP (tp_ap_D hap) hS q (by rw [tp_ws_at hq82, hcell]) hc b k1 (hts _ (tp_gt_in k2)) (fun _ z => z) k3 k4 rfl rfl (by rw [tp_fs_len, h1, ← f4]; exact k1) hdg (fun H1 locs1 hP1 hD1 hS1 => ?_)
        refine hnx _ _ _ h H1 locs1 ls ⟨?_, fun o ho => ?_, hS1⟩ hl
        · rw [tp_ws_set (σ' := tp_set σ q b z) hq82 ?_ (fun o' ho' => tp_cell_ne ho')] at hP1
          · exact hP1
          · rw [tp_cell_cls (by omega), h1, tp_fs_set (by rw [h1]; exact hr)]
        · rw [tp_set_big hq82 ho]
          exact hσ o ho
      | true =>
        rw [hr] at k4
        simp only [tp_I, hr] at h
        obtain ⟨q, z, r, rfl, h⟩ := tp_r2_e (st := st) h
        obtain ⟨h1, hpf⟩ := tp_chk_e h
        simp only [Bool.and_eq_true, beq_iff_eq] at h1
        obtain ⟨rfl, h1, rfl⟩ := h1
        have hcell := tp_cell_cls (cs := cs) (ad := ad) (σ := σ) (o := 6) (by decide +kernel)
        refine va_put (D := D) (v := .ref (ad z)) (ty := .object RX1) hx hb hts f1 ty0 f2 f3 hown hK0 hP (tp_ap_D hap) hS 6 (by rw [tp_ws_at (by decide), hcell]; rfl) hc b k1 (hts _ (tp_gt_in k2)) (fun _ z => z) k3 k4 rfl rfl (by rw [tp_fs_len]; exact (f4 ▸ k1 : b < tp_nf 0)) hdg (fun H1 locs1 hP1 hD1 hS1 => ?_)
        rcases tp_pf_e hpf with ⟨rfl, hq⟩ | ⟨rfl, hq⟩
        · refine hnx _ _ _ hq H1 locs1 ls ⟨?_, hσ, hS1⟩ hl
          rw [tp_ws_set (σ' := (σ.1, (z, σ.2.2))) (by decide) ?_ (fun o' ho' => tp_cell_refs ho')] at hP1
          · exact hP1
          · rw [tp_fs_ref1, tp_cell_cls (by decide +kernel)]
            rfl
        · refine hnx _ _ _ hq H1 locs1 ls ⟨?_, hσ, hS1⟩ hl
          rw [tp_ws_set (σ' := (σ.1, (σ.2.1, z))) (by decide) ?_ (fun o' ho' => tp_cell_refs ho')] at hP1
          · exact hP1
          · rw [tp_fs_ref3, tp_cell_cls (by decide +kernel)]
            rfl
  case getstatic k =>
    simp only [tp_ok2, Bool.and_eq_true, beq_iff_eq] at hok
    obtain ⟨hn, hok⟩ := hok
    subst hn
    obtain ⟨g1, g2, g3, g4, g5, g6, g7, g8, g9, g10, g11⟩ := hro
    match b, h, hok with
    | 0, h, hok =>
      simp only [Bool.and_eq_true, decide_eq_true_eq] at hok
      obtain ⟨⟨h1, h2⟩, h3⟩ := hok
      have h : nx L (.ref a :: st) σ := h
      rcases (show a = 91 ∨ a = 92 ∨ a = 93 by omega) with rfl | rfl | rfl
      · exact va_gets hx hb g1 hS hown (hts _ (tp_gt_in h3)) (fun _ z => z) hdg (hnx _ _ _ h H locs ls hW hl)
      · exact va_gets hx hb g2 hS hown (hts _ (tp_gt_in h3)) (fun _ z => z) hdg (hnx _ _ _ h H locs ls hW hl)
      · exact va_gets hx hb g3 hS hown (hts _ (tp_gt_in h3)) (fun _ z => z) hdg (hnx _ _ _ h H locs ls hW hl)
    | 1, h, hok =>
      simp only [Bool.and_eq_true, decide_eq_true_eq] at hok
      obtain ⟨rfl, h3⟩ := hok
      have h : nx L (.int 1 :: st) σ := h
      exact va_gets hx hb g5 hS hown (hts _ (tp_gt_in h3)) (fun _ z => z) hdg (hnx _ _ _ h H locs ls hW hl)
    | b + 2, h, hok =>
      obtain ⟨h1, h2⟩ : nx L (.null :: st) σ ∧ nx L (.ref 100 :: st) σ := h
      rcases g6 with g6 | g6
      · exact va_gets hx hb g6 hS hown (hts _ (tp_gt_in hok)) (fun _ z => z) hdg (hnx _ _ _ h1 H locs ls hW hl)
      · exact va_gets hx hb g6 hS hown (hts _ (tp_gt_in hok)) (fun _ z => z) hdg (hnx _ _ _ h2 H locs ls hW hl)
  case iaload =>
    have hn : n = 1 := by simpa [tp_ok2] using hok
    subst hn
    obtain ⟨q, j, r, rfl, h⟩ := tp_ri_e (st := st) h
    obtain ⟨h1, h2, h⟩ := tp_chk_e h
    simp only [Bool.or_eq_true, Bool.and_eq_true, beq_iff_eq] at h1
    rcases h1 with h1 | h1 | ⟨h1, h3⟩
    · have h2 : vp_in j (tp_ln q) := by simpa [tp_len, h1] using h2
      exact va_iald hx hb hK0 hP q 0 (by rw [tp_ws_at (tp_kd_lt (by omega)), tp_cell_20 h1]) rfl h2 hdg (hnx _ _ _ h H locs ls hW hl)
    · have h2 : vp_in j (tp_ln q) := by simpa [tp_len, h1] using h2
      obtain ⟨g1, g2, g3, g4, g5, g6, g7, g8, g9, g10, g11⟩ := hro
      have hq : 82 ≤ q := by
        by_cases hq : q < 82
        · exact absurd h1 ((by decide +kernel : ∀ o, o < 82 → ¬ tp_kd o = 27) q hq)
        · exact Nat.not_lt.mp hq
      refine va_ti hx hb (g4 q h1) hS h2 (v := .int (σ.1 q j.toNatClampNeg)) (by rw [hσ q hq]) hdg (hnx _ _ _ h H locs ls hW hl)
    · have hq := tp_kd_26 h1
      subst hq
      have h2 : vp_in j (σ0.1 89 0).toNatClampNeg := by
        rw [← hσ 89 (by decide)]
        simpa [tp_len, h1] using h2
      refine va_ti hx hb (hsc h3) hS h2 (v := .int (σ.1 90 j.toNatClampNeg)) (by rw [hσ 90 (by decide)]) hdg (hnx _ _ _ h H locs ls hW hl)
  case baload =>
    have hn : n = 1 := by simpa [tp_ok2] using hok
    subst hn
    obtain ⟨q, j, r, rfl, h⟩ := tp_ri_e (st := st) h
    obtain ⟨h1, h2, h⟩ := tp_chk_e h
    simp only [Bool.or_eq_true, beq_iff_eq] at h1
    rcases h1 with h1 | h1 | h1
    · have h3 := hnx _ _ _ h H locs ls hW hl
      rw [show tp_bv σ q j.toNatClampNeg = σ.1 q j.toNatClampNeg by simp [tp_bv, h1]] at h3
      exact va_bald hx hb hK0 hP q 1 (by rw [tp_ws_at (tp_kd_lt (by omega)), tp_cell_21 h1]) rfl h2 hdg h3
    · have h3 := hnx _ _ _ h H locs ls hW hl
      rw [show tp_bv σ q j.toNatClampNeg = σ.1 q j.toNatClampNeg by simp [tp_bv, h1]] at h3
      exact va_zald hx hb hK0 hP q 2 (by rw [tp_ws_at (tp_kd_lt (by omega)), tp_cell_22 h1]) rfl h2 hdg h3
    · obtain ⟨i, hi, rfl⟩ := tp_kd_29 h1
      obtain ⟨g1, g2, g3, g4, g5, g6, g7, g8, g9, g10, g11⟩ := hro
      obtain ⟨e1, e2, e3, e4⟩ := g7.1 i hi
      have h3 := hnx _ _ _ h H locs ls hW hl
      rw [show tp_bv σ (97 + i) j.toNatClampNeg = (tp_bytes.getD i []).getD j.toNatClampNeg 0 by
        rcases (show i = 0 ∨ i = 1 ∨ i = 2 by omega) with rfl | rfl | rfl <;> rfl] at h3
      refine va_tb hx hb e4 hS ?_ (v := .int ((tp_bytes.getD i []).getD j.toNatClampNeg 0)) rfl hdg h3
      rcases (show i = 0 ∨ i = 1 ∨ i = 2 by omega) with rfl | rfl | rfl <;> exact h2
  case aaload =>
    have hn : n = 1 := by simpa [tp_ok2] using hok
    subst hn
    obtain ⟨q, j, r, rfl, h⟩ := tp_ri_e (st := st) h
    have h : (match tp_kd q with
      | 23 => vp_in j 4 ∧ tp_four j (fun t => nx L (.ref t :: r) σ)
      | _ => tp_chk (tp_kd q == 24) (vp_in j (tp_ln q) ∧ nx L (.ref (tp_rr σ q j.toNatClampNeg) :: r) σ)) := h
    by_cases h1 : tp_kd q = 23
    · rw [h1] at h
      obtain ⟨h2, h3⟩ : vp_in j 4 ∧ tp_four j (fun t => nx L (.ref t :: r) σ) := h
      have hq : q = 5 := (by decide +kernel : ∀ q, q < 82 → tp_kd q = 23 → q = 5) q (tp_kd_lt (by omega)) h1
      subst hq
      refine tp_alda hx hb hK0 hP 5 3 (by rw [tp_ws_at (by decide), tp_cell_23 h1]; rfl) rfl rfl h2 hdg ?_
      obtain ⟨i, hi, rfl⟩ := vp_in_of h2 (by decide)
      rcases (show i = 0 ∨ i = 1 ∨ i = 2 ∨ i = 3 by omega) with rfl | rfl | rfl | rfl
      · exact hnx _ _ _ (h3.1 rfl) H locs ls hW hl
      · exact hnx _ _ _ (h3.2.1 rfl) H locs ls hW hl
      · exact hnx _ _ _ (h3.2.2.1 rfl) H locs ls hW hl
      · exact hnx _ _ _ (h3.2.2.2 rfl) H locs ls hW hl
    · have h : tp_chk (tp_kd q == 24) (vp_in j (tp_ln q) ∧ nx L (.ref (tp_rr σ q j.toNatClampNeg) :: r) σ) := by
        revert h
        split
        · exact absurd ‹_› h1
        · exact id
      obtain ⟨h1, h2, h⟩ := tp_chk_e h
      have h1 : tp_kd q = 24 := by simpa using h1
      exact tp_alda (f := fun j => some (ad (tp_rr σ q j))) hx hb hK0 hP q 4 (by rw [tp_ws_at (tp_kd_lt (by omega)), tp_cell_24 h1]) rfl rfl h2 hdg (hnx _ _ _ h H locs ls hW hl)
  case iastore =>
    have hn : n = 1 := by simpa [tp_ok2] using hok
    subst hn
    obtain ⟨q, j, z, r, rfl, h⟩ := tp_rii_e (st := st) h
    obtain ⟨h1, h2, h⟩ := tp_chk_e h
    have h1 : tp_kd q = 20 := by simpa using h1
    have hq82 : q < 82 := tp_kd_lt (by omega)
    refine va_iast hx hb hK0 hP (tp_ap_D hap) hS q 0 (by rw [tp_ws_at hq82, tp_cell_20 h1]) rfl h2 hdg (fun H1 locs1 hP1 hD1 hS1 => ?_)
    refine hnx _ _ _ h H1 locs1 ls ⟨?_, fun o ho => ?_, hS1⟩ hl
    · rw [tp_ws_set (σ' := tp_set σ q j.toNatClampNeg z) hq82 ?_ (fun o' ho' => tp_cell_ne ho')] at hP1
      · exact hP1
      · rw [tp_cell_20 h1]
        show _ = Sum.inl (_, _, Sum.inl (tp_up _ _ _ _ _))
        rw [tp_up_self]
    · rw [tp_set_big hq82 ho]
      exact hσ o ho
  case bastore =>
    have hn : n = 1 := by simpa [tp_ok2] using hok
    subst hn
    obtain ⟨q, j, z, r, rfl, h⟩ := tp_rii_e (st := st) h
    obtain ⟨h1, h2, h⟩ := tp_chk_e h
    simp only [Bool.or_eq_true, beq_iff_eq] at h1
    have hq82 : q < 82 := tp_kd_lt (by omega)
    have hend : ∀ o, 82 ≤ o → (tp_set σ q j.toNatClampNeg (vp_nar (tp_bt (tp_kd q)) z)).1 o = σ0.1 o := fun o ho => by
      rw [tp_set_big hq82 ho]
      exact hσ o ho
    rcases h1 with h1 | h1
    · refine va_bast hx hb hK0 hP (tp_ap_D hap) hS q 1 (by rw [tp_ws_at hq82, tp_cell_21 h1]) rfl h2 hdg (fun H1 locs1 hP1 hD1 hS1 => ?_)
      refine hnx _ _ _ h H1 locs1 ls ⟨?_, hend, hS1⟩ hl
      rw [tp_ws_set (σ' := tp_set σ q j.toNatClampNeg (vp_nar (tp_bt (tp_kd q)) z)) hq82 ?_ (fun o' ho' => tp_cell_ne ho')] at hP1
      · exact hP1
      · rw [tp_cell_21 h1]
        show _ = Sum.inl (_, _, Sum.inl (tp_up _ _ _ _ _))
        rw [tp_up_self, h1]
        rfl
    · refine va_zast hx hb hK0 hP (tp_ap_D hap) hS q 2 (by rw [tp_ws_at hq82, tp_cell_22 h1]) rfl h2 hdg (fun H1 locs1 hP1 hD1 hS1 => ?_)
      refine hnx _ _ _ h H1 locs1 ls ⟨?_, hend, hS1⟩ hl
      rw [tp_ws_set (σ' := tp_set σ q j.toNatClampNeg (vp_nar (tp_bt (tp_kd q)) z)) hq82 ?_ (fun o' ho' => tp_cell_ne ho')] at hP1
      · exact hP1
      · rw [tp_cell_22 h1]
        show _ = Sum.inl (_, _, Sum.inl (tp_up _ _ _ _ _))
        rw [tp_up_self, h1]
        rfl
  case arraylength =>
    have hn : n = 1 := by simpa [tp_ok2] using hok
    subst hn
    obtain ⟨q, r, rfl, h⟩ := tp_r1_e (st := st) h
    obtain ⟨h1, h⟩ := tp_chk_e h
    simp only [Bool.or_eq_true, Bool.and_eq_true, beq_iff_eq] at h1
    rcases h1 with h1 | ⟨h1, h3⟩
    · obtain ⟨i, hi, rfl⟩ := tp_kd_29 h1
      obtain ⟨g1, g2, g3, g4, g5, g6, g7, g8, g9, g10, g11⟩ := hro
      obtain ⟨e1, e2, e3, e4⟩ := g7.1 i hi
      refine va_tlen hx hb e4 hS ?_ hdg (hnx _ _ _ h H locs ls hW hl)
      rcases (show i = 0 ∨ i = 1 ∨ i = 2 by omega) with rfl | rfl | rfl <;> rfl
    · have hq := tp_kd_26 h1
      subst hq
      refine va_tlen hx hb (hsc h3) hS ?_ hdg (hnx _ _ _ h H locs ls hW hl)
      rw [← hσ 89 (by decide)]
      simp [tp_len, h1]
  case invokevirtual k =>
    simp only [tp_ok2, Bool.and_eq_true, beq_iff_eq, decide_eq_true_eq] at hok
    obtain ⟨hn, hok, hkind, hlink⟩ := hok
    subst hn
    simp only [tp_okc, Bool.and_eq_true, decide_eq_true_eq] at hok
    obtain ⟨haL, hroom1, hroom2⟩ := hok
    obtain ⟨h1, h⟩ := tp_chk_e h
    simp only [Bool.and_eq_true, decide_eq_true_eq] at h1
    obtain ⟨⟨hna, hlen, hsum, hent⟩, hrcv⟩ := h1
    have h : C a (st.take b).reverse σ (fun r σ' => nx L (tp_push a r (st.drop b)) σ') := h
    have hrcv : tp_rcv (st[b - 1]?) (tp_rk a) = true := hrcv
    obtain ⟨q, hq, hkq⟩ := tp_lens hrcv
    obtain ⟨m1, m2, m3, m4, m5, m6, m7, m8, m9⟩ := tp_okM_v haL hkind
    have hb1 : 0 < b := by rw [← hna]; exact m4
    have hst : st.take b = st.take (b - 1) ++ [.ref q] := by
      rw [show st.take b = st.take ((b - 1) + 1) by congr 1; omega, List.take_add_one, hq]
      rfl
    have hMO := hC a _ σ _ haL hent h H.size
    have hav : ((st.take b).reverse.map (tp_v ad)) = .ref (ad q) :: ((st.take (b - 1)).map (tp_v ad)).reverse := by
      rw [hst]
      simp [tp_v, List.map_reverse]
    rw [hav] at hMO
    have hrun := va_runV (e := e) (below := below) (meth := meth) (locs := locs) (cells := cells) (slots := slots) (rest := (st.drop b).map (tp_v ad)) (g := F0 m pc ls (st.map (tp_v ad))) (index := k) ⟨hx, hb, hml, hown, hts⟩ hMO
      (cwV (tp_na a - 1) hts (tp_goodV haL m1 m2 m5 (tp_gt_in hlink)) rfl rfl rfl ⟨rfl, m6.1, m6.2, m3⟩ ⟨Nat.le_trans hroom1 hrf, Nat.le_trans hroom2 hrl⟩)
      ⟨tp_blind, tp_recv cx hW haL hkind hkq, fun U hU hWm => ⟨rfl, tp_pre cx hW hU hWm⟩⟩
      rfl (by rw [List.length_reverse, List.length_map, List.length_take, hna]; omega) hl.1.1 (by
        show st.map (tp_v ad) = _
        rw [List.reverse_reverse]
        conv => lhs; rw [← List.take_append_drop b st, hst]
        simp [tp_v]) (lv_room (by rw [tp_v_cats]; exact hsum)) hdg ⟨hcl, hsl⟩
    exact tp_after hrun hap hA hW hl (fun r σ' hr => hnx _ _ _ hr)
  case invokestatic k =>
    simp only [tp_ok2, Bool.and_eq_true, beq_iff_eq] at hok
    obtain ⟨hn, hok⟩ := hok
    subst hn
    by_cases ha : a = 900
    · subst ha
      simp only [Bool.and_eq_true, decide_eq_true_eq] at hok
      obtain ⟨⟨r1, r2⟩, hlink⟩ := hok
      obtain ⟨z1, z2, r, rfl, h⟩ := tp_i2_e (st := st) h
      obtain ⟨h1, h⟩ := tp_chk_e h
      simp only [decide_eq_true_eq] at h1
      have mm := tp_mathmax
      simp only [Bool.and_eq_true] at mm
      exact va_mmax hx hb (hml.trans hl.1.1.symm) hown (hts _ (tp_gt_in hlink)) (hts _ (tp_gt_in mm.1)) (hts _ (tp_gt_in mm.2.1)) (hts _ (tp_gt_in mm.2.2)) (Nat.le_trans r1 hrf) (by
        have e : ((r.map (tp_v ad)).map fun v => v.category).sum = (r.map fun v => v.category).sum := tp_v_cats
        rw [e]
        omega) hcl hsl hdg (hnx _ _ _ h H locs ls hW hl)
    · by_cases ha2 : a = 901
      · subst ha2
        simp only [Bool.and_eq_true, decide_eq_true_eq] at hok
        obtain ⟨⟨r1, r2⟩, hlink⟩ := hok
        obtain ⟨z1, z2, r, rfl, h⟩ := tp_i2_e (st := st) h
        obtain ⟨h1, h⟩ := tp_chk_e h
        simp only [decide_eq_true_eq] at h1
        have mm := tp_mathmin
        simp only [Bool.and_eq_true] at mm
        exact va_mmin hx hb (hml.trans hl.1.1.symm) hown (hts _ (tp_gt_in hlink)) (hts _ (tp_gt_in mm.1)) (hts _ (tp_gt_in mm.2.1)) (hts _ (tp_gt_in mm.2.2)) (Nat.le_trans r1 hrf) (by
          have e : ((r.map (tp_v ad)).map fun v => v.category).sum = (r.map fun v => v.category).sum := tp_v_cats
          rw [e]
          omega) hcl hsl hdg (hnx _ _ _ h H locs ls hW hl)
      · have hok : (tp_okc mid a && (decide (tp_rk a = 50) && (tp_wd (.methodLink (tp_cls mid) k (tp_y a)) w || decide (Cond.methodLinkNest (tp_cls mid) k (tp_y a) "TramPence" = tp_nest)))) = true := by
          revert hok
          split
          · exact fun _ => absurd rfl ha
          · exact fun _ => absurd rfl ha2
          · exact id
        have h : tp_chk (decide (tp_na a = b ∧ b ≤ st.length ∧ ((st.drop b).map fun v => v.category).sum ≤ 8 ∧ (tp_ent1 (st.take b).reverse).length ≤ tp_n a)) (C a (st.take b).reverse σ (fun r σ' => nx L (tp_push a r (st.drop b)) σ')) := tp_is_e h ha ha2
        simp only [Bool.and_eq_true, decide_eq_true_eq, Bool.or_eq_true, tp_okc] at hok
        obtain ⟨⟨haL, hroom1, hroom2⟩, hkind, hlink⟩ := hok
        obtain ⟨h1, h⟩ := tp_chk_e h
        simp only [decide_eq_true_eq] at h1
        obtain ⟨hna, hlen, hsum, hent⟩ := h1
        obtain ⟨m1, m3, m5, m6⟩ := tp_okM_s haL hkind
        have hMO := hC a _ σ _ haL hent h H.size
        rw [List.map_reverse] at hMO
        have hn1 : ((st.take b).map (tp_v ad)).reverse.length = tp_na a := by rw [List.length_reverse, List.length_map, List.length_take, hna]; omega
        have hst : (F0 m pc ls (st.map (tp_v ad))).stack = ((st.take b).map (tp_v ad)).reverse.reverse ++ (st.drop b).map (tp_v ad) := by
          show st.map (tp_v ad) = _
          rw [List.reverse_reverse, ← List.map_append, List.take_append_drop]
        rcases hlink with hlink | hlink
        · have hrun := va_runS (e := e) (below := below) (meth := meth) (locs := locs) (cells := cells) (slots := slots) (rest := (st.drop b).map (tp_v ad)) (g := F0 m pc ls (st.map (tp_v ad))) (index := k) ⟨hx, hb, hml, hown, hts⟩ hMO
            (va_cwS (tp_na a) hts (tp_goodS haL m1 m5 (tp_gt_in hlink)) rfl rfl rfl ⟨m6.1, m6.2, m3⟩ ⟨Nat.le_trans hroom1 hrf, Nat.le_trans hroom2 hrl⟩)
            ⟨tp_blind, fun U hU hWm => ⟨rfl, tp_pre cx hW hU hWm⟩⟩ rfl hn1 hl.1.1 hst (lv_room (by rw [tp_v_cats]; exact hsum)) hdg ⟨hcl, hsl⟩
          exact tp_after hrun hap hA hW hl (fun r σ' hr => hnx _ _ _ hr)
        · have hnest : va_Nw (.methodLinkNest (tp_cls mid) k (tp_y a) "TramPence") s := by
            obtain ⟨g1, g2, g3, g4, g5, g6, g7, g8, g9, g10, g11⟩ := hro
            rw [hlink]
            exact g11
          have hrun := va_runSN (e := e) (below := below) (meth := meth) (locs := locs) (cells := cells) (slots := slots) (rest := (st.drop b).map (tp_v ad)) (g := F0 m pc ls (st.map (tp_v ad))) (index := k) ⟨hx, hb, hml, hown, hts⟩ hMO
            ⟨va_cnB (tp_na a) hts (tp_goodW haL) rfl rfl rfl hnest (hts _ m5) ⟨m6.1, m6.2, m3⟩ ⟨Nat.le_trans hroom1 hrf, Nat.le_trans hroom2 hrl⟩, hts _ m1, trivial⟩
            ⟨tp_blind, fun U hU hWm => ⟨rfl, tp_pre cx hW hU hWm⟩⟩ rfl hn1 hl.1.1 hst (lv_room (by rw [tp_v_cats]; exact hsum)) hdg ⟨hcl, hsl⟩
          exact tp_after hrun hap hA hW hl (fun r σ' hr => hnx _ _ _ hr)
  case ireturn =>
    have hn : n = 1 := by simpa [tp_ok2] using hok
    subst hn
    simp only [tp_I] at h
    cases hret : tp_ret mid with
    | none => rw [hret] at h; exact h.elim
    | some t =>
      rw [hret] at h
      have h : tp_i1 st (fun v r => tp_chk r.isEmpty (narrow t (.int v) = .int v ∧ post v σ)) := h
      obtain ⟨z, r, rfl, hz⟩ := tp_i1_e h
      obtain ⟨h1, h2, h3⟩ := tp_chk_e hz
      cases r with
      | nil => exact hRi pc z t σ H locs ls hret hdg h2 h3 hW
      | cons y r => cases h1
  case return_ =>
    have hn : n = 1 := by simpa [tp_ok2] using hok
    subst hn
    simp only [tp_I] at h
    cases hret : tp_ret mid with
    | some t => rw [hret] at h; exact h.elim
    | none =>
      rw [hret] at h
      have h : tp_chk st.isEmpty (post 0 σ) := h
      obtain ⟨h1, h2⟩ := tp_chk_e h
      cases st with
      | nil => exact hRv pc σ H locs ls hret hdg h2 hW
      | cons y r => cases h1
end TPI
end
section
theorem tp_okLaw : ∀ k : Nat, ((tp_prg 156)[k]?).all (fun q => tp_okL 156 q.1 q.2) = true
  | 0 => tp_okq0
  | 1 => tp_okq1
  | 2 => tp_okq2
  | 3 => tp_okq3
  | 4 => tp_okq4
  | 5 => tp_okq5
  | 6 => tp_okq6
  | 7 => tp_okq7
  | 8 => tp_okq8
  | 9 => tp_okq9
  | 10 => tp_okq10
  | 11 => tp_okq11
  | 12 => tp_okq12
  | 13 => tp_okq13
  | 14 => tp_okq14
  | 15 => tp_okq15
  | 16 => tp_okq16
  | 17 => tp_okq17
  | 18 => tp_okq18
  | 19 => tp_okq19
  | 20 => tp_okq20
  | 21 => tp_okq21
  | 22 => tp_okq22
  | 23 => tp_okq23
  | 24 => tp_okq24
  | 25 => tp_okq25
  | 26 => tp_okq26
  | 27 => tp_okq27
  | 28 => tp_okq28
  | 29 => tp_okq29
  | 30 => tp_okq30
  | 31 => tp_okq31
  | 32 => tp_okq32
  | 33 => tp_okq33
  | 34 => tp_okq34
  | 35 => tp_okq35
  | 36 => tp_okq36
  | 37 => tp_okq37
  | 38 => tp_okq38
  | 39 => tp_okq39
  | 40 => tp_okq40
  | k + 41 => by
    rw [List.getElem?_eq_none (by show 41 ≤ k + 41; omega)]
    rfl
theorem tp_all_of {α : Type} {f : α → Bool} {l : List α} (h : ∀ k : Nat, (l[k]?).all f = true) : l.all f = true := by
  rw [List.all_eq_true]
  intro x hx
  obtain ⟨k, hk⟩ := List.getElem?_of_mem hx
  have := h k
  rw [hk] at this
  exact this
theorem tp_okAll : ∀ mid : Nat, (tp_prg mid).all (fun q => tp_okL mid q.1 q.2) = true
  | 0 => tp_okp0
  | 1 => tp_okp1
  | 2 => tp_okp2
  | 3 => tp_okp3
  | 4 => tp_okp4
  | 5 => tp_okp5
  | 6 => tp_okp6
  | 7 => tp_okp7
  | 8 => tp_okp8
  | 9 => tp_okp9
  | 10 => tp_okp10
  | 11 => tp_okp11
  | 12 => tp_okp12
  | 13 => tp_okp13
  | 14 => tp_okp14
  | 15 => tp_okp15
  | 16 => tp_okp16
  | 17 => tp_okp17
  | 18 => tp_okp18
  | 19 => tp_okp19
  | 20 => tp_okp20
  | 21 => tp_okp21
  | 22 => tp_okp22
  | 23 => tp_okp23
  | 24 => tp_okp24
  | 25 => tp_okp25
  | 26 => tp_okp26
  | 27 => tp_okp27
  | 28 => tp_okp28
  | 29 => tp_okp29
  | 30 => tp_okp30
  | 31 => tp_okp31
  | 32 => tp_okp32
  | 33 => tp_okp33
  | 34 => tp_okp34
  | 35 => tp_okp35
  | 36 => tp_okp36
  | 37 => tp_okp37
  | 38 => tp_okp38
  | 39 => tp_okp39
  | 40 => tp_okp40
  | 41 => tp_okp41
  | 42 => tp_okp42
  | 43 => tp_okp43
  | 44 => tp_okp44
  | 45 => tp_okp45
  | 46 => tp_okp46
  | 47 => tp_okp47
  | 48 => tp_okp48
  | 49 => tp_okp49
  | 50 => tp_okp50
  | 51 => tp_okp51
  | 52 => tp_okp52
  | 53 => tp_okp53
  | 54 => tp_okp54
  | 55 => tp_okp55
  | 56 => tp_okp56
  | 57 => tp_okp57
  | 58 => tp_okp58
  | 59 => tp_okp59
  | 60 => tp_okp60
  | 61 => tp_okp61
  | 62 => tp_okp62
  | 63 => tp_okp63
  | 64 => tp_okp64
  | 65 => tp_okp65
  | 66 => tp_okp66
  | 67 => tp_okp67
  | 68 => tp_okp68
  | 69 => tp_okp69
  | 70 => tp_okp70
  | 71 => tp_okp71
  | 72 => tp_okp72
  | 73 => tp_okp73
  | 74 => tp_okp74
  | 75 => tp_okp75
  | 76 => tp_okp76
  | 77 => tp_okp77
  | 78 => tp_okp78
  | 79 => tp_okp79
  | 80 => tp_okp80
  | 81 => tp_okp81
  | 82 => tp_okp82
  | 83 => tp_okp83
  | 84 => tp_okp84
  | 85 => tp_okp85
  | 86 => tp_okp86
  | 87 => tp_okp87
  | 88 => tp_okp88
  | 89 => tp_okp89
  | 90 => tp_okp90
  | 91 => tp_okp91
  | 92 => tp_okp92
  | 93 => tp_okp93
  | 94 => tp_okp94
  | 95 => tp_okp95
  | 96 => tp_okp96
  | 97 => tp_okp97
  | 98 => tp_okp98
  | 99 => tp_okp99
  | 100 => tp_okp100
  | 101 => tp_okp101
  | 102 => tp_okp102
  | 103 => tp_okp103
  | 104 => tp_okp104
  | 105 => tp_okp105
  | 106 => tp_okp106
  | 107 => tp_okp107
  | 108 => tp_okp108
  | 109 => tp_okp109
  | 110 => tp_okp110
  | 111 => tp_okp111
  | 112 => tp_okp112
  | 113 => tp_okp113
  | 114 => tp_okp114
  | 115 => tp_okp115
  | 116 => tp_okp116
  | 117 => tp_okp117
  | 118 => tp_okp118
  | 119 => tp_okp119
  | 120 => tp_okp120
  | 121 => tp_okp121
  | 122 => tp_okp122
  | 123 => tp_okp123
  | 124 => tp_okp124
  | 125 => tp_okp125
  | 126 => tp_okp126
  | 127 => tp_okp127
  | 128 => tp_okp128
  | 129 => tp_okp129
  | 130 => tp_okp130
  | 131 => tp_okp131
  | 132 => tp_okp132
  | 133 => tp_okp133
  | 134 => tp_okp134
  | 135 => tp_okp135
  | 136 => tp_okp136
  | 137 => tp_okp137
  | 138 => tp_okp138
  | 139 => tp_okp139
  | 140 => tp_okp140
  | 141 => tp_okp141
  | 142 => tp_okp142
  | 143 => tp_okp143
  | 144 => tp_okp144
  | 145 => tp_okp145
  | 146 => tp_okp146
  | 147 => tp_okp147
  | 148 => tp_okp148
  | 149 => tp_okp149
  | 150 => tp_okp150
  | 151 => tp_okp151
  | 152 => tp_okp152
  | 153 => tp_okp153
  | 154 => tp_okp154
  | 155 => tp_okp155
  | 156 => tp_all_of tp_okLaw
  | k + 157 => by
    rw [show tp_prg (k + 157) = [] by unfold tp_prg; rw [List.getD_eq_getElem?_getD, List.getElem?_eq_none (by show 157 ≤ k + 157; omega)]; rfl]
    rfl
theorem tp_lookup {β : Type} {k : Nat} {b : β} : ∀ {l : List (Nat × β)}, l.lookup k = some b → (k, b) ∈ l
  | [], h => by cases h
  | q :: l, h => by
    obtain ⟨a, c⟩ := q
    rw [List.lookup_cons] at h
    by_cases e : k == a
    · rw [e] at h
      cases h
      rw [beq_iff_eq] at e
      rw [e]
      exact List.mem_cons_self
    · rw [Bool.not_eq_true] at e
      rw [e] at h
      exact List.mem_cons_of_mem _ (tp_lookup h)
theorem tp_okB (mid pc : Nat) : tp_okL mid pc (tp_blk mid pc) = true := by
  unfold tp_blk
  cases h : (tp_prg mid).lookup pc with
  | none => rfl
  | some b => exact List.all_eq_true.mp (tp_okAll mid) _ (tp_lookup h)
section TPC
variable {p : Program} {l : Launch} {e : Env} {R : Room} {s : State} {m : MethodId} {args : Array Value} {below : List Frame} {meth : Method} {c : Code} {cells slots : Nat} {Q : State → Prop}
variable {D : va_G} {cs : tp_CS} {ad : Nat → Nat} {A : Nat → Prop} {σ0 : tp_St} {mid : Nat}
theorem tp_snB {K : tp_KT} {C : tp_CT} {post : Int32 → tp_St → Prop}
    (cx : tp_Cx p R s m args c cells slots D cs ad A σ0 mid)
    (hK : ∀ t L st σ, K t L st σ → tp_G p l e R s m args below meth c cells slots Q D cs ad A σ0 (tp_n mid) t L st σ)
    (hC : ∀ a av σ p', a < tp_law → (tp_ent1 av).length ≤ tp_n a → C a av σ p' → tp_MO l D cs ad a av σ p')
    (hRi : ∀ pc v t σ' H locs ls, tp_ret mid = some t → decode (tp_cc mid) pc = .ok (.ireturn, 1) → narrow t (.int v) = .int v → post v σ' → tp_Wd D cs ad A s σ0 σ' H locs → W p l e R s m args below meth c H locs cells slots Q (F0 m pc ls [.int v]))
    (hRv : ∀ pc σ' H locs ls, tp_ret mid = none → decode (tp_cc mid) pc = .ok (.return_, 1) → post 0 σ' → tp_Wd D cs ad A s σ0 σ' H locs → W p l e R s m args below meth c H locs cells slots Q (F0 m pc ls [])) :
    ∀ (is : List tp_Ins) (pc : Nat) (L st : List Value) (σ : tp_St), tp_okL mid pc is = true → tp_B mid K C post is pc L st σ → tp_G p l e R s m args below meth c cells slots Q D cs ad A σ0 (tp_n mid) pc L st σ
  | [], _, _, _, _, _, h => hK _ _ _ _ h
  | x :: is, pc, L, st, σ, hok, h => by
    simp only [tp_okL, Bool.and_eq_true] at hok
    exact tp_snI cx hok.1 h (fun L st σ q => tp_snB cx hK hC hRi hRv is _ L st σ hok.2 q) hK hC hRi hRv
theorem tp_wk_len : ∀ {L L' : List Value}, tp_wk L' L → L'.length = L.length
  | [], [], _ => rfl
  | _ :: L, _ :: L', h => by rw [List.length_cons, List.length_cons, tp_wk_len h.2]
  | [], _ :: _, h => h.elim
  | _ :: _, [], h => h.elim
theorem tp_wk_at : ∀ {L L' : List Value} {k : Nat} {v : Value}, tp_wk L' L → L'[k]? = some v → tp_nn v = true → L[k]? = some v
  | [], [], _, _, _, h, _ => h
  | _ :: L, _ :: L', 0, v, h, hv, hn => by
    cases hv
    rcases h.1 with rfl | rfl
    · cases hn
    · rfl
  | _ :: L, _ :: L', k + 1, v, h, hv, hn => tp_wk_at (k := k) h.2 hv hn
  | [], _ :: _, _, _, h, _, _ => h.elim
  | _ :: _, [], _, _, h, _, _ => h.elim
theorem tp_lv_wk {ls : Array Slot} {n : Nat} {L L' : List Value} (hw : tp_wk L' L) (h : tp_lv ad ls n L) : tp_lv ad ls n L' := by
  refine ⟨⟨h.1.1, h.1.2.1, fun q hq => ?_⟩, (tp_wk_len hw).trans h.2⟩
  obtain ⟨v, h1, h2, h3⟩ := tp_al_mem.mp hq
  exact h.1.2.2 q (tp_al_mem.mpr ⟨v, tp_wk_at hw h1 h2, h2, h3⟩)
theorem tp_ent_len : ∀ av : List Value, (lg_sl (av.map (tp_v ad))).length = (tp_ent1 av).length
  | [] => rfl
  | v :: r => by
    have ih := tp_ent_len r
    rw [List.map_cons]
    unfold tp_ent1
    unfold lg_sl at ih ⊢
    rw [List.flatMap_cons, List.length_append, ih, tp_v_cat]
    by_cases h : v.category = 2
    · rw [if_pos h, if_pos h]
      simp
      omega
    · rw [if_neg h, if_neg h]
      simp
      omega
theorem tp_ent_mem : ∀ (av : List Value) (k i j : Nat) (v : Value), (tp_ent1 av ++ List.replicate k .null)[j]? = some v → tp_nn v = true → (i + j, tp_v ad v) ∈ lv_args i (av.map (tp_v ad))
  | [], k, i, j, v, h, hn => by
    have : v = .null := by
      have h2 := List.mem_of_getElem? h
      rw [show tp_ent1 [] ++ List.replicate k Value.null = List.replicate k Value.null from rfl] at h2
      exact List.eq_of_mem_replicate h2
    subst this
    cases hn
  | u :: r, k, i, j, v, h, hn => by
    have hd : tp_ent1 (u :: r) = if u.category = 2 then u :: .null :: tp_ent1 r else u :: tp_ent1 r := rfl
    have hd2 : lv_args i ((u :: r).map (tp_v ad)) = (i, tp_v ad u) :: lv_args (if u.category = 2 then i + 2 else i + 1) (r.map (tp_v ad)) := by
      show (i, tp_v ad u) :: lv_args (if (tp_v ad u).category = 2 then i + 2 else i + 1) (r.map (tp_v ad)) = _
      rw [tp_v_cat]
    rw [hd2]
    rw [hd] at h
    by_cases hc : u.category = 2
    · rw [if_pos hc] at h ⊢
      match j, h with
      | 0, h =>
        cases h
        exact List.mem_cons_self
      | 1, h =>
        cases h
        cases hn
      | j + 2, h =>
        have := tp_ent_mem r k (i + 2) j v h hn
        rw [show i + (j + 2) = i + 2 + j by omega]
        exact List.mem_cons_of_mem _ this
    · rw [if_neg hc] at h ⊢
      match j, h with
      | 0, h =>
        cases h
        exact List.mem_cons_self
      | j + 1, h =>
        have := tp_ent_mem r k (i + 1) j v h hn
        rw [show i + (j + 1) = i + 1 + j by omega]
        exact List.mem_cons_of_mem _ this
theorem tp_lv_entry {a : Nat} {av : List Value} (h : (tp_ent1 av).length ≤ tp_n a) : tp_lv ad ((lg_sl (av.map (tp_v ad)) ++ List.replicate (tp_n a - (lg_sl (av.map (tp_v ad))).length) Slot.unset).toArray) (tp_n a) (tp_ent a av) := by
  have h1 := lv_entry (av.map (tp_v ad)) (n := tp_n a) (by rw [tp_ent_len]; exact h)
  refine ⟨⟨h1.1, h1.2.1, fun q hq => ?_⟩, ?_⟩
  · obtain ⟨v, h2, h3, h4⟩ := tp_al_mem.mp hq
    have := tp_ent_mem (ad := ad) av _ 0 q.1 v h2 h3
    rw [Nat.zero_add, ← h4] at this
    exact h1.2.2 q this
  · unfold tp_ent
    rw [List.length_append, List.length_replicate]
    omega
end TPC
/-- what the machine does from here, for whoever called -/
def tp_X (l : Launch) (D : va_G) (cs : tp_CS) (ad : Nat → Nat) : tp_XT := fun mid pc L st σ post =>
  ∀ (p : Program) (e : Env) (R : Room) (s : State) (m : MethodId) (args : Array Value) (below : List Frame) (meth : Method) (c : Code) (cells slots : Nat) (Q : State → Prop) (A : Nat → Prop) (σ0 : tp_St),
    tp_Cx p R s m args c cells slots D cs ad A σ0 mid →
    (∀ pc v t σ' H locs ls, tp_ret mid = some t → decode (tp_cc mid) pc = .ok (.ireturn, 1) → narrow t (.int v) = .int v → post v σ' → tp_Wd D cs ad A s σ0 σ' H locs → W p l e R s m args below meth c H locs cells slots Q (F0 m pc ls [.int v])) →
    (∀ pc σ' H locs ls, tp_ret mid = none → decode (tp_cc mid) pc = .ok (.return_, 1) → post 0 σ' → tp_Wd D cs ad A s σ0 σ' H locs → W p l e R s m args below meth c H locs cells slots Q (F0 m pc ls [])) →
    tp_G p l e R s m args below meth c cells slots Q D cs ad A σ0 (tp_n mid) pc L st σ
theorem tp_X_mono {l : Launch} {D : va_G} {cs : tp_CS} {ad : Nat → Nat} : tp_Mono (tp_X l D cs ad) := fun _ _ _ _ _ _ _ hp h p e R s m args below meth c cells slots Q A σ0 cx h1 h2 =>
  h p e R s m args below meth c cells slots Q A σ0 cx (fun pc v t σ' H locs ls q1 q2 q3 q4 => h1 pc v t σ' H locs ls q1 q2 q3 (hp _ _ q4)) (fun pc σ' H locs ls q1 q2 q4 => h2 pc σ' H locs ls q1 q2 (hp _ _ q4))
theorem tp_clsA {a : Nat} (ha : a < tp_law) : (tp_y a).cls = tp_cls a ∧ plainName (tp_y a).cls = true := by
  have h := tp_okM_at ha
  unfold tp_okM at h
  simp only [Bool.and_eq_true, decide_eq_true_eq] at h
  obtain ⟨h1, h2, h3, h4, h5, h6⟩ := h
  exact ⟨h4, h5⟩
/-- A CONTRACT, out of the mini machine's -/
theorem tp_met {l : Launch} {D : va_G} {cs : tp_CS} {ad : Nat → Nat} {a : Nat} {av : List Value} {σ : tp_St} {post : Int32 → tp_St → Prop} (ha : a < tp_law) (hent : (tp_ent1 av).length ≤ tp_n a) (hX : tp_X l D cs ad a 0 (tp_ent a av) [] σ post) : tp_MO l D cs ad a av σ post := by
  intro sz
  refine Met.ofW (cc := tp_cc a) (maxL := tp_n a) (ret := tp_ret a) (tp_clsA ha).2 rfl ?_
  intro p e s m args below meth c s₁ B hml hv
  obtain ⟨rfl, hsz, hP, hK, hinj, hro⟩ := hv
  subst hsz
  have hts := atoms_spec (ws := tp_wl a) B.pre
  have hown : s.vm.findClass (tp_cls a) = some m.cls := (tp_clsA ha).1 ▸ findClass_of_methodNamed B.named
  have hlocks := B.notSynchronized
  have hr := B.returns
  rw [lg_entry_eq]
  refine hX p e (tp_rm a) s m _ below meth c 0 0 _ (va_A (tp_ws cs ad σ) s.heap.size) σ
    ⟨B.exec, B.bytes, hml, hown, fun w hw => hts w (List.mem_cons_of_mem _ hw), hK, ⟨hinj, fun i hi => tp_A_iff.mpr (Or.inl ⟨i, hi, rfl⟩)⟩, fun q hq => tp_A_iff.mpr (Or.inr hq), hro, fun q => absurd (q ▸ ha) (Nat.lt_irrefl _), Nat.le_refl _, Nat.le_refl _, Nat.zero_le _, Nat.zero_le _⟩
    ?_ ?_ s.heap [] _ ⟨hP, fun _ _ => rfl, va_S.rf⟩ (tp_lv_entry hent)
  · intro pc v t σ' H locs ls hret hdg hn hpost hW
    refine W.zret (ty := t) B.exec B.bytes (hr.trans hret) hn (fun u hu hWm => ?_) hW.2.2.2.2 hdg hlocks
    unfold tp_Qc
    rw [hret]
    exact ⟨⟨v, σ', rfl, hpost, by rw [hu]; exact hW.1, hW.2.1⟩, hW.2.2.F hu⟩
  · intro pc σ' H locs ls hret hdg hpost hW
    refine W.vret B.exec B.bytes (hr.trans hret) (fun u hu hWm => ?_) hW.2.2.2.2 hdg hlocks
    unfold tp_Qc
    rw [hret]
    exact ⟨⟨σ', rfl, hpost, by rw [hu]; exact hW.1, hW.2.1⟩, hW.2.2.F hu⟩
theorem tp_X_cl {l : Launch} {D : va_G} {cs : tp_CS} {ad : Nat → Nat} : tp_Cl (tp_X l D cs ad) := fun mid pc L st σ post h p e R s m args below meth c cells slots Q A σ0 cx h1 h2 =>
  tp_snB cx (fun t L st σ ⟨L', hw, hX⟩ H locs ls hW hl => hX p e R s m args below meth c cells slots Q A σ0 cx h1 h2 H locs ls hW (tp_lv_wk hw hl)) (fun a av σ p' ha hent hX => tp_met ha hent hX) h1 h2 _ _ _ _ _ (tp_okB mid pc) h
theorem tp_sound {l : Launch} {D : va_G} {cs : tp_CS} {ad : Nat → Nat} {mid pc : Nat} {L st : List Value} {σ : tp_St} {post : Int32 → tp_St → Prop} (h : tp_E mid pc L st σ post) : tp_X l D cs ad mid pc L st σ post := h _ tp_X_mono tp_X_cl
end
section
theorem tp_Em {i pc : Nat} {L st : List Value} {σ : tp_St} {p p' : Int32 → tp_St → Prop} (h : tp_E i pc L st σ p) (hp : ∀ r σ, p r σ → p' r σ) : tp_E i pc L st σ p' := tp_E_mono i pc L st σ p p' hp h
theorem tp_rk46 {j : Int32} (h : vp_in j 6) : tp_kd (46 + j.toNatClampNeg) = 20 ∧ tp_ln (46 + j.toNatClampNeg) = 5 := by
  obtain ⟨k, hk, rfl⟩ := vp_in_of h (by decide)
  rw [nI_clamp (by omega)]
  exact (by decide +kernel : ∀ k, k < 6 → tp_kd (46 + k) = 20 ∧ tp_ln (46 + k) = 5) k hk
theorem tp_rk52 {j : Int32} (h : vp_in j 6) : tp_kd (52 + j.toNatClampNeg) = 20 ∧ tp_ln (52 + j.toNatClampNeg) = 5 := by
  obtain ⟨k, hk, rfl⟩ := vp_in_of h (by decide)
  rw [nI_clamp (by omega)]
  exact (by decide +kernel : ∀ k, k < 6 → tp_kd (52 + k) = 20 ∧ tp_ln (52 + k) = 5) k hk
theorem tp_rw {o n mid : Nat} {t : Int32} {σ : tp_St} {P : Prop} (hk : tp_kd o = 20 ∧ tp_ln o = n) (h : vp_in t n ∧ P) : tp_chk (tp_kd o == 20 || (tp_kd o == 27 || (tp_kd o == 26 && mid == tp_law))) (vp_in t (tp_len σ o) ∧ P) := by
  obtain ⟨hk, rfl⟩ := hk
  simp only [hk, tp_len]
  exact h
theorem tp_rs {o n : Nat} {t : Int32} {P : Prop} (hk : tp_kd o = 20 ∧ tp_ln o = n) (h : vp_in t n ∧ P) : tp_chk (tp_kd o == 20) (vp_in t (tp_ln o) ∧ P) := by
  obtain ⟨hk, rfl⟩ := hk
  simp only [hk]
  exact h

/-- X0_readTape ()I, 0 -/
theorem sg_0_0 {post : Int32 → tp_St → Prop} {σ : tp_St}   (h : (σ.2.2 = 24 ∨ σ.2.2 = 25) ∧ (σ.2.2 = 24 →
tp_E 6 0 [.ref 24] [] σ (fun r1 σ1 =>
tp_E 46 0 [.ref 19] [] σ1 (fun r2 σ2 =>
tp_E 0 28 [.ref 6, .int 0, .int 0, .null] [] (tp_set (tp_set σ2 6 5 (-1)) 6 2 0) post))) ∧ (σ.2.2 = 25 →
tp_E 6 0 [.ref 25] [] σ (fun r3 σ3 =>
tp_E 46 0 [.ref 19] [] σ3 (fun r4 σ4 =>
tp_E 0 28 [.ref 6, .int 0, .int 0, .null] [] (tp_set (tp_set σ4 6 5 (-1)) 6 2 0) post)))) : tp_E 0 0 [.ref 6, .null, .null, .null] [] σ post := tp_E_step (And.intro h.1 (And.intro (fun c5 => tp_Em (h.2.1 c5) (fun r1 σ1 h1 => tp_Em h1 (fun r2 σ2 h2 => Exists.intro [.ref 6, .int 0, .int 0, .null] (And.intro (And.intro (Or.inr rfl) (And.intro (Or.inr rfl) (And.intro (Or.inr rfl) (And.intro (Or.inr rfl) (trivial))))) h2)))) (fun c5 => tp_Em (h.2.2 c5) (fun r3 σ3 h3 => tp_Em h3 (fun r4 σ4 h4 => Exists.intro [.ref 6, .int 0, .int 0, .null] (And.intro (And.intro (Or.inr rfl) (And.intro (Or.inr rfl) (And.intro (Or.inr rfl) (And.intro (Or.inr rfl) (trivial))))) h4))))))
/-- X0_readTape ()I, 28 -/
theorem sg_0_28 {post : Int32 → tp_St → Prop} {σ : tp_St} (a1 : Int32) (a2 : Int32)  (h : (200 < a2 →
((σ.1 6 2) = 0 →
tp_E 1 0 [.ref 6, .null] [] (tp_set σ 19 1 0) (fun r3 σ3 =>
post r3 σ3)) ∧ (¬ (σ.1 6 2) = 0 →
post ((-10) - (σ.1 19 2)) (tp_set σ 19 1 0))) ∧ (¬ 200 < a2 →
(a1 = 0 →
((σ.1 6 2) = 0 →
tp_E 47 0 [.ref 19] [] σ (fun r1 σ1 =>
tp_E 2 0 [.ref 6, .int r1] [] σ1 (fun r2 σ2 =>
(r1 = 1 →
tp_E 0 28 [.ref 6, .int 1, .int (a2 + 1), .null] [] (tp_set σ2 6 2 r2) post) ∧ (¬ r1 = 1 →
tp_E 0 28 [.ref 6, .int 0, .int (a2 + 1), .null] [] (tp_set σ2 6 2 r2) post)))) ∧ (¬ (σ.1 6 2) = 0 →
((σ.1 6 2) = 0 →
tp_E 1 0 [.ref 6, .null] [] (tp_set σ 19 1 0) (fun r4 σ4 =>
post r4 σ4)) ∧ (¬ (σ.1 6 2) = 0 →
post ((-10) - (σ.1 19 2)) (tp_set σ 19 1 0)))) ∧ (¬ a1 = 0 →
((σ.1 6 2) = 0 →
tp_E 1 0 [.ref 6, .null] [] (tp_set σ 19 1 0) (fun r5 σ5 =>
post r5 σ5)) ∧ (¬ (σ.1 6 2) = 0 →
post ((-10) - (σ.1 19 2)) (tp_set σ 19 1 0))))) : tp_E 0 28 [.ref 6, .int a1, .int a2, .null] [] σ post := tp_E_step (And.intro (fun c3 => Exists.intro _ (And.intro (tp_wk_rf _) (tp_E_step (And.intro (fun c5 => tp_Em ((h.1 c3).1 c5) (fun r4 σ4 h4 => Exists.intro _ (And.intro (tp_wk_rf _) (tp_E_step (And.intro rfl h4))))) (fun c5 => Exists.intro _ (And.intro (tp_wk_rf _) (tp_E_step (Exists.intro _ (And.intro (tp_wk_rf _) (tp_E_step (And.intro rfl ((h.1 c3).2 c5)))))))))))) (fun c3 => And.intro (fun c6 => And.intro (fun c7 => tp_Em (((h.2 c3).1 c6).1 c7) (fun r1 σ1 h1 => tp_Em h1 (fun r2 σ2 h2 => And.intro (fun c8 => Exists.intro _ (And.intro (tp_wk_rf _) (tp_E_step (Exists.intro [.ref 6, .int 1, .int (a2 + 1), .null] (And.intro (And.intro (Or.inr rfl) (And.intro (Or.inr rfl) (And.intro (Or.inr rfl) (And.intro (Or.inl rfl) (trivial))))) (h2.1 c8)))))) (fun c8 => Exists.intro _ (And.intro (tp_wk_rf _) (tp_E_step (Exists.intro _ (And.intro (tp_wk_rf _) (tp_E_step (Exists.intro [.ref 6, .int 0, .int (a2 + 1), .null] (And.intro (And.intro (Or.inr rfl) (And.intro (Or.inr rfl) (And.intro (Or.inr rfl) (And.intro (Or.inl rfl) (trivial))))) (h2.2 c8)))))))))))) (fun c7 => Exists.intro _ (And.intro (tp_wk_rf _) (tp_E_step (And.intro (fun c10 => tp_Em ((((h.2 c3).1 c6).2 c7).1 c10) (fun r9 σ9 h9 => Exists.intro _ (And.intro (tp_wk_rf _) (tp_E_step (And.intro rfl h9))))) (fun c10 => Exists.intro _ (And.intro (tp_wk_rf _) (tp_E_step (Exists.intro _ (And.intro (tp_wk_rf _) (tp_E_step (And.intro rfl ((((h.2 c3).1 c6).2 c7).2 c10))))))))))))) (fun c6 => Exists.intro _ (And.intro (tp_wk_rf _) (tp_E_step (And.intro (fun c12 => tp_Em (((h.2 c3).2 c6).1 c12) (fun r11 σ11 h11 => Exists.intro _ (And.intro (tp_wk_rf _) (tp_E_step (And.intro rfl h11))))) (fun c12 => Exists.intro _ (And.intro (tp_wk_rf _) (tp_E_step (Exists.intro _ (And.intro (tp_wk_rf _) (tp_E_step (And.intro rfl (((h.2 c3).2 c6).2 c12))))))))))))))
/-- X0_tellDraft ()I, 0 -/
theorem sg_1_0 {post : Int32 → tp_St → Prop} {σ : tp_St}   (h : (σ.2.1 = 24 ∨ σ.2.1 = 25) ∧ (σ.2.1 = 24 →
(σ.2.2 = 24 ∨ σ.2.2 = 25) ∧ (σ.2.2 = 24 →
tp_E 7 0 [.ref 24] [] ((σ.1, (24, σ.2.2)).1, ((σ.1, (24, σ.2.2)).2.1, 24)) (fun r1 σ1 =>
post r1 σ1)) ∧ (σ.2.2 = 25 →
tp_E 7 0 [.ref 25] [] ((σ.1, (25, σ.2.2)).1, ((σ.1, (25, σ.2.2)).2.1, 24)) (fun r4 σ4 =>
post r4 σ4))) ∧ (σ.2.1 = 25 →
(σ.2.2 = 24 ∨ σ.2.2 = 25) ∧ (σ.2.2 = 24 →
tp_E 7 0 [.ref 24] [] ((σ.1, (24, σ.2.2)).1, ((σ.1, (24, σ.2.2)).2.1, 25)) (fun r5 σ5 =>
post r5 σ5)) ∧ (σ.2.2 = 25 →
tp_E 7 0 [.ref 25] [] ((σ.1, (25, σ.2.2)).1, ((σ.1, (25, σ.2.2)).2.1, 25)) (fun r8 σ8 =>
post r8 σ8)))) : tp_E 1 0 [.ref 6, .null] [] σ post := tp_E_step (And.intro h.1 (And.intro (fun c9 => And.intro (h.2.1 c9).1 (And.intro (fun c10 => And.intro (Or.inl rfl) (And.intro (fun _ => tp_Em ((h.2.1 c9).2.1 c10) (fun r1 σ1 h1 => And.intro rfl h1)) (fun hc => absurd hc (show ¬ 24 = 25 from by decide)))) (fun c10 => And.intro (Or.inr rfl) (And.intro (fun hc => absurd hc (show ¬ 25 = 24 from by decide)) (fun _ => tp_Em ((h.2.1 c9).2.2 c10) (fun r4 σ4 h4 => And.intro rfl h4)))))) (fun c9 => And.intro (h.2.2 c9).1 (And.intro (fun c13 => And.intro (Or.inl rfl) (And.intro (fun _ => tp_Em ((h.2.2 c9).2.1 c13) (fun r5 σ5 h5 => And.intro rfl h5)) (fun hc => absurd hc (show ¬ 24 = 25 from by decide)))) (fun c13 => And.intro (Or.inr rfl) (And.intro (fun hc => absurd hc (show ¬ 25 = 24 from by decide)) (fun _ => tp_Em ((h.2.2 c9).2.2 c13) (fun r8 σ8 h8 => And.intro rfl h8))))))))
/-- X0_take (I)I, 0 -/
theorem sg_2_0 {post : Int32 → tp_St → Prop} {σ : tp_St} (a1 : Int32)  (h : (a1 = 0 →
post 1 σ) ∧ (¬ a1 = 0 →
((σ.1 6 5) = (-1) →
tp_E 3 0 [.ref 6, .int a1] [] σ (fun r1 σ1 =>
post r1 σ1)) ∧ (¬ (σ.1 6 5) = (-1) →
vp_in (σ.1 6 5) 3 ∧
((σ.1 6 6) < (σ.1 91 ((σ.1 6 5)).toNatClampNeg) →
(a1 = 3 →
tp_E 4 0 [.ref 6, .int (σ.1 19 3), .null] [] σ (fun r3 σ3 =>
post r3 σ3)) ∧ (¬ a1 = 3 →
post 2 σ)) ∧ (¬ (σ.1 6 6) < (σ.1 91 ((σ.1 6 5)).toNatClampNeg) →
tp_E 5 0 [.ref 6, .int a1] [] σ (fun r2 σ2 =>
post r2 σ2))))) : tp_E 2 0 [.ref 6, .int a1] [] σ post := tp_E_step (And.intro (fun c1 => And.intro rfl (h.1 c1)) (fun c1 => Exists.intro _ (And.intro (tp_wk_rf _) (tp_E_step (And.intro (fun c3 => tp_Em ((h.2 c1).1 c3) (fun r2 σ2 h2 => And.intro rfl h2)) (fun c3 => Exists.intro _ (And.intro (tp_wk_rf _) (tp_E_step (And.intro ((h.2 c1).2 c3).1 (And.intro (fun c5 => Exists.intro _ (And.intro (tp_wk_rf _) (tp_E_step (And.intro (fun c7 => tp_Em ((((h.2 c1).2 c3).2.1 c5).1 c7) (fun r6 σ6 h6 => Exists.intro _ (And.intro (tp_wk_rf _) (tp_E_step (And.intro rfl h6))))) (fun c7 => Exists.intro _ (And.intro (tp_wk_rf _) (tp_E_step (Exists.intro _ (And.intro (tp_wk_rf _) (tp_E_step (And.intro rfl ((((h.2 c1).2 c3).2.1 c5).2 c7)))))))))))) (fun c5 => tp_Em (((h.2 c1).2 c3).2.2 c5) (fun r4 σ4 h4 => And.intro rfl h4))))))))))))
/-- X0_beginLaw (I)I, 0 -/
theorem sg_3_0 {post : Int32 → tp_St → Prop} {σ : tp_St} (a1 : Int32)  (h : (a1 = 1 →
post 0 σ) ∧ (¬ a1 = 1 →
(a1 = 2 →
(σ.2.2 = 24 ∨ σ.2.2 = 25) ∧ (σ.2.2 = 24 →
tp_E 8 0 [.ref 24, .int (σ.1 19 3)] [] (tp_set (tp_set σ 6 5 (σ.1 19 3)) 6 6 0) (fun r1 σ1 =>
(r1 = 0 →
post 5 σ1) ∧ (¬ r1 = 0 →
post 0 σ1))) ∧ (σ.2.2 = 25 →
tp_E 8 0 [.ref 25, .int (σ.1 19 3)] [] (tp_set (tp_set σ 6 5 (σ.1 19 3)) 6 6 0) (fun r2 σ2 =>
(r2 = 0 →
post 5 σ2) ∧ (¬ r2 = 0 →
post 0 σ2)))) ∧ (¬ a1 = 2 →
post 2 σ))) : tp_E 3 0 [.ref 6, .int a1] [] σ post := tp_E_step (And.intro (fun c1 => And.intro rfl (h.1 c1)) (fun c1 => Exists.intro _ (And.intro (tp_wk_rf _) (tp_E_step (And.intro (fun c2 => Exists.intro _ (And.intro (tp_wk_rf _) (tp_E_step (And.intro ((h.2 c1).1 c2).1 (And.intro (fun c5 => tp_Em (((h.2 c1).1 c2).2.1 c5) (fun r3 σ3 h3 => And.intro (fun c6 => Exists.intro _ (And.intro (tp_wk_rf _) (tp_E_step (Exists.intro _ (And.intro (tp_wk_rf _) (tp_E_step (And.intro rfl (h3.1 c6)))))))) (fun c6 => Exists.intro _ (And.intro (tp_wk_rf _) (tp_E_step (And.intro rfl (h3.2 c6))))))) (fun c5 => tp_Em (((h.2 c1).1 c2).2.2 c5) (fun r4 σ4 h4 => And.intro (fun c7 => Exists.intro _ (And.intro (tp_wk_rf _) (tp_E_step (Exists.intro _ (And.intro (tp_wk_rf _) (tp_E_step (And.intro rfl (h4.1 c7)))))))) (fun c7 => Exists.intro _ (And.intro (tp_wk_rf _) (tp_E_step (And.intro rfl (h4.2 c7)))))))))))) (fun c2 => And.intro rfl ((h.2 c1).2 c2)))))))
/-- X0_takeNumber (I)I, 0 -/
theorem sg_4_0 {post : Int32 → tp_St → Prop} {σ : tp_St} (a1 : Int32)  (h : vp_in (((σ.1 6 5) * 3) + (σ.1 6 6)) 9 ∧
vp_in (((σ.1 6 5) * 3) + (σ.1 6 6)) 9 ∧
tp_E 91 0 [.int a1, .int (σ.1 92 ((((σ.1 6 5) * 3) + (σ.1 6 6))).toNatClampNeg), .int (σ.1 93 ((((σ.1 6 5) * 3) + (σ.1 6 6))).toNatClampNeg)] [] σ (fun r1 σ1 =>
(r1 = 0 →
((σ1.1 6 5) = 1 →
((σ1.1 6 6) = 1 →
((σ1.1 26 0) < a1 →
((σ1.1 6 5) = 0 →
(σ1.2.2 = 24 ∨ σ1.2.2 = 25) ∧ (σ1.2.2 = 24 →
tp_E 10 0 [.ref 24, .int (σ1.1 6 6)] [] σ1 (fun r2 σ2 =>
(r2 < a1 →
vp_in (σ2.1 6 6) 3 ∧
post 0 (tp_set (tp_set σ2 26 ((σ2.1 6 6)).toNatClampNeg a1) 6 6 ((σ2.1 6 6) + 1))) ∧ (¬ r2 < a1 →
post 4 σ2))) ∧ (σ1.2.2 = 25 →
tp_E 10 0 [.ref 25, .int (σ1.1 6 6)] [] σ1 (fun r3 σ3 =>
(r3 < a1 →
vp_in (σ3.1 6 6) 3 ∧
post 0 (tp_set (tp_set σ3 26 ((σ3.1 6 6)).toNatClampNeg a1) 6 6 ((σ3.1 6 6) + 1))) ∧ (¬ r3 < a1 →
post 4 σ3)))) ∧ (¬ (σ1.1 6 5) = 0 →
vp_in (σ1.1 6 6) 3 ∧
post 0 (tp_set (tp_set σ1 26 ((σ1.1 6 6)).toNatClampNeg a1) 6 6 ((σ1.1 6 6) + 1)))) ∧ (¬ (σ1.1 26 0) < a1 →
post 3 σ1)) ∧ (¬ (σ1.1 6 6) = 1 →
((σ1.1 6 5) = 0 →
(σ1.2.2 = 24 ∨ σ1.2.2 = 25) ∧ (σ1.2.2 = 24 →
tp_E 10 0 [.ref 24, .int (σ1.1 6 6)] [] σ1 (fun r4 σ4 =>
(r4 < a1 →
vp_in (σ4.1 6 6) 3 ∧
post 0 (tp_set (tp_set σ4 26 ((σ4.1 6 6)).toNatClampNeg a1) 6 6 ((σ4.1 6 6) + 1))) ∧ (¬ r4 < a1 →
post 4 σ4))) ∧ (σ1.2.2 = 25 →
tp_E 10 0 [.ref 25, .int (σ1.1 6 6)] [] σ1 (fun r5 σ5 =>
(r5 < a1 →
vp_in (σ5.1 6 6) 3 ∧
post 0 (tp_set (tp_set σ5 26 ((σ5.1 6 6)).toNatClampNeg a1) 6 6 ((σ5.1 6 6) + 1))) ∧ (¬ r5 < a1 →
post 4 σ5)))) ∧ (¬ (σ1.1 6 5) = 0 →
vp_in (σ1.1 6 6) 3 ∧
post 0 (tp_set (tp_set σ1 26 ((σ1.1 6 6)).toNatClampNeg a1) 6 6 ((σ1.1 6 6) + 1))))) ∧ (¬ (σ1.1 6 5) = 1 →
((σ1.1 6 5) = 0 →
(σ1.2.2 = 24 ∨ σ1.2.2 = 25) ∧ (σ1.2.2 = 24 →
tp_E 10 0 [.ref 24, .int (σ1.1 6 6)] [] σ1 (fun r6 σ6 =>
(r6 < a1 →
vp_in (σ6.1 6 6) 3 ∧
post 0 (tp_set (tp_set σ6 26 ((σ6.1 6 6)).toNatClampNeg a1) 6 6 ((σ6.1 6 6) + 1))) ∧ (¬ r6 < a1 →
post 4 σ6))) ∧ (σ1.2.2 = 25 →
tp_E 10 0 [.ref 25, .int (σ1.1 6 6)] [] σ1 (fun r7 σ7 =>
(r7 < a1 →
vp_in (σ7.1 6 6) 3 ∧
post 0 (tp_set (tp_set σ7 26 ((σ7.1 6 6)).toNatClampNeg a1) 6 6 ((σ7.1 6 6) + 1))) ∧ (¬ r7 < a1 →
post 4 σ7)))) ∧ (¬ (σ1.1 6 5) = 0 →
vp_in (σ1.1 6 6) 3 ∧
post 0 (tp_set (tp_set σ1 26 ((σ1.1 6 6)).toNatClampNeg a1) 6 6 ((σ1.1 6 6) + 1))))) ∧ (¬ r1 = 0 →
post 3 σ1))) : tp_E 4 0 [.ref 6, .int a1, .null] [] σ post := tp_E_step (And.intro h.1 (And.intro h.2.1 (tp_Em h.2.2 (fun r1 σ1 h1 => And.intro (fun c2 => Exists.intro _ (And.intro (tp_wk_rf _) (tp_E_step (And.intro (fun c3 => And.intro (fun c4 => And.intro (show ¬ ((0 : Int32) < 0 ∨ 3 ≤ (0 : Int32).toNatClampNeg) from by decide) (And.intro (fun c5 => Exists.intro _ (And.intro (tp_wk_rf _) (tp_E_step (And.intro (fun c8 => And.intro (((((h1.1 c2).1 c3).1 c4).1 c5).1 c8).1 (And.intro (fun c9 => tp_Em ((((((h1.1 c2).1 c3).1 c4).1 c5).1 c8).2.1 c9) (fun r6 σ6 h6 => And.intro (fun c10 => Exists.intro _ (And.intro (tp_wk_rf _) (tp_E_step (And.intro (h6.1 c10).1 (And.intro rfl (h6.1 c10).2))))) (fun c10 => And.intro rfl (h6.2 c10)))) (fun c9 => tp_Em ((((((h1.1 c2).1 c3).1 c4).1 c5).1 c8).2.2 c9) (fun r7 σ7 h7 => And.intro (fun c11 => Exists.intro _ (And.intro (tp_wk_rf _) (tp_E_step (And.intro (h7.1 c11).1 (And.intro rfl (h7.1 c11).2))))) (fun c11 => And.intro rfl (h7.2 c11)))))) (fun c8 => Exists.intro _ (And.intro (tp_wk_rf _) (tp_E_step (And.intro (((((h1.1 c2).1 c3).1 c4).1 c5).2 c8).1 (And.intro rfl (((((h1.1 c2).1 c3).1 c4).1 c5).2 c8).2))))))))) (fun c5 => And.intro rfl ((((h1.1 c2).1 c3).1 c4).2 c5)))) (fun c4 => Exists.intro _ (And.intro (tp_wk_rf _) (tp_E_step (And.intro (fun c14 => And.intro ((((h1.1 c2).1 c3).2 c4).1 c14).1 (And.intro (fun c15 => tp_Em (((((h1.1 c2).1 c3).2 c4).1 c14).2.1 c15) (fun r12 σ12 h12 => And.intro (fun c16 => Exists.intro _ (And.intro (tp_wk_rf _) (tp_E_step (And.intro (h12.1 c16).1 (And.intro rfl (h12.1 c16).2))))) (fun c16 => And.intro rfl (h12.2 c16)))) (fun c15 => tp_Em (((((h1.1 c2).1 c3).2 c4).1 c14).2.2 c15) (fun r13 σ13 h13 => And.intro (fun c17 => Exists.intro _ (And.intro (tp_wk_rf _) (tp_E_step (And.intro (h13.1 c17).1 (And.intro rfl (h13.1 c17).2))))) (fun c17 => And.intro rfl (h13.2 c17)))))) (fun c14 => Exists.intro _ (And.intro (tp_wk_rf _) (tp_E_step (And.intro ((((h1.1 c2).1 c3).2 c4).2 c14).1 (And.intro rfl ((((h1.1 c2).1 c3).2 c4).2 c14).2)))))))))) (fun c3 => Exists.intro _ (And.intro (tp_wk_rf _) (tp_E_step (And.intro (fun c20 => And.intro (((h1.1 c2).2 c3).1 c20).1 (And.intro (fun c21 => tp_Em ((((h1.1 c2).2 c3).1 c20).2.1 c21) (fun r18 σ18 h18 => And.intro (fun c22 => Exists.intro _ (And.intro (tp_wk_rf _) (tp_E_step (And.intro (h18.1 c22).1 (And.intro rfl (h18.1 c22).2))))) (fun c22 => And.intro rfl (h18.2 c22)))) (fun c21 => tp_Em ((((h1.1 c2).2 c3).1 c20).2.2 c21) (fun r19 σ19 h19 => And.intro (fun c23 => Exists.intro _ (And.intro (tp_wk_rf _) (tp_E_step (And.intro (h19.1 c23).1 (And.intro rfl (h19.1 c23).2))))) (fun c23 => And.intro rfl (h19.2 c23)))))) (fun c20 => Exists.intro _ (And.intro (tp_wk_rf _) (tp_E_step (And.intro (((h1.1 c2).2 c3).2 c20).1 (And.intro rfl (((h1.1 c2).2 c3).2 c20).2))))))))))))) (fun c2 => And.intro rfl (h1.2 c2))))))
/-- X0_endLaw (I)I, 0 -/
theorem sg_5_0 {post : Int32 → tp_St → Prop} {σ : tp_St} (a1 : Int32)  (h : (a1 = 4 →
(σ.2.2 = 24 ∨ σ.2.2 = 25) ∧ (σ.2.2 = 24 →
tp_E 9 0 [.ref 24, .int (σ.1 6 5), .int (σ.1 26 0), .int (σ.1 26 1), .int (σ.1 26 2)] [] σ (fun r1 σ1 =>
post 0 (tp_set σ1 6 5 (-1)))) ∧ (σ.2.2 = 25 →
tp_E 9 0 [.ref 25, .int (σ.1 6 5), .int (σ.1 26 0), .int (σ.1 26 1), .int (σ.1 26 2)] [] σ (fun r2 σ2 =>
post 0 (tp_set σ2 6 5 (-1))))) ∧ (¬ a1 = 4 →
post 2 σ)) : tp_E 5 0 [.ref 6, .int a1] [] σ post := tp_E_step (And.intro (fun c1 => Exists.intro _ (And.intro (tp_wk_rf _) (tp_E_step (And.intro (h.1 c1).1 (And.intro (fun c4 => And.intro (show ¬ ((0 : Int32) < 0 ∨ 3 ≤ (0 : Int32).toNatClampNeg) from by decide) (And.intro (show ¬ ((1 : Int32) < 0 ∨ 3 ≤ (1 : Int32).toNatClampNeg) from by decide) (And.intro (show ¬ ((2 : Int32) < 0 ∨ 3 ≤ (2 : Int32).toNatClampNeg) from by decide) (tp_Em ((h.1 c1).2.1 c4) (fun r2 σ2 h2 => And.intro rfl h2))))) (fun c4 => And.intro (show ¬ ((0 : Int32) < 0 ∨ 3 ≤ (0 : Int32).toNatClampNeg) from by decide) (And.intro (show ¬ ((1 : Int32) < 0 ∨ 3 ≤ (1 : Int32).toNatClampNeg) from by decide) (And.intro (show ¬ ((2 : Int32) < 0 ∨ 3 ≤ (2 : Int32).toNatClampNeg) from by decide) (tp_Em ((h.1 c1).2.2 c4) (fun r3 σ3 h3 => And.intro rfl h3)))))))))) (fun c1 => And.intro rfl (h.2 c1)))
/-- X1_clear ()V, 0 -/
theorem sg_6_0 {post : Int32 → tp_St → Prop} {σ : tp_St} (q0 : Nat) (hq0 : q0 = 24 ∨ q0 = 25) (h : post 0 (tp_set (tp_set (tp_set σ q0 5 0) q0 6 0) q0 7 (-1))) : tp_E 6 0 [.ref q0] [] σ post := by
  rcases hq0 with rfl | rfl
  · exact tp_E_step (h)
  · exact tp_E_step (h)
/-- X1_howMany ()I, 0 -/
theorem sg_7_0 {post : Int32 → tp_St → Prop} {σ : tp_St} (q0 : Nat) (hq0 : q0 = 24 ∨ q0 = 25) (h : ((σ.1 q0 7) = (-1) →
post (((σ.1 q0 5) + (σ.1 q0 6)) + 0) σ) ∧ (¬ (σ.1 q0 7) = (-1) →
post (((σ.1 q0 5) + (σ.1 q0 6)) + 1) σ)) : tp_E 7 0 [.ref q0] [] σ post := by
  rcases hq0 with rfl | rfl
  · exact tp_E_step (And.intro (fun c1 => Exists.intro _ (And.intro (tp_wk_rf _) (tp_E_step (And.intro rfl (h.1 c1))))) (fun c1 => Exists.intro _ (And.intro (tp_wk_rf _) (tp_E_step (Exists.intro _ (And.intro (tp_wk_rf _) (tp_E_step (And.intro rfl (h.2 c1)))))))))
  · exact tp_E_step (And.intro (fun c1 => Exists.intro _ (And.intro (tp_wk_rf _) (tp_E_step (And.intro rfl (h.1 c1))))) (fun c1 => Exists.intro _ (And.intro (tp_wk_rf _) (tp_E_step (Exists.intro _ (And.intro (tp_wk_rf _) (tp_E_step (And.intro rfl (h.2 c1)))))))))
/-- X1_hasRoomFor (I)Z, 0 -/
theorem sg_8_0 {post : Int32 → tp_St → Prop} {σ : tp_St} (q0 : Nat) (a1 : Int32) (hq0 : q0 = 24 ∨ q0 = 25) (h : (a1.toInt = 0 →
(9 ≤ (σ.1 q0 5) →
post 0 σ) ∧ (¬ 9 ≤ (σ.1 q0 5) →
post 1 σ)) ∧ (¬ a1.toInt = 0 →
(a1.toInt = 1 →
(4 ≤ (σ.1 q0 6) →
post 0 σ) ∧ (¬ 4 ≤ (σ.1 q0 6) →
post 1 σ)) ∧ (¬ a1.toInt = 1 →
((σ.1 q0 7) = (-1) →
post 1 σ) ∧ (¬ (σ.1 q0 7) = (-1) →
post 0 σ)))) : tp_E 8 0 [.ref q0, .int a1] [] σ post := by
  rcases hq0 with rfl | rfl
  · exact tp_E_step (And.intro (fun c1 => Exists.intro _ (And.intro (tp_wk_rf _) (tp_E_step (And.intro (fun c2 => Exists.intro _ (And.intro (tp_wk_rf _) (tp_E_step (Exists.intro _ (And.intro (tp_wk_rf _) (tp_E_step (And.intro rfl ((h.1 c1).1 c2)))))))) (fun c2 => Exists.intro _ (And.intro (tp_wk_rf _) (tp_E_step (And.intro rfl ((h.1 c1).2 c2))))))))) (fun c1 => And.intro (fun c3 => Exists.intro _ (And.intro (tp_wk_rf _) (tp_E_step (And.intro (fun c4 => Exists.intro _ (And.intro (tp_wk_rf _) (tp_E_step (Exists.intro _ (And.intro (tp_wk_rf _) (tp_E_step (And.intro rfl (((h.2 c1).1 c3).1 c4)))))))) (fun c4 => Exists.intro _ (And.intro (tp_wk_rf _) (tp_E_step (And.intro rfl (((h.2 c1).1 c3).2 c4))))))))) (fun c3 => Exists.intro _ (And.intro (tp_wk_rf _) (tp_E_step (And.intro (fun c5 => Exists.intro _ (And.intro (tp_wk_rf _) (tp_E_step (And.intro rfl (((h.2 c1).2 c3).1 c5))))) (fun c5 => Exists.intro _ (And.intro (tp_wk_rf _) (tp_E_step (Exists.intro _ (And.intro (tp_wk_rf _) (tp_E_step (And.intro rfl (((h.2 c1).2 c3).2 c5))))))))))))))
  · exact tp_E_step (And.intro (fun c1 => Exists.intro _ (And.intro (tp_wk_rf _) (tp_E_step (And.intro (fun c2 => Exists.intro _ (And.intro (tp_wk_rf _) (tp_E_step (Exists.intro _ (And.intro (tp_wk_rf _) (tp_E_step (And.intro rfl ((h.1 c1).1 c2)))))))) (fun c2 => Exists.intro _ (And.intro (tp_wk_rf _) (tp_E_step (And.intro rfl ((h.1 c1).2 c2))))))))) (fun c1 => And.intro (fun c3 => Exists.intro _ (And.intro (tp_wk_rf _) (tp_E_step (And.intro (fun c4 => Exists.intro _ (And.intro (tp_wk_rf _) (tp_E_step (Exists.intro _ (And.intro (tp_wk_rf _) (tp_E_step (And.intro rfl (((h.2 c1).1 c3).1 c4)))))))) (fun c4 => Exists.intro _ (And.intro (tp_wk_rf _) (tp_E_step (And.intro rfl (((h.2 c1).1 c3).2 c4))))))))) (fun c3 => Exists.intro _ (And.intro (tp_wk_rf _) (tp_E_step (And.intro (fun c5 => Exists.intro _ (And.intro (tp_wk_rf _) (tp_E_step (And.intro rfl (((h.2 c1).2 c3).1 c5))))) (fun c5 => Exists.intro _ (And.intro (tp_wk_rf _) (tp_E_step (Exists.intro _ (And.intro (tp_wk_rf _) (tp_E_step (And.intro rfl (((h.2 c1).2 c3).2 c5))))))))))))))
/-- X1_add (IIII)V, 0 -/
theorem sg_9_0 {post : Int32 → tp_St → Prop} {σ : tp_St} (q0 : Nat) (a1 : Int32) (a2 : Int32) (a3 : Int32) (a4 : Int32) (hq0 : q0 = 24 ∨ q0 = 25) (h : tp_E 8 0 [.ref q0, .int a1] [] σ (fun r1 σ1 =>
(r1 = 0 →
post 0 σ1) ∧ (¬ r1 = 0 →
(a1.toInt = 0 →
vp_in (σ1.1 q0 5) 9 ∧
vp_in ((tp_set σ1 (tp_rr σ1 q0 0) ((σ1.1 q0 5)).toNatClampNeg a2).1 q0 5) 9 ∧
post 0 (tp_set (tp_set (tp_set σ1 (tp_rr σ1 q0 0) ((σ1.1 q0 5)).toNatClampNeg a2) (tp_rr (tp_set σ1 (tp_rr σ1 q0 0) ((σ1.1 q0 5)).toNatClampNeg a2) q0 1) (((tp_set σ1 (tp_rr σ1 q0 0) ((σ1.1 q0 5)).toNatClampNeg a2).1 q0 5)).toNatClampNeg a3) q0 5 (((tp_set (tp_set σ1 (tp_rr σ1 q0 0) ((σ1.1 q0 5)).toNatClampNeg a2) (tp_rr (tp_set σ1 (tp_rr σ1 q0 0) ((σ1.1 q0 5)).toNatClampNeg a2) q0 1) (((tp_set σ1 (tp_rr σ1 q0 0) ((σ1.1 q0 5)).toNatClampNeg a2).1 q0 5)).toNatClampNeg a3).1 q0 5) + 1))) ∧ (¬ a1.toInt = 0 →
(a1.toInt = 1 →
vp_in (σ1.1 q0 6) 4 ∧
vp_in ((tp_set σ1 (tp_rr σ1 q0 2) ((σ1.1 q0 6)).toNatClampNeg a2).1 q0 6) 4 ∧
vp_in ((tp_set (tp_set σ1 (tp_rr σ1 q0 2) ((σ1.1 q0 6)).toNatClampNeg a2) (tp_rr (tp_set σ1 (tp_rr σ1 q0 2) ((σ1.1 q0 6)).toNatClampNeg a2) q0 3) (((tp_set σ1 (tp_rr σ1 q0 2) ((σ1.1 q0 6)).toNatClampNeg a2).1 q0 6)).toNatClampNeg a3).1 q0 6) 4 ∧
post 0 (tp_set (tp_set (tp_set (tp_set σ1 (tp_rr σ1 q0 2) ((σ1.1 q0 6)).toNatClampNeg a2) (tp_rr (tp_set σ1 (tp_rr σ1 q0 2) ((σ1.1 q0 6)).toNatClampNeg a2) q0 3) (((tp_set σ1 (tp_rr σ1 q0 2) ((σ1.1 q0 6)).toNatClampNeg a2).1 q0 6)).toNatClampNeg a3) (tp_rr (tp_set (tp_set σ1 (tp_rr σ1 q0 2) ((σ1.1 q0 6)).toNatClampNeg a2) (tp_rr (tp_set σ1 (tp_rr σ1 q0 2) ((σ1.1 q0 6)).toNatClampNeg a2) q0 3) (((tp_set σ1 (tp_rr σ1 q0 2) ((σ1.1 q0 6)).toNatClampNeg a2).1 q0 6)).toNatClampNeg a3) q0 4) (((tp_set (tp_set σ1 (tp_rr σ1 q0 2) ((σ1.1 q0 6)).toNatClampNeg a2) (tp_rr (tp_set σ1 (tp_rr σ1 q0 2) ((σ1.1 q0 6)).toNatClampNeg a2) q0 3) (((tp_set σ1 (tp_rr σ1 q0 2) ((σ1.1 q0 6)).toNatClampNeg a2).1 q0 6)).toNatClampNeg a3).1 q0 6)).toNatClampNeg a4) q0 6 (((tp_set (tp_set (tp_set σ1 (tp_rr σ1 q0 2) ((σ1.1 q0 6)).toNatClampNeg a2) (tp_rr (tp_set σ1 (tp_rr σ1 q0 2) ((σ1.1 q0 6)).toNatClampNeg a2) q0 3) (((tp_set σ1 (tp_rr σ1 q0 2) ((σ1.1 q0 6)).toNatClampNeg a2).1 q0 6)).toNatClampNeg a3) (tp_rr (tp_set (tp_set σ1 (tp_rr σ1 q0 2) ((σ1.1 q0 6)).toNatClampNeg a2) (tp_rr (tp_set σ1 (tp_rr σ1 q0 2) ((σ1.1 q0 6)).toNatClampNeg a2) q0 3) (((tp_set σ1 (tp_rr σ1 q0 2) ((σ1.1 q0 6)).toNatClampNeg a2).1 q0 6)).toNatClampNeg a3) q0 4) (((tp_set (tp_set σ1 (tp_rr σ1 q0 2) ((σ1.1 q0 6)).toNatClampNeg a2) (tp_rr (tp_set σ1 (tp_rr σ1 q0 2) ((σ1.1 q0 6)).toNatClampNeg a2) q0 3) (((tp_set σ1 (tp_rr σ1 q0 2) ((σ1.1 q0 6)).toNatClampNeg a2).1 q0 6)).toNatClampNeg a3).1 q0 6)).toNatClampNeg a4).1 q0 6) + 1))) ∧ (¬ a1.toInt = 1 →
post 0 (tp_set σ1 q0 7 a2)))))) : tp_E 9 0 [.ref q0, .int a1, .int a2, .int a3, .int a4] [] σ post := by
  rcases hq0 with rfl | rfl
  · exact tp_E_step (tp_Em h (fun r1 σ1 h1 => And.intro (fun c2 => (h1.1 c2)) (fun c2 => Exists.intro _ (And.intro (tp_wk_rf _) (tp_E_step (And.intro (fun c3 => Exists.intro _ (And.intro (tp_wk_rf _) (tp_E_step (And.intro ((h1.2 c2).1 c3).1 (And.intro ((h1.2 c2).1 c3).2.1 (Exists.intro _ (And.intro (tp_wk_rf _) (tp_E_step (((h1.2 c2).1 c3).2.2))))))))) (fun c3 => And.intro (fun c4 => Exists.intro _ (And.intro (tp_wk_rf _) (tp_E_step (And.intro (((h1.2 c2).2 c3).1 c4).1 (And.intro (((h1.2 c2).2 c3).1 c4).2.1 (And.intro (((h1.2 c2).2 c3).1 c4).2.2.1 (Exists.intro _ (And.intro (tp_wk_rf _) (tp_E_step ((((h1.2 c2).2 c3).1 c4).2.2.2)))))))))) (fun c4 => Exists.intro _ (And.intro (tp_wk_rf _) (tp_E_step (Exists.intro _ (And.intro (tp_wk_rf _) (tp_E_step ((((h1.2 c2).2 c3).2 c4)))))))))))))))
  · exact tp_E_step (tp_Em h (fun r1 σ1 h1 => And.intro (fun c2 => (h1.1 c2)) (fun c2 => Exists.intro _ (And.intro (tp_wk_rf _) (tp_E_step (And.intro (fun c3 => Exists.intro _ (And.intro (tp_wk_rf _) (tp_E_step (And.intro ((h1.2 c2).1 c3).1 (And.intro ((h1.2 c2).1 c3).2.1 (Exists.intro _ (And.intro (tp_wk_rf _) (tp_E_step (((h1.2 c2).1 c3).2.2))))))))) (fun c3 => And.intro (fun c4 => Exists.intro _ (And.intro (tp_wk_rf _) (tp_E_step (And.intro (((h1.2 c2).2 c3).1 c4).1 (And.intro (((h1.2 c2).2 c3).1 c4).2.1 (And.intro (((h1.2 c2).2 c3).1 c4).2.2.1 (Exists.intro _ (And.intro (tp_wk_rf _) (tp_E_step ((((h1.2 c2).2 c3).1 c4).2.2.2)))))))))) (fun c4 => Exists.intro _ (And.intro (tp_wk_rf _) (tp_E_step (Exists.intro _ (And.intro (tp_wk_rf _) (tp_E_step ((((h1.2 c2).2 c3).2 c4)))))))))))))))
/-- X1_latestFare (I)I, 0 -/
theorem sg_10_0 {post : Int32 → tp_St → Prop} {σ : tp_St} (q0 : Nat) (a1 : Int32) (hq0 : q0 = 24 ∨ q0 = 25) (h : ((σ.1 q0 5) = 0 →
post 0 σ) ∧ (¬ (σ.1 q0 5) = 0 →
(a1 = 0 →
vp_in ((σ.1 q0 5) - 1) 9 ∧
post (σ.1 (tp_rr σ q0 0) (((σ.1 q0 5) - 1)).toNatClampNeg) σ) ∧ (¬ a1 = 0 →
vp_in ((σ.1 q0 5) - 1) 9 ∧
post (σ.1 (tp_rr σ q0 1) (((σ.1 q0 5) - 1)).toNatClampNeg) σ))) : tp_E 10 0 [.ref q0, .int a1] [] σ post := by
  rcases hq0 with rfl | rfl
  · exact tp_E_step (And.intro (fun c1 => And.intro rfl (h.1 c1)) (fun c1 => Exists.intro _ (And.intro (tp_wk_rf _) (tp_E_step (And.intro (fun c2 => And.intro ((h.2 c1).1 c2).1 (Exists.intro _ (And.intro (tp_wk_rf _) (tp_E_step (And.intro rfl ((h.2 c1).1 c2).2))))) (fun c2 => Exists.intro _ (And.intro (tp_wk_rf _) (tp_E_step (And.intro ((h.2 c1).2 c2).1 (Exists.intro _ (And.intro (tp_wk_rf _) (tp_E_step (And.intro rfl ((h.2 c1).2 c2).2)))))))))))))
  · exact tp_E_step (And.intro (fun c1 => And.intro rfl (h.1 c1)) (fun c1 => Exists.intro _ (And.intro (tp_wk_rf _) (tp_E_step (And.intro (fun c2 => And.intro ((h.2 c1).1 c2).1 (Exists.intro _ (And.intro (tp_wk_rf _) (tp_E_step (And.intro rfl ((h.2 c1).1 c2).2))))) (fun c2 => Exists.intro _ (And.intro (tp_wk_rf _) (tp_E_step (And.intro ((h.2 c1).2 c2).1 (Exists.intro _ (And.intro (tp_wk_rf _) (tp_E_step (And.intro rfl ((h.2 c1).2 c2).2)))))))))))))
/-- X1_priceFor (II)I, 0 -/
theorem sg_11_0 {post : Int32 → tp_St → Prop} {σ : tp_St} (q0 : Nat) (a1 : Int32) (a2 : Int32) (hq0 : q0 = 24 ∨ q0 = 25) (h : tp_E 11 2 [.ref q0, .int a1, .int a2, .int 0] [] σ post) : tp_E 11 0 [.ref q0, .int a1, .int a2, .null] [] σ post := by
  rcases hq0 with rfl | rfl
  · exact tp_E_step (Exists.intro [.ref 24, .int a1, .int a2, .int 0] (And.intro (And.intro (Or.inr rfl) (And.intro (Or.inr rfl) (And.intro (Or.inr rfl) (And.intro (Or.inr rfl) (trivial))))) h))
  · exact tp_E_step (Exists.intro [.ref 25, .int a1, .int a2, .int 0] (And.intro (And.intro (Or.inr rfl) (And.intro (Or.inr rfl) (And.intro (Or.inr rfl) (And.intro (Or.inr rfl) (trivial))))) h))
/-- X1_priceFor (II)I, 2 -/
theorem sg_11_2 {post : Int32 → tp_St → Prop} {σ : tp_St} (q0 : Nat) (a1 : Int32) (a2 : Int32) (a3 : Int32) (hq0 : q0 = 24 ∨ q0 = 25) (h : ((σ.1 q0 5) ≤ a3 →
post (-4) σ) ∧ (¬ (σ.1 q0 5) ≤ a3 →
vp_in a3 9 ∧
((σ.1 (tp_rr σ q0 0) (a3).toNatClampNeg) < a1 →
tp_E 11 2 [.ref q0, .int a1, .int a2, .int (a3 + 1)] [] σ post) ∧ (¬ (σ.1 (tp_rr σ q0 0) (a3).toNatClampNeg) < a1 →
vp_in a3 9 ∧
tp_E 12 0 [.ref q0, .int a2, .null] [] σ (fun r1 σ1 =>
post ((((σ.1 (tp_rr σ q0 1) (a3).toNatClampNeg) * r1) + 99) / 100) σ1)))) : tp_E 11 2 [.ref q0, .int a1, .int a2, .int a3] [] σ post := by
  rcases hq0 with rfl | rfl
  · exact tp_E_step (And.intro (fun c2 => Exists.intro _ (And.intro (tp_wk_rf _) (tp_E_step (And.intro rfl (h.1 c2))))) (fun c2 => And.intro (h.2 c2).1 (And.intro (fun c3 => Exists.intro _ (And.intro (tp_wk_rf _) (tp_E_step (Exists.intro [.ref 24, .int a1, .int a2, .int (a3 + 1)] (And.intro (And.intro (Or.inr rfl) (And.intro (Or.inr rfl) (And.intro (Or.inr rfl) (And.intro (Or.inr rfl) (trivial))))) ((h.2 c2).2.1 c3)))))) (fun c3 => And.intro ((h.2 c2).2.2 c3).1 (tp_Em ((h.2 c2).2.2 c3).2 (fun r1 σ1 h1 => And.intro (by decide) (And.intro rfl h1)))))))
  · exact tp_E_step (And.intro (fun c2 => Exists.intro _ (And.intro (tp_wk_rf _) (tp_E_step (And.intro rfl (h.1 c2))))) (fun c2 => And.intro (h.2 c2).1 (And.intro (fun c3 => Exists.intro _ (And.intro (tp_wk_rf _) (tp_E_step (Exists.intro [.ref 25, .int a1, .int a2, .int (a3 + 1)] (And.intro (And.intro (Or.inr rfl) (And.intro (Or.inr rfl) (And.intro (Or.inr rfl) (And.intro (Or.inr rfl) (trivial))))) ((h.2 c2).2.1 c3)))))) (fun c3 => And.intro ((h.2 c2).2.2 c3).1 (tp_Em ((h.2 c2).2.2 c3).2 (fun r1 σ1 h1 => And.intro (by decide) (And.intro rfl h1)))))))
/-- X1_shareAt (I)I, 0 -/
theorem sg_12_0 {post : Int32 → tp_St → Prop} {σ : tp_St} (q0 : Nat) (a1 : Int32) (hq0 : q0 = 24 ∨ q0 = 25) (h : tp_E 12 2 [.ref q0, .int a1, .int 0] [] σ post) : tp_E 12 0 [.ref q0, .int a1, .null] [] σ post := by
  rcases hq0 with rfl | rfl
  · exact tp_E_step (Exists.intro [.ref 24, .int a1, .int 0] (And.intro (And.intro (Or.inr rfl) (And.intro (Or.inr rfl) (And.intro (Or.inr rfl) (trivial)))) h))
  · exact tp_E_step (Exists.intro [.ref 25, .int a1, .int 0] (And.intro (And.intro (Or.inr rfl) (And.intro (Or.inr rfl) (And.intro (Or.inr rfl) (trivial)))) h))
/-- X1_shareAt (I)I, 2 -/
theorem sg_12_2 {post : Int32 → tp_St → Prop} {σ : tp_St} (q0 : Nat) (a1 : Int32) (a2 : Int32) (hq0 : q0 = 24 ∨ q0 = 25) (h : ((σ.1 q0 6) ≤ a2 →
post 100 σ) ∧ (¬ (σ.1 q0 6) ≤ a2 →
vp_in a2 4 ∧
(a1 < (σ.1 (tp_rr σ q0 2) (a2).toNatClampNeg) →
tp_E 12 2 [.ref q0, .int a1, .int (a2 + 1)] [] σ post) ∧ (¬ a1 < (σ.1 (tp_rr σ q0 2) (a2).toNatClampNeg) →
vp_in a2 4 ∧
((σ.1 (tp_rr σ q0 3) (a2).toNatClampNeg) ≤ a1 →
tp_E 12 2 [.ref q0, .int a1, .int (a2 + 1)] [] σ post) ∧ (¬ (σ.1 (tp_rr σ q0 3) (a2).toNatClampNeg) ≤ a1 →
vp_in a2 4 ∧
post (σ.1 (tp_rr σ q0 4) (a2).toNatClampNeg) σ)))) : tp_E 12 2 [.ref q0, .int a1, .int a2] [] σ post := by
  rcases hq0 with rfl | rfl
  · exact tp_E_step (And.intro (fun c1 => Exists.intro _ (And.intro (tp_wk_rf _) (tp_E_step (And.intro rfl (h.1 c1))))) (fun c1 => And.intro (h.2 c1).1 (And.intro (fun c2 => Exists.intro _ (And.intro (tp_wk_rf _) (tp_E_step (Exists.intro [.ref 24, .int a1, .int (a2 + 1)] (And.intro (And.intro (Or.inr rfl) (And.intro (Or.inr rfl) (And.intro (Or.inr rfl) (trivial)))) ((h.2 c1).2.1 c2)))))) (fun c2 => And.intro ((h.2 c1).2.2 c2).1 (And.intro (fun c3 => Exists.intro _ (And.intro (tp_wk_rf _) (tp_E_step (Exists.intro [.ref 24, .int a1, .int (a2 + 1)] (And.intro (And.intro (Or.inr rfl) (And.intro (Or.inr rfl) (And.intro (Or.inr rfl) (trivial)))) (((h.2 c1).2.2 c2).2.1 c3)))))) (fun c3 => And.intro (((h.2 c1).2.2 c2).2.2 c3).1 (And.intro rfl (((h.2 c1).2.2 c2).2.2 c3).2)))))))
  · exact tp_E_step (And.intro (fun c1 => Exists.intro _ (And.intro (tp_wk_rf _) (tp_E_step (And.intro rfl (h.1 c1))))) (fun c1 => And.intro (h.2 c1).1 (And.intro (fun c2 => Exists.intro _ (And.intro (tp_wk_rf _) (tp_E_step (Exists.intro [.ref 25, .int a1, .int (a2 + 1)] (And.intro (And.intro (Or.inr rfl) (And.intro (Or.inr rfl) (And.intro (Or.inr rfl) (trivial)))) ((h.2 c1).2.1 c2)))))) (fun c2 => And.intro ((h.2 c1).2.2 c2).1 (And.intro (fun c3 => Exists.intro _ (And.intro (tp_wk_rf _) (tp_E_step (Exists.intro [.ref 25, .int a1, .int (a2 + 1)] (And.intro (And.intro (Or.inr rfl) (And.intro (Or.inr rfl) (And.intro (Or.inr rfl) (trivial)))) (((h.2 c1).2.2 c2).2.1 c3)))))) (fun c3 => And.intro (((h.2 c1).2.2 c2).2.2 c3).1 (And.intro rfl (((h.2 c1).2.2 c2).2.2 c3).2)))))))
/-- X1_isChangeGood (I)Z, 0 -/
theorem sg_13_0 {post : Int32 → tp_St → Prop} {σ : tp_St} (q0 : Nat) (a1 : Int32) (hq0 : q0 = 24 ∨ q0 = 25) (h : ((σ.1 q0 7) = (-1) →
post 0 σ) ∧ (¬ (σ.1 q0 7) = (-1) →
((σ.1 q0 7) < a1 →
post 0 σ) ∧ (¬ (σ.1 q0 7) < a1 →
post 1 σ))) : tp_E 13 0 [.ref q0, .int a1] [] σ post := by
  rcases hq0 with rfl | rfl
  · exact tp_E_step (And.intro (fun c1 => Exists.intro _ (And.intro (tp_wk_rf _) (tp_E_step (Exists.intro _ (And.intro (tp_wk_rf _) (tp_E_step (And.intro rfl (h.1 c1)))))))) (fun c1 => And.intro (fun c2 => Exists.intro _ (And.intro (tp_wk_rf _) (tp_E_step (Exists.intro _ (And.intro (tp_wk_rf _) (tp_E_step (And.intro rfl ((h.2 c1).1 c2)))))))) (fun c2 => Exists.intro _ (And.intro (tp_wk_rf _) (tp_E_step (And.intro rfl ((h.2 c1).2 c2)))))))
  · exact tp_E_step (And.intro (fun c1 => Exists.intro _ (And.intro (tp_wk_rf _) (tp_E_step (Exists.intro _ (And.intro (tp_wk_rf _) (tp_E_step (And.intro rfl (h.1 c1)))))))) (fun c1 => And.intro (fun c2 => Exists.intro _ (And.intro (tp_wk_rf _) (tp_E_step (Exists.intro _ (And.intro (tp_wk_rf _) (tp_E_step (And.intro rfl ((h.2 c1).1 c2)))))))) (fun c2 => Exists.intro _ (And.intro (tp_wk_rf _) (tp_E_step (And.intro rfl ((h.2 c1).2 c2)))))))
/-- X2_size (II)I, 0 -/
theorem sg_14_0 {post : Int32 → tp_St → Prop} {σ : tp_St} (a1 : Int32) (a2 : Int32)  (h : vp_in a1 6 ∧
vp_in a2 5 ∧
vp_in a1 6 ∧
vp_in a2 5 ∧
post ((σ.1 (52 + (a1).toNatClampNeg) (a2).toNatClampNeg) - (σ.1 (46 + (a1).toNatClampNeg) (a2).toNatClampNeg)) σ) : tp_E 14 0 [.ref 2, .int a1, .int a2] [] σ post := tp_E_step (And.intro h.1 (tp_rw (tp_rk52 h.1) (And.intro h.2.1 (And.intro h.2.2.1 (tp_rw (tp_rk46 h.2.2.1) (And.intro h.2.2.2.1 (And.intro rfl h.2.2.2.2)))))))
/-- X2_replace (IIII)V, 0 -/
theorem sg_15_0 {post : Int32 → tp_St → Prop} {σ : tp_St} (a1 : Int32) (a2 : Int32) (a3 : Int32) (a4 : Int32)  (h : vp_in a1 6 ∧
vp_in a2 5 ∧
vp_in a1 6 ∧
vp_in a2 5 ∧
post 0 (tp_set (tp_set σ (46 + (a1).toNatClampNeg) (a2).toNatClampNeg a3) (52 + (a1).toNatClampNeg) (a2).toNatClampNeg a4)) : tp_E 15 0 [.ref 2, .int a1, .int a2, .int a3, .int a4] [] σ post := tp_E_step (And.intro h.1 (tp_rs (tp_rk46 h.1) (And.intro h.2.1 (And.intro h.2.2.1 (tp_rs (tp_rk52 h.2.2.1) (And.intro h.2.2.2.1 (h.2.2.2.2)))))))
/-- X2_takeNext (II)I, 0 -/
theorem sg_16_0 {post : Int32 → tp_St → Prop} {σ : tp_St} (a1 : Int32) (a2 : Int32)  (h : vp_in a1 6 ∧
vp_in a2 5 ∧
vp_in a2 5 ∧
post (σ.1 (46 + (a1).toNatClampNeg) (a2).toNatClampNeg) (tp_set σ (46 + (a1).toNatClampNeg) (a2).toNatClampNeg ((σ.1 (46 + (a1).toNatClampNeg) (a2).toNatClampNeg) + 1))) : tp_E 16 0 [.ref 2, .int a1, .int a2] [] σ post := tp_E_step (And.intro h.1 (tp_rw (tp_rk46 h.1) (And.intro h.2.1 (tp_rs (tp_rk46 h.1) (And.intro h.2.2.1 (And.intro rfl h.2.2.2))))))
/-- X2_anyWithOthers (IIII)Z, 0 -/
theorem sg_17_0 {post : Int32 → tp_St → Prop} {σ : tp_St} (a1 : Int32) (a2 : Int32) (a3 : Int32) (a4 : Int32)  (h : tp_E 17 3 [.ref 2, .int a1, .int a2, .int a3, .int a4, .int 0, .null] [] σ post) : tp_E 17 0 [.ref 2, .int a1, .int a2, .int a3, .int a4, .null, .null] [] σ post := tp_E_step (Exists.intro [.ref 2, .int a1, .int a2, .int a3, .int a4, .int 0, .null] (And.intro (And.intro (Or.inr rfl) (And.intro (Or.inr rfl) (And.intro (Or.inr rfl) (And.intro (Or.inr rfl) (And.intro (Or.inr rfl) (And.intro (Or.inr rfl) (And.intro (Or.inr rfl) (trivial)))))))) h))
/-- X2_anyWithOthers (IIII)Z, 3 -/
theorem sg_17_3 {post : Int32 → tp_St → Prop} {σ : tp_St} (a1 : Int32) (a2 : Int32) (a3 : Int32) (a4 : Int32) (a5 : Int32)  (h : (6 ≤ a5 →
post 0 σ) ∧ (¬ 6 ≤ a5 →
vp_in a5 6 ∧
vp_in a2 5 ∧
(a5 = a1 →
tp_E 17 3 [.ref 2, .int a1, .int a2, .int a3, .int a4, .int (a5 + 1), .null] [] σ post) ∧ (¬ a5 = a1 →
vp_in a5 6 ∧
vp_in a2 5 ∧
((if (σ.1 (52 + (a5).toNatClampNeg) (a2).toNatClampNeg) < a4 then (σ.1 (52 + (a5).toNatClampNeg) (a2).toNatClampNeg) else a4) ≤ (if a3 < (σ.1 (46 + (a5).toNatClampNeg) (a2).toNatClampNeg) then (σ.1 (46 + (a5).toNatClampNeg) (a2).toNatClampNeg) else a3) →
tp_E 17 3 [.ref 2, .int a1, .int a2, .int a3, .int a4, .int (a5 + 1), .null] [] σ post) ∧ (¬ (if (σ.1 (52 + (a5).toNatClampNeg) (a2).toNatClampNeg) < a4 then (σ.1 (52 + (a5).toNatClampNeg) (a2).toNatClampNeg) else a4) ≤ (if a3 < (σ.1 (46 + (a5).toNatClampNeg) (a2).toNatClampNeg) then (σ.1 (46 + (a5).toNatClampNeg) (a2).toNatClampNeg) else a3) →
post 1 σ)))) : tp_E 17 3 [.ref 2, .int a1, .int a2, .int a3, .int a4, .int a5, .null] [] σ post := tp_E_step (And.intro (fun c1 => Exists.intro _ (And.intro (tp_wk_rf _) (tp_E_step (And.intro rfl (h.1 c1))))) (fun c1 => And.intro (h.2 c1).1 (tp_rw (tp_rk46 (h.2 c1).1) (And.intro (h.2 c1).2.1 (And.intro (fun c2 => Exists.intro _ (And.intro (tp_wk_rf _) (tp_E_step (Exists.intro [.ref 2, .int a1, .int a2, .int a3, .int a4, .int (a5 + 1), .null] (And.intro (And.intro (Or.inr rfl) (And.intro (Or.inr rfl) (And.intro (Or.inr rfl) (And.intro (Or.inr rfl) (And.intro (Or.inr rfl) (And.intro (Or.inr rfl) (And.intro (Or.inl rfl) (trivial)))))))) ((h.2 c1).2.2.1 c2)))))) (fun c2 => And.intro ((h.2 c1).2.2.2 c2).1 (tp_rw (tp_rk52 ((h.2 c1).2.2.2 c2).1) (And.intro ((h.2 c1).2.2.2 c2).2.1 (And.intro (fun c3 => Exists.intro _ (And.intro (tp_wk_rf _) (tp_E_step (Exists.intro [.ref 2, .int a1, .int a2, .int a3, .int a4, .int (a5 + 1), .null] (And.intro (And.intro (Or.inr rfl) (And.intro (Or.inr rfl) (And.intro (Or.inr rfl) (And.intro (Or.inr rfl) (And.intro (Or.inr rfl) (And.intro (Or.inr rfl) (And.intro (Or.inl rfl) (trivial)))))))) (((h.2 c1).2.2.2 c2).2.2.1 c3)))))) (fun c3 => And.intro rfl (((h.2 c1).2.2.2 c2).2.2.2 c3)))))))))))
/-- X2_beyond (II)I, 0 -/
theorem sg_18_0 {post : Int32 → tp_St → Prop} {σ : tp_St} (a1 : Int32) (a2 : Int32)  (h : tp_E 18 5 [.ref 2, .int a1, .null, .int a2, .int 0] [] σ post) : tp_E 18 0 [.ref 2, .int a1, .int a2, .null, .null] [] σ post := tp_E_step (Exists.intro [.ref 2, .int a1, .null, .int a2, .int 0] (And.intro (And.intro (Or.inr rfl) (And.intro (Or.inr rfl) (And.intro (Or.inl rfl) (And.intro (Or.inr rfl) (And.intro (Or.inr rfl) (trivial)))))) h))
/-- X2_beyond (II)I, 5 -/
theorem sg_18_5 {post : Int32 → tp_St → Prop} {σ : tp_St} (a1 : Int32) (a3 : Int32) (a4 : Int32)  (h : (6 ≤ a4 →
post a3 σ) ∧ (¬ 6 ≤ a4 →
vp_in a4 6 ∧
vp_in a1 5 ∧
(a3 < (σ.1 (46 + (a4).toNatClampNeg) (a1).toNatClampNeg) →
tp_E 18 5 [.ref 2, .int a1, .null, .int a3, .int (a4 + 1)] [] σ post) ∧ (¬ a3 < (σ.1 (46 + (a4).toNatClampNeg) (a1).toNatClampNeg) →
vp_in a4 6 ∧
vp_in a1 5 ∧
((σ.1 (52 + (a4).toNatClampNeg) (a1).toNatClampNeg) ≤ a3 →
tp_E 18 5 [.ref 2, .int a1, .null, .int a3, .int (a4 + 1)] [] σ post) ∧ (¬ (σ.1 (52 + (a4).toNatClampNeg) (a1).toNatClampNeg) ≤ a3 →
vp_in a4 6 ∧
vp_in a1 5 ∧
tp_E 18 5 [.ref 2, .int a1, .null, .int (σ.1 (52 + (a4).toNatClampNeg) (a1).toNatClampNeg), .int (a4 + 1)] [] σ post)))) : tp_E 18 5 [.ref 2, .int a1, .null, .int a3, .int a4] [] σ post := tp_E_step (And.intro (fun c1 => Exists.intro _ (And.intro (tp_wk_rf _) (tp_E_step (And.intro rfl (h.1 c1))))) (fun c1 => And.intro (h.2 c1).1 (tp_rw (tp_rk46 (h.2 c1).1) (And.intro (h.2 c1).2.1 (And.intro (fun c2 => Exists.intro _ (And.intro (tp_wk_rf _) (tp_E_step (Exists.intro [.ref 2, .int a1, .null, .int a3, .int (a4 + 1)] (And.intro (And.intro (Or.inr rfl) (And.intro (Or.inr rfl) (And.intro (Or.inr rfl) (And.intro (Or.inr rfl) (And.intro (Or.inr rfl) (trivial)))))) ((h.2 c1).2.2.1 c2)))))) (fun c2 => And.intro ((h.2 c1).2.2.2 c2).1 (tp_rw (tp_rk52 ((h.2 c1).2.2.2 c2).1) (And.intro ((h.2 c1).2.2.2 c2).2.1 (And.intro (fun c3 => Exists.intro _ (And.intro (tp_wk_rf _) (tp_E_step (Exists.intro [.ref 2, .int a1, .null, .int a3, .int (a4 + 1)] (And.intro (And.intro (Or.inr rfl) (And.intro (Or.inr rfl) (And.intro (Or.inr rfl) (And.intro (Or.inr rfl) (And.intro (Or.inr rfl) (trivial)))))) (((h.2 c1).2.2.2 c2).2.2.1 c3)))))) (fun c3 => And.intro (((h.2 c1).2.2.2 c2).2.2.2 c3).1 (tp_rw (tp_rk52 (((h.2 c1).2.2.2 c2).2.2.2 c3).1) (And.intro (((h.2 c1).2.2.2 c2).2.2.2 c3).2.1 (Exists.intro _ (And.intro (tp_wk_rf _) (tp_E_step (Exists.intro [.ref 2, .int a1, .null, .int (σ.1 (52 + (a4).toNatClampNeg) (a1).toNatClampNeg), .int (a4 + 1)] (And.intro (And.intro (Or.inr rfl) (And.intro (Or.inr rfl) (And.intro (Or.inr rfl) (And.intro (Or.inr rfl) (And.intro (Or.inr rfl) (trivial)))))) (((h.2 c1).2.2.2 c2).2.2.2 c3).2.2)))))))))))))))))
/-- X3_add (II)I, 0 -/
theorem sg_19_0 {post : Int32 → tp_St → Prop} {σ : tp_St} (a1 : Int32) (a2 : Int32)  (h : ((σ.1 7 4) < 10 →
vp_in (σ.1 7 4) 10 ∧
vp_in (σ.1 7 4) 10 ∧
tp_E 21 0 [.ref 7, .null, .null] [] (tp_set (tp_set (tp_set σ 28 ((σ.1 7 4)).toNatClampNeg a1) 29 ((σ.1 7 4)).toNatClampNeg a2) 7 4 ((σ.1 7 4) + 1)) (fun r1 σ1 =>
post (σ.1 7 4) σ1)) ∧ (¬ (σ.1 7 4) < 10 →
post (-3) σ)) : tp_E 19 0 [.ref 7, .int a1, .int a2, .null] [] σ post := tp_E_step (And.intro (fun c1 => Exists.intro _ (And.intro (tp_wk_rf _) (tp_E_step (And.intro (h.1 c1).1 (And.intro (h.1 c1).2.1 (tp_Em (h.1 c1).2.2 (fun r2 σ2 h2 => And.intro rfl h2))))))) (fun c1 => And.intro rfl (h.2 c1)))
/-- X3_replaceRest (I)I, 0 -/
theorem sg_20_0 {post : Int32 → tp_St → Prop} {σ : tp_St} (a1 : Int32)  (h : tp_E 21 0 [.ref 7, .null, .null] [] (tp_set σ 7 6 a1) (fun r1 σ1 =>
post (σ.1 7 6) σ1)) : tp_E 20 0 [.ref 7, .int a1, .null] [] σ post := tp_E_step (tp_Em h (fun r1 σ1 h1 => And.intro rfl h1))
/-- X3_tellCrews ()V, 0 -/
theorem sg_21_0 {post : Int32 → tp_St → Prop} {σ : tp_St}   (h : tp_E 21 7 [.ref 7, .int 0, .null] [] (tp_set σ 7 5 0) post) : tp_E 21 0 [.ref 7, .null, .null] [] σ post := tp_E_step (Exists.intro [.ref 7, .int 0, .null] (And.intro (And.intro (Or.inr rfl) (And.intro (Or.inr rfl) (And.intro (Or.inr rfl) (trivial)))) h))
/-- X3_tellCrews ()V, 7 -/
theorem sg_21_7 {post : Int32 → tp_St → Prop} {σ : tp_St} (a1 : Int32)  (h : ((σ.1 7 4) ≤ a1 →
tp_E 21 30 [.ref 7, .int 0, .null] [] σ post) ∧ (¬ (σ.1 7 4) ≤ a1 →
vp_in a1 10 ∧
tp_E 21 7 [.ref 7, .int (a1 + 1), .null] [] (tp_set σ 31 (a1).toNatClampNeg (-1)) post)) : tp_E 21 7 [.ref 7, .int a1, .null] [] σ post := tp_E_step (And.intro (fun c1 => Exists.intro _ (And.intro (tp_wk_rf _) (tp_E_step (Exists.intro [.ref 7, .int 0, .null] (And.intro (And.intro (Or.inr rfl) (And.intro (Or.inr rfl) (And.intro (Or.inr rfl) (trivial)))) (h.1 c1)))))) (fun c1 => And.intro (h.2 c1).1 (Exists.intro [.ref 7, .int (a1 + 1), .null] (And.intro (And.intro (Or.inr rfl) (And.intro (Or.inr rfl) (And.intro (Or.inr rfl) (trivial)))) (h.2 c1).2))))
/-- X3_tellCrews ()V, 30 -/
theorem sg_21_30 {post : Int32 → tp_St → Prop} {σ : tp_St} (a1 : Int32)  (h : ((σ.1 7 4) ≤ a1 →
post 0 σ) ∧ (¬ (σ.1 7 4) ≤ a1 →
tp_E 22 0 [.ref 7, .null, .null] [] σ (fun r1 σ1 =>
(r1 < 0 →
tp_E 21 30 [.ref 7, .int (a1 + 1), .null] [] σ1 post) ∧ (¬ r1 < 0 →
tp_E 23 0 [.ref 7, .int r1, .null] [] σ1 (fun r2 σ2 =>
tp_E 21 30 [.ref 7, .int (a1 + 1), .null] [] σ2 post))))) : tp_E 21 30 [.ref 7, .int a1, .null] [] σ post := tp_E_step (And.intro (fun c3 => Exists.intro _ (And.intro (tp_wk_rf _) (tp_E_step ((h.1 c3))))) (fun c3 => tp_Em (h.2 c3) (fun r1 σ1 h1 => And.intro (fun c4 => Exists.intro _ (And.intro (tp_wk_rf _) (tp_E_step (Exists.intro [.ref 7, .int (a1 + 1), .null] (And.intro (And.intro (Or.inr rfl) (And.intro (Or.inr rfl) (And.intro (Or.inl rfl) (trivial)))) (h1.1 c4)))))) (fun c4 => tp_Em (h1.2 c4) (fun r2 σ2 h2 => Exists.intro _ (And.intro (tp_wk_rf _) (tp_E_step (Exists.intro [.ref 7, .int (a1 + 1), .null] (And.intro (And.intro (Or.inr rfl) (And.intro (Or.inr rfl) (And.intro (Or.inl rfl) (trivial)))) h2)))))))))
/-- X3_firstWithoutCrew ()I, 0 -/
theorem sg_22_0 {post : Int32 → tp_St → Prop} {σ : tp_St}   (h : tp_E 22 4 [.ref 7, .int (-1), .int 0] [] σ post) : tp_E 22 0 [.ref 7, .null, .null] [] σ post := tp_E_step (Exists.intro [.ref 7, .int (-1), .int 0] (And.intro (And.intro (Or.inr rfl) (And.intro (Or.inr rfl) (And.intro (Or.inr rfl) (trivial)))) h))
/-- X3_firstWithoutCrew ()I, 4 -/
theorem sg_22_4 {post : Int32 → tp_St → Prop} {σ : tp_St} (a1 : Int32) (a2 : Int32)  (h : ((σ.1 7 4) ≤ a2 →
post a1 σ) ∧ (¬ (σ.1 7 4) ≤ a2 →
vp_in a2 10 ∧
((σ.1 31 (a2).toNatClampNeg) = (-1) →
(a1 < 0 →
tp_E 22 4 [.ref 7, .int a2, .int (a2 + 1)] [] σ post) ∧ (¬ a1 < 0 →
vp_in a2 10 ∧
vp_in a1 10 ∧
((σ.1 28 (a1).toNatClampNeg) ≤ (σ.1 28 (a2).toNatClampNeg) →
tp_E 22 4 [.ref 7, .int a1, .int (a2 + 1)] [] σ post) ∧ (¬ (σ.1 28 (a1).toNatClampNeg) ≤ (σ.1 28 (a2).toNatClampNeg) →
tp_E 22 4 [.ref 7, .int a2, .int (a2 + 1)] [] σ post))) ∧ (¬ (σ.1 31 (a2).toNatClampNeg) = (-1) →
tp_E 22 4 [.ref 7, .int a1, .int (a2 + 1)] [] σ post))) : tp_E 22 4 [.ref 7, .int a1, .int a2] [] σ post := tp_E_step (And.intro (fun c1 => Exists.intro _ (And.intro (tp_wk_rf _) (tp_E_step (And.intro rfl (h.1 c1))))) (fun c1 => And.intro (h.2 c1).1 (And.intro (fun c2 => And.intro (fun c3 => Exists.intro _ (And.intro (tp_wk_rf _) (tp_E_step (Exists.intro _ (And.intro (tp_wk_rf _) (tp_E_step (Exists.intro [.ref 7, .int a2, .int (a2 + 1)] (And.intro (And.intro (Or.inr rfl) (And.intro (Or.inr rfl) (And.intro (Or.inr rfl) (trivial)))) (((h.2 c1).2.1 c2).1 c3))))))))) (fun c3 => And.intro (((h.2 c1).2.1 c2).2 c3).1 (And.intro (((h.2 c1).2.1 c2).2 c3).2.1 (And.intro (fun c4 => Exists.intro _ (And.intro (tp_wk_rf _) (tp_E_step (Exists.intro [.ref 7, .int a1, .int (a2 + 1)] (And.intro (And.intro (Or.inr rfl) (And.intro (Or.inr rfl) (And.intro (Or.inr rfl) (trivial)))) ((((h.2 c1).2.1 c2).2 c3).2.2.1 c4)))))) (fun c4 => Exists.intro _ (And.intro (tp_wk_rf _) (tp_E_step (Exists.intro _ (And.intro (tp_wk_rf _) (tp_E_step (Exists.intro [.ref 7, .int a2, .int (a2 + 1)] (And.intro (And.intro (Or.inr rfl) (And.intro (Or.inr rfl) (And.intro (Or.inr rfl) (trivial)))) ((((h.2 c1).2.1 c2).2 c3).2.2.2 c4))))))))))))) (fun c2 => Exists.intro _ (And.intro (tp_wk_rf _) (tp_E_step (Exists.intro [.ref 7, .int a1, .int (a2 + 1)] (And.intro (And.intro (Or.inr rfl) (And.intro (Or.inr rfl) (And.intro (Or.inr rfl) (trivial)))) ((h.2 c1).2.2 c2)))))))))
/-- X3_giveCrew (I)V, 0 -/
theorem sg_23_0 {post : Int32 → tp_St → Prop} {σ : tp_St} (a1 : Int32)  (h : tp_E 23 2 [.ref 7, .int a1, .int 0] [] σ post) : tp_E 23 0 [.ref 7, .int a1, .null] [] σ post := tp_E_step (Exists.intro [.ref 7, .int a1, .int 0] (And.intro (And.intro (Or.inr rfl) (And.intro (Or.inr rfl) (And.intro (Or.inr rfl) (trivial)))) h))
/-- X3_giveCrew (I)V, 2 -/
theorem sg_23_2 {post : Int32 → tp_St → Prop} {σ : tp_St} (a1 : Int32) (a2 : Int32)  (h : ((σ.1 7 5) ≤ a2 →
(a2 < 10 →
vp_in a1 10 ∧
vp_in a1 10 ∧
vp_in a2 10 ∧
post 0 (tp_set (tp_set (tp_set σ 31 (a1).toNatClampNeg a2) 30 (a2).toNatClampNeg ((σ.1 29 (a1).toNatClampNeg) + (σ.1 7 6))) 7 5 (if (σ.1 7 5) < (a2 + 1) then (a2 + 1) else (σ.1 7 5)))) ∧ (¬ a2 < 10 →
post 0 σ)) ∧ (¬ (σ.1 7 5) ≤ a2 →
vp_in a2 10 ∧
vp_in a1 10 ∧
((σ.1 30 (a2).toNatClampNeg) ≤ (σ.1 28 (a1).toNatClampNeg) →
(a2 < 10 →
vp_in a1 10 ∧
vp_in a1 10 ∧
vp_in a2 10 ∧
post 0 (tp_set (tp_set (tp_set σ 31 (a1).toNatClampNeg a2) 30 (a2).toNatClampNeg ((σ.1 29 (a1).toNatClampNeg) + (σ.1 7 6))) 7 5 (if (σ.1 7 5) < (a2 + 1) then (a2 + 1) else (σ.1 7 5)))) ∧ (¬ a2 < 10 →
post 0 σ)) ∧ (¬ (σ.1 30 (a2).toNatClampNeg) ≤ (σ.1 28 (a1).toNatClampNeg) →
tp_E 23 2 [.ref 7, .int a1, .int (a2 + 1)] [] σ post))) : tp_E 23 2 [.ref 7, .int a1, .int a2] [] σ post := tp_E_step (And.intro (fun c1 => Exists.intro _ (And.intro (tp_wk_rf _) (tp_E_step (And.intro (fun c2 => Exists.intro _ (And.intro (tp_wk_rf _) (tp_E_step (And.intro ((h.1 c1).1 c2).1 (And.intro ((h.1 c1).1 c2).2.1 (And.intro ((h.1 c1).1 c2).2.2.1 (((h.1 c1).1 c2).2.2.2))))))) (fun c2 => ((h.1 c1).2 c2)))))) (fun c1 => And.intro (h.2 c1).1 (And.intro (h.2 c1).2.1 (And.intro (fun c3 => Exists.intro _ (And.intro (tp_wk_rf _) (tp_E_step (And.intro (fun c4 => Exists.intro _ (And.intro (tp_wk_rf _) (tp_E_step (And.intro (((h.2 c1).2.2.1 c3).1 c4).1 (And.intro (((h.2 c1).2.2.1 c3).1 c4).2.1 (And.intro (((h.2 c1).2.2.1 c3).1 c4).2.2.1 ((((h.2 c1).2.2.1 c3).1 c4).2.2.2))))))) (fun c4 => (((h.2 c1).2.2.1 c3).2 c4)))))) (fun c3 => Exists.intro [.ref 7, .int a1, .int (a2 + 1)] (And.intro (And.intro (Or.inr rfl) (And.intro (Or.inr rfl) (And.intro (Or.inr rfl) (trivial)))) ((h.2 c1).2.2.2 c3)))))))
/-- X3_minutesOf (I)I, 0 -/
theorem sg_24_0 {post : Int32 → tp_St → Prop} {σ : tp_St} (a1 : Int32)  (h : tp_E 24 4 [.ref 7, .int a1, .int 0, .int 0] [] σ post) : tp_E 24 0 [.ref 7, .int a1, .null, .null] [] σ post := tp_E_step (Exists.intro [.ref 7, .int a1, .int 0, .int 0] (And.intro (And.intro (Or.inr rfl) (And.intro (Or.inr rfl) (And.intro (Or.inr rfl) (And.intro (Or.inr rfl) (trivial))))) h))
/-- X3_minutesOf (I)I, 4 -/
theorem sg_24_4 {post : Int32 → tp_St → Prop} {σ : tp_St} (a1 : Int32) (a2 : Int32) (a3 : Int32)  (h : ((σ.1 7 4) ≤ a3 →
post a2 σ) ∧ (¬ (σ.1 7 4) ≤ a3 →
vp_in a3 10 ∧
((σ.1 31 (a3).toNatClampNeg) = a1 →
vp_in a3 10 ∧
vp_in a3 10 ∧
tp_E 24 4 [.ref 7, .int a1, .int (a2 + ((σ.1 29 (a3).toNatClampNeg) - (σ.1 28 (a3).toNatClampNeg))), .int (a3 + 1)] [] σ post) ∧ (¬ (σ.1 31 (a3).toNatClampNeg) = a1 →
tp_E 24 4 [.ref 7, .int a1, .int a2, .int (a3 + 1)] [] σ post))) : tp_E 24 4 [.ref 7, .int a1, .int a2, .int a3] [] σ post := tp_E_step (And.intro (fun c1 => Exists.intro _ (And.intro (tp_wk_rf _) (tp_E_step (And.intro rfl (h.1 c1))))) (fun c1 => And.intro (h.2 c1).1 (And.intro (fun c2 => And.intro ((h.2 c1).2.1 c2).1 (And.intro ((h.2 c1).2.1 c2).2.1 (Exists.intro _ (And.intro (tp_wk_rf _) (tp_E_step (Exists.intro [.ref 7, .int a1, .int (a2 + ((σ.1 29 (a3).toNatClampNeg) - (σ.1 28 (a3).toNatClampNeg))), .int (a3 + 1)] (And.intro (And.intro (Or.inr rfl) (And.intro (Or.inr rfl) (And.intro (Or.inr rfl) (And.intro (Or.inr rfl) (trivial))))) ((h.2 c1).2.1 c2).2.2))))))) (fun c2 => Exists.intro _ (And.intro (tp_wk_rf _) (tp_E_step (Exists.intro [.ref 7, .int a1, .int a2, .int (a3 + 1)] (And.intro (And.intro (Or.inr rfl) (And.intro (Or.inr rfl) (And.intro (Or.inr rfl) (And.intro (Or.inr rfl) (trivial))))) ((h.2 c1).2.2 c2)))))))))
/-- X3_busiest ()I, 0 -/
theorem sg_25_0 {post : Int32 → tp_St → Prop} {σ : tp_St}   (h : tp_E 25 6 [.ref 7, .int (-1), .int 0, .int 0, .null] [] σ post) : tp_E 25 0 [.ref 7, .null, .null, .null, .null] [] σ post := tp_E_step (Exists.intro [.ref 7, .int (-1), .int 0, .int 0, .null] (And.intro (And.intro (Or.inr rfl) (And.intro (Or.inr rfl) (And.intro (Or.inr rfl) (And.intro (Or.inr rfl) (And.intro (Or.inr rfl) (trivial)))))) h))
/-- X3_busiest ()I, 6 -/
theorem sg_25_6 {post : Int32 → tp_St → Prop} {σ : tp_St} (a1 : Int32) (a2 : Int32) (a3 : Int32)  (h : ((σ.1 7 5) ≤ a3 →
post a1 σ) ∧ (¬ (σ.1 7 5) ≤ a3 →
tp_E 24 0 [.ref 7, .int a3, .null, .null] [] σ (fun r1 σ1 =>
(r1 ≤ a2 →
tp_E 25 6 [.ref 7, .int a1, .int a2, .int (a3 + 1), .null] [] σ1 post) ∧ (¬ r1 ≤ a2 →
tp_E 25 6 [.ref 7, .int a3, .int r1, .int (a3 + 1), .null] [] σ1 post)))) : tp_E 25 6 [.ref 7, .int a1, .int a2, .int a3, .null] [] σ post := tp_E_step (And.intro (fun c2 => Exists.intro _ (And.intro (tp_wk_rf _) (tp_E_step (And.intro rfl (h.1 c2))))) (fun c2 => tp_Em (h.2 c2) (fun r1 σ1 h1 => And.intro (fun c3 => Exists.intro _ (And.intro (tp_wk_rf _) (tp_E_step (Exists.intro [.ref 7, .int a1, .int a2, .int (a3 + 1), .null] (And.intro (And.intro (Or.inr rfl) (And.intro (Or.inr rfl) (And.intro (Or.inr rfl) (And.intro (Or.inr rfl) (And.intro (Or.inl rfl) (trivial)))))) (h1.1 c3)))))) (fun c3 => Exists.intro _ (And.intro (tp_wk_rf _) (tp_E_step (Exists.intro [.ref 7, .int a3, .int r1, .int (a3 + 1), .null] (And.intro (And.intro (Or.inr rfl) (And.intro (Or.inr rfl) (And.intro (Or.inr rfl) (And.intro (Or.inr rfl) (And.intro (Or.inl rfl) (trivial)))))) (h1.2 c3)))))))))
/-- X3_lostWithout (I)I, 0 -/
theorem sg_26_0 {post : Int32 → tp_St → Prop} {σ : tp_St} (a1 : Int32)  (h : tp_E 26 4 [.ref 7, .int a1, .int 0, .int 0] [] σ post) : tp_E 26 0 [.ref 7, .int a1, .null, .null] [] σ post := tp_E_step (Exists.intro [.ref 7, .int a1, .int 0, .int 0] (And.intro (And.intro (Or.inr rfl) (And.intro (Or.inr rfl) (And.intro (Or.inr rfl) (And.intro (Or.inr rfl) (trivial))))) h))
/-- X3_lostWithout (I)I, 4 -/
theorem sg_26_4 {post : Int32 → tp_St → Prop} {σ : tp_St} (a1 : Int32) (a2 : Int32) (a3 : Int32)  (h : ((σ.1 7 4) ≤ a3 →
post a2 σ) ∧ (¬ (σ.1 7 4) ≤ a3 →
vp_in a3 10 ∧
((σ.1 31 (a3).toNatClampNeg) = a1 →
tp_E 27 0 [.ref 7, .int a3, .null] [] σ (fun r1 σ1 =>
(r1 = 0 →
tp_E 26 4 [.ref 7, .int a1, .int (a2 + 1), .int (a3 + 1)] [] σ1 post) ∧ (¬ r1 = 0 →
tp_E 26 4 [.ref 7, .int a1, .int a2, .int (a3 + 1)] [] σ1 post))) ∧ (¬ (σ.1 31 (a3).toNatClampNeg) = a1 →
tp_E 26 4 [.ref 7, .int a1, .int a2, .int (a3 + 1)] [] σ post))) : tp_E 26 4 [.ref 7, .int a1, .int a2, .int a3] [] σ post := tp_E_step (And.intro (fun c2 => Exists.intro _ (And.intro (tp_wk_rf _) (tp_E_step (And.intro rfl (h.1 c2))))) (fun c2 => And.intro (h.2 c2).1 (And.intro (fun c3 => tp_Em ((h.2 c2).2.1 c3) (fun r1 σ1 h1 => And.intro (fun c4 => Exists.intro _ (And.intro (tp_wk_rf _) (tp_E_step (Exists.intro [.ref 7, .int a1, .int (a2 + 1), .int (a3 + 1)] (And.intro (And.intro (Or.inr rfl) (And.intro (Or.inr rfl) (And.intro (Or.inr rfl) (And.intro (Or.inr rfl) (trivial))))) (h1.1 c4)))))) (fun c4 => Exists.intro _ (And.intro (tp_wk_rf _) (tp_E_step (Exists.intro [.ref 7, .int a1, .int a2, .int (a3 + 1)] (And.intro (And.intro (Or.inr rfl) (And.intro (Or.inr rfl) (And.intro (Or.inr rfl) (And.intro (Or.inr rfl) (trivial))))) (h1.2 c4)))))))) (fun c3 => Exists.intro _ (And.intro (tp_wk_rf _) (tp_E_step (Exists.intro [.ref 7, .int a1, .int a2, .int (a3 + 1)] (And.intro (And.intro (Or.inr rfl) (And.intro (Or.inr rfl) (And.intro (Or.inr rfl) (And.intro (Or.inr rfl) (trivial))))) ((h.2 c2).2.2 c3)))))))))
/-- X3_anotherCould (I)Z, 0 -/
theorem sg_27_0 {post : Int32 → tp_St → Prop} {σ : tp_St} (a1 : Int32)  (h : tp_E 27 2 [.ref 7, .int a1, .int 0] [] σ post) : tp_E 27 0 [.ref 7, .int a1, .null] [] σ post := tp_E_step (Exists.intro [.ref 7, .int a1, .int 0] (And.intro (And.intro (Or.inr rfl) (And.intro (Or.inr rfl) (And.intro (Or.inr rfl) (trivial)))) h))
/-- X3_anotherCould (I)Z, 2 -/
theorem sg_27_2 {post : Int32 → tp_St → Prop} {σ : tp_St} (a1 : Int32) (a2 : Int32)  (h : ((σ.1 7 5) ≤ a2 →
post 0 σ) ∧ (¬ (σ.1 7 5) ≤ a2 →
vp_in a1 10 ∧
(a2 = (σ.1 31 (a1).toNatClampNeg) →
tp_E 27 2 [.ref 7, .int a1, .int (a2 + 1)] [] σ post) ∧ (¬ a2 = (σ.1 31 (a1).toNatClampNeg) →
tp_E 28 0 [.ref 7, .int a2, .int a1, .null] [] σ (fun r1 σ1 =>
(r1 = 0 →
tp_E 27 2 [.ref 7, .int a1, .int (a2 + 1)] [] σ1 post) ∧ (¬ r1 = 0 →
post 1 σ1))))) : tp_E 27 2 [.ref 7, .int a1, .int a2] [] σ post := tp_E_step (And.intro (fun c2 => Exists.intro _ (And.intro (tp_wk_rf _) (tp_E_step (And.intro rfl (h.1 c2))))) (fun c2 => And.intro (h.2 c2).1 (And.intro (fun c3 => Exists.intro _ (And.intro (tp_wk_rf _) (tp_E_step (Exists.intro [.ref 7, .int a1, .int (a2 + 1)] (And.intro (And.intro (Or.inr rfl) (And.intro (Or.inr rfl) (And.intro (Or.inr rfl) (trivial)))) ((h.2 c2).2.1 c3)))))) (fun c3 => tp_Em ((h.2 c2).2.2 c3) (fun r1 σ1 h1 => And.intro (fun c4 => Exists.intro _ (And.intro (tp_wk_rf _) (tp_E_step (Exists.intro [.ref 7, .int a1, .int (a2 + 1)] (And.intro (And.intro (Or.inr rfl) (And.intro (Or.inr rfl) (And.intro (Or.inr rfl) (trivial)))) (h1.1 c4)))))) (fun c4 => And.intro rfl (h1.2 c4)))))))
/-- X3_couldHave (II)Z, 0 -/
theorem sg_28_0 {post : Int32 → tp_St → Prop} {σ : tp_St} (a1 : Int32) (a2 : Int32)  (h : tp_E 28 2 [.ref 7, .int a1, .int a2, .int 0] [] σ post) : tp_E 28 0 [.ref 7, .int a1, .int a2, .null] [] σ post := tp_E_step (Exists.intro [.ref 7, .int a1, .int a2, .int 0] (And.intro (And.intro (Or.inr rfl) (And.intro (Or.inr rfl) (And.intro (Or.inr rfl) (And.intro (Or.inr rfl) (trivial))))) h))
/-- X3_couldHave (II)Z, 2 -/
theorem sg_28_2 {post : Int32 → tp_St → Prop} {σ : tp_St} (a1 : Int32) (a2 : Int32) (a3 : Int32)  (h : ((σ.1 7 4) ≤ a3 →
post 1 σ) ∧ (¬ (σ.1 7 4) ≤ a3 →
vp_in a3 10 ∧
((σ.1 31 (a3).toNatClampNeg) = a1 →
tp_E 29 0 [.ref 7, .int a3, .int a2] [] σ (fun r1 σ1 =>
(r1 = 0 →
post 0 σ1) ∧ (¬ r1 = 0 →
tp_E 28 2 [.ref 7, .int a1, .int a2, .int (a3 + 1)] [] σ1 post))) ∧ (¬ (σ.1 31 (a3).toNatClampNeg) = a1 →
tp_E 28 2 [.ref 7, .int a1, .int a2, .int (a3 + 1)] [] σ post))) : tp_E 28 2 [.ref 7, .int a1, .int a2, .int a3] [] σ post := tp_E_step (And.intro (fun c2 => Exists.intro _ (And.intro (tp_wk_rf _) (tp_E_step (And.intro rfl (h.1 c2))))) (fun c2 => And.intro (h.2 c2).1 (And.intro (fun c3 => tp_Em ((h.2 c2).2.1 c3) (fun r1 σ1 h1 => And.intro (fun c4 => And.intro rfl (h1.1 c4)) (fun c4 => Exists.intro _ (And.intro (tp_wk_rf _) (tp_E_step (Exists.intro [.ref 7, .int a1, .int a2, .int (a3 + 1)] (And.intro (And.intro (Or.inr rfl) (And.intro (Or.inr rfl) (And.intro (Or.inr rfl) (And.intro (Or.inr rfl) (trivial))))) (h1.2 c4)))))))) (fun c3 => Exists.intro _ (And.intro (tp_wk_rf _) (tp_E_step (Exists.intro [.ref 7, .int a1, .int a2, .int (a3 + 1)] (And.intro (And.intro (Or.inr rfl) (And.intro (Or.inr rfl) (And.intro (Or.inr rfl) (And.intro (Or.inr rfl) (trivial))))) ((h.2 c2).2.2 c3)))))))))
/-- X3_haveRestBetween (II)Z, 0 -/
theorem sg_29_0 {post : Int32 → tp_St → Prop} {σ : tp_St} (a1 : Int32) (a2 : Int32)  (h : vp_in a1 10 ∧
vp_in a2 10 ∧
(((σ.1 29 (a1).toNatClampNeg) + (σ.1 7 6)) ≤ (σ.1 28 (a2).toNatClampNeg) →
post 1 σ) ∧ (¬ ((σ.1 29 (a1).toNatClampNeg) + (σ.1 7 6)) ≤ (σ.1 28 (a2).toNatClampNeg) →
vp_in a2 10 ∧
vp_in a1 10 ∧
((σ.1 28 (a1).toNatClampNeg) < ((σ.1 29 (a2).toNatClampNeg) + (σ.1 7 6)) →
post 0 σ) ∧ (¬ (σ.1 28 (a1).toNatClampNeg) < ((σ.1 29 (a2).toNatClampNeg) + (σ.1 7 6)) →
post 1 σ))) : tp_E 29 0 [.ref 7, .int a1, .int a2] [] σ post := tp_E_step (And.intro h.1 (And.intro h.2.1 (And.intro (fun c1 => Exists.intro _ (And.intro (tp_wk_rf _) (tp_E_step (Exists.intro _ (And.intro (tp_wk_rf _) (tp_E_step (And.intro rfl (h.2.2.1 c1)))))))) (fun c1 => And.intro (h.2.2.2 c1).1 (And.intro (h.2.2.2 c1).2.1 (And.intro (fun c2 => Exists.intro _ (And.intro (tp_wk_rf _) (tp_E_step (Exists.intro _ (And.intro (tp_wk_rf _) (tp_E_step (And.intro rfl ((h.2.2.2 c1).2.2.1 c2)))))))) (fun c2 => Exists.intro _ (And.intro (tp_wk_rf _) (tp_E_step (Exists.intro _ (And.intro (tp_wk_rf _) (tp_E_step (And.intro rfl ((h.2.2.2 c1).2.2.2 c2))))))))))))))
/-- X4_isFull ()Z, 0 -/
theorem sg_30_0 {post : Int32 → tp_St → Prop} {σ : tp_St}   (h : ((σ.1 4 4) < 200 →
post 0 σ) ∧ (¬ (σ.1 4 4) < 200 →
post 1 σ)) : tp_E 30 0 [.ref 4] [] σ post := tp_E_step (And.intro (fun c1 => Exists.intro _ (And.intro (tp_wk_rf _) (tp_E_step (Exists.intro _ (And.intro (tp_wk_rf _) (tp_E_step (And.intro rfl (h.1 c1)))))))) (fun c1 => Exists.intro _ (And.intro (tp_wk_rf _) (tp_E_step (And.intro rfl (h.2 c1))))))
/-- X4_add (IIII)V, 0 -/
theorem sg_31_0 {post : Int32 → tp_St → Prop} {σ : tp_St} (a1 : Int32) (a2 : Int32) (a3 : Int32) (a4 : Int32)  (h : tp_E 30 0 [.ref 4] [] σ (fun r1 σ1 =>
(r1 = 0 →
vp_in (σ1.1 4 4) 200 ∧
vp_in (σ1.1 4 4) 200 ∧
vp_in (σ1.1 4 4) 200 ∧
vp_in (σ1.1 4 4) 200 ∧
post 0 (tp_set (tp_set (tp_set (tp_set (tp_set σ1 15 ((σ1.1 4 4)).toNatClampNeg a1) 16 ((σ1.1 4 4)).toNatClampNeg a2) 17 ((σ1.1 4 4)).toNatClampNeg a3) 18 ((σ1.1 4 4)).toNatClampNeg a4) 4 4 ((σ1.1 4 4) + 1))) ∧ (¬ r1 = 0 →
post 0 σ1))) : tp_E 31 0 [.ref 4, .int a1, .int a2, .int a3, .int a4] [] σ post := tp_E_step (tp_Em h (fun r1 σ1 h1 => And.intro (fun c2 => Exists.intro _ (And.intro (tp_wk_rf _) (tp_E_step (And.intro (h1.1 c2).1 (And.intro (h1.1 c2).2.1 (And.intro (h1.1 c2).2.2.1 (And.intro (h1.1 c2).2.2.2.1 ((h1.1 c2).2.2.2.2)))))))) (fun c2 => (h1.2 c2))))
/-- X4_latestStep (I)I, 0 -/
theorem sg_32_0 {post : Int32 → tp_St → Prop} {σ : tp_St} (a1 : Int32)  (h : tp_E 32 7 [.ref 4, .int a1, .int ((σ.1 4 4) - 1)] [] σ post) : tp_E 32 0 [.ref 4, .int a1, .null] [] σ post := tp_E_step (Exists.intro [.ref 4, .int a1, .int ((σ.1 4 4) - 1)] (And.intro (And.intro (Or.inr rfl) (And.intro (Or.inr rfl) (And.intro (Or.inr rfl) (trivial)))) h))
/-- X4_latestStep (I)I, 7 -/
theorem sg_32_7 {post : Int32 → tp_St → Prop} {σ : tp_St} (a1 : Int32) (a2 : Int32)  (h : (a2 < 0 →
post 0 σ) ∧ (¬ a2 < 0 →
vp_in a2 200 ∧
((σ.1 15 (a2).toNatClampNeg) = a1 →
vp_in a2 200 ∧
post (σ.1 17 (a2).toNatClampNeg) σ) ∧ (¬ (σ.1 15 (a2).toNatClampNeg) = a1 →
tp_E 32 7 [.ref 4, .int a1, .int (a2 + (-1))] [] σ post))) : tp_E 32 7 [.ref 4, .int a1, .int a2] [] σ post := tp_E_step (And.intro (fun c1 => Exists.intro _ (And.intro (tp_wk_rf _) (tp_E_step (And.intro rfl (h.1 c1))))) (fun c1 => And.intro (h.2 c1).1 (And.intro (fun c2 => And.intro ((h.2 c1).2.1 c2).1 (And.intro rfl ((h.2 c1).2.1 c2).2)) (fun c2 => Exists.intro _ (And.intro (tp_wk_rf _) (tp_E_step (Exists.intro [.ref 4, .int a1, .int (a2 + (-1))] (And.intro (And.intro (Or.inr rfl) (And.intro (Or.inr rfl) (And.intro (Or.inr rfl) (trivial)))) ((h.2 c1).2.2 c2)))))))))
/-- X4_find (II)I, 0 -/
theorem sg_33_0 {post : Int32 → tp_St → Prop} {σ : tp_St} (a1 : Int32) (a2 : Int32)  (h : tp_E 33 2 [.ref 4, .int a1, .int a2, .int 0] [] σ post) : tp_E 33 0 [.ref 4, .int a1, .int a2, .null] [] σ post := tp_E_step (Exists.intro [.ref 4, .int a1, .int a2, .int 0] (And.intro (And.intro (Or.inr rfl) (And.intro (Or.inr rfl) (And.intro (Or.inr rfl) (And.intro (Or.inr rfl) (trivial))))) h))
/-- X4_find (II)I, 2 -/
theorem sg_33_2 {post : Int32 → tp_St → Prop} {σ : tp_St} (a1 : Int32) (a2 : Int32) (a3 : Int32)  (h : ((σ.1 4 4) ≤ a3 →
post (-1) σ) ∧ (¬ (σ.1 4 4) ≤ a3 →
vp_in a3 200 ∧
((σ.1 16 (a3).toNatClampNeg) = a1 →
vp_in a3 200 ∧
((σ.1 18 (a3).toNatClampNeg) = a2 →
post a3 σ) ∧ (¬ (σ.1 18 (a3).toNatClampNeg) = a2 →
tp_E 33 2 [.ref 4, .int a1, .int a2, .int (a3 + 1)] [] σ post)) ∧ (¬ (σ.1 16 (a3).toNatClampNeg) = a1 →
tp_E 33 2 [.ref 4, .int a1, .int a2, .int (a3 + 1)] [] σ post))) : tp_E 33 2 [.ref 4, .int a1, .int a2, .int a3] [] σ post := tp_E_step (And.intro (fun c1 => Exists.intro _ (And.intro (tp_wk_rf _) (tp_E_step (And.intro rfl (h.1 c1))))) (fun c1 => And.intro (h.2 c1).1 (And.intro (fun c2 => And.intro ((h.2 c1).2.1 c2).1 (And.intro (fun c3 => And.intro rfl (((h.2 c1).2.1 c2).2.1 c3)) (fun c3 => Exists.intro _ (And.intro (tp_wk_rf _) (tp_E_step (Exists.intro [.ref 4, .int a1, .int a2, .int (a3 + 1)] (And.intro (And.intro (Or.inr rfl) (And.intro (Or.inr rfl) (And.intro (Or.inr rfl) (And.intro (Or.inr rfl) (trivial))))) (((h.2 c1).2.1 c2).2.2 c3)))))))) (fun c2 => Exists.intro _ (And.intro (tp_wk_rf _) (tp_E_step (Exists.intro [.ref 4, .int a1, .int a2, .int (a3 + 1)] (And.intro (And.intro (Or.inr rfl) (And.intro (Or.inr rfl) (And.intro (Or.inr rfl) (And.intro (Or.inr rfl) (trivial))))) ((h.2 c1).2.2 c2)))))))))
/-- X4_anySold (III)Z, 0 -/
theorem sg_34_0 {post : Int32 → tp_St → Prop} {σ : tp_St} (a1 : Int32) (a2 : Int32) (a3 : Int32)  (h : tp_E 34 3 [.ref 4, .int a1, .int a2, .int a3, .int 0] [] σ post) : tp_E 34 0 [.ref 4, .int a1, .int a2, .int a3, .null] [] σ post := tp_E_step (Exists.intro [.ref 4, .int a1, .int a2, .int a3, .int 0] (And.intro (And.intro (Or.inr rfl) (And.intro (Or.inr rfl) (And.intro (Or.inr rfl) (And.intro (Or.inr rfl) (And.intro (Or.inr rfl) (trivial)))))) h))
/-- X4_anySold (III)Z, 3 -/
theorem sg_34_3 {post : Int32 → tp_St → Prop} {σ : tp_St} (a1 : Int32) (a2 : Int32) (a3 : Int32) (a4 : Int32)  (h : ((σ.1 4 4) ≤ a4 →
post 0 σ) ∧ (¬ (σ.1 4 4) ≤ a4 →
vp_in a4 200 ∧
((σ.1 16 (a4).toNatClampNeg) = a1 →
vp_in a4 200 ∧
((σ.1 18 (a4).toNatClampNeg) < a2 →
tp_E 34 3 [.ref 4, .int a1, .int a2, .int a3, .int (a4 + 1)] [] σ post) ∧ (¬ (σ.1 18 (a4).toNatClampNeg) < a2 →
vp_in a4 200 ∧
(a3 ≤ (σ.1 18 (a4).toNatClampNeg) →
tp_E 34 3 [.ref 4, .int a1, .int a2, .int a3, .int (a4 + 1)] [] σ post) ∧ (¬ a3 ≤ (σ.1 18 (a4).toNatClampNeg) →
post 1 σ))) ∧ (¬ (σ.1 16 (a4).toNatClampNeg) = a1 →
tp_E 34 3 [.ref 4, .int a1, .int a2, .int a3, .int (a4 + 1)] [] σ post))) : tp_E 34 3 [.ref 4, .int a1, .int a2, .int a3, .int a4] [] σ post := tp_E_step (And.intro (fun c1 => Exists.intro _ (And.intro (tp_wk_rf _) (tp_E_step (And.intro rfl (h.1 c1))))) (fun c1 => And.intro (h.2 c1).1 (And.intro (fun c2 => And.intro ((h.2 c1).2.1 c2).1 (And.intro (fun c3 => Exists.intro _ (And.intro (tp_wk_rf _) (tp_E_step (Exists.intro [.ref 4, .int a1, .int a2, .int a3, .int (a4 + 1)] (And.intro (And.intro (Or.inr rfl) (And.intro (Or.inr rfl) (And.intro (Or.inr rfl) (And.intro (Or.inr rfl) (And.intro (Or.inr rfl) (trivial)))))) (((h.2 c1).2.1 c2).2.1 c3)))))) (fun c3 => And.intro (((h.2 c1).2.1 c2).2.2 c3).1 (And.intro (fun c4 => Exists.intro _ (And.intro (tp_wk_rf _) (tp_E_step (Exists.intro [.ref 4, .int a1, .int a2, .int a3, .int (a4 + 1)] (And.intro (And.intro (Or.inr rfl) (And.intro (Or.inr rfl) (And.intro (Or.inr rfl) (And.intro (Or.inr rfl) (And.intro (Or.inr rfl) (trivial)))))) ((((h.2 c1).2.1 c2).2.2 c3).2.1 c4)))))) (fun c4 => And.intro rfl ((((h.2 c1).2.1 c2).2.2 c3).2.2 c4)))))) (fun c2 => Exists.intro _ (And.intro (tp_wk_rf _) (tp_E_step (Exists.intro [.ref 4, .int a1, .int a2, .int a3, .int (a4 + 1)] (And.intro (And.intro (Or.inr rfl) (And.intro (Or.inr rfl) (And.intro (Or.inr rfl) (And.intro (Or.inr rfl) (And.intro (Or.inr rfl) (trivial)))))) ((h.2 c1).2.2 c2)))))))))
/-- X4_beyond (II)I, 0 -/
theorem sg_35_0 {post : Int32 → tp_St → Prop} {σ : tp_St} (a1 : Int32) (a2 : Int32)  (h : tp_E 35 5 [.ref 4, .int a1, .null, .int a2, .int 0] [] σ post) : tp_E 35 0 [.ref 4, .int a1, .int a2, .null, .null] [] σ post := tp_E_step (Exists.intro [.ref 4, .int a1, .null, .int a2, .int 0] (And.intro (And.intro (Or.inr rfl) (And.intro (Or.inr rfl) (And.intro (Or.inl rfl) (And.intro (Or.inr rfl) (And.intro (Or.inr rfl) (trivial)))))) h))
/-- X4_beyond (II)I, 5 -/
theorem sg_35_5 {post : Int32 → tp_St → Prop} {σ : tp_St} (a1 : Int32) (a3 : Int32) (a4 : Int32)  (h : ((σ.1 4 4) ≤ a4 →
post a3 σ) ∧ (¬ (σ.1 4 4) ≤ a4 →
vp_in a4 200 ∧
((σ.1 16 (a4).toNatClampNeg) = a1 →
vp_in a4 200 ∧
((σ.1 18 (a4).toNatClampNeg) = a3 →
tp_E 35 5 [.ref 4, .int a1, .null, .int (a3 + 1), .int (a4 + 1)] [] σ post) ∧ (¬ (σ.1 18 (a4).toNatClampNeg) = a3 →
tp_E 35 5 [.ref 4, .int a1, .null, .int a3, .int (a4 + 1)] [] σ post)) ∧ (¬ (σ.1 16 (a4).toNatClampNeg) = a1 →
tp_E 35 5 [.ref 4, .int a1, .null, .int a3, .int (a4 + 1)] [] σ post))) : tp_E 35 5 [.ref 4, .int a1, .null, .int a3, .int a4] [] σ post := tp_E_step (And.intro (fun c1 => Exists.intro _ (And.intro (tp_wk_rf _) (tp_E_step (And.intro rfl (h.1 c1))))) (fun c1 => And.intro (h.2 c1).1 (And.intro (fun c2 => And.intro ((h.2 c1).2.1 c2).1 (And.intro (fun c3 => Exists.intro _ (And.intro (tp_wk_rf _) (tp_E_step (Exists.intro [.ref 4, .int a1, .null, .int (a3 + 1), .int (a4 + 1)] (And.intro (And.intro (Or.inr rfl) (And.intro (Or.inr rfl) (And.intro (Or.inr rfl) (And.intro (Or.inr rfl) (And.intro (Or.inr rfl) (trivial)))))) (((h.2 c1).2.1 c2).2.1 c3)))))) (fun c3 => Exists.intro _ (And.intro (tp_wk_rf _) (tp_E_step (Exists.intro [.ref 4, .int a1, .null, .int a3, .int (a4 + 1)] (And.intro (And.intro (Or.inr rfl) (And.intro (Or.inr rfl) (And.intro (Or.inr rfl) (And.intro (Or.inr rfl) (And.intro (Or.inr rfl) (trivial)))))) (((h.2 c1).2.1 c2).2.2 c3)))))))) (fun c2 => Exists.intro _ (And.intro (tp_wk_rf _) (tp_E_step (Exists.intro [.ref 4, .int a1, .null, .int a3, .int (a4 + 1)] (And.intro (And.intro (Or.inr rfl) (And.intro (Or.inr rfl) (And.intro (Or.inr rfl) (And.intro (Or.inr rfl) (And.intro (Or.inr rfl) (trivial)))))) ((h.2 c1).2.2 c2)))))))))
/-- X4_greatestSold (I)I, 0 -/
theorem sg_36_0 {post : Int32 → tp_St → Prop} {σ : tp_St} (a1 : Int32)  (h : tp_E 36 4 [.ref 4, .int a1, .int (-1), .int 0] [] σ post) : tp_E 36 0 [.ref 4, .int a1, .null, .null] [] σ post := tp_E_step (Exists.intro [.ref 4, .int a1, .int (-1), .int 0] (And.intro (And.intro (Or.inr rfl) (And.intro (Or.inr rfl) (And.intro (Or.inr rfl) (And.intro (Or.inr rfl) (trivial))))) h))
/-- X4_greatestSold (I)I, 4 -/
theorem sg_36_4 {post : Int32 → tp_St → Prop} {σ : tp_St} (a1 : Int32) (a2 : Int32) (a3 : Int32)  (h : ((σ.1 4 4) ≤ a3 →
post a2 σ) ∧ (¬ (σ.1 4 4) ≤ a3 →
vp_in a3 200 ∧
((σ.1 16 (a3).toNatClampNeg) = a1 →
vp_in a3 200 ∧
tp_E 36 4 [.ref 4, .int a1, .int (if a2 < (σ.1 18 (a3).toNatClampNeg) then (σ.1 18 (a3).toNatClampNeg) else a2), .int (a3 + 1)] [] σ post) ∧ (¬ (σ.1 16 (a3).toNatClampNeg) = a1 →
tp_E 36 4 [.ref 4, .int a1, .int a2, .int (a3 + 1)] [] σ post))) : tp_E 36 4 [.ref 4, .int a1, .int a2, .int a3] [] σ post := tp_E_step (And.intro (fun c1 => Exists.intro _ (And.intro (tp_wk_rf _) (tp_E_step (And.intro rfl (h.1 c1))))) (fun c1 => And.intro (h.2 c1).1 (And.intro (fun c2 => And.intro ((h.2 c1).2.1 c2).1 (Exists.intro _ (And.intro (tp_wk_rf _) (tp_E_step (Exists.intro [.ref 4, .int a1, .int (if a2 < (σ.1 18 (a3).toNatClampNeg) then (σ.1 18 (a3).toNatClampNeg) else a2), .int (a3 + 1)] (And.intro (And.intro (Or.inr rfl) (And.intro (Or.inr rfl) (And.intro (Or.inr rfl) (And.intro (Or.inr rfl) (trivial))))) ((h.2 c1).2.1 c2).2)))))) (fun c2 => Exists.intro _ (And.intro (tp_wk_rf _) (tp_E_step (Exists.intro [.ref 4, .int a1, .int a2, .int (a3 + 1)] (And.intro (And.intro (Or.inr rfl) (And.intro (Or.inr rfl) (And.intro (Or.inr rfl) (And.intro (Or.inr rfl) (trivial))))) ((h.2 c1).2.2 c2)))))))))
/-- X4_howMany (II)I, 0 -/
theorem sg_37_0 {post : Int32 → tp_St → Prop} {σ : tp_St} (a1 : Int32) (a2 : Int32)  (h : tp_E 37 5 [.ref 4, .int a1, .int a2, .int 0, .int 0] [] σ post) : tp_E 37 0 [.ref 4, .int a1, .int a2, .null, .null] [] σ post := tp_E_step (Exists.intro [.ref 4, .int a1, .int a2, .int 0, .int 0] (And.intro (And.intro (Or.inr rfl) (And.intro (Or.inr rfl) (And.intro (Or.inr rfl) (And.intro (Or.inr rfl) (And.intro (Or.inr rfl) (trivial)))))) h))
/-- X4_howMany (II)I, 5 -/
theorem sg_37_5 {post : Int32 → tp_St → Prop} {σ : tp_St} (a1 : Int32) (a2 : Int32) (a3 : Int32) (a4 : Int32)  (h : ((σ.1 4 4) ≤ a4 →
post a3 σ) ∧ (¬ (σ.1 4 4) ≤ a4 →
tp_E 40 0 [.ref 4, .int a4, .int a1, .int a2] [] σ (fun r1 σ1 =>
(r1 = 0 →
tp_E 37 5 [.ref 4, .int a1, .int a2, .int a3, .int (a4 + 1)] [] σ1 post) ∧ (¬ r1 = 0 →
tp_E 37 5 [.ref 4, .int a1, .int a2, .int (a3 + 1), .int (a4 + 1)] [] σ1 post)))) : tp_E 37 5 [.ref 4, .int a1, .int a2, .int a3, .int a4] [] σ post := tp_E_step (And.intro (fun c2 => Exists.intro _ (And.intro (tp_wk_rf _) (tp_E_step (And.intro rfl (h.1 c2))))) (fun c2 => tp_Em (h.2 c2) (fun r1 σ1 h1 => And.intro (fun c3 => Exists.intro _ (And.intro (tp_wk_rf _) (tp_E_step (Exists.intro [.ref 4, .int a1, .int a2, .int a3, .int (a4 + 1)] (And.intro (And.intro (Or.inr rfl) (And.intro (Or.inr rfl) (And.intro (Or.inr rfl) (And.intro (Or.inr rfl) (And.intro (Or.inr rfl) (trivial)))))) (h1.1 c3)))))) (fun c3 => Exists.intro _ (And.intro (tp_wk_rf _) (tp_E_step (Exists.intro [.ref 4, .int a1, .int a2, .int (a3 + 1), .int (a4 + 1)] (And.intro (And.intro (Or.inr rfl) (And.intro (Or.inr rfl) (And.intro (Or.inr rfl) (And.intro (Or.inr rfl) (And.intro (Or.inr rfl) (trivial)))))) (h1.2 c3)))))))))
/-- X4_firstOf (II)I, 0 -/
theorem sg_38_0 {post : Int32 → tp_St → Prop} {σ : tp_St} (a1 : Int32) (a2 : Int32)  (h : tp_E 38 2 [.ref 4, .int a1, .int a2, .int 0] [] σ post) : tp_E 38 0 [.ref 4, .int a1, .int a2, .null] [] σ post := tp_E_step (Exists.intro [.ref 4, .int a1, .int a2, .int 0] (And.intro (And.intro (Or.inr rfl) (And.intro (Or.inr rfl) (And.intro (Or.inr rfl) (And.intro (Or.inr rfl) (trivial))))) h))
/-- X4_firstOf (II)I, 2 -/
theorem sg_38_2 {post : Int32 → tp_St → Prop} {σ : tp_St} (a1 : Int32) (a2 : Int32) (a3 : Int32)  (h : ((σ.1 4 4) ≤ a3 →
post (-1) σ) ∧ (¬ (σ.1 4 4) ≤ a3 →
tp_E 40 0 [.ref 4, .int a3, .int a1, .int a2] [] σ (fun r1 σ1 =>
(r1 = 0 →
tp_E 38 2 [.ref 4, .int a1, .int a2, .int (a3 + 1)] [] σ1 post) ∧ (¬ r1 = 0 →
post a3 σ1)))) : tp_E 38 2 [.ref 4, .int a1, .int a2, .int a3] [] σ post := tp_E_step (And.intro (fun c2 => Exists.intro _ (And.intro (tp_wk_rf _) (tp_E_step (And.intro rfl (h.1 c2))))) (fun c2 => tp_Em (h.2 c2) (fun r1 σ1 h1 => And.intro (fun c3 => Exists.intro _ (And.intro (tp_wk_rf _) (tp_E_step (Exists.intro [.ref 4, .int a1, .int a2, .int (a3 + 1)] (And.intro (And.intro (Or.inr rfl) (And.intro (Or.inr rfl) (And.intro (Or.inr rfl) (And.intro (Or.inr rfl) (trivial))))) (h1.1 c3)))))) (fun c3 => And.intro rfl (h1.2 c3)))))
/-- X4_lastOf (II)I, 0 -/
theorem sg_39_0 {post : Int32 → tp_St → Prop} {σ : tp_St} (a1 : Int32) (a2 : Int32)  (h : tp_E 39 7 [.ref 4, .int a1, .int a2, .int ((σ.1 4 4) - 1)] [] σ post) : tp_E 39 0 [.ref 4, .int a1, .int a2, .null] [] σ post := tp_E_step (Exists.intro [.ref 4, .int a1, .int a2, .int ((σ.1 4 4) - 1)] (And.intro (And.intro (Or.inr rfl) (And.intro (Or.inr rfl) (And.intro (Or.inr rfl) (And.intro (Or.inr rfl) (trivial))))) h))
/-- X4_lastOf (II)I, 7 -/
theorem sg_39_7 {post : Int32 → tp_St → Prop} {σ : tp_St} (a1 : Int32) (a2 : Int32) (a3 : Int32)  (h : (a3 < 0 →
post (-1) σ) ∧ (¬ a3 < 0 →
tp_E 40 0 [.ref 4, .int a3, .int a1, .int a2] [] σ (fun r1 σ1 =>
(r1 = 0 →
tp_E 39 7 [.ref 4, .int a1, .int a2, .int (a3 + (-1))] [] σ1 post) ∧ (¬ r1 = 0 →
post a3 σ1)))) : tp_E 39 7 [.ref 4, .int a1, .int a2, .int a3] [] σ post := tp_E_step (And.intro (fun c2 => Exists.intro _ (And.intro (tp_wk_rf _) (tp_E_step (And.intro rfl (h.1 c2))))) (fun c2 => tp_Em (h.2 c2) (fun r1 σ1 h1 => And.intro (fun c3 => Exists.intro _ (And.intro (tp_wk_rf _) (tp_E_step (Exists.intro [.ref 4, .int a1, .int a2, .int (a3 + (-1))] (And.intro (And.intro (Or.inr rfl) (And.intro (Or.inr rfl) (And.intro (Or.inr rfl) (And.intro (Or.inr rfl) (trivial))))) (h1.1 c3)))))) (fun c3 => And.intro rfl (h1.2 c3)))))
/-- X4_isOf (III)Z, 0 -/
theorem sg_40_0 {post : Int32 → tp_St → Prop} {σ : tp_St} (a1 : Int32) (a2 : Int32) (a3 : Int32)  (h : vp_in a1 200 ∧
((σ.1 15 (a1).toNatClampNeg) = a2 →
vp_in a1 200 ∧
((σ.1 16 (a1).toNatClampNeg) = a3 →
post 1 σ) ∧ (¬ (σ.1 16 (a1).toNatClampNeg) = a3 →
post 0 σ)) ∧ (¬ (σ.1 15 (a1).toNatClampNeg) = a2 →
post 0 σ)) : tp_E 40 0 [.ref 4, .int a1, .int a2, .int a3] [] σ post := tp_E_step (And.intro h.1 (And.intro (fun c1 => And.intro (h.2.1 c1).1 (And.intro (fun c2 => Exists.intro _ (And.intro (tp_wk_rf _) (tp_E_step (And.intro rfl ((h.2.1 c1).2.1 c2))))) (fun c2 => Exists.intro _ (And.intro (tp_wk_rf _) (tp_E_step (Exists.intro _ (And.intro (tp_wk_rf _) (tp_E_step (And.intro rfl ((h.2.1 c1).2.2 c2)))))))))) (fun c1 => Exists.intro _ (And.intro (tp_wk_rf _) (tp_E_step (Exists.intro _ (And.intro (tp_wk_rf _) (tp_E_step (And.intro rfl (h.2.2 c1))))))))))
/-- X5_isNothing ()Z, 0 -/
theorem sg_41_0 {post : Int32 → tp_St → Prop} {σ : tp_St} (q0 : Nat) (hq0 : q0 = 20 ∨ q0 = 21 ∨ q0 = 22 ∨ q0 = 23) (h : ((σ.1 q0 2) = (-1) →
post 1 σ) ∧ (¬ (σ.1 q0 2) = (-1) →
post 0 σ)) : tp_E 41 0 [.ref q0] [] σ post := by
  rcases hq0 with rfl | rfl | rfl | rfl
  · exact tp_E_step (And.intro (fun c1 => Exists.intro _ (And.intro (tp_wk_rf _) (tp_E_step (And.intro rfl (h.1 c1))))) (fun c1 => Exists.intro _ (And.intro (tp_wk_rf _) (tp_E_step (Exists.intro _ (And.intro (tp_wk_rf _) (tp_E_step (And.intro rfl (h.2 c1)))))))))
  · exact tp_E_step (And.intro (fun c1 => Exists.intro _ (And.intro (tp_wk_rf _) (tp_E_step (And.intro rfl (h.1 c1))))) (fun c1 => Exists.intro _ (And.intro (tp_wk_rf _) (tp_E_step (Exists.intro _ (And.intro (tp_wk_rf _) (tp_E_step (And.intro rfl (h.2 c1)))))))))
  · exact tp_E_step (And.intro (fun c1 => Exists.intro _ (And.intro (tp_wk_rf _) (tp_E_step (And.intro rfl (h.1 c1))))) (fun c1 => Exists.intro _ (And.intro (tp_wk_rf _) (tp_E_step (Exists.intro _ (And.intro (tp_wk_rf _) (tp_E_step (And.intro rfl (h.2 c1)))))))))
  · exact tp_E_step (And.intro (fun c1 => Exists.intro _ (And.intro (tp_wk_rf _) (tp_E_step (And.intro rfl (h.1 c1))))) (fun c1 => Exists.intro _ (And.intro (tp_wk_rf _) (tp_E_step (Exists.intro _ (And.intro (tp_wk_rf _) (tp_E_step (And.intro rfl (h.2 c1)))))))))
/-- X5_hasCell (I)Z, 0 -/
theorem sg_42_0 {post : Int32 → tp_St → Prop} {σ : tp_St} (q0 : Nat) (a1 : Int32) (hq0 : q0 = 20 ∨ q0 = 21 ∨ q0 = 22 ∨ q0 = 23) (h : (a1 < 0 →
post 0 σ) ∧ (¬ a1 < 0 →
((σ.1 q0 2) ≤ a1 →
post 0 σ) ∧ (¬ (σ.1 q0 2) ≤ a1 →
post 1 σ))) : tp_E 42 0 [.ref q0, .int a1] [] σ post := by
  rcases hq0 with rfl | rfl | rfl | rfl
  · exact tp_E_step (And.intro (fun c1 => Exists.intro _ (And.intro (tp_wk_rf _) (tp_E_step (Exists.intro _ (And.intro (tp_wk_rf _) (tp_E_step (And.intro rfl (h.1 c1)))))))) (fun c1 => And.intro (fun c2 => Exists.intro _ (And.intro (tp_wk_rf _) (tp_E_step (Exists.intro _ (And.intro (tp_wk_rf _) (tp_E_step (And.intro rfl ((h.2 c1).1 c2)))))))) (fun c2 => Exists.intro _ (And.intro (tp_wk_rf _) (tp_E_step (And.intro rfl ((h.2 c1).2 c2)))))))
  · exact tp_E_step (And.intro (fun c1 => Exists.intro _ (And.intro (tp_wk_rf _) (tp_E_step (Exists.intro _ (And.intro (tp_wk_rf _) (tp_E_step (And.intro rfl (h.1 c1)))))))) (fun c1 => And.intro (fun c2 => Exists.intro _ (And.intro (tp_wk_rf _) (tp_E_step (Exists.intro _ (And.intro (tp_wk_rf _) (tp_E_step (And.intro rfl ((h.2 c1).1 c2)))))))) (fun c2 => Exists.intro _ (And.intro (tp_wk_rf _) (tp_E_step (And.intro rfl ((h.2 c1).2 c2)))))))
  · exact tp_E_step (And.intro (fun c1 => Exists.intro _ (And.intro (tp_wk_rf _) (tp_E_step (Exists.intro _ (And.intro (tp_wk_rf _) (tp_E_step (And.intro rfl (h.1 c1)))))))) (fun c1 => And.intro (fun c2 => Exists.intro _ (And.intro (tp_wk_rf _) (tp_E_step (Exists.intro _ (And.intro (tp_wk_rf _) (tp_E_step (And.intro rfl ((h.2 c1).1 c2)))))))) (fun c2 => Exists.intro _ (And.intro (tp_wk_rf _) (tp_E_step (And.intro rfl ((h.2 c1).2 c2)))))))
  · exact tp_E_step (And.intro (fun c1 => Exists.intro _ (And.intro (tp_wk_rf _) (tp_E_step (Exists.intro _ (And.intro (tp_wk_rf _) (tp_E_step (And.intro rfl (h.1 c1)))))))) (fun c1 => And.intro (fun c2 => Exists.intro _ (And.intro (tp_wk_rf _) (tp_E_step (Exists.intro _ (And.intro (tp_wk_rf _) (tp_E_step (And.intro rfl ((h.2 c1).1 c2)))))))) (fun c2 => Exists.intro _ (And.intro (tp_wk_rf _) (tp_E_step (And.intro rfl ((h.2 c1).2 c2)))))))
/-- X5_renew (II)V, 0 -/
theorem sg_43_0 {post : Int32 → tp_St → Prop} {σ : tp_St} (q0 : Nat) (a1 : Int32) (a2 : Int32) (hq0 : q0 = 20 ∨ q0 = 21 ∨ q0 = 22 ∨ q0 = 23) (h : tp_E 43 12 [.ref q0, .null, .null, .int 0] [] (tp_set (tp_set σ q0 1 a1) q0 2 a2) post) : tp_E 43 0 [.ref q0, .int a1, .int a2, .null] [] σ post := by
  rcases hq0 with rfl | rfl | rfl | rfl
  · exact tp_E_step (Exists.intro [.ref 20, .null, .null, .int 0] (And.intro (And.intro (Or.inr rfl) (And.intro (Or.inl rfl) (And.intro (Or.inl rfl) (And.intro (Or.inr rfl) (trivial))))) h))
  · exact tp_E_step (Exists.intro [.ref 21, .null, .null, .int 0] (And.intro (And.intro (Or.inr rfl) (And.intro (Or.inl rfl) (And.intro (Or.inl rfl) (And.intro (Or.inr rfl) (trivial))))) h))
  · exact tp_E_step (Exists.intro [.ref 22, .null, .null, .int 0] (And.intro (And.intro (Or.inr rfl) (And.intro (Or.inl rfl) (And.intro (Or.inl rfl) (And.intro (Or.inr rfl) (trivial))))) h))
  · exact tp_E_step (Exists.intro [.ref 23, .null, .null, .int 0] (And.intro (And.intro (Or.inr rfl) (And.intro (Or.inl rfl) (And.intro (Or.inl rfl) (And.intro (Or.inr rfl) (trivial))))) h))
/-- X5_renew (II)V, 12 -/
theorem sg_43_12 {post : Int32 → tp_St → Prop} {σ : tp_St} (q0 : Nat) (a3 : Int32) (hq0 : q0 = 20 ∨ q0 = 21 ∨ q0 = 22 ∨ q0 = 23) (h : (64 ≤ a3 →
post 0 σ) ∧ (¬ 64 ≤ a3 →
vp_in a3 64 ∧
tp_E 43 12 [.ref q0, .null, .null, .int (a3 + 1)] [] (tp_set σ (tp_rr σ q0 0) (a3).toNatClampNeg 0) post)) : tp_E 43 12 [.ref q0, .null, .null, .int a3] [] σ post := by
  rcases hq0 with rfl | rfl | rfl | rfl
  · exact tp_E_step (And.intro (fun c1 => Exists.intro _ (And.intro (tp_wk_rf _) (tp_E_step ((h.1 c1))))) (fun c1 => And.intro (h.2 c1).1 (Exists.intro [.ref 20, .null, .null, .int (a3 + 1)] (And.intro (And.intro (Or.inr rfl) (And.intro (Or.inr rfl) (And.intro (Or.inr rfl) (And.intro (Or.inr rfl) (trivial))))) (h.2 c1).2))))
  · exact tp_E_step (And.intro (fun c1 => Exists.intro _ (And.intro (tp_wk_rf _) (tp_E_step ((h.1 c1))))) (fun c1 => And.intro (h.2 c1).1 (Exists.intro [.ref 21, .null, .null, .int (a3 + 1)] (And.intro (And.intro (Or.inr rfl) (And.intro (Or.inr rfl) (And.intro (Or.inr rfl) (And.intro (Or.inr rfl) (trivial))))) (h.2 c1).2))))
  · exact tp_E_step (And.intro (fun c1 => Exists.intro _ (And.intro (tp_wk_rf _) (tp_E_step ((h.1 c1))))) (fun c1 => And.intro (h.2 c1).1 (Exists.intro [.ref 22, .null, .null, .int (a3 + 1)] (And.intro (And.intro (Or.inr rfl) (And.intro (Or.inr rfl) (And.intro (Or.inr rfl) (And.intro (Or.inr rfl) (trivial))))) (h.2 c1).2))))
  · exact tp_E_step (And.intro (fun c1 => Exists.intro _ (And.intro (tp_wk_rf _) (tp_E_step ((h.1 c1))))) (fun c1 => And.intro (h.2 c1).1 (Exists.intro [.ref 23, .null, .null, .int (a3 + 1)] (And.intro (And.intro (Or.inr rfl) (And.intro (Or.inr rfl) (And.intro (Or.inr rfl) (And.intro (Or.inr rfl) (trivial))))) (h.2 c1).2))))
/-- X5_write (II)V, 0 -/
theorem sg_44_0 {post : Int32 → tp_St → Prop} {σ : tp_St} (q0 : Nat) (a1 : Int32) (a2 : Int32) (hq0 : q0 = 20 ∨ q0 = 21 ∨ q0 = 22 ∨ q0 = 23) (h : tp_E 42 0 [.ref q0, .int a1] [] σ (fun r1 σ1 =>
(r1 = 0 →
post 0 σ1) ∧ (¬ r1 = 0 →
((σ1.1 q0 1).toInt = 0 →
vp_in a1 64 ∧
post 0 (tp_set σ1 (tp_rr σ1 q0 0) (a1).toNatClampNeg (a2).toInt8.toInt32)) ∧ (¬ (σ1.1 q0 1).toInt = 0 →
((σ1.1 q0 1).toInt = 1 →
vp_in a1 64 ∧
post 0 (tp_set σ1 (tp_rr σ1 q0 0) (a1).toNatClampNeg (a2).toInt16.toInt32)) ∧ (¬ (σ1.1 q0 1).toInt = 1 →
vp_in a1 64 ∧
post 0 (tp_set σ1 (tp_rr σ1 q0 0) (a1).toNatClampNeg a2)))))) : tp_E 44 0 [.ref q0, .int a1, .int a2] [] σ post := by
  rcases hq0 with rfl | rfl | rfl | rfl
  · exact tp_E_step (tp_Em h (fun r1 σ1 h1 => And.intro (fun c2 => (h1.1 c2)) (fun c2 => Exists.intro _ (And.intro (tp_wk_rf _) (tp_E_step (And.intro (fun c3 => Exists.intro _ (And.intro (tp_wk_rf _) (tp_E_step (And.intro ((h1.2 c2).1 c3).1 (Exists.intro _ (And.intro (tp_wk_rf _) (tp_E_step (((h1.2 c2).1 c3).2)))))))) (fun c3 => And.intro (fun c4 => Exists.intro _ (And.intro (tp_wk_rf _) (tp_E_step (And.intro (((h1.2 c2).2 c3).1 c4).1 (Exists.intro _ (And.intro (tp_wk_rf _) (tp_E_step ((((h1.2 c2).2 c3).1 c4).2)))))))) (fun c4 => Exists.intro _ (And.intro (tp_wk_rf _) (tp_E_step (And.intro (((h1.2 c2).2 c3).2 c4).1 (Exists.intro _ (And.intro (tp_wk_rf _) (tp_E_step ((((h1.2 c2).2 c3).2 c4).2)))))))))))))))
  · exact tp_E_step (tp_Em h (fun r1 σ1 h1 => And.intro (fun c2 => (h1.1 c2)) (fun c2 => Exists.intro _ (And.intro (tp_wk_rf _) (tp_E_step (And.intro (fun c3 => Exists.intro _ (And.intro (tp_wk_rf _) (tp_E_step (And.intro ((h1.2 c2).1 c3).1 (Exists.intro _ (And.intro (tp_wk_rf _) (tp_E_step (((h1.2 c2).1 c3).2)))))))) (fun c3 => And.intro (fun c4 => Exists.intro _ (And.intro (tp_wk_rf _) (tp_E_step (And.intro (((h1.2 c2).2 c3).1 c4).1 (Exists.intro _ (And.intro (tp_wk_rf _) (tp_E_step ((((h1.2 c2).2 c3).1 c4).2)))))))) (fun c4 => Exists.intro _ (And.intro (tp_wk_rf _) (tp_E_step (And.intro (((h1.2 c2).2 c3).2 c4).1 (Exists.intro _ (And.intro (tp_wk_rf _) (tp_E_step ((((h1.2 c2).2 c3).2 c4).2)))))))))))))))
  · exact tp_E_step (tp_Em h (fun r1 σ1 h1 => And.intro (fun c2 => (h1.1 c2)) (fun c2 => Exists.intro _ (And.intro (tp_wk_rf _) (tp_E_step (And.intro (fun c3 => Exists.intro _ (And.intro (tp_wk_rf _) (tp_E_step (And.intro ((h1.2 c2).1 c3).1 (Exists.intro _ (And.intro (tp_wk_rf _) (tp_E_step (((h1.2 c2).1 c3).2)))))))) (fun c3 => And.intro (fun c4 => Exists.intro _ (And.intro (tp_wk_rf _) (tp_E_step (And.intro (((h1.2 c2).2 c3).1 c4).1 (Exists.intro _ (And.intro (tp_wk_rf _) (tp_E_step ((((h1.2 c2).2 c3).1 c4).2)))))))) (fun c4 => Exists.intro _ (And.intro (tp_wk_rf _) (tp_E_step (And.intro (((h1.2 c2).2 c3).2 c4).1 (Exists.intro _ (And.intro (tp_wk_rf _) (tp_E_step ((((h1.2 c2).2 c3).2 c4).2)))))))))))))))
  · exact tp_E_step (tp_Em h (fun r1 σ1 h1 => And.intro (fun c2 => (h1.1 c2)) (fun c2 => Exists.intro _ (And.intro (tp_wk_rf _) (tp_E_step (And.intro (fun c3 => Exists.intro _ (And.intro (tp_wk_rf _) (tp_E_step (And.intro ((h1.2 c2).1 c3).1 (Exists.intro _ (And.intro (tp_wk_rf _) (tp_E_step (((h1.2 c2).1 c3).2)))))))) (fun c3 => And.intro (fun c4 => Exists.intro _ (And.intro (tp_wk_rf _) (tp_E_step (And.intro (((h1.2 c2).2 c3).1 c4).1 (Exists.intro _ (And.intro (tp_wk_rf _) (tp_E_step ((((h1.2 c2).2 c3).1 c4).2)))))))) (fun c4 => Exists.intro _ (And.intro (tp_wk_rf _) (tp_E_step (And.intro (((h1.2 c2).2 c3).2 c4).1 (Exists.intro _ (And.intro (tp_wk_rf _) (tp_E_step ((((h1.2 c2).2 c3).2 c4).2)))))))))))))))
/-- X6_append (J)I, 0 -/
theorem sg_45_0 {post : Int32 → tp_St → Prop} {σ : tp_St} (a1 : Int64)  (h : (((σ.1 19 1) + 8) ≤ 200 →
tp_E 45 19 [.ref 19, .long a1, .null, .int 56] [] σ post) ∧ (¬ ((σ.1 19 1) + 8) ≤ 200 →
post (-3) σ)) : tp_E 45 0 [.ref 19, .long a1, .null, .null] [] σ post := tp_E_step (And.intro (fun c1 => Exists.intro _ (And.intro (tp_wk_rf _) (tp_E_step (Exists.intro [.ref 19, .long a1, .null, .int 56] (And.intro (And.intro (Or.inr rfl) (And.intro (Or.inr rfl) (And.intro (Or.inr rfl) (And.intro (Or.inr rfl) (trivial))))) (h.1 c1)))))) (fun c1 => And.intro rfl (h.2 c1)))
/-- X6_append (J)I, 19 -/
theorem sg_45_19 {post : Int32 → tp_St → Prop} {σ : tp_St} (a1 : Int64) (a3 : Int32)  (h : (a3 < 0 →
post (σ.1 19 1) σ) ∧ (¬ a3 < 0 →
vp_in (σ.1 19 1) 200 ∧
tp_E 45 19 [.ref 19, .long a1, .null, .int (a3 + (-8))] [] (tp_set (tp_set σ 27 ((σ.1 19 1)).toNatClampNeg (vp_nar .byte ((((a1).toUInt64 >>> ((a3).toInt64.toUInt64 &&& Int64.toUInt64 63)).toInt64).toInt32).toInt8.toInt32)) 19 1 ((σ.1 19 1) + 1)) post)) : tp_E 45 19 [.ref 19, .long a1, .null, .int a3] [] σ post := tp_E_step (And.intro (fun c1 => Exists.intro _ (And.intro (tp_wk_rf _) (tp_E_step (And.intro rfl (h.1 c1))))) (fun c1 => And.intro (h.2 c1).1 (Exists.intro [.ref 19, .long a1, .null, .int (a3 + (-8))] (And.intro (And.intro (Or.inr rfl) (And.intro (Or.inr rfl) (And.intro (Or.inr rfl) (And.intro (Or.inr rfl) (trivial))))) (h.2 c1).2))))
/-- X6_rewind ()V, 0 -/
theorem sg_46_0 {post : Int32 → tp_St → Prop} {σ : tp_St}   (h : post 0 (tp_set σ 19 4 0)) : tp_E 46 0 [.ref 19] [] σ post := tp_E_step (h)
/-- X6_readToken ()I, 0 -/
theorem sg_47_0 {post : Int32 → tp_St → Prop} {σ : tp_St}   (h : ((σ.1 19 1) ≤ (σ.1 19 4) →
((σ.1 19 4) < (σ.1 19 1) →
tp_E 50 0 [.ref 19, .int (σ.1 19 4)] [] (tp_set σ 19 2 (σ.1 19 4)) (fun r1 σ1 =>
(r1 = 0 →
tp_E 51 0 [.ref 19, .int (σ1.1 19 4)] [] σ1 (fun r3 σ3 =>
(r3 = 0 →
vp_in (σ3.1 19 4) 200 ∧
((σ3.1 27 ((σ3.1 19 4)).toNatClampNeg) = 59 →
post 4 (tp_set σ3 19 4 ((σ3.1 19 4) + 1))) ∧ (¬ (σ3.1 27 ((σ3.1 19 4)).toNatClampNeg) = 59 →
post 0 (tp_set σ3 19 4 ((σ3.1 19 4) + 1)))) ∧ (¬ r3 = 0 →
tp_E 49 0 [.ref 19] [] σ3 (fun r4 σ4 =>
post r4 σ4)))) ∧ (¬ r1 = 0 →
tp_E 48 0 [.ref 19] [] σ1 (fun r2 σ2 =>
post r2 σ2)))) ∧ (¬ (σ.1 19 4) < (σ.1 19 1) →
post 1 (tp_set σ 19 2 (σ.1 19 4)))) ∧ (¬ (σ.1 19 1) ≤ (σ.1 19 4) →
vp_in (σ.1 19 4) 200 ∧
((σ.1 27 ((σ.1 19 4)).toNatClampNeg) = 32 →
tp_E 47 0 [.ref 19] [] (tp_set σ 19 4 ((σ.1 19 4) + 1)) post) ∧ (¬ (σ.1 27 ((σ.1 19 4)).toNatClampNeg) = 32 →
((σ.1 19 4) < (σ.1 19 1) →
tp_E 50 0 [.ref 19, .int (σ.1 19 4)] [] (tp_set σ 19 2 (σ.1 19 4)) (fun r5 σ5 =>
(r5 = 0 →
tp_E 51 0 [.ref 19, .int (σ5.1 19 4)] [] σ5 (fun r7 σ7 =>
(r7 = 0 →
vp_in (σ7.1 19 4) 200 ∧
((σ7.1 27 ((σ7.1 19 4)).toNatClampNeg) = 59 →
post 4 (tp_set σ7 19 4 ((σ7.1 19 4) + 1))) ∧ (¬ (σ7.1 27 ((σ7.1 19 4)).toNatClampNeg) = 59 →
post 0 (tp_set σ7 19 4 ((σ7.1 19 4) + 1)))) ∧ (¬ r7 = 0 →
tp_E 49 0 [.ref 19] [] σ7 (fun r8 σ8 =>
post r8 σ8)))) ∧ (¬ r5 = 0 →
tp_E 48 0 [.ref 19] [] σ5 (fun r6 σ6 =>
post r6 σ6)))) ∧ (¬ (σ.1 19 4) < (σ.1 19 1) →
post 1 (tp_set σ 19 2 (σ.1 19 4)))))) : tp_E 47 0 [.ref 19] [] σ post := tp_E_step (And.intro (fun c1 => Exists.intro _ (And.intro (tp_wk_rf _) (tp_E_step (And.intro (fun c2 => Exists.intro _ (And.intro (tp_wk_rf _) (tp_E_step (tp_Em ((h.1 c1).1 c2) (fun r3 σ3 h3 => And.intro (fun c5 => Exists.intro _ (And.intro (tp_wk_rf _) (tp_E_step (tp_Em (h3.1 c5) (fun r6 σ6 h6 => And.intro (fun c8 => Exists.intro _ (And.intro (tp_wk_rf _) (tp_E_step (And.intro (h6.1 c8).1 (And.intro (fun c9 => Exists.intro _ (And.intro (tp_wk_rf _) (tp_E_step (And.intro rfl ((h6.1 c8).2.1 c9))))) (fun c9 => Exists.intro _ (And.intro (tp_wk_rf _) (tp_E_step (Exists.intro _ (And.intro (tp_wk_rf _) (tp_E_step (And.intro rfl ((h6.1 c8).2.2 c9))))))))))))) (fun c8 => tp_Em (h6.2 c8) (fun r7 σ7 h7 => And.intro rfl h7))))))) (fun c5 => tp_Em (h3.2 c5) (fun r4 σ4 h4 => And.intro rfl h4))))))) (fun c2 => And.intro rfl ((h.1 c1).2 c2)))))) (fun c1 => And.intro (h.2 c1).1 (And.intro (fun c10 => Exists.intro [.ref 19] (And.intro (And.intro (Or.inr rfl) (trivial)) ((h.2 c1).2.1 c10))) (fun c10 => Exists.intro _ (And.intro (tp_wk_rf _) (tp_E_step (And.intro (fun c11 => Exists.intro _ (And.intro (tp_wk_rf _) (tp_E_step (tp_Em (((h.2 c1).2.2 c10).1 c11) (fun r12 σ12 h12 => And.intro (fun c14 => Exists.intro _ (And.intro (tp_wk_rf _) (tp_E_step (tp_Em (h12.1 c14) (fun r15 σ15 h15 => And.intro (fun c17 => Exists.intro _ (And.intro (tp_wk_rf _) (tp_E_step (And.intro (h15.1 c17).1 (And.intro (fun c18 => Exists.intro _ (And.intro (tp_wk_rf _) (tp_E_step (And.intro rfl ((h15.1 c17).2.1 c18))))) (fun c18 => Exists.intro _ (And.intro (tp_wk_rf _) (tp_E_step (Exists.intro _ (And.intro (tp_wk_rf _) (tp_E_step (And.intro rfl ((h15.1 c17).2.2 c18))))))))))))) (fun c17 => tp_Em (h15.2 c17) (fun r16 σ16 h16 => And.intro rfl h16))))))) (fun c14 => tp_Em (h12.2 c14) (fun r13 σ13 h13 => And.intro rfl h13))))))) (fun c11 => And.intro rfl (((h.2 c1).2.2 c10).2 c11)))))))))
/-- X6_readName ()I, 0 -/
theorem sg_48_0 {post : Int32 → tp_St → Prop} {σ : tp_St}   (h : ((σ.1 19 1) ≤ (σ.1 19 4) →
tp_E 52 0 [.ref 19, .ref 94, .null] [] σ (fun r2 σ2 =>
(r2 = 0 →
tp_E 52 0 [.ref 19, .ref 95, .null] [] σ2 (fun r3 σ3 =>
(r3 = 0 →
tp_E 52 0 [.ref 19, .ref 96, .null] [] (tp_set σ3 19 3 2) (fun r4 σ4 =>
(r4 = 0 →
post 0 σ4) ∧ (¬ r4 = 0 →
post 2 σ4))) ∧ (¬ r3 = 0 →
post 2 (tp_set σ3 19 3 1)))) ∧ (¬ r2 = 0 →
post 2 (tp_set σ2 19 3 0)))) ∧ (¬ (σ.1 19 1) ≤ (σ.1 19 4) →
tp_E 50 0 [.ref 19, .int (σ.1 19 4)] [] σ (fun r1 σ1 =>
(r1 = 0 →
tp_E 52 0 [.ref 19, .ref 94, .null] [] σ1 (fun r5 σ5 =>
(r5 = 0 →
tp_E 52 0 [.ref 19, .ref 95, .null] [] σ5 (fun r6 σ6 =>
(r6 = 0 →
tp_E 52 0 [.ref 19, .ref 96, .null] [] (tp_set σ6 19 3 2) (fun r7 σ7 =>
(r7 = 0 →
post 0 σ7) ∧ (¬ r7 = 0 →
post 2 σ7))) ∧ (¬ r6 = 0 →
post 2 (tp_set σ6 19 3 1)))) ∧ (¬ r5 = 0 →
post 2 (tp_set σ5 19 3 0)))) ∧ (¬ r1 = 0 →
tp_E 48 0 [.ref 19] [] (tp_set σ1 19 4 ((σ1.1 19 4) + 1)) post)))) : tp_E 48 0 [.ref 19] [] σ post := tp_E_step (And.intro (fun c2 => Exists.intro _ (And.intro (tp_wk_rf _) (tp_E_step (tp_Em (h.1 c2) (fun r3 σ3 h3 => And.intro (fun c4 => Exists.intro _ (And.intro (tp_wk_rf _) (tp_E_step (tp_Em (h3.1 c4) (fun r5 σ5 h5 => And.intro (fun c6 => Exists.intro _ (And.intro (tp_wk_rf _) (tp_E_step (tp_Em (h5.1 c6) (fun r7 σ7 h7 => And.intro (fun c8 => Exists.intro _ (And.intro (tp_wk_rf _) (tp_E_step (Exists.intro _ (And.intro (tp_wk_rf _) (tp_E_step (And.intro rfl (h7.1 c8)))))))) (fun c8 => Exists.intro _ (And.intro (tp_wk_rf _) (tp_E_step (And.intro rfl (h7.2 c8)))))))))) (fun c6 => And.intro rfl (h5.2 c6))))))) (fun c4 => And.intro rfl (h3.2 c4))))))) (fun c2 => tp_Em (h.2 c2) (fun r1 σ1 h1 => And.intro (fun c9 => Exists.intro _ (And.intro (tp_wk_rf _) (tp_E_step (tp_Em (h1.1 c9) (fun r10 σ10 h10 => And.intro (fun c11 => Exists.intro _ (And.intro (tp_wk_rf _) (tp_E_step (tp_Em (h10.1 c11) (fun r12 σ12 h12 => And.intro (fun c13 => Exists.intro _ (And.intro (tp_wk_rf _) (tp_E_step (tp_Em (h12.1 c13) (fun r14 σ14 h14 => And.intro (fun c15 => Exists.intro _ (And.intro (tp_wk_rf _) (tp_E_step (Exists.intro _ (And.intro (tp_wk_rf _) (tp_E_step (And.intro rfl (h14.1 c15)))))))) (fun c15 => Exists.intro _ (And.intro (tp_wk_rf _) (tp_E_step (And.intro rfl (h14.2 c15)))))))))) (fun c13 => And.intro rfl (h12.2 c13))))))) (fun c11 => And.intro rfl (h10.2 c11))))))) (fun c9 => Exists.intro [.ref 19] (And.intro (And.intro (Or.inr rfl) (trivial)) (h1.2 c9))))))
/-- X6_readNumber ()I, 0 -/
theorem sg_49_0 {post : Int32 → tp_St → Prop} {σ : tp_St}   (h : tp_E 49 5 [.ref 19] [] (tp_set σ 19 3 0) post) : tp_E 49 0 [.ref 19] [] σ post := tp_E_step (Exists.intro [.ref 19] (And.intro (And.intro (Or.inr rfl) (trivial)) h))
/-- X6_readNumber ()I, 5 -/
theorem sg_49_5 {post : Int32 → tp_St → Prop} {σ : tp_St}   (h : ((σ.1 19 1) ≤ (σ.1 19 4) →
(4 < ((σ.1 19 4) - (σ.1 19 2)) →
post 0 σ) ∧ (¬ 4 < ((σ.1 19 4) - (σ.1 19 2)) →
post 3 σ)) ∧ (¬ (σ.1 19 1) ≤ (σ.1 19 4) →
tp_E 51 0 [.ref 19, .int (σ.1 19 4)] [] σ (fun r1 σ1 =>
(r1 = 0 →
(4 < ((σ1.1 19 4) - (σ1.1 19 2)) →
post 0 σ1) ∧ (¬ 4 < ((σ1.1 19 4) - (σ1.1 19 2)) →
post 3 σ1)) ∧ (¬ r1 = 0 →
(4 ≤ ((σ1.1 19 4) - (σ1.1 19 2)) →
tp_E 49 5 [.ref 19] [] (tp_set σ1 19 4 ((σ1.1 19 4) + 1)) post) ∧ (¬ 4 ≤ ((σ1.1 19 4) - (σ1.1 19 2)) →
vp_in (σ1.1 19 4) 200 ∧
tp_E 49 5 [.ref 19] [] (tp_set (tp_set σ1 19 3 (((σ1.1 19 3) * 10) + ((σ1.1 27 ((σ1.1 19 4)).toNatClampNeg) - 48))) 19 4 ((σ1.1 19 4) + 1)) post))))) : tp_E 49 5 [.ref 19] [] σ post := tp_E_step (And.intro (fun c2 => Exists.intro _ (And.intro (tp_wk_rf _) (tp_E_step (And.intro (fun c3 => Exists.intro _ (And.intro (tp_wk_rf _) (tp_E_step (Exists.intro _ (And.intro (tp_wk_rf _) (tp_E_step (And.intro rfl ((h.1 c2).1 c3)))))))) (fun c3 => Exists.intro _ (And.intro (tp_wk_rf _) (tp_E_step (And.intro rfl ((h.1 c2).2 c3))))))))) (fun c2 => tp_Em (h.2 c2) (fun r1 σ1 h1 => And.intro (fun c4 => Exists.intro _ (And.intro (tp_wk_rf _) (tp_E_step (And.intro (fun c5 => Exists.intro _ (And.intro (tp_wk_rf _) (tp_E_step (Exists.intro _ (And.intro (tp_wk_rf _) (tp_E_step (And.intro rfl ((h1.1 c4).1 c5)))))))) (fun c5 => Exists.intro _ (And.intro (tp_wk_rf _) (tp_E_step (And.intro rfl ((h1.1 c4).2 c5))))))))) (fun c4 => And.intro (fun c6 => Exists.intro _ (And.intro (tp_wk_rf _) (tp_E_step (Exists.intro [.ref 19] (And.intro (And.intro (Or.inr rfl) (trivial)) ((h1.2 c4).1 c6)))))) (fun c6 => And.intro ((h1.2 c4).2 c6).1 (Exists.intro _ (And.intro (tp_wk_rf _) (tp_E_step (Exists.intro [.ref 19] (And.intro (And.intro (Or.inr rfl) (trivial)) ((h1.2 c4).2 c6).2))))))))))
/-- X6_isLetter (I)Z, 0 -/
theorem sg_50_0 {post : Int32 → tp_St → Prop} {σ : tp_St} (a1 : Int32)  (h : vp_in a1 200 ∧
((σ.1 27 (a1).toNatClampNeg) < 97 →
post 0 σ) ∧ (¬ (σ.1 27 (a1).toNatClampNeg) < 97 →
vp_in a1 200 ∧
(122 < (σ.1 27 (a1).toNatClampNeg) →
post 0 σ) ∧ (¬ 122 < (σ.1 27 (a1).toNatClampNeg) →
post 1 σ))) : tp_E 50 0 [.ref 19, .int a1] [] σ post := tp_E_step (And.intro h.1 (And.intro (fun c1 => Exists.intro _ (And.intro (tp_wk_rf _) (tp_E_step (Exists.intro _ (And.intro (tp_wk_rf _) (tp_E_step (And.intro rfl (h.2.1 c1)))))))) (fun c1 => And.intro (h.2.2 c1).1 (And.intro (fun c2 => Exists.intro _ (And.intro (tp_wk_rf _) (tp_E_step (Exists.intro _ (And.intro (tp_wk_rf _) (tp_E_step (And.intro rfl ((h.2.2 c1).2.1 c2)))))))) (fun c2 => Exists.intro _ (And.intro (tp_wk_rf _) (tp_E_step (And.intro rfl ((h.2.2 c1).2.2 c2)))))))))
/-- X6_isFigure (I)Z, 0 -/
theorem sg_51_0 {post : Int32 → tp_St → Prop} {σ : tp_St} (a1 : Int32)  (h : vp_in a1 200 ∧
((σ.1 27 (a1).toNatClampNeg) < 48 →
post 0 σ) ∧ (¬ (σ.1 27 (a1).toNatClampNeg) < 48 →
vp_in a1 200 ∧
(57 < (σ.1 27 (a1).toNatClampNeg) →
post 0 σ) ∧ (¬ 57 < (σ.1 27 (a1).toNatClampNeg) →
post 1 σ))) : tp_E 51 0 [.ref 19, .int a1] [] σ post := tp_E_step (And.intro h.1 (And.intro (fun c1 => Exists.intro _ (And.intro (tp_wk_rf _) (tp_E_step (Exists.intro _ (And.intro (tp_wk_rf _) (tp_E_step (And.intro rfl (h.2.1 c1)))))))) (fun c1 => And.intro (h.2.2 c1).1 (And.intro (fun c2 => Exists.intro _ (And.intro (tp_wk_rf _) (tp_E_step (Exists.intro _ (And.intro (tp_wk_rf _) (tp_E_step (And.intro rfl ((h.2.2 c1).2.1 c2)))))))) (fun c2 => Exists.intro _ (And.intro (tp_wk_rf _) (tp_E_step (And.intro rfl ((h.2.2 c1).2.2 c2)))))))))
/-- X6_isSpelled (Ljava/lang/String;)Z, 0 -/
theorem sg_52_0 {post : Int32 → tp_St → Prop} {σ : tp_St} (q1 : Nat) (hq1 : q1 = 94 ∨ q1 = 95 ∨ q1 = 96) (h : tp_E 149 0 [.ref q1] [] σ (fun r1 σ1 =>
(((σ.1 19 4) - (σ.1 19 2)) = r1 →
tp_E 52 20 [.ref 19, .ref q1, .int 0] [] σ1 post) ∧ (¬ ((σ.1 19 4) - (σ.1 19 2)) = r1 →
post 0 σ1))) : tp_E 52 0 [.ref 19, .ref q1, .null] [] σ post := by
  rcases hq1 with rfl | rfl | rfl
  · exact tp_E_step (tp_Em h (fun r1 σ1 h1 => And.intro (fun c2 => Exists.intro _ (And.intro (tp_wk_rf _) (tp_E_step (Exists.intro [.ref 19, .ref 94, .int 0] (And.intro (And.intro (Or.inr rfl) (And.intro (Or.inr rfl) (And.intro (Or.inr rfl) (trivial)))) (h1.1 c2)))))) (fun c2 => And.intro rfl (h1.2 c2))))
  · exact tp_E_step (tp_Em h (fun r1 σ1 h1 => And.intro (fun c2 => Exists.intro _ (And.intro (tp_wk_rf _) (tp_E_step (Exists.intro [.ref 19, .ref 95, .int 0] (And.intro (And.intro (Or.inr rfl) (And.intro (Or.inr rfl) (And.intro (Or.inr rfl) (trivial)))) (h1.1 c2)))))) (fun c2 => And.intro rfl (h1.2 c2))))
  · exact tp_E_step (tp_Em h (fun r1 σ1 h1 => And.intro (fun c2 => Exists.intro _ (And.intro (tp_wk_rf _) (tp_E_step (Exists.intro [.ref 19, .ref 96, .int 0] (And.intro (And.intro (Or.inr rfl) (And.intro (Or.inr rfl) (And.intro (Or.inr rfl) (trivial)))) (h1.1 c2)))))) (fun c2 => And.intro rfl (h1.2 c2))))
/-- X6_isSpelled (Ljava/lang/String;)Z, 20 -/
theorem sg_52_20 {post : Int32 → tp_St → Prop} {σ : tp_St} (q1 : Nat) (a2 : Int32) (hq1 : q1 = 94 ∨ q1 = 95 ∨ q1 = 96) (h : tp_E 149 0 [.ref q1] [] σ (fun r1 σ1 =>
(r1 ≤ a2 →
post 1 σ1) ∧ (¬ r1 ≤ a2 →
vp_in ((σ1.1 19 2) + a2) 200 ∧
tp_E 150 0 [.ref q1, .int a2] [] σ1 (fun r2 σ2 =>
((σ1.1 27 (((σ1.1 19 2) + a2)).toNatClampNeg) = r2 →
tp_E 52 20 [.ref 19, .ref q1, .int (a2 + 1)] [] σ2 post) ∧ (¬ (σ1.1 27 (((σ1.1 19 2) + a2)).toNatClampNeg) = r2 →
post 0 σ2))))) : tp_E 52 20 [.ref 19, .ref q1, .int a2] [] σ post := by
  rcases hq1 with rfl | rfl | rfl
  · exact tp_E_step (tp_Em h (fun r1 σ1 h1 => And.intro (fun c3 => Exists.intro _ (And.intro (tp_wk_rf _) (tp_E_step (And.intro rfl (h1.1 c3))))) (fun c3 => And.intro (h1.2 c3).1 (tp_Em (h1.2 c3).2 (fun r2 σ2 h2 => And.intro (fun c4 => Exists.intro _ (And.intro (tp_wk_rf _) (tp_E_step (Exists.intro [.ref 19, .ref 94, .int (a2 + 1)] (And.intro (And.intro (Or.inr rfl) (And.intro (Or.inr rfl) (And.intro (Or.inr rfl) (trivial)))) (h2.1 c4)))))) (fun c4 => And.intro rfl (h2.2 c4)))))))
  · exact tp_E_step (tp_Em h (fun r1 σ1 h1 => And.intro (fun c3 => Exists.intro _ (And.intro (tp_wk_rf _) (tp_E_step (And.intro rfl (h1.1 c3))))) (fun c3 => And.intro (h1.2 c3).1 (tp_Em (h1.2 c3).2 (fun r2 σ2 h2 => And.intro (fun c4 => Exists.intro _ (And.intro (tp_wk_rf _) (tp_E_step (Exists.intro [.ref 19, .ref 95, .int (a2 + 1)] (And.intro (And.intro (Or.inr rfl) (And.intro (Or.inr rfl) (And.intro (Or.inr rfl) (trivial)))) (h2.1 c4)))))) (fun c4 => And.intro rfl (h2.2 c4)))))))
  · exact tp_E_step (tp_Em h (fun r1 σ1 h1 => And.intro (fun c3 => Exists.intro _ (And.intro (tp_wk_rf _) (tp_E_step (And.intro rfl (h1.1 c3))))) (fun c3 => And.intro (h1.2 c3).1 (tp_Em (h1.2 c3).2 (fun r2 σ2 h2 => And.intro (fun c4 => Exists.intro _ (And.intro (tp_wk_rf _) (tp_E_step (Exists.intro [.ref 19, .ref 96, .int (a2 + 1)] (And.intro (And.intro (Or.inr rfl) (And.intro (Or.inr rfl) (And.intro (Or.inr rfl) (trivial)))) (h2.1 c4)))))) (fun c4 => And.intro rfl (h2.2 c4)))))))
/-- X7_has (I)Z, 0 -/
theorem sg_53_0 {post : Int32 → tp_St → Prop} {σ : tp_St} (a1 : Int32)  (h : (a1 < 0 →
post 0 σ) ∧ (¬ a1 < 0 →
((σ.1 3 3) ≤ a1 →
post 0 σ) ∧ (¬ (σ.1 3 3) ≤ a1 →
post 1 σ))) : tp_E 53 0 [.ref 3, .int a1] [] σ post := tp_E_step (And.intro (fun c1 => Exists.intro _ (And.intro (tp_wk_rf _) (tp_E_step (Exists.intro _ (And.intro (tp_wk_rf _) (tp_E_step (And.intro rfl (h.1 c1)))))))) (fun c1 => And.intro (fun c2 => Exists.intro _ (And.intro (tp_wk_rf _) (tp_E_step (Exists.intro _ (And.intro (tp_wk_rf _) (tp_E_step (And.intro rfl ((h.2 c1).1 c2)))))))) (fun c2 => Exists.intro _ (And.intro (tp_wk_rf _) (tp_E_step (And.intro rfl ((h.2 c1).2 c2)))))))
/-- X7_add (IZ)I, 0 -/
theorem sg_54_0 {post : Int32 → tp_St → Prop} {σ : tp_St} (a1 : Int32) (a2 : Int32)  (h : ((σ.1 3 3) < 16 →
vp_in (σ.1 3 3) 16 ∧
vp_in (σ.1 3 3) 16 ∧
vp_in (σ.1 3 3) 16 ∧
post (σ.1 3 3) (tp_set (tp_set (tp_set (tp_set σ 12 ((σ.1 3 3)).toNatClampNeg a1) 13 ((σ.1 3 3)).toNatClampNeg (vp_nar .boolean a2)) 14 ((σ.1 3 3)).toNatClampNeg (vp_nar .boolean 1)) 3 3 ((σ.1 3 3) + 1))) ∧ (¬ (σ.1 3 3) < 16 →
post (-3) σ)) : tp_E 54 0 [.ref 3, .int a1, .int a2] [] σ post := tp_E_step (And.intro (fun c1 => Exists.intro _ (And.intro (tp_wk_rf _) (tp_E_step (And.intro (h.1 c1).1 (And.intro (h.1 c1).2.1 (And.intro (h.1 c1).2.2.1 (And.intro rfl (h.1 c1).2.2.2))))))) (fun c1 => And.intro rfl (h.2 c1)))
/-- X7_hasOpen (I)Z, 0 -/
theorem sg_55_0 {post : Int32 → tp_St → Prop} {σ : tp_St} (a1 : Int32)  (h : tp_E 55 2 [.ref 3, .int a1, .int 0] [] σ post) : tp_E 55 0 [.ref 3, .int a1, .null] [] σ post := tp_E_step (Exists.intro [.ref 3, .int a1, .int 0] (And.intro (And.intro (Or.inr rfl) (And.intro (Or.inr rfl) (And.intro (Or.inr rfl) (trivial)))) h))
/-- X7_hasOpen (I)Z, 2 -/
theorem sg_55_2 {post : Int32 → tp_St → Prop} {σ : tp_St} (a1 : Int32) (a2 : Int32)  (h : ((σ.1 3 3) ≤ a2 →
post 0 σ) ∧ (¬ (σ.1 3 3) ≤ a2 →
vp_in a2 16 ∧
((σ.1 14 (a2).toNatClampNeg) = 0 →
tp_E 55 2 [.ref 3, .int a1, .int (a2 + 1)] [] σ post) ∧ (¬ (σ.1 14 (a2).toNatClampNeg) = 0 →
vp_in a2 16 ∧
((σ.1 12 (a2).toNatClampNeg) = a1 →
post 1 σ) ∧ (¬ (σ.1 12 (a2).toNatClampNeg) = a1 →
tp_E 55 2 [.ref 3, .int a1, .int (a2 + 1)] [] σ post)))) : tp_E 55 2 [.ref 3, .int a1, .int a2] [] σ post := tp_E_step (And.intro (fun c1 => Exists.intro _ (And.intro (tp_wk_rf _) (tp_E_step (And.intro rfl (h.1 c1))))) (fun c1 => And.intro (h.2 c1).1 (And.intro (fun c2 => Exists.intro _ (And.intro (tp_wk_rf _) (tp_E_step (Exists.intro [.ref 3, .int a1, .int (a2 + 1)] (And.intro (And.intro (Or.inr rfl) (And.intro (Or.inr rfl) (And.intro (Or.inr rfl) (trivial)))) ((h.2 c1).2.1 c2)))))) (fun c2 => And.intro ((h.2 c1).2.2 c2).1 (And.intro (fun c3 => And.intro rfl (((h.2 c1).2.2 c2).2.1 c3)) (fun c3 => Exists.intro _ (And.intro (tp_wk_rf _) (tp_E_step (Exists.intro [.ref 3, .int a1, .int (a2 + 1)] (And.intro (And.intro (Or.inr rfl) (And.intro (Or.inr rfl) (And.intro (Or.inr rfl) (trivial)))) (((h.2 c1).2.2 c2).2.2 c3)))))))))))
/-- X7_howManyOpen ()I, 0 -/
theorem sg_56_0 {post : Int32 → tp_St → Prop} {σ : tp_St}   (h : tp_E 56 4 [.ref 3, .int 0, .int 0] [] σ post) : tp_E 56 0 [.ref 3, .null, .null] [] σ post := tp_E_step (Exists.intro [.ref 3, .int 0, .int 0] (And.intro (And.intro (Or.inr rfl) (And.intro (Or.inr rfl) (And.intro (Or.inr rfl) (trivial)))) h))
/-- X7_howManyOpen ()I, 4 -/
theorem sg_56_4 {post : Int32 → tp_St → Prop} {σ : tp_St} (a1 : Int32) (a2 : Int32)  (h : ((σ.1 3 3) ≤ a2 →
post a1 σ) ∧ (¬ (σ.1 3 3) ≤ a2 →
vp_in a2 16 ∧
((σ.1 14 (a2).toNatClampNeg) = 0 →
tp_E 56 4 [.ref 3, .int a1, .int (a2 + 1)] [] σ post) ∧ (¬ (σ.1 14 (a2).toNatClampNeg) = 0 →
tp_E 56 4 [.ref 3, .int (a1 + 1), .int (a2 + 1)] [] σ post))) : tp_E 56 4 [.ref 3, .int a1, .int a2] [] σ post := tp_E_step (And.intro (fun c1 => Exists.intro _ (And.intro (tp_wk_rf _) (tp_E_step (And.intro rfl (h.1 c1))))) (fun c1 => And.intro (h.2 c1).1 (And.intro (fun c2 => Exists.intro _ (And.intro (tp_wk_rf _) (tp_E_step (Exists.intro [.ref 3, .int a1, .int (a2 + 1)] (And.intro (And.intro (Or.inr rfl) (And.intro (Or.inr rfl) (And.intro (Or.inr rfl) (trivial)))) ((h.2 c1).2.1 c2)))))) (fun c2 => Exists.intro _ (And.intro (tp_wk_rf _) (tp_E_step (Exists.intro [.ref 3, .int (a1 + 1), .int (a2 + 1)] (And.intro (And.intro (Or.inr rfl) (And.intro (Or.inr rfl) (And.intro (Or.inr rfl) (trivial)))) ((h.2 c1).2.2 c2)))))))))
/-- X7_stepOfStage (II)I, 0 -/
theorem sg_57_0 {post : Int32 → tp_St → Prop} {σ : tp_St} (a1 : Int32) (a2 : Int32)  (h : vp_in a1 16 ∧
((σ.1 13 (a1).toNatClampNeg) = 0 →
post (9 - a2) σ) ∧ (¬ (σ.1 13 (a1).toNatClampNeg) = 0 →
post a2 σ)) : tp_E 57 0 [.ref 3, .int a1, .int a2] [] σ post := tp_E_step (And.intro h.1 (And.intro (fun c1 => Exists.intro _ (And.intro (tp_wk_rf _) (tp_E_step (Exists.intro _ (And.intro (tp_wk_rf _) (tp_E_step (And.intro rfl (h.2.1 c1)))))))) (fun c1 => Exists.intro _ (And.intro (tp_wk_rf _) (tp_E_step (And.intro rfl (h.2.2 c1)))))))
/-- X7_stepOfSection (II)I, 0 -/
theorem sg_58_0 {post : Int32 → tp_St → Prop} {σ : tp_St} (a1 : Int32) (a2 : Int32)  (h : vp_in a1 16 ∧
((σ.1 13 (a1).toNatClampNeg) = 0 →
post (8 - a2) σ) ∧ (¬ (σ.1 13 (a1).toNatClampNeg) = 0 →
post a2 σ)) : tp_E 58 0 [.ref 3, .int a1, .int a2] [] σ post := tp_E_step (And.intro h.1 (And.intro (fun c1 => Exists.intro _ (And.intro (tp_wk_rf _) (tp_E_step (Exists.intro _ (And.intro (tp_wk_rf _) (tp_E_step (And.intro rfl (h.2.1 c1)))))))) (fun c1 => Exists.intro _ (And.intro (tp_wk_rf _) (tp_E_step (And.intro rfl (h.2.2 c1)))))))
/-- X8_has (I)Z, 0 -/
theorem sg_59_0 {post : Int32 → tp_St → Prop} {σ : tp_St} (a1 : Int32)  (h : (a1 < 0 →
post 0 σ) ∧ (¬ a1 < 0 →
((σ.1 1 2) ≤ a1 →
post 0 σ) ∧ (¬ (σ.1 1 2) ≤ a1 →
post 1 σ))) : tp_E 59 0 [.ref 1, .int a1] [] σ post := tp_E_step (And.intro (fun c1 => Exists.intro _ (And.intro (tp_wk_rf _) (tp_E_step (Exists.intro _ (And.intro (tp_wk_rf _) (tp_E_step (And.intro rfl (h.1 c1)))))))) (fun c1 => And.intro (fun c2 => Exists.intro _ (And.intro (tp_wk_rf _) (tp_E_step (Exists.intro _ (And.intro (tp_wk_rf _) (tp_E_step (And.intro rfl ((h.2 c1).1 c2)))))))) (fun c2 => Exists.intro _ (And.intro (tp_wk_rf _) (tp_E_step (And.intro rfl ((h.2 c1).2 c2)))))))
/-- X8_add (II)I, 0 -/
theorem sg_60_0 {post : Int32 → tp_St → Prop} {σ : tp_St} (a1 : Int32) (a2 : Int32)  (h : ((σ.1 1 2) < 5 →
vp_in (σ.1 1 2) 5 ∧
vp_in (σ.1 1 2) 5 ∧
post (σ.1 1 2) (tp_set (tp_set (tp_set σ 8 ((σ.1 1 2)).toNatClampNeg a1) 9 ((σ.1 1 2)).toNatClampNeg a2) 1 2 ((σ.1 1 2) + 1))) ∧ (¬ (σ.1 1 2) < 5 →
post (-3) σ)) : tp_E 60 0 [.ref 1, .int a1, .int a2] [] σ post := tp_E_step (And.intro (fun c1 => Exists.intro _ (And.intro (tp_wk_rf _) (tp_E_step (And.intro (h.1 c1).1 (And.intro (h.1 c1).2.1 (And.intro rfl (h.1 c1).2.2)))))) (fun c1 => And.intro rfl (h.2 c1)))
/-- X9_type (II)I, 0 -/
theorem sg_61_0 {post : Int32 → tp_St → Prop} {σ : tp_St} (a1 : Int32) (a2 : Int32)  (h : tp_E 91 0 [.int a1, .int 1, .int 60] [] σ (fun r1 σ1 =>
(r1 = 0 →
tp_E 91 0 [.int a2, .int 1, .int 9] [] σ1 (fun r2 σ2 =>
(r2 = 0 →
tp_E 60 0 [.ref 1, .int a1, .int a2] [] σ2 (fun r3 σ3 =>
post r3 σ3)) ∧ (¬ r2 = 0 →
post (-1) σ2))) ∧ (¬ r1 = 0 →
post (-1) σ1))) : tp_E 61 0 [.ref 0, .int a1, .int a2] [] σ post := tp_E_step (tp_Em h (fun r1 σ1 h1 => And.intro (fun c3 => tp_Em (h1.1 c3) (fun r2 σ2 h2 => And.intro (fun c4 => Exists.intro _ (And.intro (tp_wk_rf _) (tp_E_step (tp_Em (h2.1 c4) (fun r5 σ5 h5 => And.intro rfl h5))))) (fun c4 => Exists.intro _ (And.intro (tp_wk_rf _) (tp_E_step (And.intro rfl (h2.2 c4))))))) (fun c3 => Exists.intro _ (And.intro (tp_wk_rf _) (tp_E_step (And.intro rfl (h1.2 c3)))))))
/-- X9_issue (IIII)I, 0 -/
theorem sg_62_0 {post : Int32 → tp_St → Prop} {σ : tp_St} (a1 : Int32) (a2 : Int32) (a3 : Int32) (a4 : Int32)  (h : tp_E 92 0 [.ref 0, .int a1, .int a2] [] σ (fun r1 σ1 =>
(r1 = 0 →
post (-1) σ1) ∧ (¬ r1 = 0 →
tp_E 91 0 [.int a3, .int 0, .int 100000] [] σ1 (fun r2 σ2 =>
(r2 = 0 →
tp_E 91 0 [.int a4, .int 0, .int 1000] [] σ2 (fun r3 σ3 =>
(r3 = 0 →
tp_E 34 0 [.ref 4, .int a2, .int a3, .int (a3 + a4), .null] [] σ3 (fun r4 σ4 =>
(r4 = 0 →
tp_E 17 0 [.ref 2, .int a1, .int a2, .int a3, .int (a3 + a4), .null, .null] [] σ4 (fun r5 σ5 =>
(r5 = 0 →
tp_E 14 0 [.ref 2, .int a1, .int a2] [] σ5 (fun r6 σ6 =>
tp_E 15 0 [.ref 2, .int a1, .int a2, .int a3, .int (a3 + a4)] [] σ6 (fun r7 σ7 =>
post r6 σ7))) ∧ (¬ r5 = 0 →
post (-2) σ5))) ∧ (¬ r4 = 0 →
post (-2) σ4))) ∧ (¬ r3 = 0 →
post (-1) σ3))) ∧ (¬ r2 = 0 →
post (-1) σ2))))) : tp_E 62 0 [.ref 0, .int a1, .int a2, .int a3, .int a4, .null] [] σ post := tp_E_step (tp_Em h (fun r1 σ1 h1 => And.intro (fun c4 => Exists.intro _ (And.intro (tp_wk_rf _) (tp_E_step (And.intro rfl (h1.1 c4))))) (fun c4 => tp_Em (h1.2 c4) (fun r2 σ2 h2 => And.intro (fun c5 => tp_Em (h2.1 c5) (fun r3 σ3 h3 => And.intro (fun c6 => Exists.intro _ (And.intro (tp_wk_rf _) (tp_E_step (tp_Em (h3.1 c6) (fun r7 σ7 h7 => And.intro (fun c9 => tp_Em (h7.1 c9) (fun r8 σ8 h8 => And.intro (fun c10 => Exists.intro _ (And.intro (tp_wk_rf _) (tp_E_step (tp_Em (h8.1 c10) (fun r11 σ11 h11 => tp_Em h11 (fun r12 σ12 h12 => And.intro rfl h12)))))) (fun c10 => Exists.intro _ (And.intro (tp_wk_rf _) (tp_E_step (And.intro rfl (h8.2 c10))))))) (fun c9 => Exists.intro _ (And.intro (tp_wk_rf _) (tp_E_step (And.intro rfl (h7.2 c9)))))))))) (fun c6 => Exists.intro _ (And.intro (tp_wk_rf _) (tp_E_step (And.intro rfl (h3.2 c6))))))) (fun c5 => Exists.intro _ (And.intro (tp_wk_rf _) (tp_E_step (And.intro rfl (h2.2 c5)))))))))
/-- X9_pack (III)I, 0 -/
theorem sg_63_0 {post : Int32 → tp_St → Prop} {σ : tp_St} (a1 : Int32) (a2 : Int32) (a3 : Int32)  (h : tp_E 92 0 [.ref 0, .int a1, .int a2] [] σ (fun r1 σ1 =>
(r1 = 0 →
post (-1) σ1) ∧ (¬ r1 = 0 →
tp_E 91 0 [.int a3, .int 0, .int 1] [] σ1 (fun r2 σ2 =>
(r2 = 0 →
tp_E 14 0 [.ref 2, .int a1, .int a2] [] σ2 (fun r3 σ3 =>
(a3 = 1 →
post r3 σ3) ∧ (¬ a3 = 1 →
(r3 = 0 →
post (-4) σ3) ∧ (¬ r3 = 0 →
vp_in a1 6 ∧
vp_in a2 5 ∧
post (σ3.1 (46 + (a1).toNatClampNeg) (a2).toNatClampNeg) σ3)))) ∧ (¬ r2 = 0 →
post (-1) σ2))))) : tp_E 63 0 [.ref 0, .int a1, .int a2, .int a3, .null] [] σ post := tp_E_step (tp_Em h (fun r1 σ1 h1 => And.intro (fun c3 => Exists.intro _ (And.intro (tp_wk_rf _) (tp_E_step (And.intro rfl (h1.1 c3))))) (fun c3 => tp_Em (h1.2 c3) (fun r2 σ2 h2 => And.intro (fun c4 => Exists.intro _ (And.intro (tp_wk_rf _) (tp_E_step (tp_Em (h2.1 c4) (fun r5 σ5 h5 => And.intro (fun c6 => And.intro rfl (h5.1 c6)) (fun c6 => Exists.intro _ (And.intro (tp_wk_rf _) (tp_E_step (And.intro (fun c7 => Exists.intro _ (And.intro (tp_wk_rf _) (tp_E_step (And.intro rfl ((h5.2 c6).1 c7))))) (fun c7 => Exists.intro _ (And.intro (tp_wk_rf _) (tp_E_step (And.intro ((h5.2 c6).2 c7).1 (tp_rw (tp_rk46 ((h5.2 c6).2 c7).1) (And.intro ((h5.2 c6).2 c7).2.1 (Exists.intro _ (And.intro (tp_wk_rf _) (tp_E_step (And.intro rfl ((h5.2 c6).2 c7).2.2))))))))))))))))))) (fun c4 => Exists.intro _ (And.intro (tp_wk_rf _) (tp_E_step (And.intro rfl (h2.2 c4)))))))))
/-- X9_trip (IZ)I, 0 -/
theorem sg_64_0 {post : Int32 → tp_St → Prop} {σ : tp_St} (a1 : Int32) (a2 : Int32)  (h : tp_E 91 0 [.int a1, .int 0, .int 5] [] σ (fun r1 σ1 =>
(r1 = 0 →
tp_E 55 0 [.ref 3, .int a1, .null] [] σ1 (fun r2 σ2 =>
(r2 = 0 →
tp_E 54 0 [.ref 3, .int a1, .int a2] [] σ2 (fun r3 σ3 =>
post r3 σ3)) ∧ (¬ r2 = 0 →
post (-2) σ2))) ∧ (¬ r1 = 0 →
post (-1) σ1))) : tp_E 64 0 [.ref 0, .int a1, .int a2] [] σ post := tp_E_step (tp_Em h (fun r1 σ1 h1 => And.intro (fun c2 => Exists.intro _ (And.intro (tp_wk_rf _) (tp_E_step (tp_Em (h1.1 c2) (fun r3 σ3 h3 => And.intro (fun c4 => Exists.intro _ (And.intro (tp_wk_rf _) (tp_E_step (tp_Em (h3.1 c4) (fun r5 σ5 h5 => Exists.intro _ (And.intro (tp_wk_rf _) (tp_E_step (And.intro rfl h5)))))))) (fun c4 => Exists.intro _ (And.intro (tp_wk_rf _) (tp_E_step (And.intro rfl (h3.2 c4)))))))))) (fun c2 => And.intro rfl (h1.2 c2))))
/-- X9_close (I)I, 0 -/
theorem sg_65_0 {post : Int32 → tp_St → Prop} {σ : tp_St} (a1 : Int32)  (h : tp_E 53 0 [.ref 3, .int a1] [] σ (fun r1 σ1 =>
(r1 = 0 →
post (-1) σ1) ∧ (¬ r1 = 0 →
vp_in a1 16 ∧
((σ1.1 14 (a1).toNatClampNeg) = 0 →
post (-2) σ1) ∧ (¬ (σ1.1 14 (a1).toNatClampNeg) = 0 →
vp_in a1 16 ∧
tp_E 93 0 [.ref 0, .int a1, .null, .null] [] (tp_set σ1 14 (a1).toNatClampNeg (vp_nar .boolean 0)) (fun r2 σ2 =>
post r2 σ2))))) : tp_E 65 0 [.ref 0, .int a1] [] σ post := tp_E_step (tp_Em h (fun r1 σ1 h1 => And.intro (fun c2 => And.intro rfl (h1.1 c2)) (fun c2 => Exists.intro _ (And.intro (tp_wk_rf _) (tp_E_step (And.intro (h1.2 c2).1 (And.intro (fun c3 => And.intro rfl ((h1.2 c2).2.1 c3)) (fun c3 => Exists.intro _ (And.intro (tp_wk_rf _) (tp_E_step (And.intro ((h1.2 c2).2.2 c3).1 (tp_Em ((h1.2 c2).2.2 c3).2 (fun r4 σ4 h4 => And.intro rfl h4)))))))))))))
/-- X9_sell (III)I, 0 -/
theorem sg_66_0 {post : Int32 → tp_St → Prop} {σ : tp_St} (a1 : Int32) (a2 : Int32) (a3 : Int32)  (h : tp_E 53 0 [.ref 3, .int a1] [] σ (fun r1 σ1 =>
(r1 = 0 →
post (-1) σ1) ∧ (¬ r1 = 0 →
tp_E 59 0 [.ref 1, .int a2] [] σ1 (fun r2 σ2 =>
(r2 = 0 →
post (-1) σ2) ∧ (¬ r2 = 0 →
tp_E 91 0 [.int a3, .int 0, .int 9] [] σ2 (fun r3 σ3 =>
(r3 = 0 →
tp_E 57 0 [.ref 3, .int a1, .int a3] [] σ3 (fun r4 σ4 =>
vp_in a1 16 ∧
((σ4.1 14 (a1).toNatClampNeg) = 0 →
post (-2) σ4) ∧ (¬ (σ4.1 14 (a1).toNatClampNeg) = 0 →
tp_E 32 0 [.ref 4, .int a1, .null] [] σ4 (fun r5 σ5 =>
(r4 < r5 →
post (-2) σ5) ∧ (¬ r4 < r5 →
(r4 = 9 →
post (-2) σ5) ∧ (¬ r4 = 9 →
tp_E 30 0 [.ref 4] [] σ5 (fun r6 σ6 =>
(r6 = 0 →
vp_in a1 16 ∧
tp_E 14 0 [.ref 2, .int (σ6.1 12 (a1).toNatClampNeg), .int a2] [] σ6 (fun r7 σ7 =>
(r7 = 0 →
post (-4) σ7) ∧ (¬ r7 = 0 →
tp_E 16 0 [.ref 2, .int (σ6.1 12 (a1).toNatClampNeg), .int a2] [] σ7 (fun r8 σ8 =>
tp_E 31 0 [.ref 4, .int a1, .int a2, .int r4, .int r8] [] σ8 (fun r9 σ9 =>
post r8 σ9))))) ∧ (¬ r6 = 0 →
post (-3) σ6)))))))) ∧ (¬ r3 = 0 →
post (-1) σ3))))))) : tp_E 66 0 [.ref 0, .int a1, .int a2, .int a3, .null, .null, .null] [] σ post := tp_E_step (tp_Em h (fun r1 σ1 h1 => And.intro (fun c4 => Exists.intro _ (And.intro (tp_wk_rf _) (tp_E_step (And.intro rfl (h1.1 c4))))) (fun c4 => tp_Em (h1.2 c4) (fun r2 σ2 h2 => And.intro (fun c5 => Exists.intro _ (And.intro (tp_wk_rf _) (tp_E_step (And.intro rfl (h2.1 c5))))) (fun c5 => tp_Em (h2.2 c5) (fun r3 σ3 h3 => And.intro (fun c6 => Exists.intro _ (And.intro (tp_wk_rf _) (tp_E_step (tp_Em (h3.1 c6) (fun r7 σ7 h7 => And.intro h7.1 (And.intro (fun c9 => Exists.intro _ (And.intro (tp_wk_rf _) (tp_E_step (And.intro rfl (h7.2.1 c9))))) (fun c9 => tp_Em (h7.2.2 c9) (fun r8 σ8 h8 => And.intro (fun c10 => Exists.intro _ (And.intro (tp_wk_rf _) (tp_E_step (And.intro rfl (h8.1 c10))))) (fun c10 => And.intro (fun c11 => Exists.intro _ (And.intro (tp_wk_rf _) (tp_E_step (And.intro rfl ((h8.2 c10).1 c11))))) (fun c11 => Exists.intro _ (And.intro (tp_wk_rf _) (tp_E_step (tp_Em ((h8.2 c10).2 c11) (fun r12 σ12 h12 => And.intro (fun c13 => Exists.intro _ (And.intro (tp_wk_rf _) (tp_E_step (And.intro (h12.1 c13).1 (tp_Em (h12.1 c13).2 (fun r14 σ14 h14 => And.intro (fun c15 => And.intro rfl (h14.1 c15)) (fun c15 => Exists.intro _ (And.intro (tp_wk_rf _) (tp_E_step (tp_Em (h14.2 c15) (fun r16 σ16 h16 => tp_Em h16 (fun r17 σ17 h17 => And.intro rfl h17)))))))))))) (fun c13 => And.intro rfl (h12.2 c13)))))))))))))))) (fun c6 => Exists.intro _ (And.intro (tp_wk_rf _) (tp_E_step (And.intro rfl (h3.2 c6)))))))))))
/-- X9_undo ()I, 0 -/
theorem sg_67_0 {post : Int32 → tp_St → Prop} {σ : tp_St}   (h : ((σ.1 4 4) = 0 →
post (-4) σ) ∧ (¬ (σ.1 4 4) = 0 →
vp_in ((σ.1 4 4) - 1) 200 ∧
vp_in (σ.1 15 (((σ.1 4 4) - 1)).toNatClampNeg) 16 ∧
vp_in (σ.1 12 ((σ.1 15 (((σ.1 4 4) - 1)).toNatClampNeg)).toNatClampNeg) 6 ∧
vp_in ((σ.1 4 4) - 1) 200 ∧
vp_in (σ.1 16 (((σ.1 4 4) - 1)).toNatClampNeg) 5 ∧
vp_in (σ.1 15 (((σ.1 4 4) - 1)).toNatClampNeg) 16 ∧
((σ.1 14 ((σ.1 15 (((σ.1 4 4) - 1)).toNatClampNeg)).toNatClampNeg) = 0 →
post (-2) σ) ∧ (¬ (σ.1 14 ((σ.1 15 (((σ.1 4 4) - 1)).toNatClampNeg)).toNatClampNeg) = 0 →
vp_in ((σ.1 4 4) - 1) 200 ∧
((σ.1 18 (((σ.1 4 4) - 1)).toNatClampNeg) = ((σ.1 (46 + ((σ.1 12 ((σ.1 15 (((σ.1 4 4) - 1)).toNatClampNeg)).toNatClampNeg)).toNatClampNeg) ((σ.1 16 (((σ.1 4 4) - 1)).toNatClampNeg)).toNatClampNeg) - 1) →
tp_E 99 0 [.ref 0, .null, .null] [] σ (fun r1 σ1 =>
post (σ1.1 4 4) σ1)) ∧ (¬ (σ.1 18 (((σ.1 4 4) - 1)).toNatClampNeg) = ((σ.1 (46 + ((σ.1 12 ((σ.1 15 (((σ.1 4 4) - 1)).toNatClampNeg)).toNatClampNeg)).toNatClampNeg) ((σ.1 16 (((σ.1 4 4) - 1)).toNatClampNeg)).toNatClampNeg) - 1) →
post (-2) σ)))) : tp_E 67 0 [.ref 0, .null, .null, .null] [] σ post := tp_E_step (And.intro (fun c1 => And.intro rfl (h.1 c1)) (fun c1 => Exists.intro _ (And.intro (tp_wk_rf _) (tp_E_step (And.intro (h.2 c1).1 (And.intro (h.2 c1).2.1 (And.intro (h.2 c1).2.2.1 (And.intro (h.2 c1).2.2.2.1 (tp_rw (tp_rk46 (h.2 c1).2.2.1) (And.intro (h.2 c1).2.2.2.2.1 (And.intro (h.2 c1).2.2.2.2.2.1 (And.intro (fun c2 => Exists.intro _ (And.intro (tp_wk_rf _) (tp_E_step (And.intro rfl ((h.2 c1).2.2.2.2.2.2.1 c2))))) (fun c2 => And.intro ((h.2 c1).2.2.2.2.2.2.2 c2).1 (And.intro (fun c3 => Exists.intro _ (And.intro (tp_wk_rf _) (tp_E_step (tp_Em (((h.2 c1).2.2.2.2.2.2.2 c2).2.1 c3) (fun r4 σ4 h4 => And.intro rfl h4))))) (fun c3 => Exists.intro _ (And.intro (tp_wk_rf _) (tp_E_step (And.intro rfl (((h.2 c1).2.2.2.2.2.2.2 c2).2.2 c3)))))))))))))))))))
/-- X9_sheet (III)I, 0 -/
theorem sg_68_0 {post : Int32 → tp_St → Prop} {σ : tp_St} (a1 : Int32) (a2 : Int32) (a3 : Int32)  (h : tp_E 91 0 [.int a1, .int 0, .int 3] [] σ (fun r1 σ1 =>
(r1 = 0 →
tp_E 91 0 [.int a2, .int 0, .int 2] [] σ1 (fun r2 σ2 =>
(r2 = 0 →
(a3 ≤ 64 →
(0 ≤ a3 →
vp_in a1 4 ∧ (a1 = 0 →
tp_E 43 0 [.ref 20, .int a2, .int a3, .null] [] σ2 (fun r3 σ3 =>
post 1 σ3)) ∧ (a1 = 1 →
tp_E 43 0 [.ref 21, .int a2, .int a3, .null] [] σ2 (fun r4 σ4 =>
post 1 σ4)) ∧ (a1 = 2 →
tp_E 43 0 [.ref 22, .int a2, .int a3, .null] [] σ2 (fun r5 σ5 =>
post 1 σ5)) ∧ (a1 = 3 →
tp_E 43 0 [.ref 23, .int a2, .int a3, .null] [] σ2 (fun r6 σ6 =>
post 1 σ6))) ∧ (¬ 0 ≤ a3 →
post (-14) σ2)) ∧ (¬ a3 ≤ 64 →
post (-1) σ2)) ∧ (¬ r2 = 0 →
post (-1) σ2))) ∧ (¬ r1 = 0 →
post (-1) σ1))) : tp_E 68 0 [.ref 0, .int a1, .int a2, .int a3] [] σ post := tp_E_step (tp_Em h (fun r1 σ1 h1 => And.intro (fun c3 => tp_Em (h1.1 c3) (fun r2 σ2 h2 => And.intro (fun c4 => And.intro (fun c5 => Exists.intro _ (And.intro (tp_wk_rf _) (tp_E_step (And.intro (fun c6 => Exists.intro _ (And.intro (tp_wk_rf _) (tp_E_step (And.intro (((h2.1 c4).1 c5).1 c6).1 (And.intro (fun c11 => tp_Em ((((h2.1 c4).1 c5).1 c6).2.1 c11) (fun r7 σ7 h7 => And.intro rfl h7)) (And.intro (fun c11 => tp_Em ((((h2.1 c4).1 c5).1 c6).2.2.1 c11) (fun r8 σ8 h8 => And.intro rfl h8)) (And.intro (fun c11 => tp_Em ((((h2.1 c4).1 c5).1 c6).2.2.2.1 c11) (fun r9 σ9 h9 => And.intro rfl h9)) (fun c11 => tp_Em ((((h2.1 c4).1 c5).1 c6).2.2.2.2 c11) (fun r10 σ10 h10 => And.intro rfl h10))))))))) (fun c6 => And.intro rfl (((h2.1 c4).1 c5).2 c6)))))) (fun c5 => Exists.intro _ (And.intro (tp_wk_rf _) (tp_E_step (And.intro rfl ((h2.1 c4).2 c5)))))) (fun c4 => Exists.intro _ (And.intro (tp_wk_rf _) (tp_E_step (And.intro rfl (h2.2 c4))))))) (fun c3 => Exists.intro _ (And.intro (tp_wk_rf _) (tp_E_step (And.intro rfl (h1.2 c3)))))))
/-- X9_lay (III)I, 0 -/
theorem sg_69_0 {post : Int32 → tp_St → Prop} {σ : tp_St} (a1 : Int32) (a2 : Int32) (a3 : Int32)  (h : tp_E 91 0 [.int a1, .int 0, .int 3] [] σ (fun r1 σ1 =>
(r1 = 0 →
vp_in a1 4 ∧ (a1 = 0 →
tp_E 41 0 [.ref 20] [] σ1 (fun r2 σ2 =>
(r2 = 0 →
tp_E 42 0 [.ref 20, .int a2] [] σ2 (fun r6 σ6 =>
(r6 = 0 →
post (-12) σ6) ∧ (¬ r6 = 0 →
tp_E 44 0 [.ref 20, .int a2, .int a3] [] σ6 (fun r7 σ7 =>
post 1 σ7)))) ∧ (¬ r2 = 0 →
post (-11) σ2))) ∧ (a1 = 1 →
tp_E 41 0 [.ref 21] [] σ1 (fun r3 σ3 =>
(r3 = 0 →
tp_E 42 0 [.ref 21, .int a2] [] σ3 (fun r8 σ8 =>
(r8 = 0 →
post (-12) σ8) ∧ (¬ r8 = 0 →
tp_E 44 0 [.ref 21, .int a2, .int a3] [] σ8 (fun r9 σ9 =>
post 1 σ9)))) ∧ (¬ r3 = 0 →
post (-11) σ3))) ∧ (a1 = 2 →
tp_E 41 0 [.ref 22] [] σ1 (fun r4 σ4 =>
(r4 = 0 →
tp_E 42 0 [.ref 22, .int a2] [] σ4 (fun r10 σ10 =>
(r10 = 0 →
post (-12) σ10) ∧ (¬ r10 = 0 →
tp_E 44 0 [.ref 22, .int a2, .int a3] [] σ10 (fun r11 σ11 =>
post 1 σ11)))) ∧ (¬ r4 = 0 →
post (-11) σ4))) ∧ (a1 = 3 →
tp_E 41 0 [.ref 23] [] σ1 (fun r5 σ5 =>
(r5 = 0 →
tp_E 42 0 [.ref 23, .int a2] [] σ5 (fun r12 σ12 =>
(r12 = 0 →
post (-12) σ12) ∧ (¬ r12 = 0 →
tp_E 44 0 [.ref 23, .int a2, .int a3] [] σ12 (fun r13 σ13 =>
post 1 σ13)))) ∧ (¬ r5 = 0 →
post (-11) σ5)))) ∧ (¬ r1 = 0 →
post (-1) σ1))) : tp_E 69 0 [.ref 0, .int a1, .int a2, .int a3, .null] [] σ post := tp_E_step (tp_Em h (fun r1 σ1 h1 => And.intro (fun c2 => Exists.intro _ (And.intro (tp_wk_rf _) (tp_E_step (And.intro (h1.1 c2).1 (And.intro (fun c7 => tp_Em ((h1.1 c2).2.1 c7) (fun r3 σ3 h3 => And.intro (fun c8 => Exists.intro _ (And.intro (tp_wk_rf _) (tp_E_step (tp_Em (h3.1 c8) (fun r9 σ9 h9 => And.intro (fun c10 => And.intro rfl (h9.1 c10)) (fun c10 => Exists.intro _ (And.intro (tp_wk_rf _) (tp_E_step (tp_Em (h9.2 c10) (fun r11 σ11 h11 => And.intro rfl h11)))))))))) (fun c8 => And.intro rfl (h3.2 c8)))) (And.intro (fun c7 => tp_Em ((h1.1 c2).2.2.1 c7) (fun r4 σ4 h4 => And.intro (fun c12 => Exists.intro _ (And.intro (tp_wk_rf _) (tp_E_step (tp_Em (h4.1 c12) (fun r13 σ13 h13 => And.intro (fun c14 => And.intro rfl (h13.1 c14)) (fun c14 => Exists.intro _ (And.intro (tp_wk_rf _) (tp_E_step (tp_Em (h13.2 c14) (fun r15 σ15 h15 => And.intro rfl h15)))))))))) (fun c12 => And.intro rfl (h4.2 c12)))) (And.intro (fun c7 => tp_Em ((h1.1 c2).2.2.2.1 c7) (fun r5 σ5 h5 => And.intro (fun c16 => Exists.intro _ (And.intro (tp_wk_rf _) (tp_E_step (tp_Em (h5.1 c16) (fun r17 σ17 h17 => And.intro (fun c18 => And.intro rfl (h17.1 c18)) (fun c18 => Exists.intro _ (And.intro (tp_wk_rf _) (tp_E_step (tp_Em (h17.2 c18) (fun r19 σ19 h19 => And.intro rfl h19)))))))))) (fun c16 => And.intro rfl (h5.2 c16)))) (fun c7 => tp_Em ((h1.1 c2).2.2.2.2 c7) (fun r6 σ6 h6 => And.intro (fun c20 => Exists.intro _ (And.intro (tp_wk_rf _) (tp_E_step (tp_Em (h6.1 c20) (fun r21 σ21 h21 => And.intro (fun c22 => And.intro rfl (h21.1 c22)) (fun c22 => Exists.intro _ (And.intro (tp_wk_rf _) (tp_E_step (tp_Em (h21.2 c22) (fun r23 σ23 h23 => And.intro rfl h23)))))))))) (fun c20 => And.intro rfl (h6.2 c20))))))))))) (fun c2 => And.intro rfl (h1.2 c2))))
/-- X9_scan (IIIII)I, 0 -/
theorem sg_70_0 {post : Int32 → tp_St → Prop} {σ : tp_St} (a1 : Int32) (a2 : Int32) (a3 : Int32) (a4 : Int32) (a5 : Int32)  (h : tp_E 53 0 [.ref 3, .int a1] [] σ (fun r1 σ1 =>
(r1 = 0 →
post (-1) σ1) ∧ (¬ r1 = 0 →
tp_E 91 0 [.int a2, .int 0, .int 3] [] σ1 (fun r2 σ2 =>
(r2 = 0 →
tp_E 91 0 [.int a3, .int 0, .int 2] [] σ2 (fun r3 σ3 =>
(r3 = 0 →
tp_E 91 0 [.int a5, .int 0, .int 32] [] σ3 (fun r4 σ4 =>
(r4 = 0 →
vp_in a2 4 ∧ (a2 = 0 →
tp_E 41 0 [.ref 20] [] σ4 (fun r5 σ5 =>
(r5 = 0 →
((σ5.1 20 1) = a3 →
tp_E 70 76 [.ref 0, .int a1, .null, .null, .int a4, .int a5, .ref 20, .int 0, .null] [] σ5 post) ∧ (¬ (σ5.1 20 1) = a3 →
post (-13) σ5)) ∧ (¬ r5 = 0 →
post (-11) σ5))) ∧ (a2 = 1 →
tp_E 41 0 [.ref 21] [] σ4 (fun r6 σ6 =>
(r6 = 0 →
((σ6.1 21 1) = a3 →
tp_E 70 76 [.ref 0, .int a1, .null, .null, .int a4, .int a5, .ref 21, .int 0, .null] [] σ6 post) ∧ (¬ (σ6.1 21 1) = a3 →
post (-13) σ6)) ∧ (¬ r6 = 0 →
post (-11) σ6))) ∧ (a2 = 2 →
tp_E 41 0 [.ref 22] [] σ4 (fun r7 σ7 =>
(r7 = 0 →
((σ7.1 22 1) = a3 →
tp_E 70 76 [.ref 0, .int a1, .null, .null, .int a4, .int a5, .ref 22, .int 0, .null] [] σ7 post) ∧ (¬ (σ7.1 22 1) = a3 →
post (-13) σ7)) ∧ (¬ r7 = 0 →
post (-11) σ7))) ∧ (a2 = 3 →
tp_E 41 0 [.ref 23] [] σ4 (fun r8 σ8 =>
(r8 = 0 →
((σ8.1 23 1) = a3 →
tp_E 70 76 [.ref 0, .int a1, .null, .null, .int a4, .int a5, .ref 23, .int 0, .null] [] σ8 post) ∧ (¬ (σ8.1 23 1) = a3 →
post (-13) σ8)) ∧ (¬ r8 = 0 →
post (-11) σ8)))) ∧ (¬ r4 = 0 →
post (-1) σ4))) ∧ (¬ r3 = 0 →
post (-1) σ3))) ∧ (¬ r2 = 0 →
post (-1) σ2))))) : tp_E 70 0 [.ref 0, .int a1, .int a2, .int a3, .int a4, .int a5, .null, .null, .null] [] σ post := tp_E_step (tp_Em h (fun r1 σ1 h1 => And.intro (fun c5 => Exists.intro _ (And.intro (tp_wk_rf _) (tp_E_step (And.intro rfl (h1.1 c5))))) (fun c5 => tp_Em (h1.2 c5) (fun r2 σ2 h2 => And.intro (fun c6 => tp_Em (h2.1 c6) (fun r3 σ3 h3 => And.intro (fun c7 => tp_Em (h3.1 c7) (fun r4 σ4 h4 => And.intro (fun c8 => Exists.intro _ (And.intro (tp_wk_rf _) (tp_E_step (And.intro (h4.1 c8).1 (And.intro (fun c13 => tp_Em ((h4.1 c8).2.1 c13) (fun r9 σ9 h9 => And.intro (fun c14 => Exists.intro _ (And.intro (tp_wk_rf _) (tp_E_step (And.intro (fun c15 => Exists.intro _ (And.intro (tp_wk_rf _) (tp_E_step (Exists.intro [.ref 0, .int a1, .null, .null, .int a4, .int a5, .ref 20, .int 0, .null] (And.intro (And.intro (Or.inr rfl) (And.intro (Or.inr rfl) (And.intro (Or.inl rfl) (And.intro (Or.inl rfl) (And.intro (Or.inr rfl) (And.intro (Or.inr rfl) (And.intro (Or.inr rfl) (And.intro (Or.inr rfl) (And.intro (Or.inr rfl) (trivial)))))))))) ((h9.1 c14).1 c15)))))) (fun c15 => And.intro rfl ((h9.1 c14).2 c15)))))) (fun c14 => And.intro rfl (h9.2 c14)))) (And.intro (fun c13 => tp_Em ((h4.1 c8).2.2.1 c13) (fun r10 σ10 h10 => And.intro (fun c16 => Exists.intro _ (And.intro (tp_wk_rf _) (tp_E_step (And.intro (fun c17 => Exists.intro _ (And.intro (tp_wk_rf _) (tp_E_step (Exists.intro [.ref 0, .int a1, .null, .null, .int a4, .int a5, .ref 21, .int 0, .null] (And.intro (And.intro (Or.inr rfl) (And.intro (Or.inr rfl) (And.intro (Or.inl rfl) (And.intro (Or.inl rfl) (And.intro (Or.inr rfl) (And.intro (Or.inr rfl) (And.intro (Or.inr rfl) (And.intro (Or.inr rfl) (And.intro (Or.inr rfl) (trivial)))))))))) ((h10.1 c16).1 c17)))))) (fun c17 => And.intro rfl ((h10.1 c16).2 c17)))))) (fun c16 => And.intro rfl (h10.2 c16)))) (And.intro (fun c13 => tp_Em ((h4.1 c8).2.2.2.1 c13) (fun r11 σ11 h11 => And.intro (fun c18 => Exists.intro _ (And.intro (tp_wk_rf _) (tp_E_step (And.intro (fun c19 => Exists.intro _ (And.intro (tp_wk_rf _) (tp_E_step (Exists.intro [.ref 0, .int a1, .null, .null, .int a4, .int a5, .ref 22, .int 0, .null] (And.intro (And.intro (Or.inr rfl) (And.intro (Or.inr rfl) (And.intro (Or.inl rfl) (And.intro (Or.inl rfl) (And.intro (Or.inr rfl) (And.intro (Or.inr rfl) (And.intro (Or.inr rfl) (And.intro (Or.inr rfl) (And.intro (Or.inr rfl) (trivial)))))))))) ((h11.1 c18).1 c19)))))) (fun c19 => And.intro rfl ((h11.1 c18).2 c19)))))) (fun c18 => And.intro rfl (h11.2 c18)))) (fun c13 => tp_Em ((h4.1 c8).2.2.2.2 c13) (fun r12 σ12 h12 => And.intro (fun c20 => Exists.intro _ (And.intro (tp_wk_rf _) (tp_E_step (And.intro (fun c21 => Exists.intro _ (And.intro (tp_wk_rf _) (tp_E_step (Exists.intro [.ref 0, .int a1, .null, .null, .int a4, .int a5, .ref 23, .int 0, .null] (And.intro (And.intro (Or.inr rfl) (And.intro (Or.inr rfl) (And.intro (Or.inl rfl) (And.intro (Or.inl rfl) (And.intro (Or.inr rfl) (And.intro (Or.inr rfl) (And.intro (Or.inr rfl) (And.intro (Or.inr rfl) (And.intro (Or.inr rfl) (trivial)))))))))) ((h12.1 c20).1 c21)))))) (fun c21 => And.intro rfl ((h12.1 c20).2 c21)))))) (fun c20 => And.intro rfl (h12.2 c20))))))))))) (fun c8 => Exists.intro _ (And.intro (tp_wk_rf _) (tp_E_step (And.intro rfl (h4.2 c8))))))) (fun c7 => Exists.intro _ (And.intro (tp_wk_rf _) (tp_E_step (And.intro rfl (h3.2 c7))))))) (fun c6 => Exists.intro _ (And.intro (tp_wk_rf _) (tp_E_step (And.intro rfl (h2.2 c6)))))))))
/-- X9_scan (IIIII)I, 76 -/
theorem sg_70_76 {post : Int32 → tp_St → Prop} {σ : tp_St} (a1 : Int32) (a4 : Int32) (a5 : Int32) (q6 : Nat) (a7 : Int32) (hq6 : q6 = 20 ∨ q6 = 21 ∨ q6 = 22 ∨ q6 = 23) (h : (a5 ≤ a7 →
post a5 σ) ∧ (¬ a5 ≤ a7 →
tp_E 97 0 [.ref 0, .int a1, .ref q6, .int (a4 + (2 * a7)), .null] [] σ (fun r1 σ1 =>
(0 ≤ r1 →
tp_E 70 76 [.ref 0, .int a1, .null, .null, .int a4, .int a5, .ref q6, .int (a7 + 1), .null] [] σ1 post) ∧ (¬ 0 ≤ r1 →
tp_E 98 0 [.ref 0, .int a7, .null] [] σ1 (fun r2 σ2 =>
post r1 σ2))))) : tp_E 70 76 [.ref 0, .int a1, .null, .null, .int a4, .int a5, .ref q6, .int a7, .null] [] σ post := by
  rcases hq6 with rfl | rfl | rfl | rfl
  · exact tp_E_step (And.intro (fun c3 => Exists.intro _ (And.intro (tp_wk_rf _) (tp_E_step (And.intro rfl (h.1 c3))))) (fun c3 => tp_Em (h.2 c3) (fun r1 σ1 h1 => And.intro (fun c4 => Exists.intro _ (And.intro (tp_wk_rf _) (tp_E_step (Exists.intro [.ref 0, .int a1, .null, .null, .int a4, .int a5, .ref 20, .int (a7 + 1), .null] (And.intro (And.intro (Or.inr rfl) (And.intro (Or.inr rfl) (And.intro (Or.inr rfl) (And.intro (Or.inr rfl) (And.intro (Or.inr rfl) (And.intro (Or.inr rfl) (And.intro (Or.inr rfl) (And.intro (Or.inr rfl) (And.intro (Or.inl rfl) (trivial)))))))))) (h1.1 c4)))))) (fun c4 => tp_Em (h1.2 c4) (fun r2 σ2 h2 => And.intro rfl h2)))))
  · exact tp_E_step (And.intro (fun c3 => Exists.intro _ (And.intro (tp_wk_rf _) (tp_E_step (And.intro rfl (h.1 c3))))) (fun c3 => tp_Em (h.2 c3) (fun r1 σ1 h1 => And.intro (fun c4 => Exists.intro _ (And.intro (tp_wk_rf _) (tp_E_step (Exists.intro [.ref 0, .int a1, .null, .null, .int a4, .int a5, .ref 21, .int (a7 + 1), .null] (And.intro (And.intro (Or.inr rfl) (And.intro (Or.inr rfl) (And.intro (Or.inr rfl) (And.intro (Or.inr rfl) (And.intro (Or.inr rfl) (And.intro (Or.inr rfl) (And.intro (Or.inr rfl) (And.intro (Or.inr rfl) (And.intro (Or.inl rfl) (trivial)))))))))) (h1.1 c4)))))) (fun c4 => tp_Em (h1.2 c4) (fun r2 σ2 h2 => And.intro rfl h2)))))
  · exact tp_E_step (And.intro (fun c3 => Exists.intro _ (And.intro (tp_wk_rf _) (tp_E_step (And.intro rfl (h.1 c3))))) (fun c3 => tp_Em (h.2 c3) (fun r1 σ1 h1 => And.intro (fun c4 => Exists.intro _ (And.intro (tp_wk_rf _) (tp_E_step (Exists.intro [.ref 0, .int a1, .null, .null, .int a4, .int a5, .ref 22, .int (a7 + 1), .null] (And.intro (And.intro (Or.inr rfl) (And.intro (Or.inr rfl) (And.intro (Or.inr rfl) (And.intro (Or.inr rfl) (And.intro (Or.inr rfl) (And.intro (Or.inr rfl) (And.intro (Or.inr rfl) (And.intro (Or.inr rfl) (And.intro (Or.inl rfl) (trivial)))))))))) (h1.1 c4)))))) (fun c4 => tp_Em (h1.2 c4) (fun r2 σ2 h2 => And.intro rfl h2)))))
  · exact tp_E_step (And.intro (fun c3 => Exists.intro _ (And.intro (tp_wk_rf _) (tp_E_step (And.intro rfl (h.1 c3))))) (fun c3 => tp_Em (h.2 c3) (fun r1 σ1 h1 => And.intro (fun c4 => Exists.intro _ (And.intro (tp_wk_rf _) (tp_E_step (Exists.intro [.ref 0, .int a1, .null, .null, .int a4, .int a5, .ref 23, .int (a7 + 1), .null] (And.intro (And.intro (Or.inr rfl) (And.intro (Or.inr rfl) (And.intro (Or.inr rfl) (And.intro (Or.inr rfl) (And.intro (Or.inr rfl) (And.intro (Or.inr rfl) (And.intro (Or.inr rfl) (And.intro (Or.inr rfl) (And.intro (Or.inl rfl) (trivial)))))))))) (h1.1 c4)))))) (fun c4 => tp_Em (h1.2 c4) (fun r2 σ2 h2 => And.intro rfl h2)))))
/-- X9_waybill (III)I, 0 -/
theorem sg_71_0 {post : Int32 → tp_St → Prop} {σ : tp_St} (a1 : Int32) (a2 : Int32) (a3 : Int32)  (h : tp_E 53 0 [.ref 3, .int a1] [] σ (fun r1 σ1 =>
(r1 = 0 →
post (-1) σ1) ∧ (¬ r1 = 0 →
tp_E 59 0 [.ref 1, .int a2] [] σ1 (fun r2 σ2 =>
(r2 = 0 →
post (-1) σ2) ∧ (¬ r2 = 0 →
tp_E 91 0 [.int a3, .int 0, .int 2] [] σ2 (fun r3 σ3 =>
(r3 = 0 →
(a3 = 0 →
tp_E 37 0 [.ref 4, .int a1, .int a2, .null, .null] [] σ3 (fun r4 σ4 =>
post r4 σ4)) ∧ (¬ a3 = 0 →
(a3 = 1 →
tp_E 38 0 [.ref 4, .int a1, .int a2, .null] [] σ3 (fun r5 σ5 =>
(0 ≤ r5 →
vp_in r5 200 ∧
post (σ5.1 18 (r5).toNatClampNeg) σ5) ∧ (¬ 0 ≤ r5 →
post (-4) σ5))) ∧ (¬ a3 = 1 →
tp_E 39 0 [.ref 4, .int a1, .int a2, .null] [] σ3 (fun r6 σ6 =>
(0 ≤ r6 →
vp_in r6 200 ∧
post (σ6.1 18 (r6).toNatClampNeg) σ6) ∧ (¬ 0 ≤ r6 →
post (-4) σ6))))) ∧ (¬ r3 = 0 →
post (-1) σ3))))))) : tp_E 71 0 [.ref 0, .int a1, .int a2, .int a3, .null] [] σ post := tp_E_step (tp_Em h (fun r1 σ1 h1 => And.intro (fun c4 => Exists.intro _ (And.intro (tp_wk_rf _) (tp_E_step (And.intro rfl (h1.1 c4))))) (fun c4 => tp_Em (h1.2 c4) (fun r2 σ2 h2 => And.intro (fun c5 => Exists.intro _ (And.intro (tp_wk_rf _) (tp_E_step (And.intro rfl (h2.1 c5))))) (fun c5 => tp_Em (h2.2 c5) (fun r3 σ3 h3 => And.intro (fun c6 => Exists.intro _ (And.intro (tp_wk_rf _) (tp_E_step (And.intro (fun c8 => tp_Em ((h3.1 c6).1 c8) (fun r7 σ7 h7 => And.intro rfl h7)) (fun c8 => Exists.intro _ (And.intro (tp_wk_rf _) (tp_E_step (And.intro (fun c10 => tp_Em (((h3.1 c6).2 c8).1 c10) (fun r9 σ9 h9 => Exists.intro _ (And.intro (tp_wk_rf _) (tp_E_step (And.intro (fun c11 => Exists.intro _ (And.intro (tp_wk_rf _) (tp_E_step (And.intro (h9.1 c11).1 (Exists.intro _ (And.intro (tp_wk_rf _) (tp_E_step (And.intro rfl (h9.1 c11).2)))))))) (fun c11 => Exists.intro _ (And.intro (tp_wk_rf _) (tp_E_step (And.intro rfl (h9.2 c11)))))))))) (fun c10 => Exists.intro _ (And.intro (tp_wk_rf _) (tp_E_step (tp_Em (((h3.1 c6).2 c8).2 c10) (fun r12 σ12 h12 => Exists.intro _ (And.intro (tp_wk_rf _) (tp_E_step (And.intro (fun c13 => Exists.intro _ (And.intro (tp_wk_rf _) (tp_E_step (And.intro (h12.1 c13).1 (Exists.intro _ (And.intro (tp_wk_rf _) (tp_E_step (And.intro rfl (h12.1 c13).2)))))))) (fun c13 => Exists.intro _ (And.intro (tp_wk_rf _) (tp_E_step (And.intro rfl (h12.2 c13))))))))))))))))))))) (fun c6 => Exists.intro _ (And.intro (tp_wk_rf _) (tp_E_step (And.intro rfl (h3.2 c6)))))))))))
/-- X9_money (I)I, 0 -/
theorem sg_72_0 {post : Int32 → tp_St → Prop} {σ : tp_St} (a1 : Int32)  (h : tp_E 53 0 [.ref 3, .int a1] [] σ (fun r1 σ1 =>
(r1 = 0 →
post (-1) σ1) ∧ (¬ r1 = 0 →
tp_E 93 0 [.ref 0, .int a1, .null, .null] [] σ1 (fun r2 σ2 =>
post r2 σ2)))) : tp_E 72 0 [.ref 0, .int a1] [] σ post := tp_E_step (tp_Em h (fun r1 σ1 h1 => And.intro (fun c3 => Exists.intro _ (And.intro (tp_wk_rf _) (tp_E_step (Exists.intro _ (And.intro (tp_wk_rf _) (tp_E_step (And.intro rfl (h1.1 c3)))))))) (fun c3 => tp_Em (h1.2 c3) (fun r2 σ2 h2 => Exists.intro _ (And.intro (tp_wk_rf _) (tp_E_step (And.intro rfl h2)))))))
/-- X9_paid (II)I, 0 -/
theorem sg_73_0 {post : Int32 → tp_St → Prop} {σ : tp_St} (a1 : Int32) (a2 : Int32)  (h : tp_E 91 0 [.int a1, .int 0, .int 5] [] σ (fun r1 σ1 =>
(r1 = 0 →
tp_E 91 0 [.int a2, .int 0, .int 100000] [] σ1 (fun r2 σ2 =>
(r2 = 0 →
tp_E 73 27 [.ref 0, .int a1, .null, .int a2, .int 0] [] σ2 post) ∧ (¬ r2 = 0 →
post (-1000000) σ2))) ∧ (¬ r1 = 0 →
post (-1000000) σ1))) : tp_E 73 0 [.ref 0, .int a1, .int a2, .null, .null] [] σ post := tp_E_step (tp_Em h (fun r1 σ1 h1 => And.intro (fun c3 => tp_Em (h1.1 c3) (fun r2 σ2 h2 => And.intro (fun c4 => Exists.intro _ (And.intro (tp_wk_rf _) (tp_E_step (Exists.intro [.ref 0, .int a1, .null, .int a2, .int 0] (And.intro (And.intro (Or.inr rfl) (And.intro (Or.inr rfl) (And.intro (Or.inl rfl) (And.intro (Or.inr rfl) (And.intro (Or.inr rfl) (trivial)))))) (h2.1 c4)))))) (fun c4 => Exists.intro _ (And.intro (tp_wk_rf _) (tp_E_step (And.intro rfl (h2.2 c4))))))) (fun c3 => Exists.intro _ (And.intro (tp_wk_rf _) (tp_E_step (And.intro rfl (h1.2 c3)))))))
/-- X9_paid (II)I, 27 -/
theorem sg_73_27 {post : Int32 → tp_St → Prop} {σ : tp_St} (a1 : Int32) (a3 : Int32) (a4 : Int32)  (h : ((σ.1 3 3) ≤ a4 →
post a3 σ) ∧ (¬ (σ.1 3 3) ≤ a4 →
vp_in a4 16 ∧
((σ.1 12 (a4).toNatClampNeg) = a1 →
vp_in a4 16 ∧
((σ.1 14 (a4).toNatClampNeg) = 0 →
tp_E 93 0 [.ref 0, .int a4, .null, .null] [] σ (fun r1 σ1 =>
tp_E 73 27 [.ref 0, .int a1, .null, .int (a3 - r1), .int (a4 + 1)] [] σ1 post)) ∧ (¬ (σ.1 14 (a4).toNatClampNeg) = 0 →
tp_E 73 27 [.ref 0, .int a1, .null, .int a3, .int (a4 + 1)] [] σ post)) ∧ (¬ (σ.1 12 (a4).toNatClampNeg) = a1 →
tp_E 73 27 [.ref 0, .int a1, .null, .int a3, .int (a4 + 1)] [] σ post))) : tp_E 73 27 [.ref 0, .int a1, .null, .int a3, .int a4] [] σ post := tp_E_step (And.intro (fun c2 => Exists.intro _ (And.intro (tp_wk_rf _) (tp_E_step (And.intro rfl (h.1 c2))))) (fun c2 => And.intro (h.2 c2).1 (And.intro (fun c3 => And.intro ((h.2 c2).2.1 c3).1 (And.intro (fun c4 => tp_Em (((h.2 c2).2.1 c3).2.1 c4) (fun r1 σ1 h1 => Exists.intro _ (And.intro (tp_wk_rf _) (tp_E_step (Exists.intro [.ref 0, .int a1, .null, .int (a3 - r1), .int (a4 + 1)] (And.intro (And.intro (Or.inr rfl) (And.intro (Or.inr rfl) (And.intro (Or.inr rfl) (And.intro (Or.inr rfl) (And.intro (Or.inr rfl) (trivial)))))) h1)))))) (fun c4 => Exists.intro _ (And.intro (tp_wk_rf _) (tp_E_step (Exists.intro [.ref 0, .int a1, .null, .int a3, .int (a4 + 1)] (And.intro (And.intro (Or.inr rfl) (And.intro (Or.inr rfl) (And.intro (Or.inr rfl) (And.intro (Or.inr rfl) (And.intro (Or.inr rfl) (trivial)))))) (((h.2 c2).2.1 c3).2.2 c4)))))))) (fun c3 => Exists.intro _ (And.intro (tp_wk_rf _) (tp_E_step (Exists.intro [.ref 0, .int a1, .null, .int a3, .int (a4 + 1)] (And.intro (And.intro (Or.inr rfl) (And.intro (Or.inr rfl) (And.intro (Or.inr rfl) (And.intro (Or.inr rfl) (And.intro (Or.inr rfl) (trivial)))))) ((h.2 c2).2.2 c3)))))))))
/-- X9_aboard (III)I, 0 -/
theorem sg_74_0 {post : Int32 → tp_St → Prop} {σ : tp_St} (a1 : Int32) (a2 : Int32) (a3 : Int32)  (h : tp_E 53 0 [.ref 3, .int a1] [] σ (fun r1 σ1 =>
(r1 = 0 →
post (-1) σ1) ∧ (¬ r1 = 0 →
tp_E 91 0 [.int a2, .int 0, .int 8] [] σ1 (fun r2 σ2 =>
(r2 = 0 →
tp_E 91 0 [.int a3, .int 0, .int 1] [] σ2 (fun r3 σ3 =>
(r3 = 0 →
tp_E 94 0 [.ref 0, .int a1, .int a2, .int a3, .null, .null] [] σ3 (fun r4 σ4 =>
post r4 σ4)) ∧ (¬ r3 = 0 →
post (-1) σ3))) ∧ (¬ r2 = 0 →
post (-1) σ2))))) : tp_E 74 0 [.ref 0, .int a1, .int a2, .int a3] [] σ post := tp_E_step (tp_Em h (fun r1 σ1 h1 => And.intro (fun c4 => Exists.intro _ (And.intro (tp_wk_rf _) (tp_E_step (And.intro rfl (h1.1 c4))))) (fun c4 => tp_Em (h1.2 c4) (fun r2 σ2 h2 => And.intro (fun c5 => tp_Em (h2.1 c5) (fun r3 σ3 h3 => And.intro (fun c6 => Exists.intro _ (And.intro (tp_wk_rf _) (tp_E_step (tp_Em (h3.1 c6) (fun r7 σ7 h7 => And.intro rfl h7))))) (fun c6 => Exists.intro _ (And.intro (tp_wk_rf _) (tp_E_step (And.intro rfl (h3.2 c6))))))) (fun c5 => Exists.intro _ (And.intro (tp_wk_rf _) (tp_E_step (And.intro rfl (h2.2 c5)))))))))
/-- X9_riders (ZII)I, 0 -/
theorem sg_75_0 {post : Int32 → tp_St → Prop} {σ : tp_St} (a1 : Int32) (a2 : Int32) (a3 : Int32)  (h : tp_E 91 0 [.int a2, .int 0, .int 8] [] σ (fun r1 σ1 =>
(r1 = 0 →
tp_E 91 0 [.int a3, .int 0, .int 1] [] σ1 (fun r2 σ2 =>
(r2 = 0 →
tp_E 75 27 [.ref 0, .int a1, .int a2, .int a3, .int 0, .int 0] [] σ2 post) ∧ (¬ r2 = 0 →
post (-1) σ2))) ∧ (¬ r1 = 0 →
post (-1) σ1))) : tp_E 75 0 [.ref 0, .int a1, .int a2, .int a3, .null, .null] [] σ post := tp_E_step (tp_Em h (fun r1 σ1 h1 => And.intro (fun c3 => tp_Em (h1.1 c3) (fun r2 σ2 h2 => And.intro (fun c4 => Exists.intro _ (And.intro (tp_wk_rf _) (tp_E_step (Exists.intro [.ref 0, .int a1, .int a2, .int a3, .int 0, .int 0] (And.intro (And.intro (Or.inr rfl) (And.intro (Or.inr rfl) (And.intro (Or.inr rfl) (And.intro (Or.inr rfl) (And.intro (Or.inr rfl) (And.intro (Or.inr rfl) (trivial))))))) (h2.1 c4)))))) (fun c4 => Exists.intro _ (And.intro (tp_wk_rf _) (tp_E_step (And.intro rfl (h2.2 c4))))))) (fun c3 => Exists.intro _ (And.intro (tp_wk_rf _) (tp_E_step (And.intro rfl (h1.2 c3)))))))
/-- X9_riders (ZII)I, 27 -/
theorem sg_75_27 {post : Int32 → tp_St → Prop} {σ : tp_St} (a1 : Int32) (a2 : Int32) (a3 : Int32) (a4 : Int32) (a5 : Int32)  (h : ((σ.1 4 4) ≤ a5 →
post a4 σ) ∧ (¬ (σ.1 4 4) ≤ a5 →
vp_in a5 200 ∧
vp_in (σ.1 15 (a5).toNatClampNeg) 16 ∧
((σ.1 13 ((σ.1 15 (a5).toNatClampNeg)).toNatClampNeg) = a1 →
tp_E 95 0 [.ref 0, .int a5, .int a2, .int a3, .null] [] σ (fun r1 σ1 =>
(r1 = 0 →
tp_E 75 27 [.ref 0, .int a1, .int a2, .int a3, .int a4, .int (a5 + 1)] [] σ1 post) ∧ (¬ r1 = 0 →
tp_E 75 27 [.ref 0, .int a1, .int a2, .int a3, .int (a4 + 1), .int (a5 + 1)] [] σ1 post))) ∧ (¬ (σ.1 13 ((σ.1 15 (a5).toNatClampNeg)).toNatClampNeg) = a1 →
tp_E 75 27 [.ref 0, .int a1, .int a2, .int a3, .int a4, .int (a5 + 1)] [] σ post))) : tp_E 75 27 [.ref 0, .int a1, .int a2, .int a3, .int a4, .int a5] [] σ post := tp_E_step (And.intro (fun c2 => Exists.intro _ (And.intro (tp_wk_rf _) (tp_E_step (And.intro rfl (h.1 c2))))) (fun c2 => And.intro (h.2 c2).1 (And.intro (h.2 c2).2.1 (And.intro (fun c3 => tp_Em ((h.2 c2).2.2.1 c3) (fun r1 σ1 h1 => And.intro (fun c4 => Exists.intro _ (And.intro (tp_wk_rf _) (tp_E_step (Exists.intro [.ref 0, .int a1, .int a2, .int a3, .int a4, .int (a5 + 1)] (And.intro (And.intro (Or.inr rfl) (And.intro (Or.inr rfl) (And.intro (Or.inr rfl) (And.intro (Or.inr rfl) (And.intro (Or.inr rfl) (And.intro (Or.inr rfl) (trivial))))))) (h1.1 c4)))))) (fun c4 => Exists.intro _ (And.intro (tp_wk_rf _) (tp_E_step (Exists.intro [.ref 0, .int a1, .int a2, .int a3, .int (a4 + 1), .int (a5 + 1)] (And.intro (And.intro (Or.inr rfl) (And.intro (Or.inr rfl) (And.intro (Or.inr rfl) (And.intro (Or.inr rfl) (And.intro (Or.inr rfl) (And.intro (Or.inr rfl) (trivial))))))) (h1.2 c4)))))))) (fun c3 => Exists.intro _ (And.intro (tp_wk_rf _) (tp_E_step (Exists.intro [.ref 0, .int a1, .int a2, .int a3, .int a4, .int (a5 + 1)] (And.intro (And.intro (Or.inr rfl) (And.intro (Or.inr rfl) (And.intro (Or.inr rfl) (And.intro (Or.inr rfl) (And.intro (Or.inr rfl) (And.intro (Or.inr rfl) (trivial))))))) ((h.2 c2).2.2.2 c3))))))))))
/-- X9_shown (IIII)I, 0 -/
theorem sg_76_0 {post : Int32 → tp_St → Prop} {σ : tp_St} (a1 : Int32) (a2 : Int32) (a3 : Int32) (a4 : Int32)  (h : tp_E 53 0 [.ref 3, .int a1] [] σ (fun r1 σ1 =>
(r1 = 0 →
post (-1) σ1) ∧ (¬ r1 = 0 →
tp_E 91 0 [.int a2, .int 0, .int 8] [] σ1 (fun r2 σ2 =>
(r2 = 0 →
tp_E 59 0 [.ref 1, .int a3] [] σ2 (fun r3 σ3 =>
(r3 = 0 →
post (-1) σ3) ∧ (¬ r3 = 0 →
(0 ≤ a4 →
tp_E 33 0 [.ref 4, .int a3, .int a4, .null] [] σ3 (fun r4 σ4 =>
(0 ≤ r4 →
vp_in r4 200 ∧
((σ4.1 15 (r4).toNatClampNeg) = a1 →
tp_E 58 0 [.ref 3, .int a1, .int a2] [] σ4 (fun r5 σ5 =>
vp_in r4 200 ∧
((σ5.1 17 (r4).toNatClampNeg) ≤ r5 →
tp_E 96 0 [.ref 0, .int r4, .int r5, .null] [] σ5 (fun r6 σ6 =>
(r6 = 0 →
post 4 σ6) ∧ (¬ r6 = 0 →
post 0 σ6))) ∧ (¬ (σ5.1 17 (r4).toNatClampNeg) ≤ r5 →
post 3 σ5))) ∧ (¬ (σ4.1 15 (r4).toNatClampNeg) = a1 →
post 2 σ4)) ∧ (¬ 0 ≤ r4 →
post 1 σ4))) ∧ (¬ 0 ≤ a4 →
post (-1) σ3)))) ∧ (¬ r2 = 0 →
post (-1) σ2))))) : tp_E 76 0 [.ref 0, .int a1, .int a2, .int a3, .int a4, .null, .null] [] σ post := tp_E_step (tp_Em h (fun r1 σ1 h1 => And.intro (fun c4 => Exists.intro _ (And.intro (tp_wk_rf _) (tp_E_step (And.intro rfl (h1.1 c4))))) (fun c4 => tp_Em (h1.2 c4) (fun r2 σ2 h2 => And.intro (fun c5 => tp_Em (h2.1 c5) (fun r3 σ3 h3 => And.intro (fun c6 => Exists.intro _ (And.intro (tp_wk_rf _) (tp_E_step (And.intro rfl (h3.1 c6))))) (fun c6 => And.intro (fun c7 => Exists.intro _ (And.intro (tp_wk_rf _) (tp_E_step (tp_Em ((h3.2 c6).1 c7) (fun r8 σ8 h8 => And.intro (fun c9 => Exists.intro _ (And.intro (tp_wk_rf _) (tp_E_step (And.intro (h8.1 c9).1 (And.intro (fun c10 => Exists.intro _ (And.intro (tp_wk_rf _) (tp_E_step (tp_Em ((h8.1 c9).2.1 c10) (fun r11 σ11 h11 => And.intro h11.1 (And.intro (fun c12 => Exists.intro _ (And.intro (tp_wk_rf _) (tp_E_step (tp_Em (h11.2.1 c12) (fun r13 σ13 h13 => And.intro (fun c14 => Exists.intro _ (And.intro (tp_wk_rf _) (tp_E_step (Exists.intro _ (And.intro (tp_wk_rf _) (tp_E_step (And.intro rfl (h13.1 c14)))))))) (fun c14 => Exists.intro _ (And.intro (tp_wk_rf _) (tp_E_step (And.intro rfl (h13.2 c14)))))))))) (fun c12 => And.intro rfl (h11.2.2 c12)))))))) (fun c10 => And.intro rfl ((h8.1 c9).2.2 c10))))))) (fun c9 => And.intro rfl (h8.2 c9))))))) (fun c7 => Exists.intro _ (And.intro (tp_wk_rf _) (tp_E_step (And.intro rfl ((h3.2 c6).2 c7)))))))) (fun c5 => Exists.intro _ (And.intro (tp_wk_rf _) (tp_E_step (And.intro rfl (h2.2 c5)))))))))
/-- X9_heads (III)I, 0 -/
theorem sg_77_0 {post : Int32 → tp_St → Prop} {σ : tp_St} (a1 : Int32) (a2 : Int32) (a3 : Int32)  (h : tp_E 53 0 [.ref 3, .int a1] [] σ (fun r1 σ1 =>
(r1 = 0 →
post (-1000000) σ1) ∧ (¬ r1 = 0 →
tp_E 91 0 [.int a2, .int 0, .int 8] [] σ1 (fun r2 σ2 =>
(r2 = 0 →
tp_E 91 0 [.int a3, .int 0, .int 1000] [] σ2 (fun r3 σ3 =>
(r3 = 0 →
tp_E 94 0 [.ref 0, .int a1, .int a2, .int 1, .null, .null] [] σ3 (fun r4 σ4 =>
(a3 ≤ r4 →
tp_E 94 0 [.ref 0, .int a1, .int a2, .int 0, .null, .null] [] σ4 (fun r5 σ5 =>
(r5 ≤ a3 →
post 0 σ5) ∧ (¬ r5 ≤ a3 →
post (a3 - r5) σ5))) ∧ (¬ a3 ≤ r4 →
post (a3 - r4) σ4))) ∧ (¬ r3 = 0 →
post (-1000000) σ3))) ∧ (¬ r2 = 0 →
post (-1000000) σ2))))) : tp_E 77 0 [.ref 0, .int a1, .int a2, .int a3, .null, .null] [] σ post := tp_E_step (tp_Em h (fun r1 σ1 h1 => And.intro (fun c4 => Exists.intro _ (And.intro (tp_wk_rf _) (tp_E_step (And.intro rfl (h1.1 c4))))) (fun c4 => tp_Em (h1.2 c4) (fun r2 σ2 h2 => And.intro (fun c5 => tp_Em (h2.1 c5) (fun r3 σ3 h3 => And.intro (fun c6 => Exists.intro _ (And.intro (tp_wk_rf _) (tp_E_step (tp_Em (h3.1 c6) (fun r7 σ7 h7 => And.intro (fun c8 => Exists.intro _ (And.intro (tp_wk_rf _) (tp_E_step (tp_Em (h7.1 c8) (fun r9 σ9 h9 => And.intro (fun c10 => Exists.intro _ (And.intro (tp_wk_rf _) (tp_E_step (Exists.intro _ (And.intro (tp_wk_rf _) (tp_E_step (And.intro rfl (h9.1 c10)))))))) (fun c10 => Exists.intro _ (And.intro (tp_wk_rf _) (tp_E_step (And.intro rfl (h9.2 c10)))))))))) (fun c8 => And.intro rfl (h7.2 c8))))))) (fun c6 => Exists.intro _ (And.intro (tp_wk_rf _) (tp_E_step (And.intro rfl (h3.2 c6))))))) (fun c5 => Exists.intro _ (And.intro (tp_wk_rf _) (tp_E_step (And.intro rfl (h2.2 c5)))))))))
/-- X9_gap (I)I, 0 -/
theorem sg_78_0 {post : Int32 → tp_St → Prop} {σ : tp_St} (a1 : Int32)  (h : tp_E 59 0 [.ref 1, .int a1] [] σ (fun r1 σ1 =>
(r1 = 0 →
post (-1) σ1) ∧ (¬ r1 = 0 →
tp_E 36 0 [.ref 4, .int a1, .null, .null] [] σ1 (fun r2 σ2 =>
tp_E 78 27 [.ref 0, .int a1, .int r2, .int 0, .int 0, .null] [] σ2 post)))) : tp_E 78 0 [.ref 0, .int a1, .null, .null, .null, .null] [] σ post := tp_E_step (tp_Em h (fun r1 σ1 h1 => And.intro (fun c2 => And.intro rfl (h1.1 c2)) (fun c2 => Exists.intro _ (And.intro (tp_wk_rf _) (tp_E_step (tp_Em (h1.2 c2) (fun r3 σ3 h3 => Exists.intro [.ref 0, .int a1, .int r3, .int 0, .int 0, .null] (And.intro (And.intro (Or.inr rfl) (And.intro (Or.inr rfl) (And.intro (Or.inr rfl) (And.intro (Or.inr rfl) (And.intro (Or.inr rfl) (And.intro (Or.inr rfl) (trivial))))))) h3))))))))
/-- X9_gap (I)I, 27 -/
theorem sg_78_27 {post : Int32 → tp_St → Prop} {σ : tp_St} (a1 : Int32) (a2 : Int32) (a3 : Int32) (a4 : Int32)  (h : (206 < a4 →
post (-4) σ) ∧ (¬ 206 < a4 →
(a2 ≤ a3 →
post (-4) σ) ∧ (¬ a2 ≤ a3 →
tp_E 100 0 [.ref 0, .int a1, .int a3] [] σ (fun r1 σ1 =>
(r1 = a3 →
post a3 σ1) ∧ (¬ r1 = a3 →
tp_E 78 27 [.ref 0, .int a1, .int a2, .int r1, .int (a4 + 1), .null] [] σ1 post))))) : tp_E 78 27 [.ref 0, .int a1, .int a2, .int a3, .int a4, .null] [] σ post := tp_E_step (And.intro (fun c2 => Exists.intro _ (And.intro (tp_wk_rf _) (tp_E_step (And.intro rfl (h.1 c2))))) (fun c2 => And.intro (fun c3 => Exists.intro _ (And.intro (tp_wk_rf _) (tp_E_step (And.intro rfl ((h.2 c2).1 c3))))) (fun c3 => tp_Em ((h.2 c2).2 c3) (fun r1 σ1 h1 => And.intro (fun c4 => And.intro rfl (h1.1 c4)) (fun c4 => Exists.intro _ (And.intro (tp_wk_rf _) (tp_E_step (Exists.intro [.ref 0, .int a1, .int a2, .int r1, .int (a4 + 1), .null] (And.intro (And.intro (Or.inr rfl) (And.intro (Or.inr rfl) (And.intro (Or.inr rfl) (And.intro (Or.inr rfl) (And.intro (Or.inr rfl) (And.intro (Or.inl rfl) (trivial))))))) (h1.2 c4))))))))))
/-- X9_feed (J)I, 0 -/
theorem sg_79_0 {post : Int32 → tp_St → Prop} {σ : tp_St} (a1 : Int64)  (h : tp_E 45 0 [.ref 19, .long a1, .null, .null] [] σ (fun r1 σ1 =>
post r1 σ1)) : tp_E 79 0 [.ref 0, .long a1, .null] [] σ post := tp_E_step (tp_Em h (fun r1 σ1 h1 => And.intro rfl h1))
/-- X9_end (I)I, 0 -/
theorem sg_80_0 {post : Int32 → tp_St → Prop} {σ : tp_St} (a1 : Int32)  (h : tp_E 91 0 [.int a1, .int 0, .int (σ.1 19 1)] [] σ (fun r1 σ1 =>
(r1 = 0 →
post (σ.1 19 1) (tp_set σ1 19 1 a1)) ∧ (¬ r1 = 0 →
post (-1) σ1))) : tp_E 80 0 [.ref 0, .int a1, .null] [] σ post := tp_E_step (tp_Em h (fun r1 σ1 h1 => And.intro (fun c2 => Exists.intro _ (And.intro (tp_wk_rf _) (tp_E_step (And.intro rfl (h1.1 c2))))) (fun c2 => And.intro rfl (h1.2 c2))))
/-- X9_laws ()I, 0 -/
theorem sg_81_0 {post : Int32 → tp_St → Prop} {σ : tp_St}   (h : tp_E 0 0 [.ref 6, .null, .null, .null] [] σ (fun r1 σ1 =>
post r1 σ1)) : tp_E 81 0 [.ref 0] [] σ post := tp_E_step (tp_Em h (fun r1 σ1 h1 => And.intro rfl h1))
/-- X9_fault ()I, 0 -/
theorem sg_82_0 {post : Int32 → tp_St → Prop} {σ : tp_St}   (h : post (σ.1 6 2) σ) : tp_E 82 0 [.ref 0] [] σ post := tp_E_step (And.intro rfl h)
/-- X9_fare (II)I, 0 -/
theorem sg_83_0 {post : Int32 → tp_St → Prop} {σ : tp_St} (a1 : Int32) (a2 : Int32)  (h : tp_E 91 0 [.int a1, .int 1, .int 9] [] σ (fun r1 σ1 =>
(r1 = 0 →
tp_E 91 0 [.int a2, .int 0, .int 1439] [] σ1 (fun r2 σ2 =>
(r2 = 0 →
(σ2.2.1 = 24 ∨ σ2.2.1 = 25) ∧ (σ2.2.1 = 24 →
tp_E 11 0 [.ref 24, .int a1, .int (a2 / 60), .null] [] σ2 (fun r3 σ3 =>
post r3 σ3)) ∧ (σ2.2.1 = 25 →
tp_E 11 0 [.ref 25, .int a1, .int (a2 / 60), .null] [] σ2 (fun r4 σ4 =>
post r4 σ4))) ∧ (¬ r2 = 0 →
post (-1) σ2))) ∧ (¬ r1 = 0 →
post (-1) σ1))) : tp_E 83 0 [.ref 0, .int a1, .int a2] [] σ post := tp_E_step (tp_Em h (fun r1 σ1 h1 => And.intro (fun c3 => tp_Em (h1.1 c3) (fun r2 σ2 h2 => And.intro (fun c4 => Exists.intro _ (And.intro (tp_wk_rf _) (tp_E_step (And.intro (h2.1 c4).1 (And.intro (fun c7 => And.intro (by decide) (tp_Em ((h2.1 c4).2.1 c7) (fun r5 σ5 h5 => And.intro rfl h5))) (fun c7 => And.intro (by decide) (tp_Em ((h2.1 c4).2.2 c7) (fun r6 σ6 h6 => And.intro rfl h6)))))))) (fun c4 => Exists.intro _ (And.intro (tp_wk_rf _) (tp_E_step (And.intro rfl (h2.2 c4))))))) (fun c3 => Exists.intro _ (And.intro (tp_wk_rf _) (tp_E_step (And.intro rfl (h1.2 c3)))))))
/-- X9_change (II)I, 0 -/
theorem sg_84_0 {post : Int32 → tp_St → Prop} {σ : tp_St} (a1 : Int32) (a2 : Int32)  (h : tp_E 91 0 [.int a1, .int 0, .int 1439] [] σ (fun r1 σ1 =>
(r1 = 0 →
tp_E 91 0 [.int a2, .int a1, .int 1439] [] σ1 (fun r2 σ2 =>
(r2 = 0 →
(σ2.2.1 = 24 ∨ σ2.2.1 = 25) ∧ (σ2.2.1 = 24 →
tp_E 13 0 [.ref 24, .int (a2 - a1)] [] σ2 (fun r3 σ3 =>
(r3 = 0 →
post 0 σ3) ∧ (¬ r3 = 0 →
post 1 σ3))) ∧ (σ2.2.1 = 25 →
tp_E 13 0 [.ref 25, .int (a2 - a1)] [] σ2 (fun r4 σ4 =>
(r4 = 0 →
post 0 σ4) ∧ (¬ r4 = 0 →
post 1 σ4)))) ∧ (¬ r2 = 0 →
post (-1) σ2))) ∧ (¬ r1 = 0 →
post (-1) σ1))) : tp_E 84 0 [.ref 0, .int a1, .int a2] [] σ post := tp_E_step (tp_Em h (fun r1 σ1 h1 => And.intro (fun c3 => tp_Em (h1.1 c3) (fun r2 σ2 h2 => And.intro (fun c4 => Exists.intro _ (And.intro (tp_wk_rf _) (tp_E_step (And.intro (h2.1 c4).1 (And.intro (fun c7 => tp_Em ((h2.1 c4).2.1 c7) (fun r5 σ5 h5 => And.intro (fun c8 => Exists.intro _ (And.intro (tp_wk_rf _) (tp_E_step (Exists.intro _ (And.intro (tp_wk_rf _) (tp_E_step (And.intro rfl (h5.1 c8)))))))) (fun c8 => Exists.intro _ (And.intro (tp_wk_rf _) (tp_E_step (And.intro rfl (h5.2 c8))))))) (fun c7 => tp_Em ((h2.1 c4).2.2 c7) (fun r6 σ6 h6 => And.intro (fun c9 => Exists.intro _ (And.intro (tp_wk_rf _) (tp_E_step (Exists.intro _ (And.intro (tp_wk_rf _) (tp_E_step (And.intro rfl (h6.1 c9)))))))) (fun c9 => Exists.intro _ (And.intro (tp_wk_rf _) (tp_E_step (And.intro rfl (h6.2 c9)))))))))))) (fun c4 => Exists.intro _ (And.intro (tp_wk_rf _) (tp_E_step (And.intro rfl (h2.2 c4))))))) (fun c3 => Exists.intro _ (And.intro (tp_wk_rf _) (tp_E_step (And.intro rfl (h1.2 c3)))))))
/-- X9_duty (II)I, 0 -/
theorem sg_85_0 {post : Int32 → tp_St → Prop} {σ : tp_St} (a1 : Int32) (a2 : Int32)  (h : tp_E 91 0 [.int a1, .int 0, .int 1440] [] σ (fun r1 σ1 =>
(r1 = 0 →
tp_E 91 0 [.int a2, .int (a1 + 1), .int 1440] [] σ1 (fun r2 σ2 =>
(r2 = 0 →
tp_E 19 0 [.ref 7, .int a1, .int a2, .null] [] σ2 (fun r3 σ3 =>
post r3 σ3)) ∧ (¬ r2 = 0 →
post (-1) σ2))) ∧ (¬ r1 = 0 →
post (-1) σ1))) : tp_E 85 0 [.ref 0, .int a1, .int a2] [] σ post := tp_E_step (tp_Em h (fun r1 σ1 h1 => And.intro (fun c3 => tp_Em (h1.1 c3) (fun r2 σ2 h2 => And.intro (fun c4 => Exists.intro _ (And.intro (tp_wk_rf _) (tp_E_step (tp_Em (h2.1 c4) (fun r5 σ5 h5 => And.intro rfl h5))))) (fun c4 => Exists.intro _ (And.intro (tp_wk_rf _) (tp_E_step (And.intro rfl (h2.2 c4))))))) (fun c3 => Exists.intro _ (And.intro (tp_wk_rf _) (tp_E_step (And.intro rfl (h1.2 c3)))))))
/-- X9_rest (I)I, 0 -/
theorem sg_86_0 {post : Int32 → tp_St → Prop} {σ : tp_St} (a1 : Int32)  (h : tp_E 91 0 [.int a1, .int 0, .int 600] [] σ (fun r1 σ1 =>
(r1 = 0 →
tp_E 20 0 [.ref 7, .int a1, .null] [] σ1 (fun r2 σ2 =>
post r2 σ2)) ∧ (¬ r1 = 0 →
post (-1) σ1))) : tp_E 86 0 [.ref 0, .int a1] [] σ post := tp_E_step (tp_Em h (fun r1 σ1 h1 => And.intro (fun c2 => Exists.intro _ (And.intro (tp_wk_rf _) (tp_E_step (tp_Em (h1.1 c2) (fun r3 σ3 h3 => Exists.intro _ (And.intro (tp_wk_rf _) (tp_E_step (And.intro rfl h3)))))))) (fun c2 => Exists.intro _ (And.intro (tp_wk_rf _) (tp_E_step (And.intro rfl (h1.2 c2)))))))
/-- X9_crew (I)I, 0 -/
theorem sg_87_0 {post : Int32 → tp_St → Prop} {σ : tp_St} (a1 : Int32)  (h : tp_E 91 0 [.int a1, .int 0, .int ((σ.1 7 4) - 1)] [] σ (fun r1 σ1 =>
(r1 = 0 →
vp_in a1 10 ∧
post (σ1.1 31 (a1).toNatClampNeg) σ1) ∧ (¬ r1 = 0 →
post (-1) σ1))) : tp_E 87 0 [.ref 0, .int a1] [] σ post := tp_E_step (tp_Em h (fun r1 σ1 h1 => And.intro (fun c2 => Exists.intro _ (And.intro (tp_wk_rf _) (tp_E_step (And.intro (h1.1 c2).1 (Exists.intro _ (And.intro (tp_wk_rf _) (tp_E_step (And.intro rfl (h1.1 c2).2)))))))) (fun c2 => Exists.intro _ (And.intro (tp_wk_rf _) (tp_E_step (And.intro rfl (h1.2 c2)))))))
/-- X9_crews (I)I, 0 -/
theorem sg_88_0 {post : Int32 → tp_St → Prop} {σ : tp_St} (a1 : Int32)  (h : tp_E 91 0 [.int a1, .int 0, .int 2] [] σ (fun r1 σ1 =>
(r1 = 0 →
(a1 = 0 →
post (σ1.1 7 5) σ1) ∧ (¬ a1 = 0 →
tp_E 25 0 [.ref 7, .null, .null, .null, .null] [] σ1 (fun r2 σ2 =>
(a1 = 1 →
(0 ≤ r2 →
tp_E 24 0 [.ref 7, .int r2, .null, .null] [] σ2 (fun r3 σ3 =>
post r3 σ3)) ∧ (¬ 0 ≤ r2 →
post 0 σ2)) ∧ (¬ a1 = 1 →
(0 ≤ r2 →
post r2 σ2) ∧ (¬ 0 ≤ r2 →
post (-4) σ2))))) ∧ (¬ r1 = 0 →
post (-1) σ1))) : tp_E 88 0 [.ref 0, .int a1, .null] [] σ post := tp_E_step (tp_Em h (fun r1 σ1 h1 => And.intro (fun c2 => Exists.intro _ (And.intro (tp_wk_rf _) (tp_E_step (And.intro (fun c3 => And.intro rfl ((h1.1 c2).1 c3)) (fun c3 => Exists.intro _ (And.intro (tp_wk_rf _) (tp_E_step (tp_Em ((h1.1 c2).2 c3) (fun r4 σ4 h4 => And.intro (fun c5 => And.intro (fun c6 => Exists.intro _ (And.intro (tp_wk_rf _) (tp_E_step (tp_Em ((h4.1 c5).1 c6) (fun r7 σ7 h7 => Exists.intro _ (And.intro (tp_wk_rf _) (tp_E_step (And.intro rfl h7)))))))) (fun c6 => Exists.intro _ (And.intro (tp_wk_rf _) (tp_E_step (And.intro rfl ((h4.1 c5).2 c6)))))) (fun c5 => Exists.intro _ (And.intro (tp_wk_rf _) (tp_E_step (And.intro (fun c8 => Exists.intro _ (And.intro (tp_wk_rf _) (tp_E_step (Exists.intro _ (And.intro (tp_wk_rf _) (tp_E_step (And.intro rfl ((h4.2 c5).1 c8)))))))) (fun c8 => Exists.intro _ (And.intro (tp_wk_rf _) (tp_E_step (And.intro rfl ((h4.2 c5).2 c8)))))))))))))))))) (fun c2 => And.intro rfl (h1.2 c2))))
/-- X9_ill (I)I, 0 -/
theorem sg_89_0 {post : Int32 → tp_St → Prop} {σ : tp_St} (a1 : Int32)  (h : tp_E 91 0 [.int a1, .int 0, .int ((σ.1 7 5) - 1)] [] σ (fun r1 σ1 =>
(r1 = 0 →
tp_E 26 0 [.ref 7, .int a1, .null, .null] [] σ1 (fun r2 σ2 =>
post r2 σ2)) ∧ (¬ r1 = 0 →
post (-1) σ1))) : tp_E 89 0 [.ref 0, .int a1] [] σ post := tp_E_step (tp_Em h (fun r1 σ1 h1 => And.intro (fun c2 => Exists.intro _ (And.intro (tp_wk_rf _) (tp_E_step (tp_Em (h1.1 c2) (fun r3 σ3 h3 => Exists.intro _ (And.intro (tp_wk_rf _) (tp_E_step (And.intro rfl h3)))))))) (fun c2 => Exists.intro _ (And.intro (tp_wk_rf _) (tp_E_step (And.intro rfl (h1.2 c2)))))))
/-- X9_count (I)I, 0 -/
theorem sg_90_0 {post : Int32 → tp_St → Prop} {σ : tp_St} (a1 : Int32)  (h : ((a1.toInt < 0 ∨ 7 < a1.toInt) →
post (-1) σ) ∧ (a1.toInt = 0 →
post (σ.1 1 2) σ) ∧ (a1.toInt = 1 →
post (σ.1 3 3) σ) ∧ (a1.toInt = 2 →
post (σ.1 4 4) σ) ∧ (a1.toInt = 3 →
tp_E 56 0 [.ref 3, .null, .null] [] σ (fun r1 σ1 =>
post r1 σ1)) ∧ (a1.toInt = 4 →
post (σ.1 7 4) σ) ∧ (a1.toInt = 5 →
(σ.2.1 = 24 ∨ σ.2.1 = 25) ∧ (σ.2.1 = 24 →
tp_E 7 0 [.ref 24] [] σ (fun r2 σ2 =>
post r2 σ2)) ∧ (σ.2.1 = 25 →
tp_E 7 0 [.ref 25] [] σ (fun r3 σ3 =>
post r3 σ3))) ∧ (a1.toInt = 6 →
tp_E 41 0 [.ref 20] [] σ (fun r4 σ4 =>
(r4 = 0 →
post (σ4.1 20 2) σ4) ∧ (¬ r4 = 0 →
post (-4) σ4))) ∧ (a1.toInt = 7 →
post (σ.1 19 1) σ)) : tp_E 90 0 [.ref 0, .int a1] [] σ post := tp_E_step (And.intro (fun c1 => Exists.intro _ (And.intro (tp_wk_rf _) (tp_E_step (And.intro rfl (h.1 c1))))) (And.intro (fun c1 => Exists.intro _ (And.intro (tp_wk_rf _) (tp_E_step (And.intro rfl (h.2.1 c1))))) (And.intro (fun c1 => Exists.intro _ (And.intro (tp_wk_rf _) (tp_E_step (And.intro rfl (h.2.2.1 c1))))) (And.intro (fun c1 => Exists.intro _ (And.intro (tp_wk_rf _) (tp_E_step (And.intro rfl (h.2.2.2.1 c1))))) (And.intro (fun c1 => Exists.intro _ (And.intro (tp_wk_rf _) (tp_E_step (tp_Em (h.2.2.2.2.1 c1) (fun r10 σ10 h10 => And.intro rfl h10))))) (And.intro (fun c1 => Exists.intro _ (And.intro (tp_wk_rf _) (tp_E_step (And.intro rfl (h.2.2.2.2.2.1 c1))))) (And.intro (fun c1 => Exists.intro _ (And.intro (tp_wk_rf _) (tp_E_step (And.intro (h.2.2.2.2.2.2.1 c1).1 (And.intro (fun c9 => tp_Em ((h.2.2.2.2.2.2.1 c1).2.1 c9) (fun r7 σ7 h7 => And.intro rfl h7)) (fun c9 => tp_Em ((h.2.2.2.2.2.2.1 c1).2.2 c9) (fun r8 σ8 h8 => And.intro rfl h8))))))) (And.intro (fun c1 => Exists.intro _ (And.intro (tp_wk_rf _) (tp_E_step (And.intro (show ¬ ((0 : Int32) < 0 ∨ 4 ≤ (0 : Int32).toNatClampNeg) from by decide) (And.intro (fun _ => tp_Em (h.2.2.2.2.2.2.2.1 c1) (fun r2 σ2 h2 => And.intro (fun c6 => Exists.intro _ (And.intro (tp_wk_rf _) (tp_E_step (And.intro (show ¬ ((0 : Int32) < 0 ∨ 4 ≤ (0 : Int32).toNatClampNeg) from by decide) (And.intro (fun _ => Exists.intro _ (And.intro (tp_wk_rf _) (tp_E_step (And.intro rfl (h2.1 c6))))) (And.intro (fun hc => absurd hc (show ¬ (0 : Int32) = 1 from by decide)) (And.intro (fun hc => absurd hc (show ¬ (0 : Int32) = 2 from by decide)) (fun hc => absurd hc (show ¬ (0 : Int32) = 3 from by decide))))))))) (fun c6 => Exists.intro _ (And.intro (tp_wk_rf _) (tp_E_step (And.intro rfl (h2.2 c6))))))) (And.intro (fun hc => absurd hc (show ¬ (0 : Int32) = 1 from by decide)) (And.intro (fun hc => absurd hc (show ¬ (0 : Int32) = 2 from by decide)) (fun hc => absurd hc (show ¬ (0 : Int32) = 3 from by decide))))))))) (And.intro (fun c1 => Exists.intro _ (And.intro (tp_wk_rf _) (tp_E_step (And.intro rfl (h.2.2.2.2.2.2.2.2 c1))))) (trivial))))))))))
/-- X9_isOutside (III)Z, 0 -/
theorem sg_91_0 {post : Int32 → tp_St → Prop} {σ : tp_St} (a0 : Int32) (a1 : Int32) (a2 : Int32)  (h : (a0 < a1 →
post 1 σ) ∧ (¬ a0 < a1 →
(a0 ≤ a2 →
post 0 σ) ∧ (¬ a0 ≤ a2 →
post 1 σ))) : tp_E 91 0 [.int a0, .int a1, .int a2] [] σ post := tp_E_step (And.intro (fun c1 => Exists.intro _ (And.intro (tp_wk_rf _) (tp_E_step (Exists.intro _ (And.intro (tp_wk_rf _) (tp_E_step (And.intro rfl (h.1 c1)))))))) (fun c1 => And.intro (fun c2 => Exists.intro _ (And.intro (tp_wk_rf _) (tp_E_step (Exists.intro _ (And.intro (tp_wk_rf _) (tp_E_step (And.intro rfl ((h.2 c1).1 c2)))))))) (fun c2 => Exists.intro _ (And.intro (tp_wk_rf _) (tp_E_step (Exists.intro _ (And.intro (tp_wk_rf _) (tp_E_step (And.intro rfl ((h.2 c1).2 c2))))))))))
/-- X9_hasPack (II)Z, 0 -/
theorem sg_92_0 {post : Int32 → tp_St → Prop} {σ : tp_St} (a1 : Int32) (a2 : Int32)  (h : tp_E 91 0 [.int a1, .int 0, .int 5] [] σ (fun r1 σ1 =>
(r1 = 0 →
tp_E 59 0 [.ref 1, .int a2] [] σ1 (fun r2 σ2 =>
(r2 = 0 →
post 0 σ2) ∧ (¬ r2 = 0 →
post 1 σ2))) ∧ (¬ r1 = 0 →
post 0 σ1))) : tp_E 92 0 [.ref 0, .int a1, .int a2] [] σ post := tp_E_step (tp_Em h (fun r1 σ1 h1 => And.intro (fun c3 => tp_Em (h1.1 c3) (fun r2 σ2 h2 => And.intro (fun c4 => Exists.intro _ (And.intro (tp_wk_rf _) (tp_E_step (Exists.intro _ (And.intro (tp_wk_rf _) (tp_E_step (And.intro rfl (h2.1 c4)))))))) (fun c4 => Exists.intro _ (And.intro (tp_wk_rf _) (tp_E_step (And.intro rfl (h2.2 c4))))))) (fun c3 => Exists.intro _ (And.intro (tp_wk_rf _) (tp_E_step (Exists.intro _ (And.intro (tp_wk_rf _) (tp_E_step (And.intro rfl (h1.2 c3))))))))))
/-- X9_takings (I)I, 0 -/
theorem sg_93_0 {post : Int32 → tp_St → Prop} {σ : tp_St} (a1 : Int32)  (h : tp_E 93 4 [.ref 0, .int a1, .int 0, .int 0] [] σ post) : tp_E 93 0 [.ref 0, .int a1, .null, .null] [] σ post := tp_E_step (Exists.intro [.ref 0, .int a1, .int 0, .int 0] (And.intro (And.intro (Or.inr rfl) (And.intro (Or.inr rfl) (And.intro (Or.inr rfl) (And.intro (Or.inr rfl) (trivial))))) h))
/-- X9_takings (I)I, 4 -/
theorem sg_93_4 {post : Int32 → tp_St → Prop} {σ : tp_St} (a1 : Int32) (a2 : Int32) (a3 : Int32)  (h : ((σ.1 4 4) ≤ a3 →
post a2 σ) ∧ (¬ (σ.1 4 4) ≤ a3 →
vp_in a3 200 ∧
((σ.1 15 (a3).toNatClampNeg) = a1 →
vp_in a3 200 ∧
vp_in (σ.1 16 (a3).toNatClampNeg) 5 ∧
tp_E 93 4 [.ref 0, .int a1, .int (a2 + (σ.1 8 ((σ.1 16 (a3).toNatClampNeg)).toNatClampNeg)), .int (a3 + 1)] [] σ post) ∧ (¬ (σ.1 15 (a3).toNatClampNeg) = a1 →
tp_E 93 4 [.ref 0, .int a1, .int a2, .int (a3 + 1)] [] σ post))) : tp_E 93 4 [.ref 0, .int a1, .int a2, .int a3] [] σ post := tp_E_step (And.intro (fun c1 => Exists.intro _ (And.intro (tp_wk_rf _) (tp_E_step (And.intro rfl (h.1 c1))))) (fun c1 => And.intro (h.2 c1).1 (And.intro (fun c2 => And.intro ((h.2 c1).2.1 c2).1 (And.intro ((h.2 c1).2.1 c2).2.1 (Exists.intro _ (And.intro (tp_wk_rf _) (tp_E_step (Exists.intro [.ref 0, .int a1, .int (a2 + (σ.1 8 ((σ.1 16 (a3).toNatClampNeg)).toNatClampNeg)), .int (a3 + 1)] (And.intro (And.intro (Or.inr rfl) (And.intro (Or.inr rfl) (And.intro (Or.inr rfl) (And.intro (Or.inr rfl) (trivial))))) ((h.2 c1).2.1 c2).2.2))))))) (fun c2 => Exists.intro _ (And.intro (tp_wk_rf _) (tp_E_step (Exists.intro [.ref 0, .int a1, .int a2, .int (a3 + 1)] (And.intro (And.intro (Or.inr rfl) (And.intro (Or.inr rfl) (And.intro (Or.inr rfl) (And.intro (Or.inr rfl) (trivial))))) ((h.2 c1).2.2 c2)))))))))
/-- X9_howManyAboard (III)I, 0 -/
theorem sg_94_0 {post : Int32 → tp_St → Prop} {σ : tp_St} (a1 : Int32) (a2 : Int32) (a3 : Int32)  (h : tp_E 94 6 [.ref 0, .int a1, .int a2, .int a3, .int 0, .int 0] [] σ post) : tp_E 94 0 [.ref 0, .int a1, .int a2, .int a3, .null, .null] [] σ post := tp_E_step (Exists.intro [.ref 0, .int a1, .int a2, .int a3, .int 0, .int 0] (And.intro (And.intro (Or.inr rfl) (And.intro (Or.inr rfl) (And.intro (Or.inr rfl) (And.intro (Or.inr rfl) (And.intro (Or.inr rfl) (And.intro (Or.inr rfl) (trivial))))))) h))
/-- X9_howManyAboard (III)I, 6 -/
theorem sg_94_6 {post : Int32 → tp_St → Prop} {σ : tp_St} (a1 : Int32) (a2 : Int32) (a3 : Int32) (a4 : Int32) (a5 : Int32)  (h : ((σ.1 4 4) ≤ a5 →
post a4 σ) ∧ (¬ (σ.1 4 4) ≤ a5 →
vp_in a5 200 ∧
((σ.1 15 (a5).toNatClampNeg) = a1 →
tp_E 95 0 [.ref 0, .int a5, .int a2, .int a3, .null] [] σ (fun r1 σ1 =>
(r1 = 0 →
tp_E 94 6 [.ref 0, .int a1, .int a2, .int a3, .int a4, .int (a5 + 1)] [] σ1 post) ∧ (¬ r1 = 0 →
tp_E 94 6 [.ref 0, .int a1, .int a2, .int a3, .int (a4 + 1), .int (a5 + 1)] [] σ1 post))) ∧ (¬ (σ.1 15 (a5).toNatClampNeg) = a1 →
tp_E 94 6 [.ref 0, .int a1, .int a2, .int a3, .int a4, .int (a5 + 1)] [] σ post))) : tp_E 94 6 [.ref 0, .int a1, .int a2, .int a3, .int a4, .int a5] [] σ post := tp_E_step (And.intro (fun c2 => Exists.intro _ (And.intro (tp_wk_rf _) (tp_E_step (And.intro rfl (h.1 c2))))) (fun c2 => And.intro (h.2 c2).1 (And.intro (fun c3 => tp_Em ((h.2 c2).2.1 c3) (fun r1 σ1 h1 => And.intro (fun c4 => Exists.intro _ (And.intro (tp_wk_rf _) (tp_E_step (Exists.intro [.ref 0, .int a1, .int a2, .int a3, .int a4, .int (a5 + 1)] (And.intro (And.intro (Or.inr rfl) (And.intro (Or.inr rfl) (And.intro (Or.inr rfl) (And.intro (Or.inr rfl) (And.intro (Or.inr rfl) (And.intro (Or.inr rfl) (trivial))))))) (h1.1 c4)))))) (fun c4 => Exists.intro _ (And.intro (tp_wk_rf _) (tp_E_step (Exists.intro [.ref 0, .int a1, .int a2, .int a3, .int (a4 + 1), .int (a5 + 1)] (And.intro (And.intro (Or.inr rfl) (And.intro (Or.inr rfl) (And.intro (Or.inr rfl) (And.intro (Or.inr rfl) (And.intro (Or.inr rfl) (And.intro (Or.inr rfl) (trivial))))))) (h1.2 c4)))))))) (fun c3 => Exists.intro _ (And.intro (tp_wk_rf _) (tp_E_step (Exists.intro [.ref 0, .int a1, .int a2, .int a3, .int a4, .int (a5 + 1)] (And.intro (And.intro (Or.inr rfl) (And.intro (Or.inr rfl) (And.intro (Or.inr rfl) (And.intro (Or.inr rfl) (And.intro (Or.inr rfl) (And.intro (Or.inr rfl) (trivial))))))) ((h.2 c2).2.2 c3)))))))))
/-- X9_isAboard (III)Z, 0 -/
theorem sg_95_0 {post : Int32 → tp_St → Prop} {σ : tp_St} (a1 : Int32) (a2 : Int32) (a3 : Int32)  (h : vp_in a1 200 ∧
tp_E 58 0 [.ref 3, .int (σ.1 15 (a1).toNatClampNeg), .int a2] [] σ (fun r1 σ1 =>
(a3 = 0 →
vp_in a1 200 ∧
((σ1.1 17 (a1).toNatClampNeg) = r1 →
post 1 σ1) ∧ (¬ (σ1.1 17 (a1).toNatClampNeg) = r1 →
post 0 σ1)) ∧ (¬ a3 = 0 →
tp_E 96 0 [.ref 0, .int a1, .int r1, .null] [] σ1 (fun r2 σ2 =>
narrow .boolean (.int r2) = .int r2 ∧ post r2 σ2)))) : tp_E 95 0 [.ref 0, .int a1, .int a2, .int a3, .null] [] σ post := tp_E_step (And.intro h.1 (tp_Em h.2 (fun r1 σ1 h1 => And.intro (fun c2 => And.intro (h1.1 c2).1 (And.intro (fun c3 => Exists.intro _ (And.intro (tp_wk_rf _) (tp_E_step (And.intro rfl ((h1.1 c2).2.1 c3))))) (fun c3 => Exists.intro _ (And.intro (tp_wk_rf _) (tp_E_step (Exists.intro _ (And.intro (tp_wk_rf _) (tp_E_step (And.intro rfl ((h1.1 c2).2.2 c3)))))))))) (fun c2 => Exists.intro _ (And.intro (tp_wk_rf _) (tp_E_step (tp_Em (h1.2 c2) (fun r4 σ4 h4 => Exists.intro _ (And.intro (tp_wk_rf _) (tp_E_step (h4)))))))))))
/-- X9_isGoodAt (II)Z, 0 -/
theorem sg_96_0 {post : Int32 → tp_St → Prop} {σ : tp_St} (a1 : Int32) (a2 : Int32)  (h : vp_in a1 200 ∧
(a2 < (σ.1 17 (a1).toNatClampNeg) →
post 0 σ) ∧ (¬ a2 < (σ.1 17 (a1).toNatClampNeg) →
vp_in a1 200 ∧
vp_in (σ.1 16 (a1).toNatClampNeg) 5 ∧
(((σ.1 17 (a1).toNatClampNeg) + (σ.1 9 ((σ.1 16 (a1).toNatClampNeg)).toNatClampNeg)) ≤ a2 →
post 0 σ) ∧ (¬ ((σ.1 17 (a1).toNatClampNeg) + (σ.1 9 ((σ.1 16 (a1).toNatClampNeg)).toNatClampNeg)) ≤ a2 →
post 1 σ))) : tp_E 96 0 [.ref 0, .int a1, .int a2, .null] [] σ post := tp_E_step (And.intro h.1 (And.intro (fun c1 => Exists.intro _ (And.intro (tp_wk_rf _) (tp_E_step (Exists.intro _ (And.intro (tp_wk_rf _) (tp_E_step (And.intro rfl (h.2.1 c1)))))))) (fun c1 => And.intro (h.2.2 c1).1 (And.intro (h.2.2 c1).2.1 (And.intro (fun c2 => Exists.intro _ (And.intro (tp_wk_rf _) (tp_E_step (Exists.intro _ (And.intro (tp_wk_rf _) (tp_E_step (And.intro rfl ((h.2.2 c1).2.2.1 c2)))))))) (fun c2 => Exists.intro _ (And.intro (tp_wk_rf _) (tp_E_step (And.intro rfl ((h.2.2 c1).2.2.2 c2))))))))))
/-- X9_sellFromSheet (ILTramPence$Sheet;I)I, 0 -/
theorem sg_97_0 {post : Int32 → tp_St → Prop} {σ : tp_St} (a1 : Int32) (q2 : Nat) (a3 : Int32) (hq2 : q2 = 20 ∨ q2 = 21 ∨ q2 = 22 ∨ q2 = 23) (h : tp_E 42 0 [.ref q2, .int a3] [] σ (fun r1 σ1 =>
(r1 = 0 →
post (-12) σ1) ∧ (¬ r1 = 0 →
tp_E 42 0 [.ref q2, .int (a3 + 1)] [] σ1 (fun r2 σ2 =>
(r2 = 0 →
post (-12) σ2) ∧ (¬ r2 = 0 →
vp_in a3 64 ∧
vp_in (a3 + 1) 64 ∧
tp_E 66 0 [.ref 0, .int a1, .int (σ2.1 (tp_rr σ2 q2 0) (a3).toNatClampNeg), .int (σ2.1 (tp_rr σ2 q2 0) ((a3 + 1)).toNatClampNeg), .null, .null, .null] [] σ2 (fun r3 σ3 =>
(0 ≤ r3 →
post r3 σ3) ∧ (¬ 0 ≤ r3 →
post ((-20) + r3) σ3))))))) : tp_E 97 0 [.ref 0, .int a1, .ref q2, .int a3, .null] [] σ post := by
  rcases hq2 with rfl | rfl | rfl | rfl
  · exact tp_E_step (tp_Em h (fun r1 σ1 h1 => And.intro (fun c3 => Exists.intro _ (And.intro (tp_wk_rf _) (tp_E_step (And.intro rfl (h1.1 c3))))) (fun c3 => tp_Em (h1.2 c3) (fun r2 σ2 h2 => And.intro (fun c4 => Exists.intro _ (And.intro (tp_wk_rf _) (tp_E_step (And.intro rfl (h2.1 c4))))) (fun c4 => Exists.intro _ (And.intro (tp_wk_rf _) (tp_E_step (And.intro (h2.2 c4).1 (And.intro (h2.2 c4).2.1 (tp_Em (h2.2 c4).2.2 (fun r5 σ5 h5 => And.intro (fun c6 => Exists.intro _ (And.intro (tp_wk_rf _) (tp_E_step (Exists.intro _ (And.intro (tp_wk_rf _) (tp_E_step (And.intro rfl (h5.1 c6)))))))) (fun c6 => Exists.intro _ (And.intro (tp_wk_rf _) (tp_E_step (And.intro rfl (h5.2 c6))))))))))))))))
  · exact tp_E_step (tp_Em h (fun r1 σ1 h1 => And.intro (fun c3 => Exists.intro _ (And.intro (tp_wk_rf _) (tp_E_step (And.intro rfl (h1.1 c3))))) (fun c3 => tp_Em (h1.2 c3) (fun r2 σ2 h2 => And.intro (fun c4 => Exists.intro _ (And.intro (tp_wk_rf _) (tp_E_step (And.intro rfl (h2.1 c4))))) (fun c4 => Exists.intro _ (And.intro (tp_wk_rf _) (tp_E_step (And.intro (h2.2 c4).1 (And.intro (h2.2 c4).2.1 (tp_Em (h2.2 c4).2.2 (fun r5 σ5 h5 => And.intro (fun c6 => Exists.intro _ (And.intro (tp_wk_rf _) (tp_E_step (Exists.intro _ (And.intro (tp_wk_rf _) (tp_E_step (And.intro rfl (h5.1 c6)))))))) (fun c6 => Exists.intro _ (And.intro (tp_wk_rf _) (tp_E_step (And.intro rfl (h5.2 c6))))))))))))))))
  · exact tp_E_step (tp_Em h (fun r1 σ1 h1 => And.intro (fun c3 => Exists.intro _ (And.intro (tp_wk_rf _) (tp_E_step (And.intro rfl (h1.1 c3))))) (fun c3 => tp_Em (h1.2 c3) (fun r2 σ2 h2 => And.intro (fun c4 => Exists.intro _ (And.intro (tp_wk_rf _) (tp_E_step (And.intro rfl (h2.1 c4))))) (fun c4 => Exists.intro _ (And.intro (tp_wk_rf _) (tp_E_step (And.intro (h2.2 c4).1 (And.intro (h2.2 c4).2.1 (tp_Em (h2.2 c4).2.2 (fun r5 σ5 h5 => And.intro (fun c6 => Exists.intro _ (And.intro (tp_wk_rf _) (tp_E_step (Exists.intro _ (And.intro (tp_wk_rf _) (tp_E_step (And.intro rfl (h5.1 c6)))))))) (fun c6 => Exists.intro _ (And.intro (tp_wk_rf _) (tp_E_step (And.intro rfl (h5.2 c6))))))))))))))))
  · exact tp_E_step (tp_Em h (fun r1 σ1 h1 => And.intro (fun c3 => Exists.intro _ (And.intro (tp_wk_rf _) (tp_E_step (And.intro rfl (h1.1 c3))))) (fun c3 => tp_Em (h1.2 c3) (fun r2 σ2 h2 => And.intro (fun c4 => Exists.intro _ (And.intro (tp_wk_rf _) (tp_E_step (And.intro rfl (h2.1 c4))))) (fun c4 => Exists.intro _ (And.intro (tp_wk_rf _) (tp_E_step (And.intro (h2.2 c4).1 (And.intro (h2.2 c4).2.1 (tp_Em (h2.2 c4).2.2 (fun r5 σ5 h5 => And.intro (fun c6 => Exists.intro _ (And.intro (tp_wk_rf _) (tp_E_step (Exists.intro _ (And.intro (tp_wk_rf _) (tp_E_step (And.intro rfl (h5.1 c6)))))))) (fun c6 => Exists.intro _ (And.intro (tp_wk_rf _) (tp_E_step (And.intro rfl (h5.2 c6))))))))))))))))
/-- X9_takeBack (I)V, 0 -/
theorem sg_98_0 {post : Int32 → tp_St → Prop} {σ : tp_St} (a1 : Int32)  (h : tp_E 98 2 [.ref 0, .int a1, .int 0] [] σ post) : tp_E 98 0 [.ref 0, .int a1, .null] [] σ post := tp_E_step (Exists.intro [.ref 0, .int a1, .int 0] (And.intro (And.intro (Or.inr rfl) (And.intro (Or.inr rfl) (And.intro (Or.inr rfl) (trivial)))) h))
/-- X9_takeBack (I)V, 2 -/
theorem sg_98_2 {post : Int32 → tp_St → Prop} {σ : tp_St} (a1 : Int32) (a2 : Int32)  (h : (a1 ≤ a2 →
post 0 σ) ∧ (¬ a1 ≤ a2 →
((σ.1 4 4) ≤ 0 →
post 0 σ) ∧ (¬ (σ.1 4 4) ≤ 0 →
tp_E 99 0 [.ref 0, .null, .null] [] σ (fun r1 σ1 =>
tp_E 98 2 [.ref 0, .int a1, .int (a2 + 1)] [] σ1 post)))) : tp_E 98 2 [.ref 0, .int a1, .int a2] [] σ post := tp_E_step (And.intro (fun c2 => Exists.intro _ (And.intro (tp_wk_rf _) (tp_E_step ((h.1 c2))))) (fun c2 => And.intro (fun c3 => Exists.intro _ (And.intro (tp_wk_rf _) (tp_E_step (((h.2 c2).1 c3))))) (fun c3 => tp_Em ((h.2 c2).2 c3) (fun r1 σ1 h1 => Exists.intro [.ref 0, .int a1, .int (a2 + 1)] (And.intro (And.intro (Or.inr rfl) (And.intro (Or.inr rfl) (And.intro (Or.inr rfl) (trivial)))) h1)))))
/-- X9_takeBackLatest ()V, 0 -/
theorem sg_99_0 {post : Int32 → tp_St → Prop} {σ : tp_St}   (h : vp_in ((σ.1 4 4) - 1) 200 ∧
vp_in (σ.1 15 (((σ.1 4 4) - 1)).toNatClampNeg) 16 ∧
vp_in (σ.1 12 ((σ.1 15 (((σ.1 4 4) - 1)).toNatClampNeg)).toNatClampNeg) 6 ∧
vp_in ((σ.1 4 4) - 1) 200 ∧
vp_in ((σ.1 4 4) - 1) 200 ∧
vp_in (σ.1 16 (((σ.1 4 4) - 1)).toNatClampNeg) 5 ∧
post 0 (tp_set (tp_set σ (46 + ((σ.1 12 ((σ.1 15 (((σ.1 4 4) - 1)).toNatClampNeg)).toNatClampNeg)).toNatClampNeg) ((σ.1 16 (((σ.1 4 4) - 1)).toNatClampNeg)).toNatClampNeg (σ.1 18 (((σ.1 4 4) - 1)).toNatClampNeg)) 4 4 ((σ.1 4 4) - 1))) : tp_E 99 0 [.ref 0, .null, .null] [] σ post := tp_E_step (And.intro h.1 (And.intro h.2.1 (And.intro h.2.2.1 (And.intro h.2.2.2.1 (And.intro h.2.2.2.2.1 (tp_rs (tp_rk46 h.2.2.1) (And.intro h.2.2.2.2.2.1 (h.2.2.2.2.2.2))))))))
/-- X9_beyondHeld (II)I, 0 -/
theorem sg_100_0 {post : Int32 → tp_St → Prop} {σ : tp_St} (a1 : Int32) (a2 : Int32)  (h : tp_E 35 0 [.ref 4, .int a1, .int a2, .null, .null] [] σ (fun r1 σ1 =>
tp_E 18 0 [.ref 2, .int a1, .int r1, .null, .null] [] σ1 (fun r2 σ2 =>
post r2 σ2))) : tp_E 100 0 [.ref 0, .int a1, .int a2] [] σ post := tp_E_step (tp_Em h (fun r1 σ1 h1 => tp_Em h1 (fun r2 σ2 h2 => And.intro rfl h2)))
/-- X10_in (JJJ)Z, 0 -/
theorem sg_101_0 {post : Int32 → tp_St → Prop} {σ : tp_St} (a0 : Int64) (a2 : Int64) (a4 : Int64)  (h : ((lg_cmp a0 a2) < 0 →
post 0 σ) ∧ (¬ (lg_cmp a0 a2) < 0 →
(0 < (lg_cmp a0 a4) →
post 0 σ) ∧ (¬ 0 < (lg_cmp a0 a4) →
post 1 σ))) : tp_E 101 0 [.long a0, .null, .long a2, .null, .long a4, .null] [] σ post := tp_E_step (And.intro (fun c1 => Exists.intro _ (And.intro (tp_wk_rf _) (tp_E_step (Exists.intro _ (And.intro (tp_wk_rf _) (tp_E_step (And.intro rfl (h.1 c1)))))))) (fun c1 => And.intro (fun c2 => Exists.intro _ (And.intro (tp_wk_rf _) (tp_E_step (Exists.intro _ (And.intro (tp_wk_rf _) (tp_E_step (And.intro rfl ((h.2 c1).1 c2)))))))) (fun c2 => Exists.intro _ (And.intro (tp_wk_rf _) (tp_E_step (And.intro rfl ((h.2 c1).2 c2)))))))
/-- X10_type (II)I, 0 -/
theorem sg_102_0 {post : Int32 → tp_St → Prop} {σ : tp_St} (a1 : Int32) (a2 : Int32)  (h : tp_E 101 0 [.long (a1).toInt64, .null, .long (Int64.ofNat 1), .null, .long (Int64.ofNat 60), .null] [] σ (fun r1 σ1 =>
(r1 = 0 →
post (-1) σ1) ∧ (¬ r1 = 0 →
tp_E 101 0 [.long (a2).toInt64, .null, .long (Int64.ofNat 1), .null, .long (Int64.ofNat 9), .null] [] σ1 (fun r2 σ2 =>
(r2 = 0 →
post (-1) σ2) ∧ (¬ r2 = 0 →
((σ2.1 58 0) = 5 →
post (-3) σ2) ∧ (¬ (σ2.1 58 0) = 5 →
vp_in (σ2.1 58 0) 5 ∧
vp_in (σ2.1 58 0) 5 ∧
post (((σ2.1 58 0) + 1) - 1) (tp_set (tp_set (tp_set σ2 59 ((σ2.1 58 0)).toNatClampNeg a1) 60 ((σ2.1 58 0)).toNatClampNeg a2) 58 0 ((σ2.1 58 0) + 1)))))))) : tp_E 102 0 [.ref 58, .int a1, .int a2] [] σ post := tp_E_step (tp_Em h (fun r1 σ1 h1 => And.intro (fun c3 => Exists.intro _ (And.intro (tp_wk_rf _) (tp_E_step (And.intro rfl (h1.1 c3))))) (fun c3 => tp_Em (h1.2 c3) (fun r2 σ2 h2 => And.intro (fun c4 => Exists.intro _ (And.intro (tp_wk_rf _) (tp_E_step (And.intro rfl (h2.1 c4))))) (fun c4 => Exists.intro _ (And.intro (tp_wk_rf _) (tp_E_step (And.intro (fun c5 => And.intro rfl ((h2.2 c4).1 c5)) (fun c5 => Exists.intro _ (And.intro (tp_wk_rf _) (tp_E_step (And.intro ((h2.2 c4).2 c5).1 (And.intro ((h2.2 c4).2 c5).2.1 (And.intro rfl ((h2.2 c4).2 c5).2.2))))))))))))))
/-- X10_isPack (II)Z, 0 -/
theorem sg_103_0 {post : Int32 → tp_St → Prop} {σ : tp_St} (a1 : Int32) (a2 : Int32)  (h : tp_E 101 0 [.long (a1).toInt64, .null, .long (Int64.ofNat 0), .null, .long (Int64.ofNat 5), .null] [] σ (fun r1 σ1 =>
(r1 = 0 →
post 0 σ1) ∧ (¬ r1 = 0 →
tp_E 101 0 [.long (a2).toInt64, .null, .long (Int64.ofNat 0), .null, .long (((σ1.1 58 0) - 1)).toInt64, .null] [] σ1 (fun r2 σ2 =>
(r2 = 0 →
post 0 σ2) ∧ (¬ r2 = 0 →
post 1 σ2))))) : tp_E 103 0 [.ref 58, .int a1, .int a2] [] σ post := tp_E_step (tp_Em h (fun r1 σ1 h1 => And.intro (fun c3 => Exists.intro _ (And.intro (tp_wk_rf _) (tp_E_step (Exists.intro _ (And.intro (tp_wk_rf _) (tp_E_step (And.intro rfl (h1.1 c3)))))))) (fun c3 => tp_Em (h1.2 c3) (fun r2 σ2 h2 => And.intro (fun c4 => Exists.intro _ (And.intro (tp_wk_rf _) (tp_E_step (Exists.intro _ (And.intro (tp_wk_rf _) (tp_E_step (And.intro rfl (h2.1 c4)))))))) (fun c4 => Exists.intro _ (And.intro (tp_wk_rf _) (tp_E_step (And.intro rfl (h2.2 c4)))))))))
/-- X10_issue (IIII)I, 0 -/
theorem sg_104_0 {post : Int32 → tp_St → Prop} {σ : tp_St} (a1 : Int32) (a2 : Int32) (a3 : Int32) (a4 : Int32)  (h : tp_E 103 0 [.ref 58, .int a1, .int a2] [] σ (fun r1 σ1 =>
(r1 = 0 →
post (-1) σ1) ∧ (¬ r1 = 0 →
tp_E 101 0 [.long (a3).toInt64, .null, .long (Int64.ofNat 0), .null, .long (Int64.ofNat 100000), .null] [] σ1 (fun r2 σ2 =>
(r2 = 0 →
post (-1) σ2) ∧ (¬ r2 = 0 →
tp_E 101 0 [.long (a4).toInt64, .null, .long (Int64.ofNat 0), .null, .long (Int64.ofNat 1000), .null] [] σ2 (fun r3 σ3 =>
(r3 = 0 →
post (-1) σ3) ∧ (¬ r3 = 0 →
tp_E 104 42 [.ref 58, .int a1, .int a2, .int a3, .int a4, .int 0, .int 0, .null] [] σ3 post))))))) : tp_E 104 0 [.ref 58, .int a1, .int a2, .int a3, .int a4, .null, .null, .null] [] σ post := tp_E_step (tp_Em h (fun r1 σ1 h1 => And.intro (fun c4 => Exists.intro _ (And.intro (tp_wk_rf _) (tp_E_step (And.intro rfl (h1.1 c4))))) (fun c4 => tp_Em (h1.2 c4) (fun r2 σ2 h2 => And.intro (fun c5 => Exists.intro _ (And.intro (tp_wk_rf _) (tp_E_step (And.intro rfl (h2.1 c5))))) (fun c5 => tp_Em (h2.2 c5) (fun r3 σ3 h3 => And.intro (fun c6 => Exists.intro _ (And.intro (tp_wk_rf _) (tp_E_step (And.intro rfl (h3.1 c6))))) (fun c6 => Exists.intro _ (And.intro (tp_wk_rf _) (tp_E_step (Exists.intro [.ref 58, .int a1, .int a2, .int a3, .int a4, .int 0, .int 0, .null] (And.intro (And.intro (Or.inr rfl) (And.intro (Or.inr rfl) (And.intro (Or.inr rfl) (And.intro (Or.inr rfl) (And.intro (Or.inr rfl) (And.intro (Or.inr rfl) (And.intro (Or.inr rfl) (And.intro (Or.inr rfl) (trivial))))))))) (h3.2 c6))))))))))))
/-- X10_issue (IIII)I, 42 -/
theorem sg_104_42 {post : Int32 → tp_St → Prop} {σ : tp_St} (a1 : Int32) (a2 : Int32) (a3 : Int32) (a4 : Int32) (a5 : Int32) (a6 : Int32)  (h : ((σ.1 58 9) ≤ a6 →
tp_E 104 106 [.ref 58, .int a1, .int a2, .int a3, .int a4, .int a5, .int 0, .null] [] σ post) ∧ (¬ (σ.1 58 9) ≤ a6 →
(a5 = 0 →
vp_in a6 200 ∧
((σ.1 67 (a6).toNatClampNeg) = a2 →
vp_in a6 200 ∧
tp_E 101 0 [.long ((σ.1 69 (a6).toNatClampNeg)).toInt64, .null, .long (a3).toInt64, .null, .long (((a3 + a4) - 1)).toInt64, .null] [] σ (fun r1 σ1 =>
(r1 = 0 →
tp_E 104 42 [.ref 58, .int a1, .int a2, .int a3, .int a4, .int 0, .int (a6 + 1), .null] [] σ1 post) ∧ (¬ r1 = 0 →
tp_E 104 42 [.ref 58, .int a1, .int a2, .int a3, .int a4, .int 1, .int (a6 + 1), .null] [] σ1 post))) ∧ (¬ (σ.1 67 (a6).toNatClampNeg) = a2 →
tp_E 104 42 [.ref 58, .int a1, .int a2, .int a3, .int a4, .int 0, .int (a6 + 1), .null] [] σ post)) ∧ (¬ a5 = 0 →
tp_E 104 42 [.ref 58, .int a1, .int a2, .int a3, .int a4, .int 1, .int (a6 + 1), .null] [] σ post))) : tp_E 104 42 [.ref 58, .int a1, .int a2, .int a3, .int a4, .int a5, .int a6, .null] [] σ post := tp_E_step (And.intro (fun c2 => Exists.intro _ (And.intro (tp_wk_rf _) (tp_E_step (Exists.intro [.ref 58, .int a1, .int a2, .int a3, .int a4, .int a5, .int 0, .null] (And.intro (And.intro (Or.inr rfl) (And.intro (Or.inr rfl) (And.intro (Or.inr rfl) (And.intro (Or.inr rfl) (And.intro (Or.inr rfl) (And.intro (Or.inr rfl) (And.intro (Or.inr rfl) (And.intro (Or.inr rfl) (trivial))))))))) (h.1 c2)))))) (fun c2 => And.intro (fun c3 => And.intro ((h.2 c2).1 c3).1 (And.intro (fun c4 => And.intro (((h.2 c2).1 c3).2.1 c4).1 (tp_Em (((h.2 c2).1 c3).2.1 c4).2 (fun r1 σ1 h1 => And.intro (fun c5 => Exists.intro _ (And.intro (tp_wk_rf _) (tp_E_step (Exists.intro _ (And.intro (tp_wk_rf _) (tp_E_step (Exists.intro [.ref 58, .int a1, .int a2, .int a3, .int a4, .int 0, .int (a6 + 1), .null] (And.intro (And.intro (Or.inr rfl) (And.intro (Or.inr rfl) (And.intro (Or.inr rfl) (And.intro (Or.inr rfl) (And.intro (Or.inr rfl) (And.intro (Or.inr rfl) (And.intro (Or.inr rfl) (And.intro (Or.inr rfl) (trivial))))))))) (h1.1 c5))))))))) (fun c5 => Exists.intro _ (And.intro (tp_wk_rf _) (tp_E_step (Exists.intro _ (And.intro (tp_wk_rf _) (tp_E_step (Exists.intro [.ref 58, .int a1, .int a2, .int a3, .int a4, .int 1, .int (a6 + 1), .null] (And.intro (And.intro (Or.inr rfl) (And.intro (Or.inr rfl) (And.intro (Or.inr rfl) (And.intro (Or.inr rfl) (And.intro (Or.inr rfl) (And.intro (Or.inr rfl) (And.intro (Or.inr rfl) (And.intro (Or.inr rfl) (trivial))))))))) (h1.2 c5)))))))))))) (fun c4 => Exists.intro _ (And.intro (tp_wk_rf _) (tp_E_step (Exists.intro _ (And.intro (tp_wk_rf _) (tp_E_step (Exists.intro [.ref 58, .int a1, .int a2, .int a3, .int a4, .int 0, .int (a6 + 1), .null] (And.intro (And.intro (Or.inr rfl) (And.intro (Or.inr rfl) (And.intro (Or.inr rfl) (And.intro (Or.inr rfl) (And.intro (Or.inr rfl) (And.intro (Or.inr rfl) (And.intro (Or.inr rfl) (And.intro (Or.inr rfl) (trivial))))))))) (((h.2 c2).1 c3).2.2 c4))))))))))) (fun c3 => Exists.intro _ (And.intro (tp_wk_rf _) (tp_E_step (Exists.intro _ (And.intro (tp_wk_rf _) (tp_E_step (Exists.intro [.ref 58, .int a1, .int a2, .int a3, .int a4, .int 1, .int (a6 + 1), .null] (And.intro (And.intro (Or.inr rfl) (And.intro (Or.inr rfl) (And.intro (Or.inr rfl) (And.intro (Or.inr rfl) (And.intro (Or.inr rfl) (And.intro (Or.inr rfl) (And.intro (Or.inr rfl) (And.intro (Or.inr rfl) (trivial))))))))) ((h.2 c2).2 c3)))))))))))
/-- X10_issue (IIII)I, 106 -/
theorem sg_104_106 {post : Int32 → tp_St → Prop} {σ : tp_St} (a1 : Int32) (a2 : Int32) (a3 : Int32) (a4 : Int32) (a5 : Int32) (a6 : Int32)  (h : (6 ≤ a6 →
(a5 = 0 →
vp_in ((5 * a1) + a2) 30 ∧
vp_in ((5 * a1) + a2) 30 ∧
vp_in ((5 * a1) + a2) 30 ∧
vp_in ((5 * a1) + a2) 30 ∧
post ((σ.1 62 (((5 * a1) + a2)).toNatClampNeg) - (σ.1 61 (((5 * a1) + a2)).toNatClampNeg)) (tp_set (tp_set σ 61 (((5 * a1) + a2)).toNatClampNeg a3) 62 (((5 * a1) + a2)).toNatClampNeg (a3 + a4))) ∧ (¬ a5 = 0 →
post (-2) σ)) ∧ (¬ 6 ≤ a6 →
(a5 = 0 →
(a6 = a1 →
tp_E 104 106 [.ref 58, .int a1, .int a2, .int a3, .int a4, .int 0, .int (a6 + 1), .null] [] σ post) ∧ (¬ a6 = a1 →
vp_in ((5 * a6) + a2) 30 ∧
((a3 + a4) ≤ (σ.1 61 (((5 * a6) + a2)).toNatClampNeg) →
tp_E 104 106 [.ref 58, .int a1, .int a2, .int a3, .int a4, .int 0, .int (a6 + 1), .null] [] σ post) ∧ (¬ (a3 + a4) ≤ (σ.1 61 (((5 * a6) + a2)).toNatClampNeg) →
vp_in ((5 * a6) + a2) 30 ∧
((σ.1 62 (((5 * a6) + a2)).toNatClampNeg) ≤ a3 →
tp_E 104 106 [.ref 58, .int a1, .int a2, .int a3, .int a4, .int 0, .int (a6 + 1), .null] [] σ post) ∧ (¬ (σ.1 62 (((5 * a6) + a2)).toNatClampNeg) ≤ a3 →
vp_in ((5 * a6) + a2) 30 ∧
vp_in ((5 * a6) + a2) 30 ∧
((σ.1 62 (((5 * a6) + a2)).toNatClampNeg) ≤ (σ.1 61 (((5 * a6) + a2)).toNatClampNeg) →
tp_E 104 106 [.ref 58, .int a1, .int a2, .int a3, .int a4, .int 0, .int (a6 + 1), .null] [] σ post) ∧ (¬ (σ.1 62 (((5 * a6) + a2)).toNatClampNeg) ≤ (σ.1 61 (((5 * a6) + a2)).toNatClampNeg) →
(a4 ≤ 0 →
tp_E 104 106 [.ref 58, .int a1, .int a2, .int a3, .int a4, .int 0, .int (a6 + 1), .null] [] σ post) ∧ (¬ a4 ≤ 0 →
tp_E 104 106 [.ref 58, .int a1, .int a2, .int a3, .int a4, .int 1, .int (a6 + 1), .null] [] σ post)))))) ∧ (¬ a5 = 0 →
tp_E 104 106 [.ref 58, .int a1, .int a2, .int a3, .int a4, .int 1, .int (a6 + 1), .null] [] σ post))) : tp_E 104 106 [.ref 58, .int a1, .int a2, .int a3, .int a4, .int a5, .int a6, .null] [] σ post := tp_E_step (And.intro (fun c1 => Exists.intro _ (And.intro (tp_wk_rf _) (tp_E_step (And.intro (fun c2 => Exists.intro _ (And.intro (tp_wk_rf _) (tp_E_step (And.intro ((h.1 c1).1 c2).1 (And.intro ((h.1 c1).1 c2).2.1 (And.intro ((h.1 c1).1 c2).2.2.1 (And.intro ((h.1 c1).1 c2).2.2.2.1 (And.intro rfl ((h.1 c1).1 c2).2.2.2.2)))))))) (fun c2 => And.intro rfl ((h.1 c1).2 c2)))))) (fun c1 => And.intro (fun c3 => And.intro (fun c4 => Exists.intro _ (And.intro (tp_wk_rf _) (tp_E_step (Exists.intro _ (And.intro (tp_wk_rf _) (tp_E_step (Exists.intro [.ref 58, .int a1, .int a2, .int a3, .int a4, .int 0, .int (a6 + 1), .null] (And.intro (And.intro (Or.inr rfl) (And.intro (Or.inr rfl) (And.intro (Or.inr rfl) (And.intro (Or.inr rfl) (And.intro (Or.inr rfl) (And.intro (Or.inr rfl) (And.intro (Or.inr rfl) (And.intro (Or.inl rfl) (trivial))))))))) (((h.2 c1).1 c3).1 c4))))))))) (fun c4 => And.intro (((h.2 c1).1 c3).2 c4).1 (And.intro (fun c5 => Exists.intro _ (And.intro (tp_wk_rf _) (tp_E_step (Exists.intro _ (And.intro (tp_wk_rf _) (tp_E_step (Exists.intro [.ref 58, .int a1, .int a2, .int a3, .int a4, .int 0, .int (a6 + 1), .null] (And.intro (And.intro (Or.inr rfl) (And.intro (Or.inr rfl) (And.intro (Or.inr rfl) (And.intro (Or.inr rfl) (And.intro (Or.inr rfl) (And.intro (Or.inr rfl) (And.intro (Or.inr rfl) (And.intro (Or.inl rfl) (trivial))))))))) ((((h.2 c1).1 c3).2 c4).2.1 c5))))))))) (fun c5 => And.intro ((((h.2 c1).1 c3).2 c4).2.2 c5).1 (And.intro (fun c6 => Exists.intro _ (And.intro (tp_wk_rf _) (tp_E_step (Exists.intro _ (And.intro (tp_wk_rf _) (tp_E_step (Exists.intro [.ref 58, .int a1, .int a2, .int a3, .int a4, .int 0, .int (a6 + 1), .null] (And.intro (And.intro (Or.inr rfl) (And.intro (Or.inr rfl) (And.intro (Or.inr rfl) (And.intro (Or.inr rfl) (And.intro (Or.inr rfl) (And.intro (Or.inr rfl) (And.intro (Or.inr rfl) (And.intro (Or.inl rfl) (trivial))))))))) (((((h.2 c1).1 c3).2 c4).2.2 c5).2.1 c6))))))))) (fun c6 => And.intro (((((h.2 c1).1 c3).2 c4).2.2 c5).2.2 c6).1 (And.intro (((((h.2 c1).1 c3).2 c4).2.2 c5).2.2 c6).2.1 (And.intro (fun c7 => Exists.intro _ (And.intro (tp_wk_rf _) (tp_E_step (Exists.intro _ (And.intro (tp_wk_rf _) (tp_E_step (Exists.intro [.ref 58, .int a1, .int a2, .int a3, .int a4, .int 0, .int (a6 + 1), .null] (And.intro (And.intro (Or.inr rfl) (And.intro (Or.inr rfl) (And.intro (Or.inr rfl) (And.intro (Or.inr rfl) (And.intro (Or.inr rfl) (And.intro (Or.inr rfl) (And.intro (Or.inr rfl) (And.intro (Or.inl rfl) (trivial))))))))) ((((((h.2 c1).1 c3).2 c4).2.2 c5).2.2 c6).2.2.1 c7))))))))) (fun c7 => And.intro (fun c8 => Exists.intro _ (And.intro (tp_wk_rf _) (tp_E_step (Exists.intro _ (And.intro (tp_wk_rf _) (tp_E_step (Exists.intro [.ref 58, .int a1, .int a2, .int a3, .int a4, .int 0, .int (a6 + 1), .null] (And.intro (And.intro (Or.inr rfl) (And.intro (Or.inr rfl) (And.intro (Or.inr rfl) (And.intro (Or.inr rfl) (And.intro (Or.inr rfl) (And.intro (Or.inr rfl) (And.intro (Or.inr rfl) (And.intro (Or.inl rfl) (trivial))))))))) (((((((h.2 c1).1 c3).2 c4).2.2 c5).2.2 c6).2.2.2 c7).1 c8))))))))) (fun c8 => Exists.intro _ (And.intro (tp_wk_rf _) (tp_E_step (Exists.intro _ (And.intro (tp_wk_rf _) (tp_E_step (Exists.intro [.ref 58, .int a1, .int a2, .int a3, .int a4, .int 1, .int (a6 + 1), .null] (And.intro (And.intro (Or.inr rfl) (And.intro (Or.inr rfl) (And.intro (Or.inr rfl) (And.intro (Or.inr rfl) (And.intro (Or.inr rfl) (And.intro (Or.inr rfl) (And.intro (Or.inr rfl) (And.intro (Or.inl rfl) (trivial))))))))) (((((((h.2 c1).1 c3).2 c4).2.2 c5).2.2 c6).2.2.2 c7).2 c8)))))))))))))))))) (fun c3 => Exists.intro _ (And.intro (tp_wk_rf _) (tp_E_step (Exists.intro _ (And.intro (tp_wk_rf _) (tp_E_step (Exists.intro [.ref 58, .int a1, .int a2, .int a3, .int a4, .int 1, .int (a6 + 1), .null] (And.intro (And.intro (Or.inr rfl) (And.intro (Or.inr rfl) (And.intro (Or.inr rfl) (And.intro (Or.inr rfl) (And.intro (Or.inr rfl) (And.intro (Or.inr rfl) (And.intro (Or.inr rfl) (And.intro (Or.inl rfl) (trivial))))))))) ((h.2 c1).2 c3)))))))))))
/-- X10_pack (III)I, 0 -/
theorem sg_105_0 {post : Int32 → tp_St → Prop} {σ : tp_St} (a1 : Int32) (a2 : Int32) (a3 : Int32)  (h : tp_E 103 0 [.ref 58, .int a1, .int a2] [] σ (fun r1 σ1 =>
(r1 = 0 →
post (-1) σ1) ∧ (¬ r1 = 0 →
tp_E 101 0 [.long (a3).toInt64, .null, .long (Int64.ofNat 0), .null, .long (Int64.ofNat 1), .null] [] σ1 (fun r2 σ2 =>
(r2 = 0 →
post (-1) σ2) ∧ (¬ r2 = 0 →
(a3 = 1 →
vp_in ((5 * a1) + a2) 30 ∧
vp_in ((5 * a1) + a2) 30 ∧
post ((σ2.1 62 (((5 * a1) + a2)).toNatClampNeg) - (σ2.1 61 (((5 * a1) + a2)).toNatClampNeg)) σ2) ∧ (¬ a3 = 1 →
vp_in ((5 * a1) + a2) 30 ∧
vp_in ((5 * a1) + a2) 30 ∧
((σ2.1 62 (((5 * a1) + a2)).toNatClampNeg) ≤ (σ2.1 61 (((5 * a1) + a2)).toNatClampNeg) →
post (-4) σ2) ∧ (¬ (σ2.1 62 (((5 * a1) + a2)).toNatClampNeg) ≤ (σ2.1 61 (((5 * a1) + a2)).toNatClampNeg) →
vp_in ((5 * a1) + a2) 30 ∧
post (σ2.1 61 (((5 * a1) + a2)).toNatClampNeg) σ2))))))) : tp_E 105 0 [.ref 58, .int a1, .int a2, .int a3, .null] [] σ post := tp_E_step (tp_Em h (fun r1 σ1 h1 => And.intro (fun c3 => Exists.intro _ (And.intro (tp_wk_rf _) (tp_E_step (And.intro rfl (h1.1 c3))))) (fun c3 => tp_Em (h1.2 c3) (fun r2 σ2 h2 => And.intro (fun c4 => Exists.intro _ (And.intro (tp_wk_rf _) (tp_E_step (And.intro rfl (h2.1 c4))))) (fun c4 => Exists.intro _ (And.intro (tp_wk_rf _) (tp_E_step (And.intro (fun c5 => And.intro ((h2.2 c4).1 c5).1 (And.intro ((h2.2 c4).1 c5).2.1 (Exists.intro _ (And.intro (tp_wk_rf _) (tp_E_step (And.intro rfl ((h2.2 c4).1 c5).2.2)))))) (fun c5 => Exists.intro _ (And.intro (tp_wk_rf _) (tp_E_step (And.intro ((h2.2 c4).2 c5).1 (And.intro ((h2.2 c4).2 c5).2.1 (And.intro (fun c6 => Exists.intro _ (And.intro (tp_wk_rf _) (tp_E_step (Exists.intro _ (And.intro (tp_wk_rf _) (tp_E_step (And.intro rfl (((h2.2 c4).2 c5).2.2.1 c6)))))))) (fun c6 => And.intro (((h2.2 c4).2 c5).2.2.2 c6).1 (Exists.intro _ (And.intro (tp_wk_rf _) (tp_E_step (And.intro rfl (((h2.2 c4).2 c5).2.2.2 c6).2)))))))))))))))))))
/-- X10_trip (IZ)I, 0 -/
theorem sg_106_0 {post : Int32 → tp_St → Prop} {σ : tp_St} (a1 : Int32) (a2 : Int32)  (h : tp_E 101 0 [.long (a1).toInt64, .null, .long (Int64.ofNat 0), .null, .long (Int64.ofNat 5), .null] [] σ (fun r1 σ1 =>
(r1 = 0 →
post (-1) σ1) ∧ (¬ r1 = 0 →
tp_E 106 16 [.ref 58, .int a1, .int a2, .int 0] [] σ1 post))) : tp_E 106 0 [.ref 58, .int a1, .int a2, .null] [] σ post := tp_E_step (tp_Em h (fun r1 σ1 h1 => And.intro (fun c2 => And.intro rfl (h1.1 c2)) (fun c2 => Exists.intro _ (And.intro (tp_wk_rf _) (tp_E_step (Exists.intro [.ref 58, .int a1, .int a2, .int 0] (And.intro (And.intro (Or.inr rfl) (And.intro (Or.inr rfl) (And.intro (Or.inr rfl) (And.intro (Or.inr rfl) (trivial))))) (h1.2 c2))))))))
/-- X10_trip (IZ)I, 16 -/
theorem sg_106_16 {post : Int32 → tp_St → Prop} {σ : tp_St} (a1 : Int32) (a2 : Int32) (a3 : Int32)  (h : ((σ.1 58 5) ≤ a3 →
((σ.1 58 5) = 16 →
post (-3) σ) ∧ (¬ (σ.1 58 5) = 16 →
vp_in (σ.1 58 5) 16 ∧
vp_in (σ.1 58 5) 16 ∧
vp_in (σ.1 58 5) 16 ∧
post (((σ.1 58 5) + 1) - 1) (tp_set (tp_set (tp_set (tp_set σ 63 ((σ.1 58 5)).toNatClampNeg a1) 64 ((σ.1 58 5)).toNatClampNeg (vp_nar .boolean a2)) 65 ((σ.1 58 5)).toNatClampNeg (vp_nar .boolean 1)) 58 5 ((σ.1 58 5) + 1)))) ∧ (¬ (σ.1 58 5) ≤ a3 →
vp_in a3 16 ∧
((σ.1 63 (a3).toNatClampNeg) = a1 →
vp_in a3 16 ∧
((σ.1 65 (a3).toNatClampNeg) = 0 →
tp_E 106 16 [.ref 58, .int a1, .int a2, .int (a3 + 1)] [] σ post) ∧ (¬ (σ.1 65 (a3).toNatClampNeg) = 0 →
post (-2) σ)) ∧ (¬ (σ.1 63 (a3).toNatClampNeg) = a1 →
tp_E 106 16 [.ref 58, .int a1, .int a2, .int (a3 + 1)] [] σ post))) : tp_E 106 16 [.ref 58, .int a1, .int a2, .int a3] [] σ post := tp_E_step (And.intro (fun c1 => Exists.intro _ (And.intro (tp_wk_rf _) (tp_E_step (And.intro (fun c2 => And.intro rfl ((h.1 c1).1 c2)) (fun c2 => Exists.intro _ (And.intro (tp_wk_rf _) (tp_E_step (And.intro ((h.1 c1).2 c2).1 (And.intro ((h.1 c1).2 c2).2.1 (And.intro ((h.1 c1).2 c2).2.2.1 (And.intro rfl ((h.1 c1).2 c2).2.2.2))))))))))) (fun c1 => And.intro (h.2 c1).1 (And.intro (fun c3 => And.intro ((h.2 c1).2.1 c3).1 (And.intro (fun c4 => Exists.intro _ (And.intro (tp_wk_rf _) (tp_E_step (Exists.intro [.ref 58, .int a1, .int a2, .int (a3 + 1)] (And.intro (And.intro (Or.inr rfl) (And.intro (Or.inr rfl) (And.intro (Or.inr rfl) (And.intro (Or.inr rfl) (trivial))))) (((h.2 c1).2.1 c3).2.1 c4)))))) (fun c4 => And.intro rfl (((h.2 c1).2.1 c3).2.2 c4)))) (fun c3 => Exists.intro _ (And.intro (tp_wk_rf _) (tp_E_step (Exists.intro [.ref 58, .int a1, .int a2, .int (a3 + 1)] (And.intro (And.intro (Or.inr rfl) (And.intro (Or.inr rfl) (And.intro (Or.inr rfl) (And.intro (Or.inr rfl) (trivial))))) ((h.2 c1).2.2 c3)))))))))
/-- X10_isTrip (I)Z, 0 -/
theorem sg_107_0 {post : Int32 → tp_St → Prop} {σ : tp_St} (a1 : Int32)  (h : tp_E 101 0 [.long (a1).toInt64, .null, .long (Int64.ofNat 0), .null, .long (((σ.1 58 5) - 1)).toInt64, .null] [] σ (fun r1 σ1 =>
narrow .boolean (.int r1) = .int r1 ∧ post r1 σ1)) : tp_E 107 0 [.ref 58, .int a1] [] σ post := tp_E_step (tp_Em h (fun r1 σ1 h1 => h1))
/-- X10_moneyOf (I)I, 0 -/
theorem sg_108_0 {post : Int32 → tp_St → Prop} {σ : tp_St} (a1 : Int32)  (h : tp_E 108 4 [.ref 58, .int a1, .int 0, .int 0] [] σ post) : tp_E 108 0 [.ref 58, .int a1, .null, .null] [] σ post := tp_E_step (Exists.intro [.ref 58, .int a1, .int 0, .int 0] (And.intro (And.intro (Or.inr rfl) (And.intro (Or.inr rfl) (And.intro (Or.inr rfl) (And.intro (Or.inr rfl) (trivial))))) h))
/-- X10_moneyOf (I)I, 4 -/
theorem sg_108_4 {post : Int32 → tp_St → Prop} {σ : tp_St} (a1 : Int32) (a2 : Int32) (a3 : Int32)  (h : ((σ.1 58 9) ≤ a3 →
post a2 σ) ∧ (¬ (σ.1 58 9) ≤ a3 →
vp_in a3 200 ∧
((σ.1 66 (a3).toNatClampNeg) = a1 →
vp_in a3 200 ∧
vp_in (σ.1 67 (a3).toNatClampNeg) 5 ∧
tp_E 108 4 [.ref 58, .int a1, .int (a2 + (σ.1 59 ((σ.1 67 (a3).toNatClampNeg)).toNatClampNeg)), .int (a3 + 1)] [] σ post) ∧ (¬ (σ.1 66 (a3).toNatClampNeg) = a1 →
tp_E 108 4 [.ref 58, .int a1, .int (a2 + 0), .int (a3 + 1)] [] σ post))) : tp_E 108 4 [.ref 58, .int a1, .int a2, .int a3] [] σ post := tp_E_step (And.intro (fun c1 => Exists.intro _ (And.intro (tp_wk_rf _) (tp_E_step (And.intro rfl (h.1 c1))))) (fun c1 => And.intro (h.2 c1).1 (And.intro (fun c2 => And.intro ((h.2 c1).2.1 c2).1 (And.intro ((h.2 c1).2.1 c2).2.1 (Exists.intro _ (And.intro (tp_wk_rf _) (tp_E_step (Exists.intro [.ref 58, .int a1, .int (a2 + (σ.1 59 ((σ.1 67 (a3).toNatClampNeg)).toNatClampNeg)), .int (a3 + 1)] (And.intro (And.intro (Or.inr rfl) (And.intro (Or.inr rfl) (And.intro (Or.inr rfl) (And.intro (Or.inr rfl) (trivial))))) ((h.2 c1).2.1 c2).2.2))))))) (fun c2 => Exists.intro _ (And.intro (tp_wk_rf _) (tp_E_step (Exists.intro _ (And.intro (tp_wk_rf _) (tp_E_step (Exists.intro [.ref 58, .int a1, .int (a2 + 0), .int (a3 + 1)] (And.intro (And.intro (Or.inr rfl) (And.intro (Or.inr rfl) (And.intro (Or.inr rfl) (And.intro (Or.inr rfl) (trivial))))) ((h.2 c1).2.2 c2))))))))))))
/-- X10_close (I)I, 0 -/
theorem sg_109_0 {post : Int32 → tp_St → Prop} {σ : tp_St} (a1 : Int32)  (h : tp_E 107 0 [.ref 58, .int a1] [] σ (fun r1 σ1 =>
(r1 = 0 →
post (-1) σ1) ∧ (¬ r1 = 0 →
vp_in a1 16 ∧
((σ1.1 65 (a1).toNatClampNeg) = 0 →
post (-2) σ1) ∧ (¬ (σ1.1 65 (a1).toNatClampNeg) = 0 →
vp_in a1 16 ∧
tp_E 108 0 [.ref 58, .int a1, .null, .null] [] (tp_set σ1 65 (a1).toNatClampNeg (vp_nar .boolean 0)) (fun r2 σ2 =>
post r2 σ2))))) : tp_E 109 0 [.ref 58, .int a1] [] σ post := tp_E_step (tp_Em h (fun r1 σ1 h1 => And.intro (fun c2 => And.intro rfl (h1.1 c2)) (fun c2 => Exists.intro _ (And.intro (tp_wk_rf _) (tp_E_step (And.intro (h1.2 c2).1 (And.intro (fun c3 => And.intro rfl ((h1.2 c2).2.1 c3)) (fun c3 => Exists.intro _ (And.intro (tp_wk_rf _) (tp_E_step (And.intro ((h1.2 c2).2.2 c3).1 (tp_Em ((h1.2 c2).2.2 c3).2 (fun r4 σ4 h4 => And.intro rfl h4)))))))))))))
/-- X10_along (II)I, 0 -/
theorem sg_110_0 {post : Int32 → tp_St → Prop} {σ : tp_St} (a1 : Int32) (a2 : Int32)  (h : vp_in a1 16 ∧
((σ.1 64 (a1).toNatClampNeg) = 0 →
post (9 - a2) σ) ∧ (¬ (σ.1 64 (a1).toNatClampNeg) = 0 →
post a2 σ)) : tp_E 110 0 [.ref 58, .int a1, .int a2] [] σ post := tp_E_step (And.intro h.1 (And.intro (fun c1 => Exists.intro _ (And.intro (tp_wk_rf _) (tp_E_step (Exists.intro _ (And.intro (tp_wk_rf _) (tp_E_step (And.intro rfl (h.2.1 c1)))))))) (fun c1 => Exists.intro _ (And.intro (tp_wk_rf _) (tp_E_step (And.intro rfl (h.2.2 c1)))))))
/-- X10_latestOf (I)I, 0 -/
theorem sg_111_0 {post : Int32 → tp_St → Prop} {σ : tp_St} (a1 : Int32)  (h : tp_E 111 4 [.ref 58, .int a1, .int 0, .int 0] [] σ post) : tp_E 111 0 [.ref 58, .int a1, .null, .null] [] σ post := tp_E_step (Exists.intro [.ref 58, .int a1, .int 0, .int 0] (And.intro (And.intro (Or.inr rfl) (And.intro (Or.inr rfl) (And.intro (Or.inr rfl) (And.intro (Or.inr rfl) (trivial))))) h))
/-- X10_latestOf (I)I, 4 -/
theorem sg_111_4 {post : Int32 → tp_St → Prop} {σ : tp_St} (a1 : Int32) (a2 : Int32) (a3 : Int32)  (h : ((σ.1 58 9) ≤ a3 →
post a2 σ) ∧ (¬ (σ.1 58 9) ≤ a3 →
vp_in a3 200 ∧
((σ.1 66 (a3).toNatClampNeg) = a1 →
vp_in a3 200 ∧
tp_E 110 0 [.ref 58, .int a1, .int (σ.1 68 (a3).toNatClampNeg)] [] σ (fun r1 σ1 =>
tp_E 111 4 [.ref 58, .int a1, .int r1, .int (a3 + 1)] [] σ1 post)) ∧ (¬ (σ.1 66 (a3).toNatClampNeg) = a1 →
tp_E 111 4 [.ref 58, .int a1, .int a2, .int (a3 + 1)] [] σ post))) : tp_E 111 4 [.ref 58, .int a1, .int a2, .int a3] [] σ post := tp_E_step (And.intro (fun c2 => Exists.intro _ (And.intro (tp_wk_rf _) (tp_E_step (And.intro rfl (h.1 c2))))) (fun c2 => And.intro (h.2 c2).1 (And.intro (fun c3 => And.intro ((h.2 c2).2.1 c3).1 (tp_Em ((h.2 c2).2.1 c3).2 (fun r1 σ1 h1 => Exists.intro _ (And.intro (tp_wk_rf _) (tp_E_step (Exists.intro [.ref 58, .int a1, .int r1, .int (a3 + 1)] (And.intro (And.intro (Or.inr rfl) (And.intro (Or.inr rfl) (And.intro (Or.inr rfl) (And.intro (Or.inr rfl) (trivial))))) h1))))))) (fun c3 => Exists.intro _ (And.intro (tp_wk_rf _) (tp_E_step (Exists.intro _ (And.intro (tp_wk_rf _) (tp_E_step (Exists.intro [.ref 58, .int a1, .int a2, .int (a3 + 1)] (And.intro (And.intro (Or.inr rfl) (And.intro (Or.inr rfl) (And.intro (Or.inr rfl) (And.intro (Or.inr rfl) (trivial))))) ((h.2 c2).2.2 c3))))))))))))
/-- X10_sell (III)I, 0 -/
theorem sg_112_0 {post : Int32 → tp_St → Prop} {σ : tp_St} (a1 : Int32) (a2 : Int32) (a3 : Int32)  (h : tp_E 107 0 [.ref 58, .int a1] [] σ (fun r1 σ1 =>
(r1 = 0 →
post (-1) σ1) ∧ (¬ r1 = 0 →
tp_E 101 0 [.long (a2).toInt64, .null, .long (Int64.ofNat 0), .null, .long (((σ1.1 58 0) - 1)).toInt64, .null] [] σ1 (fun r2 σ2 =>
(r2 = 0 →
post (-1) σ2) ∧ (¬ r2 = 0 →
tp_E 101 0 [.long (a3).toInt64, .null, .long (Int64.ofNat 0), .null, .long (Int64.ofNat 9), .null] [] σ2 (fun r3 σ3 =>
(r3 = 0 →
post (-1) σ3) ∧ (¬ r3 = 0 →
vp_in a1 16 ∧
((σ3.1 65 (a1).toNatClampNeg) = 0 →
post (-2) σ3) ∧ (¬ (σ3.1 65 (a1).toNatClampNeg) = 0 →
tp_E 110 0 [.ref 58, .int a1, .int a3] [] σ3 (fun r4 σ4 =>
tp_E 111 0 [.ref 58, .int a1, .null, .null] [] σ4 (fun r5 σ5 =>
(r4 < r5 →
post (-2) σ5) ∧ (¬ r4 < r5 →
tp_E 110 0 [.ref 58, .int a1, .int a3] [] σ5 (fun r6 σ6 =>
(r6 = 9 →
post (-2) σ6) ∧ (¬ r6 = 9 →
((σ6.1 58 9) = 200 →
post (-3) σ6) ∧ (¬ (σ6.1 58 9) = 200 →
vp_in a1 16 ∧
vp_in ((5 * (σ6.1 63 (a1).toNatClampNeg)) + a2) 30 ∧
vp_in ((5 * (σ6.1 63 (a1).toNatClampNeg)) + a2) 30 ∧
((σ6.1 61 (((5 * (σ6.1 63 (a1).toNatClampNeg)) + a2)).toNatClampNeg) = (σ6.1 62 (((5 * (σ6.1 63 (a1).toNatClampNeg)) + a2)).toNatClampNeg) →
post (-4) σ6) ∧ (¬ (σ6.1 61 (((5 * (σ6.1 63 (a1).toNatClampNeg)) + a2)).toNatClampNeg) = (σ6.1 62 (((5 * (σ6.1 63 (a1).toNatClampNeg)) + a2)).toNatClampNeg) →
vp_in (σ6.1 58 9) 200 ∧
vp_in (σ6.1 58 9) 200 ∧
vp_in (σ6.1 58 9) 200 ∧
vp_in ((5 * (σ6.1 63 (a1).toNatClampNeg)) + a2) 30 ∧
vp_in (σ6.1 58 9) 200 ∧
vp_in ((5 * (σ6.1 63 (a1).toNatClampNeg)) + a2) 30 ∧
vp_in ((5 * (σ6.1 63 (a1).toNatClampNeg)) + a2) 30 ∧
vp_in (((σ6.1 58 9) + 1) - 1) 200 ∧
post ((tp_set (tp_set (tp_set (tp_set (tp_set (tp_set σ6 66 ((σ6.1 58 9)).toNatClampNeg a1) 67 ((σ6.1 58 9)).toNatClampNeg a2) 68 ((σ6.1 58 9)).toNatClampNeg a3) 69 ((σ6.1 58 9)).toNatClampNeg (σ6.1 61 (((5 * (σ6.1 63 (a1).toNatClampNeg)) + a2)).toNatClampNeg)) 61 (((5 * (σ6.1 63 (a1).toNatClampNeg)) + a2)).toNatClampNeg ((σ6.1 61 (((5 * (σ6.1 63 (a1).toNatClampNeg)) + a2)).toNatClampNeg) + 1)) 58 9 ((σ6.1 58 9) + 1)).1 69 ((((σ6.1 58 9) + 1) - 1)).toNatClampNeg) (tp_set (tp_set (tp_set (tp_set (tp_set (tp_set σ6 66 ((σ6.1 58 9)).toNatClampNeg a1) 67 ((σ6.1 58 9)).toNatClampNeg a2) 68 ((σ6.1 58 9)).toNatClampNeg a3) 69 ((σ6.1 58 9)).toNatClampNeg (σ6.1 61 (((5 * (σ6.1 63 (a1).toNatClampNeg)) + a2)).toNatClampNeg)) 61 (((5 * (σ6.1 63 (a1).toNatClampNeg)) + a2)).toNatClampNeg ((σ6.1 61 (((5 * (σ6.1 63 (a1).toNatClampNeg)) + a2)).toNatClampNeg) + 1)) 58 9 ((σ6.1 58 9) + 1))))))))))))))))) : tp_E 112 0 [.ref 58, .int a1, .int a2, .int a3, .null] [] σ post := tp_E_step (tp_Em h (fun r1 σ1 h1 => And.intro (fun c4 => Exists.intro _ (And.intro (tp_wk_rf _) (tp_E_step (And.intro rfl (h1.1 c4))))) (fun c4 => tp_Em (h1.2 c4) (fun r2 σ2 h2 => And.intro (fun c5 => Exists.intro _ (And.intro (tp_wk_rf _) (tp_E_step (And.intro rfl (h2.1 c5))))) (fun c5 => tp_Em (h2.2 c5) (fun r3 σ3 h3 => And.intro (fun c6 => Exists.intro _ (And.intro (tp_wk_rf _) (tp_E_step (And.intro rfl (h3.1 c6))))) (fun c6 => Exists.intro _ (And.intro (tp_wk_rf _) (tp_E_step (And.intro (h3.2 c6).1 (And.intro (fun c10 => Exists.intro _ (And.intro (tp_wk_rf _) (tp_E_step (And.intro rfl ((h3.2 c6).2.1 c10))))) (fun c10 => tp_Em ((h3.2 c6).2.2 c10) (fun r7 σ7 h7 => tp_Em h7 (fun r8 σ8 h8 => And.intro (fun c11 => Exists.intro _ (And.intro (tp_wk_rf _) (tp_E_step (And.intro rfl (h8.1 c11))))) (fun c11 => tp_Em (h8.2 c11) (fun r9 σ9 h9 => And.intro (fun c12 => Exists.intro _ (And.intro (tp_wk_rf _) (tp_E_step (And.intro rfl (h9.1 c12))))) (fun c12 => Exists.intro _ (And.intro (tp_wk_rf _) (tp_E_step (And.intro (fun c13 => And.intro rfl ((h9.2 c12).1 c13)) (fun c13 => Exists.intro _ (And.intro (tp_wk_rf _) (tp_E_step (And.intro ((h9.2 c12).2 c13).1 (And.intro ((h9.2 c12).2 c13).2.1 (And.intro ((h9.2 c12).2 c13).2.2.1 (And.intro (fun c14 => And.intro rfl (((h9.2 c12).2 c13).2.2.2.1 c14)) (fun c14 => Exists.intro _ (And.intro (tp_wk_rf _) (tp_E_step (And.intro (((h9.2 c12).2 c13).2.2.2.2 c14).1 (And.intro (((h9.2 c12).2 c13).2.2.2.2 c14).2.1 (And.intro (((h9.2 c12).2 c13).2.2.2.2 c14).2.2.1 (And.intro (((h9.2 c12).2 c13).2.2.2.2 c14).2.2.2.1 (And.intro (((h9.2 c12).2 c13).2.2.2.2 c14).2.2.2.2.1 (And.intro (((h9.2 c12).2 c13).2.2.2.2 c14).2.2.2.2.2.1 (And.intro (((h9.2 c12).2 c13).2.2.2.2 c14).2.2.2.2.2.2.1 (And.intro (((h9.2 c12).2 c13).2.2.2.2 c14).2.2.2.2.2.2.2.1 (And.intro rfl (((h9.2 c12).2 c13).2.2.2.2 c14).2.2.2.2.2.2.2.2)))))))))))))))))))))))))))))))))))))))
/-- X10_undo ()I, 0 -/
theorem sg_113_0 {post : Int32 → tp_St → Prop} {σ : tp_St}   (h : ((σ.1 58 9) = 0 →
post (-4) σ) ∧ (¬ (σ.1 58 9) = 0 →
vp_in ((σ.1 58 9) - 1) 200 ∧
vp_in (σ.1 66 (((σ.1 58 9) - 1)).toNatClampNeg) 16 ∧
vp_in ((σ.1 58 9) - 1) 200 ∧
vp_in ((σ.1 58 9) - 1) 200 ∧
vp_in (σ.1 66 (((σ.1 58 9) - 1)).toNatClampNeg) 16 ∧
((σ.1 65 ((σ.1 66 (((σ.1 58 9) - 1)).toNatClampNeg)).toNatClampNeg) = 0 →
post (-2) σ) ∧ (¬ (σ.1 65 ((σ.1 66 (((σ.1 58 9) - 1)).toNatClampNeg)).toNatClampNeg) = 0 →
vp_in ((5 * (σ.1 63 ((σ.1 66 (((σ.1 58 9) - 1)).toNatClampNeg)).toNatClampNeg)) + (σ.1 67 (((σ.1 58 9) - 1)).toNatClampNeg)) 30 ∧
vp_in ((σ.1 58 9) - 1) 200 ∧
((σ.1 61 (((5 * (σ.1 63 ((σ.1 66 (((σ.1 58 9) - 1)).toNatClampNeg)).toNatClampNeg)) + (σ.1 67 (((σ.1 58 9) - 1)).toNatClampNeg))).toNatClampNeg) = ((σ.1 69 (((σ.1 58 9) - 1)).toNatClampNeg) + 1) →
vp_in ((5 * (σ.1 63 ((σ.1 66 (((σ.1 58 9) - 1)).toNatClampNeg)).toNatClampNeg)) + (σ.1 67 (((σ.1 58 9) - 1)).toNatClampNeg)) 30 ∧
vp_in ((5 * (σ.1 63 ((σ.1 66 (((σ.1 58 9) - 1)).toNatClampNeg)).toNatClampNeg)) + (σ.1 67 (((σ.1 58 9) - 1)).toNatClampNeg)) 30 ∧
post ((σ.1 58 9) - 1) (tp_set (tp_set σ 61 (((5 * (σ.1 63 ((σ.1 66 (((σ.1 58 9) - 1)).toNatClampNeg)).toNatClampNeg)) + (σ.1 67 (((σ.1 58 9) - 1)).toNatClampNeg))).toNatClampNeg ((σ.1 61 (((5 * (σ.1 63 ((σ.1 66 (((σ.1 58 9) - 1)).toNatClampNeg)).toNatClampNeg)) + (σ.1 67 (((σ.1 58 9) - 1)).toNatClampNeg))).toNatClampNeg) - 1)) 58 9 ((σ.1 58 9) - 1))) ∧ (¬ (σ.1 61 (((5 * (σ.1 63 ((σ.1 66 (((σ.1 58 9) - 1)).toNatClampNeg)).toNatClampNeg)) + (σ.1 67 (((σ.1 58 9) - 1)).toNatClampNeg))).toNatClampNeg) = ((σ.1 69 (((σ.1 58 9) - 1)).toNatClampNeg) + 1) →
post (-2) σ)))) : tp_E 113 0 [.ref 58, .null, .null] [] σ post := tp_E_step (And.intro (fun c1 => And.intro rfl (h.1 c1)) (fun c1 => Exists.intro _ (And.intro (tp_wk_rf _) (tp_E_step (And.intro (h.2 c1).1 (And.intro (h.2 c1).2.1 (And.intro (h.2 c1).2.2.1 (And.intro (h.2 c1).2.2.2.1 (And.intro (h.2 c1).2.2.2.2.1 (And.intro (fun c2 => Exists.intro _ (And.intro (tp_wk_rf _) (tp_E_step (And.intro rfl ((h.2 c1).2.2.2.2.2.1 c2))))) (fun c2 => And.intro ((h.2 c1).2.2.2.2.2.2 c2).1 (And.intro ((h.2 c1).2.2.2.2.2.2 c2).2.1 (And.intro (fun c3 => Exists.intro _ (And.intro (tp_wk_rf _) (tp_E_step (And.intro (((h.2 c1).2.2.2.2.2.2 c2).2.2.1 c3).1 (And.intro (((h.2 c1).2.2.2.2.2.2 c2).2.2.1 c3).2.1 (And.intro rfl (((h.2 c1).2.2.2.2.2.2 c2).2.2.1 c3).2.2)))))) (fun c3 => Exists.intro _ (And.intro (tp_wk_rf _) (tp_E_step (And.intro rfl (((h.2 c1).2.2.2.2.2.2 c2).2.2.2 c3))))))))))))))))))
/-- X10_sheet (III)I, 0 -/
theorem sg_114_0 {post : Int32 → tp_St → Prop} {σ : tp_St} (a1 : Int32) (a2 : Int32) (a3 : Int32)  (h : tp_E 101 0 [.long (a1).toInt64, .null, .long (Int64.ofNat 0), .null, .long (Int64.ofNat 3), .null] [] σ (fun r1 σ1 =>
(r1 = 0 →
post (-1) σ1) ∧ (¬ r1 = 0 →
tp_E 101 0 [.long (a2).toInt64, .null, .long (Int64.ofNat 0), .null, .long (Int64.ofNat 2), .null] [] σ1 (fun r2 σ2 =>
(r2 = 0 →
post (-1) σ2) ∧ (¬ r2 = 0 →
(a3 ≤ 64 →
(0 ≤ a3 →
vp_in a1 4 ∧
vp_in a1 4 ∧
tp_E 114 56 [.ref 58, .int a1, .null, .null, .int 0] [] (tp_set (tp_set σ2 70 (a1).toNatClampNeg a2) 71 (a1).toNatClampNeg a3) post) ∧ (¬ 0 ≤ a3 →
post (-14) σ2)) ∧ (¬ a3 ≤ 64 →
post (-1) σ2)))))) : tp_E 114 0 [.ref 58, .int a1, .int a2, .int a3, .null] [] σ post := tp_E_step (tp_Em h (fun r1 σ1 h1 => And.intro (fun c3 => Exists.intro _ (And.intro (tp_wk_rf _) (tp_E_step (And.intro rfl (h1.1 c3))))) (fun c3 => tp_Em (h1.2 c3) (fun r2 σ2 h2 => And.intro (fun c4 => Exists.intro _ (And.intro (tp_wk_rf _) (tp_E_step (And.intro rfl (h2.1 c4))))) (fun c4 => And.intro (fun c5 => Exists.intro _ (And.intro (tp_wk_rf _) (tp_E_step (And.intro (fun c6 => Exists.intro _ (And.intro (tp_wk_rf _) (tp_E_step (And.intro (((h2.2 c4).1 c5).1 c6).1 (And.intro (((h2.2 c4).1 c5).1 c6).2.1 (Exists.intro [.ref 58, .int a1, .null, .null, .int 0] (And.intro (And.intro (Or.inr rfl) (And.intro (Or.inr rfl) (And.intro (Or.inl rfl) (And.intro (Or.inl rfl) (And.intro (Or.inr rfl) (trivial)))))) (((h2.2 c4).1 c5).1 c6).2.2))))))) (fun c6 => And.intro rfl (((h2.2 c4).1 c5).2 c6)))))) (fun c5 => Exists.intro _ (And.intro (tp_wk_rf _) (tp_E_step (And.intro rfl ((h2.2 c4).2 c5))))))))))
/-- X10_sheet (III)I, 56 -/
theorem sg_114_56 {post : Int32 → tp_St → Prop} {σ : tp_St} (a1 : Int32) (a4 : Int32)  (h : (64 ≤ a4 →
post 1 σ) ∧ (¬ 64 ≤ a4 →
vp_in ((64 * a1) + a4) 256 ∧
tp_E 114 56 [.ref 58, .int a1, .null, .null, .int (a4 + 1)] [] (tp_set σ 72 (((64 * a1) + a4)).toNatClampNeg 0) post)) : tp_E 114 56 [.ref 58, .int a1, .null, .null, .int a4] [] σ post := tp_E_step (And.intro (fun c1 => Exists.intro _ (And.intro (tp_wk_rf _) (tp_E_step (And.intro rfl (h.1 c1))))) (fun c1 => And.intro (h.2 c1).1 (Exists.intro [.ref 58, .int a1, .null, .null, .int (a4 + 1)] (And.intro (And.intro (Or.inr rfl) (And.intro (Or.inr rfl) (And.intro (Or.inr rfl) (And.intro (Or.inr rfl) (And.intro (Or.inr rfl) (trivial)))))) (h.2 c1).2))))
/-- X10_lay (III)I, 0 -/
theorem sg_115_0 {post : Int32 → tp_St → Prop} {σ : tp_St} (a1 : Int32) (a2 : Int32) (a3 : Int32)  (h : tp_E 101 0 [.long (a1).toInt64, .null, .long (Int64.ofNat 0), .null, .long (Int64.ofNat 3), .null] [] σ (fun r1 σ1 =>
(r1 = 0 →
post (-1) σ1) ∧ (¬ r1 = 0 →
vp_in a1 4 ∧
((σ1.1 70 (a1).toNatClampNeg) = (-4) →
post (-11) σ1) ∧ (¬ (σ1.1 70 (a1).toNatClampNeg) = (-4) →
vp_in a1 4 ∧
tp_E 101 0 [.long (a2).toInt64, .null, .long (Int64.ofNat 0), .null, .long (((σ1.1 71 (a1).toNatClampNeg) - 1)).toInt64, .null] [] σ1 (fun r2 σ2 =>
(r2 = 0 →
post (-12) σ2) ∧ (¬ r2 = 0 →
vp_in a1 4 ∧
((σ2.1 70 (a1).toNatClampNeg) = 0 →
vp_in ((64 * a1) + a2) 256 ∧
post 1 (tp_set σ2 72 (((64 * a1) + a2)).toNatClampNeg ((a3 <<< (24 &&& 31)) >>> (24 &&& 31)))) ∧ (¬ (σ2.1 70 (a1).toNatClampNeg) = 0 →
vp_in a1 4 ∧
((σ2.1 70 (a1).toNatClampNeg) = 1 →
vp_in ((64 * a1) + a2) 256 ∧
post 1 (tp_set σ2 72 (((64 * a1) + a2)).toNatClampNeg ((a3 <<< (16 &&& 31)) >>> (16 &&& 31)))) ∧ (¬ (σ2.1 70 (a1).toNatClampNeg) = 1 →
vp_in ((64 * a1) + a2) 256 ∧
post 1 (tp_set σ2 72 (((64 * a1) + a2)).toNatClampNeg a3))))))))) : tp_E 115 0 [.ref 58, .int a1, .int a2, .int a3] [] σ post := tp_E_step (tp_Em h (fun r1 σ1 h1 => And.intro (fun c2 => And.intro rfl (h1.1 c2)) (fun c2 => Exists.intro _ (And.intro (tp_wk_rf _) (tp_E_step (And.intro (h1.2 c2).1 (And.intro (fun c3 => And.intro rfl ((h1.2 c2).2.1 c3)) (fun c3 => Exists.intro _ (And.intro (tp_wk_rf _) (tp_E_step (And.intro ((h1.2 c2).2.2 c3).1 (tp_Em ((h1.2 c2).2.2 c3).2 (fun r4 σ4 h4 => And.intro (fun c5 => And.intro rfl (h4.1 c5)) (fun c5 => Exists.intro _ (And.intro (tp_wk_rf _) (tp_E_step (And.intro (h4.2 c5).1 (And.intro (fun c6 => Exists.intro _ (And.intro (tp_wk_rf _) (tp_E_step (And.intro ((h4.2 c5).2.1 c6).1 (And.intro rfl ((h4.2 c5).2.1 c6).2))))) (fun c6 => Exists.intro _ (And.intro (tp_wk_rf _) (tp_E_step (And.intro ((h4.2 c5).2.2 c6).1 (And.intro (fun c7 => Exists.intro _ (And.intro (tp_wk_rf _) (tp_E_step (And.intro (((h4.2 c5).2.2 c6).2.1 c7).1 (And.intro rfl (((h4.2 c5).2.2 c6).2.1 c7).2))))) (fun c7 => Exists.intro _ (And.intro (tp_wk_rf _) (tp_E_step (Exists.intro _ (And.intro (tp_wk_rf _) (tp_E_step (And.intro (((h4.2 c5).2.2 c6).2.2 c7).1 (And.intro rfl (((h4.2 c5).2.2 c6).2.2 c7).2)))))))))))))))))))))))))))))))
/-- X10_scan (IIIII)I, 0 -/
theorem sg_116_0 {post : Int32 → tp_St → Prop} {σ : tp_St} (a1 : Int32) (a2 : Int32) (a3 : Int32) (a4 : Int32) (a5 : Int32)  (h : tp_E 107 0 [.ref 58, .int a1] [] σ (fun r1 σ1 =>
(r1 = 0 →
post (-1) σ1) ∧ (¬ r1 = 0 →
tp_E 101 0 [.long (a2).toInt64, .null, .long (Int64.ofNat 0), .null, .long (Int64.ofNat 3), .null] [] σ1 (fun r2 σ2 =>
(r2 = 0 →
post (-1) σ2) ∧ (¬ r2 = 0 →
tp_E 101 0 [.long (a3).toInt64, .null, .long (Int64.ofNat 0), .null, .long (Int64.ofNat 2), .null] [] σ2 (fun r3 σ3 =>
(r3 = 0 →
post (-1) σ3) ∧ (¬ r3 = 0 →
tp_E 101 0 [.long (a5).toInt64, .null, .long (Int64.ofNat 0), .null, .long (Int64.ofNat 32), .null] [] σ3 (fun r4 σ4 =>
(r4 = 0 →
post (-1) σ4) ∧ (¬ r4 = 0 →
vp_in a2 4 ∧
((σ4.1 70 (a2).toNatClampNeg) = a3 →
tp_E 116 88 [.ref 58, .int a1, .int a2, .null, .int a4, .int a5, .int (σ4.1 58 9), .int 0, .int 0, .null, .null, .null, .null] [] σ4 post) ∧ (¬ (σ4.1 70 (a2).toNatClampNeg) = a3 →
vp_in a2 4 ∧
((σ4.1 70 (a2).toNatClampNeg) = (-4) →
post (-11) σ4) ∧ (¬ (σ4.1 70 (a2).toNatClampNeg) = (-4) →
post (-13) σ4))))))))))) : tp_E 116 0 [.ref 58, .int a1, .int a2, .int a3, .int a4, .int a5, .null, .null, .null, .null, .null, .null, .null] [] σ post := tp_E_step (tp_Em h (fun r1 σ1 h1 => And.intro (fun c5 => Exists.intro _ (And.intro (tp_wk_rf _) (tp_E_step (And.intro rfl (h1.1 c5))))) (fun c5 => tp_Em (h1.2 c5) (fun r2 σ2 h2 => And.intro (fun c6 => Exists.intro _ (And.intro (tp_wk_rf _) (tp_E_step (And.intro rfl (h2.1 c6))))) (fun c6 => tp_Em (h2.2 c6) (fun r3 σ3 h3 => And.intro (fun c7 => Exists.intro _ (And.intro (tp_wk_rf _) (tp_E_step (And.intro rfl (h3.1 c7))))) (fun c7 => tp_Em (h3.2 c7) (fun r4 σ4 h4 => And.intro (fun c8 => Exists.intro _ (And.intro (tp_wk_rf _) (tp_E_step (And.intro rfl (h4.1 c8))))) (fun c8 => Exists.intro _ (And.intro (tp_wk_rf _) (tp_E_step (And.intro (h4.2 c8).1 (And.intro (fun c9 => Exists.intro _ (And.intro (tp_wk_rf _) (tp_E_step (Exists.intro [.ref 58, .int a1, .int a2, .null, .int a4, .int a5, .int (σ4.1 58 9), .int 0, .int 0, .null, .null, .null, .null] (And.intro (And.intro (Or.inr rfl) (And.intro (Or.inr rfl) (And.intro (Or.inr rfl) (And.intro (Or.inl rfl) (And.intro (Or.inr rfl) (And.intro (Or.inr rfl) (And.intro (Or.inr rfl) (And.intro (Or.inr rfl) (And.intro (Or.inr rfl) (And.intro (Or.inr rfl) (And.intro (Or.inr rfl) (And.intro (Or.inr rfl) (And.intro (Or.inr rfl) (trivial)))))))))))))) ((h4.2 c8).2.1 c9)))))) (fun c9 => And.intro ((h4.2 c8).2.2 c9).1 (And.intro (fun c10 => Exists.intro _ (And.intro (tp_wk_rf _) (tp_E_step (And.intro rfl (((h4.2 c8).2.2 c9).2.1 c10))))) (fun c10 => Exists.intro _ (And.intro (tp_wk_rf _) (tp_E_step (Exists.intro _ (And.intro (tp_wk_rf _) (tp_E_step (And.intro rfl (((h4.2 c8).2.2 c9).2.2 c10)))))))))))))))))))))))
/-- X10_scan (IIIII)I, 88 -/
theorem sg_116_88 {post : Int32 → tp_St → Prop} {σ : tp_St} (a1 : Int32) (a2 : Int32) (a4 : Int32) (a5 : Int32) (a6 : Int32) (a7 : Int32) (a8 : Int32)  (h : (a5 ≤ a8 →
tp_E 116 191 [.ref 58, .int a1, .null, .null, .null, .int a5, .int a6, .int a7, .null, .null, .null, .null, .null] [] σ post) ∧ (¬ a5 ≤ a8 →
(a7 = 0 →
vp_in a2 4 ∧
tp_E 101 0 [.long ((a4).toInt64 + ((2 * a8)).toInt64), .null, .long (Int64.ofNat 0), .null, .long (((σ.1 71 (a2).toNatClampNeg) - 2)).toInt64, .null] [] σ (fun r1 σ1 =>
(r1 = 0 →
tp_E 116 88 [.ref 58, .int a1, .int a2, .null, .int a4, .int a5, .int a6, .int (-12), .int (a8 + 1), .null, .null, .null, .null] [] σ1 post) ∧ (¬ r1 = 0 →
vp_in ((64 * a2) + (((a4).toInt64 + ((2 * a8)).toInt64)).toInt32) 256 ∧
vp_in (((64 * a2) + (((a4).toInt64 + ((2 * a8)).toInt64)).toInt32) + 1) 256 ∧
tp_E 112 0 [.ref 58, .int a1, .int (σ1.1 72 (((64 * a2) + (((a4).toInt64 + ((2 * a8)).toInt64)).toInt32)).toNatClampNeg), .int (σ1.1 72 ((((64 * a2) + (((a4).toInt64 + ((2 * a8)).toInt64)).toInt32) + 1)).toNatClampNeg), .null] [] σ1 (fun r2 σ2 =>
(0 ≤ r2 →
tp_E 116 88 [.ref 58, .int a1, .int a2, .null, .int a4, .int a5, .int a6, .int 0, .int (a8 + 1), .null, .null, .null, .null] [] σ2 post) ∧ (¬ 0 ≤ r2 →
tp_E 116 88 [.ref 58, .int a1, .int a2, .null, .int a4, .int a5, .int a6, .int ((-20) + r2), .int (a8 + 1), .null, .null, .null, .null] [] σ2 post))))) ∧ (¬ a7 = 0 →
tp_E 116 191 [.ref 58, .int a1, .null, .null, .null, .int a5, .int a6, .int a7, .null, .null, .null, .null, .null] [] σ post))) : tp_E 116 88 [.ref 58, .int a1, .int a2, .null, .int a4, .int a5, .int a6, .int a7, .int a8, .null, .null, .null, .null] [] σ post := tp_E_step (And.intro (fun c2 => Exists.intro [.ref 58, .int a1, .null, .null, .null, .int a5, .int a6, .int a7, .null, .null, .null, .null, .null] (And.intro (And.intro (Or.inr rfl) (And.intro (Or.inr rfl) (And.intro (Or.inl rfl) (And.intro (Or.inr rfl) (And.intro (Or.inl rfl) (And.intro (Or.inr rfl) (And.intro (Or.inr rfl) (And.intro (Or.inr rfl) (And.intro (Or.inl rfl) (And.intro (Or.inr rfl) (And.intro (Or.inr rfl) (And.intro (Or.inr rfl) (And.intro (Or.inr rfl) (trivial)))))))))))))) (h.1 c2))) (fun c2 => And.intro (fun c3 => And.intro ((h.2 c2).1 c3).1 (tp_Em ((h.2 c2).1 c3).2 (fun r1 σ1 h1 => And.intro (fun c4 => Exists.intro _ (And.intro (tp_wk_rf _) (tp_E_step (Exists.intro [.ref 58, .int a1, .int a2, .null, .int a4, .int a5, .int a6, .int (-12), .int (a8 + 1), .null, .null, .null, .null] (And.intro (And.intro (Or.inr rfl) (And.intro (Or.inr rfl) (And.intro (Or.inr rfl) (And.intro (Or.inr rfl) (And.intro (Or.inr rfl) (And.intro (Or.inr rfl) (And.intro (Or.inr rfl) (And.intro (Or.inr rfl) (And.intro (Or.inr rfl) (And.intro (Or.inl rfl) (And.intro (Or.inr rfl) (And.intro (Or.inr rfl) (And.intro (Or.inr rfl) (trivial)))))))))))))) (h1.1 c4)))))) (fun c4 => Exists.intro _ (And.intro (tp_wk_rf _) (tp_E_step (And.intro (h1.2 c4).1 (And.intro (h1.2 c4).2.1 (tp_Em (h1.2 c4).2.2 (fun r5 σ5 h5 => And.intro (fun c6 => Exists.intro _ (And.intro (tp_wk_rf _) (tp_E_step (Exists.intro _ (And.intro (tp_wk_rf _) (tp_E_step (Exists.intro _ (And.intro (tp_wk_rf _) (tp_E_step (Exists.intro [.ref 58, .int a1, .int a2, .null, .int a4, .int a5, .int a6, .int 0, .int (a8 + 1), .null, .null, .null, .null] (And.intro (And.intro (Or.inr rfl) (And.intro (Or.inr rfl) (And.intro (Or.inr rfl) (And.intro (Or.inr rfl) (And.intro (Or.inr rfl) (And.intro (Or.inr rfl) (And.intro (Or.inr rfl) (And.intro (Or.inr rfl) (And.intro (Or.inr rfl) (And.intro (Or.inl rfl) (And.intro (Or.inr rfl) (And.intro (Or.inl rfl) (And.intro (Or.inl rfl) (trivial)))))))))))))) (h5.1 c6)))))))))))) (fun c6 => Exists.intro _ (And.intro (tp_wk_rf _) (tp_E_step (Exists.intro _ (And.intro (tp_wk_rf _) (tp_E_step (Exists.intro [.ref 58, .int a1, .int a2, .null, .int a4, .int a5, .int a6, .int ((-20) + r5), .int (a8 + 1), .null, .null, .null, .null] (And.intro (And.intro (Or.inr rfl) (And.intro (Or.inr rfl) (And.intro (Or.inr rfl) (And.intro (Or.inr rfl) (And.intro (Or.inr rfl) (And.intro (Or.inr rfl) (And.intro (Or.inr rfl) (And.intro (Or.inr rfl) (And.intro (Or.inr rfl) (And.intro (Or.inl rfl) (And.intro (Or.inr rfl) (And.intro (Or.inl rfl) (And.intro (Or.inl rfl) (trivial)))))))))))))) (h5.2 c6))))))))))))))))))) (fun c3 => Exists.intro [.ref 58, .int a1, .null, .null, .null, .int a5, .int a6, .int a7, .null, .null, .null, .null, .null] (And.intro (And.intro (Or.inr rfl) (And.intro (Or.inr rfl) (And.intro (Or.inl rfl) (And.intro (Or.inr rfl) (And.intro (Or.inl rfl) (And.intro (Or.inr rfl) (And.intro (Or.inr rfl) (And.intro (Or.inr rfl) (And.intro (Or.inl rfl) (And.intro (Or.inr rfl) (And.intro (Or.inr rfl) (And.intro (Or.inr rfl) (And.intro (Or.inr rfl) (trivial)))))))))))))) ((h.2 c2).2 c3)))))
/-- X10_scan (IIIII)I, 191 -/
theorem sg_116_191 {post : Int32 → tp_St → Prop} {σ : tp_St} (a1 : Int32) (a5 : Int32) (a6 : Int32) (a7 : Int32)  (h : (0 ≤ a7 →
(0 ≤ a7 →
post a5 σ) ∧ (¬ 0 ≤ a7 →
post a7 σ)) ∧ (¬ 0 ≤ a7 →
((σ.1 58 9) ≤ a6 →
(0 ≤ a7 →
post a5 σ) ∧ (¬ 0 ≤ a7 →
post a7 σ)) ∧ (¬ (σ.1 58 9) ≤ a6 →
vp_in a1 16 ∧
vp_in ((σ.1 58 9) - 1) 200 ∧
vp_in ((5 * (σ.1 63 (a1).toNatClampNeg)) + (σ.1 67 (((σ.1 58 9) - 1)).toNatClampNeg)) 30 ∧
vp_in ((5 * (σ.1 63 (a1).toNatClampNeg)) + (σ.1 67 (((σ.1 58 9) - 1)).toNatClampNeg)) 30 ∧
tp_E 116 191 [.ref 58, .int a1, .null, .null, .null, .int a5, .int a6, .int a7, .null, .null, .null, .null, .null] [] (tp_set (tp_set σ 61 (((5 * (σ.1 63 (a1).toNatClampNeg)) + (σ.1 67 (((σ.1 58 9) - 1)).toNatClampNeg))).toNatClampNeg ((σ.1 61 (((5 * (σ.1 63 (a1).toNatClampNeg)) + (σ.1 67 (((σ.1 58 9) - 1)).toNatClampNeg))).toNatClampNeg) - 1)) 58 9 ((σ.1 58 9) - 1)) post))) : tp_E 116 191 [.ref 58, .int a1, .null, .null, .null, .int a5, .int a6, .int a7, .null, .null, .null, .null, .null] [] σ post := tp_E_step (And.intro (fun c1 => Exists.intro _ (And.intro (tp_wk_rf _) (tp_E_step (And.intro (fun c2 => Exists.intro _ (And.intro (tp_wk_rf _) (tp_E_step (Exists.intro _ (And.intro (tp_wk_rf _) (tp_E_step (And.intro rfl ((h.1 c1).1 c2)))))))) (fun c2 => Exists.intro _ (And.intro (tp_wk_rf _) (tp_E_step (And.intro rfl ((h.1 c1).2 c2))))))))) (fun c1 => And.intro (fun c3 => Exists.intro _ (And.intro (tp_wk_rf _) (tp_E_step (And.intro (fun c4 => Exists.intro _ (And.intro (tp_wk_rf _) (tp_E_step (Exists.intro _ (And.intro (tp_wk_rf _) (tp_E_step (And.intro rfl (((h.2 c1).1 c3).1 c4)))))))) (fun c4 => Exists.intro _ (And.intro (tp_wk_rf _) (tp_E_step (And.intro rfl (((h.2 c1).1 c3).2 c4))))))))) (fun c3 => And.intro ((h.2 c1).2 c3).1 (And.intro ((h.2 c1).2 c3).2.1 (And.intro ((h.2 c1).2 c3).2.2.1 (And.intro ((h.2 c1).2 c3).2.2.2.1 (Exists.intro [.ref 58, .int a1, .null, .null, .null, .int a5, .int a6, .int a7, .null, .null, .null, .null, .null] (And.intro (And.intro (Or.inr rfl) (And.intro (Or.inr rfl) (And.intro (Or.inr rfl) (And.intro (Or.inr rfl) (And.intro (Or.inr rfl) (And.intro (Or.inr rfl) (And.intro (Or.inr rfl) (And.intro (Or.inr rfl) (And.intro (Or.inr rfl) (And.intro (Or.inr rfl) (And.intro (Or.inr rfl) (And.intro (Or.inr rfl) (And.intro (Or.inr rfl) (trivial)))))))))))))) ((h.2 c1).2 c3).2.2.2.2))))))))
/-- X10_waybill (III)I, 0 -/
theorem sg_117_0 {post : Int32 → tp_St → Prop} {σ : tp_St} (a1 : Int32) (a2 : Int32) (a3 : Int32)  (h : tp_E 107 0 [.ref 58, .int a1] [] σ (fun r1 σ1 =>
(r1 = 0 →
post (-1) σ1) ∧ (¬ r1 = 0 →
tp_E 101 0 [.long (a2).toInt64, .null, .long (Int64.ofNat 0), .null, .long (((σ1.1 58 0) - 1)).toInt64, .null] [] σ1 (fun r2 σ2 =>
(r2 = 0 →
post (-1) σ2) ∧ (¬ r2 = 0 →
tp_E 101 0 [.long (a3).toInt64, .null, .long (Int64.ofNat 0), .null, .long (Int64.ofNat 2), .null] [] σ2 (fun r3 σ3 =>
(r3 = 0 →
post (-1) σ3) ∧ (¬ r3 = 0 →
tp_E 117 52 [.ref 58, .int a1, .int a2, .int a3, .int 0, .int (-4), .int (-4), .int 0] [] σ3 post))))))) : tp_E 117 0 [.ref 58, .int a1, .int a2, .int a3, .null, .null, .null, .null] [] σ post := tp_E_step (tp_Em h (fun r1 σ1 h1 => And.intro (fun c4 => Exists.intro _ (And.intro (tp_wk_rf _) (tp_E_step (And.intro rfl (h1.1 c4))))) (fun c4 => tp_Em (h1.2 c4) (fun r2 σ2 h2 => And.intro (fun c5 => Exists.intro _ (And.intro (tp_wk_rf _) (tp_E_step (And.intro rfl (h2.1 c5))))) (fun c5 => tp_Em (h2.2 c5) (fun r3 σ3 h3 => And.intro (fun c6 => Exists.intro _ (And.intro (tp_wk_rf _) (tp_E_step (And.intro rfl (h3.1 c6))))) (fun c6 => Exists.intro _ (And.intro (tp_wk_rf _) (tp_E_step (Exists.intro [.ref 58, .int a1, .int a2, .int a3, .int 0, .int (-4), .int (-4), .int 0] (And.intro (And.intro (Or.inr rfl) (And.intro (Or.inr rfl) (And.intro (Or.inr rfl) (And.intro (Or.inr rfl) (And.intro (Or.inr rfl) (And.intro (Or.inr rfl) (And.intro (Or.inr rfl) (And.intro (Or.inr rfl) (trivial))))))))) (h3.2 c6))))))))))))
/-- X10_waybill (III)I, 52 -/
theorem sg_117_52 {post : Int32 → tp_St → Prop} {σ : tp_St} (a1 : Int32) (a2 : Int32) (a3 : Int32) (a4 : Int32) (a5 : Int32) (a6 : Int32) (a7 : Int32)  (h : ((σ.1 58 9) ≤ a7 →
(a3 = 0 →
post a4 σ) ∧ (¬ a3 = 0 →
(a3 = 1 →
post a5 σ) ∧ (¬ a3 = 1 →
post a6 σ))) ∧ (¬ (σ.1 58 9) ≤ a7 →
vp_in a7 200 ∧
((σ.1 66 (a7).toNatClampNeg) = a1 →
vp_in a7 200 ∧
((σ.1 67 (a7).toNatClampNeg) = a2 →
(a4 = 0 →
vp_in a7 200 ∧
vp_in a7 200 ∧
tp_E 117 52 [.ref 58, .int a1, .int a2, .int a3, .int (a4 + 1), .int (σ.1 69 (a7).toNatClampNeg), .int (σ.1 69 (a7).toNatClampNeg), .int (a7 + 1)] [] σ post) ∧ (¬ a4 = 0 →
vp_in a7 200 ∧
tp_E 117 52 [.ref 58, .int a1, .int a2, .int a3, .int (a4 + 1), .int a5, .int (σ.1 69 (a7).toNatClampNeg), .int (a7 + 1)] [] σ post)) ∧ (¬ (σ.1 67 (a7).toNatClampNeg) = a2 →
tp_E 117 52 [.ref 58, .int a1, .int a2, .int a3, .int a4, .int a5, .int a6, .int (a7 + 1)] [] σ post)) ∧ (¬ (σ.1 66 (a7).toNatClampNeg) = a1 →
tp_E 117 52 [.ref 58, .int a1, .int a2, .int a3, .int a4, .int a5, .int a6, .int (a7 + 1)] [] σ post))) : tp_E 117 52 [.ref 58, .int a1, .int a2, .int a3, .int a4, .int a5, .int a6, .int a7] [] σ post := tp_E_step (And.intro (fun c1 => Exists.intro _ (And.intro (tp_wk_rf _) (tp_E_step (And.intro (fun c2 => Exists.intro _ (And.intro (tp_wk_rf _) (tp_E_step (And.intro rfl ((h.1 c1).1 c2))))) (fun c2 => Exists.intro _ (And.intro (tp_wk_rf _) (tp_E_step (And.intro (fun c3 => Exists.intro _ (And.intro (tp_wk_rf _) (tp_E_step (And.intro rfl (((h.1 c1).2 c2).1 c3))))) (fun c3 => Exists.intro _ (And.intro (tp_wk_rf _) (tp_E_step (Exists.intro _ (And.intro (tp_wk_rf _) (tp_E_step (And.intro rfl (((h.1 c1).2 c2).2 c3)))))))))))))))) (fun c1 => And.intro (h.2 c1).1 (And.intro (fun c4 => And.intro ((h.2 c1).2.1 c4).1 (And.intro (fun c5 => And.intro (fun c6 => And.intro ((((h.2 c1).2.1 c4).2.1 c5).1 c6).1 (Exists.intro _ (And.intro (tp_wk_rf _) (tp_E_step (And.intro ((((h.2 c1).2.1 c4).2.1 c5).1 c6).2.1 (Exists.intro _ (And.intro (tp_wk_rf _) (tp_E_step (Exists.intro [.ref 58, .int a1, .int a2, .int a3, .int (a4 + 1), .int (σ.1 69 (a7).toNatClampNeg), .int (σ.1 69 (a7).toNatClampNeg), .int (a7 + 1)] (And.intro (And.intro (Or.inr rfl) (And.intro (Or.inr rfl) (And.intro (Or.inr rfl) (And.intro (Or.inr rfl) (And.intro (Or.inr rfl) (And.intro (Or.inr rfl) (And.intro (Or.inr rfl) (And.intro (Or.inr rfl) (trivial))))))))) ((((h.2 c1).2.1 c4).2.1 c5).1 c6).2.2)))))))))) (fun c6 => Exists.intro _ (And.intro (tp_wk_rf _) (tp_E_step (Exists.intro _ (And.intro (tp_wk_rf _) (tp_E_step (And.intro ((((h.2 c1).2.1 c4).2.1 c5).2 c6).1 (Exists.intro _ (And.intro (tp_wk_rf _) (tp_E_step (Exists.intro [.ref 58, .int a1, .int a2, .int a3, .int (a4 + 1), .int a5, .int (σ.1 69 (a7).toNatClampNeg), .int (a7 + 1)] (And.intro (And.intro (Or.inr rfl) (And.intro (Or.inr rfl) (And.intro (Or.inr rfl) (And.intro (Or.inr rfl) (And.intro (Or.inr rfl) (And.intro (Or.inr rfl) (And.intro (Or.inr rfl) (And.intro (Or.inr rfl) (trivial))))))))) ((((h.2 c1).2.1 c4).2.1 c5).2 c6).2))))))))))))) (fun c5 => Exists.intro _ (And.intro (tp_wk_rf _) (tp_E_step (Exists.intro [.ref 58, .int a1, .int a2, .int a3, .int a4, .int a5, .int a6, .int (a7 + 1)] (And.intro (And.intro (Or.inr rfl) (And.intro (Or.inr rfl) (And.intro (Or.inr rfl) (And.intro (Or.inr rfl) (And.intro (Or.inr rfl) (And.intro (Or.inr rfl) (And.intro (Or.inr rfl) (And.intro (Or.inr rfl) (trivial))))))))) (((h.2 c1).2.1 c4).2.2 c5)))))))) (fun c4 => Exists.intro _ (And.intro (tp_wk_rf _) (tp_E_step (Exists.intro [.ref 58, .int a1, .int a2, .int a3, .int a4, .int a5, .int a6, .int (a7 + 1)] (And.intro (And.intro (Or.inr rfl) (And.intro (Or.inr rfl) (And.intro (Or.inr rfl) (And.intro (Or.inr rfl) (And.intro (Or.inr rfl) (And.intro (Or.inr rfl) (And.intro (Or.inr rfl) (And.intro (Or.inr rfl) (trivial))))))))) ((h.2 c1).2.2 c4)))))))))
/-- X10_money (I)I, 0 -/
theorem sg_118_0 {post : Int32 → tp_St → Prop} {σ : tp_St} (a1 : Int32)  (h : tp_E 107 0 [.ref 58, .int a1] [] σ (fun r1 σ1 =>
(r1 = 0 →
post (-1) σ1) ∧ (¬ r1 = 0 →
tp_E 108 0 [.ref 58, .int a1, .null, .null] [] σ1 (fun r2 σ2 =>
post r2 σ2)))) : tp_E 118 0 [.ref 58, .int a1] [] σ post := tp_E_step (tp_Em h (fun r1 σ1 h1 => And.intro (fun c3 => Exists.intro _ (And.intro (tp_wk_rf _) (tp_E_step (Exists.intro _ (And.intro (tp_wk_rf _) (tp_E_step (And.intro rfl (h1.1 c3)))))))) (fun c3 => tp_Em (h1.2 c3) (fun r2 σ2 h2 => Exists.intro _ (And.intro (tp_wk_rf _) (tp_E_step (And.intro rfl h2)))))))
/-- X10_paid (II)I, 0 -/
theorem sg_119_0 {post : Int32 → tp_St → Prop} {σ : tp_St} (a1 : Int32) (a2 : Int32)  (h : tp_E 101 0 [.long (a1).toInt64, .null, .long (Int64.ofNat 0), .null, .long (Int64.ofNat 5), .null] [] σ (fun r1 σ1 =>
(r1 = 0 →
post (-1000000) σ1) ∧ (¬ r1 = 0 →
tp_E 101 0 [.long (a2).toInt64, .null, .long (Int64.ofNat 0), .null, .long (Int64.ofNat 100000), .null] [] σ1 (fun r2 σ2 =>
(r2 = 0 →
post (-1000000) σ2) ∧ (¬ r2 = 0 →
tp_E 119 32 [.ref 58, .int a1, .null, .int a2, .int 0] [] σ2 post))))) : tp_E 119 0 [.ref 58, .int a1, .int a2, .null, .null] [] σ post := tp_E_step (tp_Em h (fun r1 σ1 h1 => And.intro (fun c3 => Exists.intro _ (And.intro (tp_wk_rf _) (tp_E_step (And.intro rfl (h1.1 c3))))) (fun c3 => tp_Em (h1.2 c3) (fun r2 σ2 h2 => And.intro (fun c4 => Exists.intro _ (And.intro (tp_wk_rf _) (tp_E_step (And.intro rfl (h2.1 c4))))) (fun c4 => Exists.intro _ (And.intro (tp_wk_rf _) (tp_E_step (Exists.intro [.ref 58, .int a1, .null, .int a2, .int 0] (And.intro (And.intro (Or.inr rfl) (And.intro (Or.inr rfl) (And.intro (Or.inl rfl) (And.intro (Or.inr rfl) (And.intro (Or.inr rfl) (trivial)))))) (h2.2 c4))))))))))
/-- X10_paid (II)I, 32 -/
theorem sg_119_32 {post : Int32 → tp_St → Prop} {σ : tp_St} (a1 : Int32) (a3 : Int32) (a4 : Int32)  (h : ((σ.1 58 5) ≤ a4 →
post a3 σ) ∧ (¬ (σ.1 58 5) ≤ a4 →
vp_in a4 16 ∧
((σ.1 63 (a4).toNatClampNeg) = a1 →
vp_in a4 16 ∧
((σ.1 65 (a4).toNatClampNeg) = 0 →
tp_E 108 0 [.ref 58, .int a4, .null, .null] [] σ (fun r1 σ1 =>
tp_E 119 32 [.ref 58, .int a1, .null, .int (a3 - r1), .int (a4 + 1)] [] σ1 post)) ∧ (¬ (σ.1 65 (a4).toNatClampNeg) = 0 →
tp_E 119 32 [.ref 58, .int a1, .null, .int (a3 - 0), .int (a4 + 1)] [] σ post)) ∧ (¬ (σ.1 63 (a4).toNatClampNeg) = a1 →
tp_E 119 32 [.ref 58, .int a1, .null, .int (a3 - 0), .int (a4 + 1)] [] σ post))) : tp_E 119 32 [.ref 58, .int a1, .null, .int a3, .int a4] [] σ post := tp_E_step (And.intro (fun c2 => Exists.intro _ (And.intro (tp_wk_rf _) (tp_E_step (And.intro rfl (h.1 c2))))) (fun c2 => And.intro (h.2 c2).1 (And.intro (fun c3 => And.intro ((h.2 c2).2.1 c3).1 (And.intro (fun c4 => tp_Em (((h.2 c2).2.1 c3).2.1 c4) (fun r1 σ1 h1 => Exists.intro _ (And.intro (tp_wk_rf _) (tp_E_step (Exists.intro [.ref 58, .int a1, .null, .int (a3 - r1), .int (a4 + 1)] (And.intro (And.intro (Or.inr rfl) (And.intro (Or.inr rfl) (And.intro (Or.inr rfl) (And.intro (Or.inr rfl) (And.intro (Or.inr rfl) (trivial)))))) h1)))))) (fun c4 => Exists.intro _ (And.intro (tp_wk_rf _) (tp_E_step (Exists.intro _ (And.intro (tp_wk_rf _) (tp_E_step (Exists.intro [.ref 58, .int a1, .null, .int (a3 - 0), .int (a4 + 1)] (And.intro (And.intro (Or.inr rfl) (And.intro (Or.inr rfl) (And.intro (Or.inr rfl) (And.intro (Or.inr rfl) (And.intro (Or.inr rfl) (trivial)))))) (((h.2 c2).2.1 c3).2.2 c4))))))))))) (fun c3 => Exists.intro _ (And.intro (tp_wk_rf _) (tp_E_step (Exists.intro _ (And.intro (tp_wk_rf _) (tp_E_step (Exists.intro [.ref 58, .int a1, .null, .int (a3 - 0), .int (a4 + 1)] (And.intro (And.intro (Or.inr rfl) (And.intro (Or.inr rfl) (And.intro (Or.inr rfl) (And.intro (Or.inr rfl) (And.intro (Or.inr rfl) (trivial)))))) ((h.2 c2).2.2 c3))))))))))))
/-- X10_beginOf (II)I, 0 -/
theorem sg_120_0 {post : Int32 → tp_St → Prop} {σ : tp_St} (a1 : Int32) (a2 : Int32)  (h : vp_in a1 16 ∧
((σ.1 64 (a1).toNatClampNeg) = 0 →
post (8 - a2) σ) ∧ (¬ (σ.1 64 (a1).toNatClampNeg) = 0 →
post a2 σ)) : tp_E 120 0 [.ref 58, .int a1, .int a2] [] σ post := tp_E_step (And.intro h.1 (And.intro (fun c1 => Exists.intro _ (And.intro (tp_wk_rf _) (tp_E_step (Exists.intro _ (And.intro (tp_wk_rf _) (tp_E_step (And.intro rfl (h.2.1 c1)))))))) (fun c1 => Exists.intro _ (And.intro (tp_wk_rf _) (tp_E_step (And.intro rfl (h.2.2 c1)))))))
/-- X10_aboardOf (IIZ)I, 0 -/
theorem sg_121_0 {post : Int32 → tp_St → Prop} {σ : tp_St} (a1 : Int32) (a2 : Int32) (a3 : Int32)  (h : tp_E 120 0 [.ref 58, .int a1, .int a2] [] σ (fun r1 σ1 =>
tp_E 121 14 [.ref 58, .int a1, .null, .int a3, .int r1, .int 0, .int 0, .null] [] σ1 post)) : tp_E 121 0 [.ref 58, .int a1, .int a2, .int a3, .null, .null, .null, .null] [] σ post := tp_E_step (tp_Em h (fun r1 σ1 h1 => Exists.intro [.ref 58, .int a1, .null, .int a3, .int r1, .int 0, .int 0, .null] (And.intro (And.intro (Or.inr rfl) (And.intro (Or.inr rfl) (And.intro (Or.inl rfl) (And.intro (Or.inr rfl) (And.intro (Or.inr rfl) (And.intro (Or.inr rfl) (And.intro (Or.inr rfl) (And.intro (Or.inr rfl) (trivial))))))))) h1)))
/-- X10_aboardOf (IIZ)I, 14 -/
theorem sg_121_14 {post : Int32 → tp_St → Prop} {σ : tp_St} (a1 : Int32) (a3 : Int32) (a4 : Int32) (a5 : Int32) (a6 : Int32)  (h : ((σ.1 58 9) ≤ a6 →
post a5 σ) ∧ (¬ (σ.1 58 9) ≤ a6 →
vp_in a6 200 ∧
((σ.1 66 (a6).toNatClampNeg) = a1 →
vp_in a6 200 ∧
tp_E 110 0 [.ref 58, .int a1, .int (σ.1 68 (a6).toNatClampNeg)] [] σ (fun r1 σ1 =>
(a3 = 0 →
(r1 = a4 →
tp_E 121 14 [.ref 58, .int a1, .null, .int a3, .int a4, .int (a5 + 1), .int (a6 + 1), .null] [] σ1 post) ∧ (¬ r1 = a4 →
tp_E 121 14 [.ref 58, .int a1, .null, .int a3, .int a4, .int (a5 + 0), .int (a6 + 1), .null] [] σ1 post)) ∧ (¬ a3 = 0 →
(a4 < r1 →
tp_E 121 14 [.ref 58, .int a1, .null, .int a3, .int a4, .int (a5 + 0), .int (a6 + 1), .null] [] σ1 post) ∧ (¬ a4 < r1 →
vp_in a6 200 ∧
vp_in (σ1.1 67 (a6).toNatClampNeg) 5 ∧
((r1 + (σ1.1 60 ((σ1.1 67 (a6).toNatClampNeg)).toNatClampNeg)) ≤ a4 →
tp_E 121 14 [.ref 58, .int a1, .null, .int a3, .int a4, .int (a5 + 0), .int (a6 + 1), .null] [] σ1 post) ∧ (¬ (r1 + (σ1.1 60 ((σ1.1 67 (a6).toNatClampNeg)).toNatClampNeg)) ≤ a4 →
tp_E 121 14 [.ref 58, .int a1, .null, .int a3, .int a4, .int (a5 + 1), .int (a6 + 1), .null] [] σ1 post))))) ∧ (¬ (σ.1 66 (a6).toNatClampNeg) = a1 →
tp_E 121 14 [.ref 58, .int a1, .null, .int a3, .int a4, .int a5, .int (a6 + 1), .null] [] σ post))) : tp_E 121 14 [.ref 58, .int a1, .null, .int a3, .int a4, .int a5, .int a6, .null] [] σ post := tp_E_step (And.intro (fun c2 => Exists.intro _ (And.intro (tp_wk_rf _) (tp_E_step (And.intro rfl (h.1 c2))))) (fun c2 => And.intro (h.2 c2).1 (And.intro (fun c3 => And.intro ((h.2 c2).2.1 c3).1 (tp_Em ((h.2 c2).2.1 c3).2 (fun r1 σ1 h1 => And.intro (fun c4 => Exists.intro _ (And.intro (tp_wk_rf _) (tp_E_step (And.intro (fun c5 => Exists.intro _ (And.intro (tp_wk_rf _) (tp_E_step (Exists.intro _ (And.intro (tp_wk_rf _) (tp_E_step (Exists.intro [.ref 58, .int a1, .null, .int a3, .int a4, .int (a5 + 1), .int (a6 + 1), .null] (And.intro (And.intro (Or.inr rfl) (And.intro (Or.inr rfl) (And.intro (Or.inr rfl) (And.intro (Or.inr rfl) (And.intro (Or.inr rfl) (And.intro (Or.inr rfl) (And.intro (Or.inr rfl) (And.intro (Or.inl rfl) (trivial))))))))) ((h1.1 c4).1 c5))))))))) (fun c5 => Exists.intro _ (And.intro (tp_wk_rf _) (tp_E_step (Exists.intro _ (And.intro (tp_wk_rf _) (tp_E_step (Exists.intro _ (And.intro (tp_wk_rf _) (tp_E_step (Exists.intro [.ref 58, .int a1, .null, .int a3, .int a4, .int (a5 + 0), .int (a6 + 1), .null] (And.intro (And.intro (Or.inr rfl) (And.intro (Or.inr rfl) (And.intro (Or.inr rfl) (And.intro (Or.inr rfl) (And.intro (Or.inr rfl) (And.intro (Or.inr rfl) (And.intro (Or.inr rfl) (And.intro (Or.inl rfl) (trivial))))))))) ((h1.1 c4).2 c5)))))))))))))))) (fun c4 => And.intro (fun c6 => Exists.intro _ (And.intro (tp_wk_rf _) (tp_E_step (Exists.intro _ (And.intro (tp_wk_rf _) (tp_E_step (Exists.intro _ (And.intro (tp_wk_rf _) (tp_E_step (Exists.intro [.ref 58, .int a1, .null, .int a3, .int a4, .int (a5 + 0), .int (a6 + 1), .null] (And.intro (And.intro (Or.inr rfl) (And.intro (Or.inr rfl) (And.intro (Or.inr rfl) (And.intro (Or.inr rfl) (And.intro (Or.inr rfl) (And.intro (Or.inr rfl) (And.intro (Or.inr rfl) (And.intro (Or.inl rfl) (trivial))))))))) ((h1.2 c4).1 c6)))))))))))) (fun c6 => And.intro ((h1.2 c4).2 c6).1 (And.intro ((h1.2 c4).2 c6).2.1 (And.intro (fun c7 => Exists.intro _ (And.intro (tp_wk_rf _) (tp_E_step (Exists.intro _ (And.intro (tp_wk_rf _) (tp_E_step (Exists.intro _ (And.intro (tp_wk_rf _) (tp_E_step (Exists.intro [.ref 58, .int a1, .null, .int a3, .int a4, .int (a5 + 0), .int (a6 + 1), .null] (And.intro (And.intro (Or.inr rfl) (And.intro (Or.inr rfl) (And.intro (Or.inr rfl) (And.intro (Or.inr rfl) (And.intro (Or.inr rfl) (And.intro (Or.inr rfl) (And.intro (Or.inr rfl) (And.intro (Or.inl rfl) (trivial))))))))) (((h1.2 c4).2 c6).2.2.1 c7)))))))))))) (fun c7 => Exists.intro _ (And.intro (tp_wk_rf _) (tp_E_step (Exists.intro _ (And.intro (tp_wk_rf _) (tp_E_step (Exists.intro [.ref 58, .int a1, .null, .int a3, .int a4, .int (a5 + 1), .int (a6 + 1), .null] (And.intro (And.intro (Or.inr rfl) (And.intro (Or.inr rfl) (And.intro (Or.inr rfl) (And.intro (Or.inr rfl) (And.intro (Or.inr rfl) (And.intro (Or.inr rfl) (And.intro (Or.inr rfl) (And.intro (Or.inl rfl) (trivial))))))))) (((h1.2 c4).2 c6).2.2.2 c7)))))))))))))))) (fun c3 => Exists.intro _ (And.intro (tp_wk_rf _) (tp_E_step (Exists.intro [.ref 58, .int a1, .null, .int a3, .int a4, .int a5, .int (a6 + 1), .null] (And.intro (And.intro (Or.inr rfl) (And.intro (Or.inr rfl) (And.intro (Or.inr rfl) (And.intro (Or.inr rfl) (And.intro (Or.inr rfl) (And.intro (Or.inr rfl) (And.intro (Or.inr rfl) (And.intro (Or.inr rfl) (trivial))))))))) ((h.2 c2).2.2 c3)))))))))
/-- X10_aboard (III)I, 0 -/
theorem sg_122_0 {post : Int32 → tp_St → Prop} {σ : tp_St} (a1 : Int32) (a2 : Int32) (a3 : Int32)  (h : tp_E 107 0 [.ref 58, .int a1] [] σ (fun r1 σ1 =>
(r1 = 0 →
post (-1) σ1) ∧ (¬ r1 = 0 →
tp_E 101 0 [.long (a2).toInt64, .null, .long (Int64.ofNat 0), .null, .long (Int64.ofNat 8), .null] [] σ1 (fun r2 σ2 =>
(r2 = 0 →
post (-1) σ2) ∧ (¬ r2 = 0 →
tp_E 101 0 [.long (a3).toInt64, .null, .long (Int64.ofNat 0), .null, .long (Int64.ofNat 1), .null] [] σ2 (fun r3 σ3 =>
(r3 = 0 →
post (-1) σ3) ∧ (¬ r3 = 0 →
(a3 = 1 →
tp_E 121 0 [.ref 58, .int a1, .int a2, .int 1, .null, .null, .null, .null] [] σ3 (fun r4 σ4 =>
post r4 σ4)) ∧ (¬ a3 = 1 →
tp_E 121 0 [.ref 58, .int a1, .int a2, .int 0, .null, .null, .null, .null] [] σ3 (fun r5 σ5 =>
post r5 σ5))))))))) : tp_E 122 0 [.ref 58, .int a1, .int a2, .int a3] [] σ post := tp_E_step (tp_Em h (fun r1 σ1 h1 => And.intro (fun c4 => Exists.intro _ (And.intro (tp_wk_rf _) (tp_E_step (Exists.intro _ (And.intro (tp_wk_rf _) (tp_E_step (And.intro rfl (h1.1 c4)))))))) (fun c4 => tp_Em (h1.2 c4) (fun r2 σ2 h2 => And.intro (fun c5 => Exists.intro _ (And.intro (tp_wk_rf _) (tp_E_step (Exists.intro _ (And.intro (tp_wk_rf _) (tp_E_step (And.intro rfl (h2.1 c5)))))))) (fun c5 => tp_Em (h2.2 c5) (fun r3 σ3 h3 => And.intro (fun c6 => Exists.intro _ (And.intro (tp_wk_rf _) (tp_E_step (Exists.intro _ (And.intro (tp_wk_rf _) (tp_E_step (And.intro rfl (h3.1 c6)))))))) (fun c6 => And.intro (fun c7 => Exists.intro _ (And.intro (tp_wk_rf _) (tp_E_step (tp_Em ((h3.2 c6).1 c7) (fun r8 σ8 h8 => Exists.intro _ (And.intro (tp_wk_rf _) (tp_E_step (And.intro rfl h8)))))))) (fun c7 => Exists.intro _ (And.intro (tp_wk_rf _) (tp_E_step (Exists.intro _ (And.intro (tp_wk_rf _) (tp_E_step (tp_Em ((h3.2 c6).2 c7) (fun r9 σ9 h9 => Exists.intro _ (And.intro (tp_wk_rf _) (tp_E_step (And.intro rfl h9))))))))))))))))))
/-- X10_riders (ZII)I, 0 -/
theorem sg_123_0 {post : Int32 → tp_St → Prop} {σ : tp_St} (a1 : Int32) (a2 : Int32) (a3 : Int32)  (h : tp_E 101 0 [.long (a2).toInt64, .null, .long (Int64.ofNat 0), .null, .long (Int64.ofNat 8), .null] [] σ (fun r1 σ1 =>
(r1 = 0 →
post (-1) σ1) ∧ (¬ r1 = 0 →
tp_E 101 0 [.long (a3).toInt64, .null, .long (Int64.ofNat 0), .null, .long (Int64.ofNat 1), .null] [] σ1 (fun r2 σ2 =>
(r2 = 0 →
post (-1) σ2) ∧ (¬ r2 = 0 →
tp_E 123 30 [.ref 58, .int a1, .int a2, .int a3, .int 0, .int 0] [] σ2 post))))) : tp_E 123 0 [.ref 58, .int a1, .int a2, .int a3, .null, .null] [] σ post := tp_E_step (tp_Em h (fun r1 σ1 h1 => And.intro (fun c3 => Exists.intro _ (And.intro (tp_wk_rf _) (tp_E_step (And.intro rfl (h1.1 c3))))) (fun c3 => tp_Em (h1.2 c3) (fun r2 σ2 h2 => And.intro (fun c4 => Exists.intro _ (And.intro (tp_wk_rf _) (tp_E_step (And.intro rfl (h2.1 c4))))) (fun c4 => Exists.intro _ (And.intro (tp_wk_rf _) (tp_E_step (Exists.intro [.ref 58, .int a1, .int a2, .int a3, .int 0, .int 0] (And.intro (And.intro (Or.inr rfl) (And.intro (Or.inr rfl) (And.intro (Or.inr rfl) (And.intro (Or.inr rfl) (And.intro (Or.inr rfl) (And.intro (Or.inr rfl) (trivial))))))) (h2.2 c4))))))))))
/-- X10_riders (ZII)I, 30 -/
theorem sg_123_30 {post : Int32 → tp_St → Prop} {σ : tp_St} (a1 : Int32) (a2 : Int32) (a3 : Int32) (a4 : Int32) (a5 : Int32)  (h : ((σ.1 58 5) ≤ a5 →
post a4 σ) ∧ (¬ (σ.1 58 5) ≤ a5 →
vp_in a5 16 ∧
((σ.1 64 (a5).toNatClampNeg) = a1 →
(a3 = 1 →
tp_E 121 0 [.ref 58, .int a5, .int a2, .int 1, .null, .null, .null, .null] [] σ (fun r1 σ1 =>
tp_E 123 30 [.ref 58, .int a1, .int a2, .int a3, .int (a4 + r1), .int (a5 + 1)] [] σ1 post)) ∧ (¬ a3 = 1 →
tp_E 121 0 [.ref 58, .int a5, .int a2, .int 0, .null, .null, .null, .null] [] σ (fun r2 σ2 =>
tp_E 123 30 [.ref 58, .int a1, .int a2, .int a3, .int (a4 + r2), .int (a5 + 1)] [] σ2 post))) ∧ (¬ (σ.1 64 (a5).toNatClampNeg) = a1 →
tp_E 123 30 [.ref 58, .int a1, .int a2, .int a3, .int (a4 + 0), .int (a5 + 1)] [] σ post))) : tp_E 123 30 [.ref 58, .int a1, .int a2, .int a3, .int a4, .int a5] [] σ post := tp_E_step (And.intro (fun c1 => Exists.intro _ (And.intro (tp_wk_rf _) (tp_E_step (And.intro rfl (h.1 c1))))) (fun c1 => And.intro (h.2 c1).1 (And.intro (fun c2 => And.intro (fun c3 => Exists.intro _ (And.intro (tp_wk_rf _) (tp_E_step (tp_Em (((h.2 c1).2.1 c2).1 c3) (fun r4 σ4 h4 => Exists.intro _ (And.intro (tp_wk_rf _) (tp_E_step (Exists.intro [.ref 58, .int a1, .int a2, .int a3, .int (a4 + r4), .int (a5 + 1)] (And.intro (And.intro (Or.inr rfl) (And.intro (Or.inr rfl) (And.intro (Or.inr rfl) (And.intro (Or.inr rfl) (And.intro (Or.inr rfl) (And.intro (Or.inr rfl) (trivial))))))) h4))))))))) (fun c3 => Exists.intro _ (And.intro (tp_wk_rf _) (tp_E_step (Exists.intro _ (And.intro (tp_wk_rf _) (tp_E_step (tp_Em (((h.2 c1).2.1 c2).2 c3) (fun r5 σ5 h5 => Exists.intro _ (And.intro (tp_wk_rf _) (tp_E_step (Exists.intro [.ref 58, .int a1, .int a2, .int a3, .int (a4 + r5), .int (a5 + 1)] (And.intro (And.intro (Or.inr rfl) (And.intro (Or.inr rfl) (And.intro (Or.inr rfl) (And.intro (Or.inr rfl) (And.intro (Or.inr rfl) (And.intro (Or.inr rfl) (trivial))))))) h5))))))))))))) (fun c2 => Exists.intro _ (And.intro (tp_wk_rf _) (tp_E_step (Exists.intro _ (And.intro (tp_wk_rf _) (tp_E_step (Exists.intro [.ref 58, .int a1, .int a2, .int a3, .int (a4 + 0), .int (a5 + 1)] (And.intro (And.intro (Or.inr rfl) (And.intro (Or.inr rfl) (And.intro (Or.inr rfl) (And.intro (Or.inr rfl) (And.intro (Or.inr rfl) (And.intro (Or.inr rfl) (trivial))))))) ((h.2 c1).2.2 c2))))))))))))
/-- X10_shown (IIII)I, 0 -/
theorem sg_124_0 {post : Int32 → tp_St → Prop} {σ : tp_St} (a1 : Int32) (a2 : Int32) (a3 : Int32) (a4 : Int32)  (h : tp_E 107 0 [.ref 58, .int a1] [] σ (fun r1 σ1 =>
(r1 = 0 →
post (-1) σ1) ∧ (¬ r1 = 0 →
tp_E 101 0 [.long (a2).toInt64, .null, .long (Int64.ofNat 0), .null, .long (Int64.ofNat 8), .null] [] σ1 (fun r2 σ2 =>
(r2 = 0 →
post (-1) σ2) ∧ (¬ r2 = 0 →
tp_E 101 0 [.long (a3).toInt64, .null, .long (Int64.ofNat 0), .null, .long (((σ2.1 58 0) - 1)).toInt64, .null] [] σ2 (fun r3 σ3 =>
(r3 = 0 →
post (-1) σ3) ∧ (¬ r3 = 0 →
(0 ≤ a4 →
tp_E 124 46 [.ref 58, .int a1, .int a2, .int a3, .int a4, .int 0, .null, .null] [] σ3 post) ∧ (¬ 0 ≤ a4 →
post (-1) σ3)))))))) : tp_E 124 0 [.ref 58, .int a1, .int a2, .int a3, .int a4, .null, .null, .null] [] σ post := tp_E_step (tp_Em h (fun r1 σ1 h1 => And.intro (fun c4 => Exists.intro _ (And.intro (tp_wk_rf _) (tp_E_step (And.intro rfl (h1.1 c4))))) (fun c4 => tp_Em (h1.2 c4) (fun r2 σ2 h2 => And.intro (fun c5 => Exists.intro _ (And.intro (tp_wk_rf _) (tp_E_step (And.intro rfl (h2.1 c5))))) (fun c5 => tp_Em (h2.2 c5) (fun r3 σ3 h3 => And.intro (fun c6 => Exists.intro _ (And.intro (tp_wk_rf _) (tp_E_step (And.intro rfl (h3.1 c6))))) (fun c6 => And.intro (fun c7 => Exists.intro _ (And.intro (tp_wk_rf _) (tp_E_step (Exists.intro [.ref 58, .int a1, .int a2, .int a3, .int a4, .int 0, .null, .null] (And.intro (And.intro (Or.inr rfl) (And.intro (Or.inr rfl) (And.intro (Or.inr rfl) (And.intro (Or.inr rfl) (And.intro (Or.inr rfl) (And.intro (Or.inr rfl) (And.intro (Or.inr rfl) (And.intro (Or.inr rfl) (trivial))))))))) ((h3.2 c6).1 c7)))))) (fun c7 => Exists.intro _ (And.intro (tp_wk_rf _) (tp_E_step (And.intro rfl ((h3.2 c6).2 c7))))))))))))
/-- X10_shown (IIII)I, 46 -/
theorem sg_124_46 {post : Int32 → tp_St → Prop} {σ : tp_St} (a1 : Int32) (a2 : Int32) (a3 : Int32) (a4 : Int32) (a5 : Int32)  (h : ((σ.1 58 9) ≤ a5 →
post 1 σ) ∧ (¬ (σ.1 58 9) ≤ a5 →
vp_in a5 200 ∧
((σ.1 67 (a5).toNatClampNeg) = a3 →
vp_in a5 200 ∧
((σ.1 69 (a5).toNatClampNeg) = a4 →
tp_E 120 0 [.ref 58, .int a1, .int a2] [] σ (fun r1 σ1 =>
vp_in a5 200 ∧
tp_E 110 0 [.ref 58, .int a1, .int (σ1.1 68 (a5).toNatClampNeg)] [] σ1 (fun r2 σ2 =>
vp_in a5 200 ∧
((σ2.1 66 (a5).toNatClampNeg) = a1 →
(r2 ≤ r1 →
vp_in a3 5 ∧
(r1 < (r2 + (σ2.1 60 (a3).toNatClampNeg)) →
post 0 σ2) ∧ (¬ r1 < (r2 + (σ2.1 60 (a3).toNatClampNeg)) →
post 4 σ2)) ∧ (¬ r2 ≤ r1 →
post 3 σ2)) ∧ (¬ (σ2.1 66 (a5).toNatClampNeg) = a1 →
post 2 σ2)))) ∧ (¬ (σ.1 69 (a5).toNatClampNeg) = a4 →
tp_E 124 46 [.ref 58, .int a1, .int a2, .int a3, .int a4, .int (a5 + 1), .null, .null] [] σ post)) ∧ (¬ (σ.1 67 (a5).toNatClampNeg) = a3 →
tp_E 124 46 [.ref 58, .int a1, .int a2, .int a3, .int a4, .int (a5 + 1), .null, .null] [] σ post))) : tp_E 124 46 [.ref 58, .int a1, .int a2, .int a3, .int a4, .int a5, .null, .null] [] σ post := tp_E_step (And.intro (fun c3 => Exists.intro _ (And.intro (tp_wk_rf _) (tp_E_step (And.intro rfl (h.1 c3))))) (fun c3 => And.intro (h.2 c3).1 (And.intro (fun c4 => And.intro ((h.2 c3).2.1 c4).1 (And.intro (fun c5 => tp_Em (((h.2 c3).2.1 c4).2.1 c5) (fun r1 σ1 h1 => And.intro h1.1 (tp_Em h1.2 (fun r2 σ2 h2 => And.intro h2.1 (And.intro (fun c6 => Exists.intro _ (And.intro (tp_wk_rf _) (tp_E_step (And.intro (fun c7 => Exists.intro _ (And.intro (tp_wk_rf _) (tp_E_step (And.intro ((h2.2.1 c6).1 c7).1 (And.intro (fun c8 => Exists.intro _ (And.intro (tp_wk_rf _) (tp_E_step (Exists.intro _ (And.intro (tp_wk_rf _) (tp_E_step (And.intro rfl (((h2.2.1 c6).1 c7).2.1 c8)))))))) (fun c8 => Exists.intro _ (And.intro (tp_wk_rf _) (tp_E_step (And.intro rfl (((h2.2.1 c6).1 c7).2.2 c8)))))))))) (fun c7 => Exists.intro _ (And.intro (tp_wk_rf _) (tp_E_step (And.intro rfl ((h2.2.1 c6).2 c7))))))))) (fun c6 => Exists.intro _ (And.intro (tp_wk_rf _) (tp_E_step (And.intro rfl (h2.2.2 c6)))))))))) (fun c5 => Exists.intro _ (And.intro (tp_wk_rf _) (tp_E_step (Exists.intro [.ref 58, .int a1, .int a2, .int a3, .int a4, .int (a5 + 1), .null, .null] (And.intro (And.intro (Or.inr rfl) (And.intro (Or.inr rfl) (And.intro (Or.inr rfl) (And.intro (Or.inr rfl) (And.intro (Or.inr rfl) (And.intro (Or.inr rfl) (And.intro (Or.inr rfl) (And.intro (Or.inr rfl) (trivial))))))))) (((h.2 c3).2.1 c4).2.2 c5)))))))) (fun c4 => Exists.intro _ (And.intro (tp_wk_rf _) (tp_E_step (Exists.intro [.ref 58, .int a1, .int a2, .int a3, .int a4, .int (a5 + 1), .null, .null] (And.intro (And.intro (Or.inr rfl) (And.intro (Or.inr rfl) (And.intro (Or.inr rfl) (And.intro (Or.inr rfl) (And.intro (Or.inr rfl) (And.intro (Or.inr rfl) (And.intro (Or.inr rfl) (And.intro (Or.inr rfl) (trivial))))))))) ((h.2 c3).2.2 c4)))))))))
/-- X10_heads (III)I, 0 -/
theorem sg_125_0 {post : Int32 → tp_St → Prop} {σ : tp_St} (a1 : Int32) (a2 : Int32) (a3 : Int32)  (h : tp_E 107 0 [.ref 58, .int a1] [] σ (fun r1 σ1 =>
(r1 = 0 →
post (-1000000) σ1) ∧ (¬ r1 = 0 →
tp_E 101 0 [.long (a2).toInt64, .null, .long (Int64.ofNat 0), .null, .long (Int64.ofNat 8), .null] [] σ1 (fun r2 σ2 =>
(r2 = 0 →
post (-1000000) σ2) ∧ (¬ r2 = 0 →
tp_E 101 0 [.long (a3).toInt64, .null, .long (Int64.ofNat 0), .null, .long (Int64.ofNat 1000), .null] [] σ2 (fun r3 σ3 =>
(r3 = 0 →
post (-1000000) σ3) ∧ (¬ r3 = 0 →
tp_E 121 0 [.ref 58, .int a1, .int a2, .int 1, .null, .null, .null, .null] [] σ3 (fun r4 σ4 =>
tp_E 121 0 [.ref 58, .int a1, .int a2, .int 0, .null, .null, .null, .null] [] σ4 (fun r5 σ5 =>
(a3 ≤ r4 →
(r5 ≤ a3 →
post 0 σ5) ∧ (¬ r5 ≤ a3 →
post (a3 - r5) σ5)) ∧ (¬ a3 ≤ r4 →
post (a3 - r4) σ5)))))))))) : tp_E 125 0 [.ref 58, .int a1, .int a2, .int a3, .null, .null] [] σ post := tp_E_step (tp_Em h (fun r1 σ1 h1 => And.intro (fun c4 => Exists.intro _ (And.intro (tp_wk_rf _) (tp_E_step (And.intro rfl (h1.1 c4))))) (fun c4 => tp_Em (h1.2 c4) (fun r2 σ2 h2 => And.intro (fun c5 => Exists.intro _ (And.intro (tp_wk_rf _) (tp_E_step (And.intro rfl (h2.1 c5))))) (fun c5 => tp_Em (h2.2 c5) (fun r3 σ3 h3 => And.intro (fun c6 => Exists.intro _ (And.intro (tp_wk_rf _) (tp_E_step (And.intro rfl (h3.1 c6))))) (fun c6 => Exists.intro _ (And.intro (tp_wk_rf _) (tp_E_step (tp_Em (h3.2 c6) (fun r7 σ7 h7 => tp_Em h7 (fun r8 σ8 h8 => And.intro (fun c9 => Exists.intro _ (And.intro (tp_wk_rf _) (tp_E_step (And.intro (fun c10 => Exists.intro _ (And.intro (tp_wk_rf _) (tp_E_step (Exists.intro _ (And.intro (tp_wk_rf _) (tp_E_step (And.intro rfl ((h8.1 c9).1 c10)))))))) (fun c10 => Exists.intro _ (And.intro (tp_wk_rf _) (tp_E_step (And.intro rfl ((h8.1 c9).2 c10))))))))) (fun c9 => Exists.intro _ (And.intro (tp_wk_rf _) (tp_E_step (And.intro rfl (h8.2 c9)))))))))))))))))
/-- X10_gap (I)I, 0 -/
theorem sg_126_0 {post : Int32 → tp_St → Prop} {σ : tp_St} (a1 : Int32)  (h : tp_E 101 0 [.long (a1).toInt64, .null, .long (Int64.ofNat 0), .null, .long (((σ.1 58 0) - 1)).toInt64, .null] [] σ (fun r1 σ1 =>
(r1 = 0 →
post (-1) σ1) ∧ (¬ r1 = 0 →
tp_E 126 22 [.ref 58, .int a1, .int (-1), .int 0, .null, .null, .null] [] σ1 post))) : tp_E 126 0 [.ref 58, .int a1, .null, .null, .null, .null, .null] [] σ post := tp_E_step (tp_Em h (fun r1 σ1 h1 => And.intro (fun c2 => And.intro rfl (h1.1 c2)) (fun c2 => Exists.intro _ (And.intro (tp_wk_rf _) (tp_E_step (Exists.intro [.ref 58, .int a1, .int (-1), .int 0, .null, .null, .null] (And.intro (And.intro (Or.inr rfl) (And.intro (Or.inr rfl) (And.intro (Or.inr rfl) (And.intro (Or.inr rfl) (And.intro (Or.inr rfl) (And.intro (Or.inr rfl) (And.intro (Or.inr rfl) (trivial)))))))) (h1.2 c2))))))))
/-- X10_gap (I)I, 22 -/
theorem sg_126_22 {post : Int32 → tp_St → Prop} {σ : tp_St} (a1 : Int32) (a2 : Int32) (a3 : Int32)  (h : ((σ.1 58 9) ≤ a3 →
tp_E 126 69 [.ref 58, .int a1, .int a2, .int 0, .null, .null, .null] [] σ post) ∧ (¬ (σ.1 58 9) ≤ a3 →
vp_in a3 200 ∧
((σ.1 67 (a3).toNatClampNeg) = a1 →
vp_in a3 200 ∧
((σ.1 69 (a3).toNatClampNeg) ≤ a2 →
tp_E 126 22 [.ref 58, .int a1, .int a2, .int (a3 + 1), .null, .null, .null] [] σ post) ∧ (¬ (σ.1 69 (a3).toNatClampNeg) ≤ a2 →
vp_in a3 200 ∧
tp_E 126 22 [.ref 58, .int a1, .int (σ.1 69 (a3).toNatClampNeg), .int (a3 + 1), .null, .null, .null] [] σ post)) ∧ (¬ (σ.1 67 (a3).toNatClampNeg) = a1 →
tp_E 126 22 [.ref 58, .int a1, .int a2, .int (a3 + 1), .null, .null, .null] [] σ post))) : tp_E 126 22 [.ref 58, .int a1, .int a2, .int a3, .null, .null, .null] [] σ post := tp_E_step (And.intro (fun c1 => Exists.intro _ (And.intro (tp_wk_rf _) (tp_E_step (Exists.intro [.ref 58, .int a1, .int a2, .int 0, .null, .null, .null] (And.intro (And.intro (Or.inr rfl) (And.intro (Or.inr rfl) (And.intro (Or.inr rfl) (And.intro (Or.inr rfl) (And.intro (Or.inr rfl) (And.intro (Or.inr rfl) (And.intro (Or.inr rfl) (trivial)))))))) (h.1 c1)))))) (fun c1 => And.intro (h.2 c1).1 (And.intro (fun c2 => And.intro ((h.2 c1).2.1 c2).1 (And.intro (fun c3 => Exists.intro _ (And.intro (tp_wk_rf _) (tp_E_step (Exists.intro _ (And.intro (tp_wk_rf _) (tp_E_step (Exists.intro [.ref 58, .int a1, .int a2, .int (a3 + 1), .null, .null, .null] (And.intro (And.intro (Or.inr rfl) (And.intro (Or.inr rfl) (And.intro (Or.inr rfl) (And.intro (Or.inr rfl) (And.intro (Or.inr rfl) (And.intro (Or.inr rfl) (And.intro (Or.inr rfl) (trivial)))))))) (((h.2 c1).2.1 c2).2.1 c3))))))))) (fun c3 => And.intro (((h.2 c1).2.1 c2).2.2 c3).1 (Exists.intro _ (And.intro (tp_wk_rf _) (tp_E_step (Exists.intro [.ref 58, .int a1, .int (σ.1 69 (a3).toNatClampNeg), .int (a3 + 1), .null, .null, .null] (And.intro (And.intro (Or.inr rfl) (And.intro (Or.inr rfl) (And.intro (Or.inr rfl) (And.intro (Or.inr rfl) (And.intro (Or.inr rfl) (And.intro (Or.inr rfl) (And.intro (Or.inr rfl) (trivial)))))))) (((h.2 c1).2.1 c2).2.2 c3).2)))))))) (fun c2 => Exists.intro _ (And.intro (tp_wk_rf _) (tp_E_step (Exists.intro _ (And.intro (tp_wk_rf _) (tp_E_step (Exists.intro [.ref 58, .int a1, .int a2, .int (a3 + 1), .null, .null, .null] (And.intro (And.intro (Or.inr rfl) (And.intro (Or.inr rfl) (And.intro (Or.inr rfl) (And.intro (Or.inr rfl) (And.intro (Or.inr rfl) (And.intro (Or.inr rfl) (And.intro (Or.inr rfl) (trivial)))))))) ((h.2 c1).2.2 c2))))))))))))
/-- X10_gap (I)I, 69 -/
theorem sg_126_69 {post : Int32 → tp_St → Prop} {σ : tp_St} (a1 : Int32) (a2 : Int32) (a3 : Int32)  (h : (a2 ≤ a3 →
post (-4) σ) ∧ (¬ a2 ≤ a3 →
tp_E 126 80 [.ref 58, .int a1, .int a2, .int a3, .int a3, .int 0, .null] [] σ post)) : tp_E 126 69 [.ref 58, .int a1, .int a2, .int a3, .null, .null, .null] [] σ post := tp_E_step (And.intro (fun c1 => Exists.intro _ (And.intro (tp_wk_rf _) (tp_E_step (And.intro rfl (h.1 c1))))) (fun c1 => Exists.intro [.ref 58, .int a1, .int a2, .int a3, .int a3, .int 0, .null] (And.intro (And.intro (Or.inr rfl) (And.intro (Or.inr rfl) (And.intro (Or.inr rfl) (And.intro (Or.inr rfl) (And.intro (Or.inr rfl) (And.intro (Or.inr rfl) (And.intro (Or.inr rfl) (trivial)))))))) (h.2 c1))))
/-- X10_gap (I)I, 80 -/
theorem sg_126_80 {post : Int32 → tp_St → Prop} {σ : tp_St} (a1 : Int32) (a2 : Int32) (a3 : Int32) (a4 : Int32) (a5 : Int32)  (h : ((σ.1 58 9) ≤ a5 →
tp_E 126 130 [.ref 58, .int a1, .int a2, .int a3, .int a4, .int 0, .null] [] σ post) ∧ (¬ (σ.1 58 9) ≤ a5 →
vp_in a5 200 ∧
((σ.1 67 (a5).toNatClampNeg) = a1 →
vp_in a5 200 ∧
((σ.1 69 (a5).toNatClampNeg) = a3 →
tp_E 126 80 [.ref 58, .int a1, .int a2, .int a3, .int (a3 + 1), .int (a5 + 1), .null] [] σ post) ∧ (¬ (σ.1 69 (a5).toNatClampNeg) = a3 →
tp_E 126 80 [.ref 58, .int a1, .int a2, .int a3, .int a4, .int (a5 + 1), .null] [] σ post)) ∧ (¬ (σ.1 67 (a5).toNatClampNeg) = a1 →
tp_E 126 80 [.ref 58, .int a1, .int a2, .int a3, .int a4, .int (a5 + 1), .null] [] σ post))) : tp_E 126 80 [.ref 58, .int a1, .int a2, .int a3, .int a4, .int a5, .null] [] σ post := tp_E_step (And.intro (fun c1 => Exists.intro _ (And.intro (tp_wk_rf _) (tp_E_step (Exists.intro [.ref 58, .int a1, .int a2, .int a3, .int a4, .int 0, .null] (And.intro (And.intro (Or.inr rfl) (And.intro (Or.inr rfl) (And.intro (Or.inr rfl) (And.intro (Or.inr rfl) (And.intro (Or.inr rfl) (And.intro (Or.inr rfl) (And.intro (Or.inr rfl) (trivial)))))))) (h.1 c1)))))) (fun c1 => And.intro (h.2 c1).1 (And.intro (fun c2 => And.intro ((h.2 c1).2.1 c2).1 (And.intro (fun c3 => Exists.intro _ (And.intro (tp_wk_rf _) (tp_E_step (Exists.intro [.ref 58, .int a1, .int a2, .int a3, .int (a3 + 1), .int (a5 + 1), .null] (And.intro (And.intro (Or.inr rfl) (And.intro (Or.inr rfl) (And.intro (Or.inr rfl) (And.intro (Or.inr rfl) (And.intro (Or.inr rfl) (And.intro (Or.inr rfl) (And.intro (Or.inr rfl) (trivial)))))))) (((h.2 c1).2.1 c2).2.1 c3)))))) (fun c3 => Exists.intro _ (And.intro (tp_wk_rf _) (tp_E_step (Exists.intro _ (And.intro (tp_wk_rf _) (tp_E_step (Exists.intro [.ref 58, .int a1, .int a2, .int a3, .int a4, .int (a5 + 1), .null] (And.intro (And.intro (Or.inr rfl) (And.intro (Or.inr rfl) (And.intro (Or.inr rfl) (And.intro (Or.inr rfl) (And.intro (Or.inr rfl) (And.intro (Or.inr rfl) (And.intro (Or.inr rfl) (trivial)))))))) (((h.2 c1).2.1 c2).2.2 c3))))))))))) (fun c2 => Exists.intro _ (And.intro (tp_wk_rf _) (tp_E_step (Exists.intro _ (And.intro (tp_wk_rf _) (tp_E_step (Exists.intro [.ref 58, .int a1, .int a2, .int a3, .int a4, .int (a5 + 1), .null] (And.intro (And.intro (Or.inr rfl) (And.intro (Or.inr rfl) (And.intro (Or.inr rfl) (And.intro (Or.inr rfl) (And.intro (Or.inr rfl) (And.intro (Or.inr rfl) (And.intro (Or.inr rfl) (trivial)))))))) ((h.2 c1).2.2 c2))))))))))))
/-- X10_gap (I)I, 130 -/
theorem sg_126_130 {post : Int32 → tp_St → Prop} {σ : tp_St} (a1 : Int32) (a2 : Int32) (a3 : Int32) (a4 : Int32) (a5 : Int32)  (h : (6 ≤ a5 →
(a4 = a3 →
post a3 σ) ∧ (¬ a4 = a3 →
tp_E 126 69 [.ref 58, .int a1, .int a2, .int a4, .null, .null, .null] [] σ post)) ∧ (¬ 6 ≤ a5 →
vp_in ((5 * a5) + a1) 30 ∧
(a3 < (σ.1 61 (((5 * a5) + a1)).toNatClampNeg) →
tp_E 126 130 [.ref 58, .int a1, .int a2, .int a3, .int a4, .int (a5 + 1), .null] [] σ post) ∧ (¬ a3 < (σ.1 61 (((5 * a5) + a1)).toNatClampNeg) →
vp_in ((5 * a5) + a1) 30 ∧
((σ.1 62 (((5 * a5) + a1)).toNatClampNeg) ≤ a3 →
tp_E 126 130 [.ref 58, .int a1, .int a2, .int a3, .int a4, .int (a5 + 1), .null] [] σ post) ∧ (¬ (σ.1 62 (((5 * a5) + a1)).toNatClampNeg) ≤ a3 →
vp_in ((5 * a5) + a1) 30 ∧
tp_E 126 130 [.ref 58, .int a1, .int a2, .int a3, .int (σ.1 62 (((5 * a5) + a1)).toNatClampNeg), .int (a5 + 1), .null] [] σ post)))) : tp_E 126 130 [.ref 58, .int a1, .int a2, .int a3, .int a4, .int a5, .null] [] σ post := tp_E_step (And.intro (fun c1 => Exists.intro _ (And.intro (tp_wk_rf _) (tp_E_step (And.intro (fun c2 => And.intro rfl ((h.1 c1).1 c2)) (fun c2 => Exists.intro _ (And.intro (tp_wk_rf _) (tp_E_step (Exists.intro [.ref 58, .int a1, .int a2, .int a4, .null, .null, .null] (And.intro (And.intro (Or.inr rfl) (And.intro (Or.inr rfl) (And.intro (Or.inr rfl) (And.intro (Or.inr rfl) (And.intro (Or.inl rfl) (And.intro (Or.inl rfl) (And.intro (Or.inr rfl) (trivial)))))))) ((h.1 c1).2 c2)))))))))) (fun c1 => And.intro (h.2 c1).1 (And.intro (fun c3 => Exists.intro _ (And.intro (tp_wk_rf _) (tp_E_step (Exists.intro _ (And.intro (tp_wk_rf _) (tp_E_step (Exists.intro [.ref 58, .int a1, .int a2, .int a3, .int a4, .int (a5 + 1), .null] (And.intro (And.intro (Or.inr rfl) (And.intro (Or.inr rfl) (And.intro (Or.inr rfl) (And.intro (Or.inr rfl) (And.intro (Or.inr rfl) (And.intro (Or.inr rfl) (And.intro (Or.inl rfl) (trivial)))))))) ((h.2 c1).2.1 c3))))))))) (fun c3 => And.intro ((h.2 c1).2.2 c3).1 (And.intro (fun c4 => Exists.intro _ (And.intro (tp_wk_rf _) (tp_E_step (Exists.intro _ (And.intro (tp_wk_rf _) (tp_E_step (Exists.intro [.ref 58, .int a1, .int a2, .int a3, .int a4, .int (a5 + 1), .null] (And.intro (And.intro (Or.inr rfl) (And.intro (Or.inr rfl) (And.intro (Or.inr rfl) (And.intro (Or.inr rfl) (And.intro (Or.inr rfl) (And.intro (Or.inr rfl) (And.intro (Or.inl rfl) (trivial)))))))) (((h.2 c1).2.2 c3).2.1 c4))))))))) (fun c4 => And.intro (((h.2 c1).2.2 c3).2.2 c4).1 (Exists.intro _ (And.intro (tp_wk_rf _) (tp_E_step (Exists.intro [.ref 58, .int a1, .int a2, .int a3, .int (σ.1 62 (((5 * a5) + a1)).toNatClampNeg), .int (a5 + 1), .null] (And.intro (And.intro (Or.inr rfl) (And.intro (Or.inr rfl) (And.intro (Or.inr rfl) (And.intro (Or.inr rfl) (And.intro (Or.inr rfl) (And.intro (Or.inr rfl) (And.intro (Or.inl rfl) (trivial)))))))) (((h.2 c1).2.2 c3).2.2 c4).2)))))))))))
/-- X10_feed (J)I, 0 -/
theorem sg_127_0 {post : Int32 → tp_St → Prop} {σ : tp_St} (a1 : Int64)  (h : (((σ.1 58 18) + 8) ≤ 200 →
tp_E 127 19 [.ref 58, .long a1, .null, .int 56] [] σ post) ∧ (¬ ((σ.1 58 18) + 8) ≤ 200 →
post (-3) σ)) : tp_E 127 0 [.ref 58, .long a1, .null, .null] [] σ post := tp_E_step (And.intro (fun c1 => Exists.intro _ (And.intro (tp_wk_rf _) (tp_E_step (Exists.intro [.ref 58, .long a1, .null, .int 56] (And.intro (And.intro (Or.inr rfl) (And.intro (Or.inr rfl) (And.intro (Or.inr rfl) (And.intro (Or.inr rfl) (trivial))))) (h.1 c1)))))) (fun c1 => And.intro rfl (h.2 c1)))
/-- X10_feed (J)I, 19 -/
theorem sg_127_19 {post : Int32 → tp_St → Prop} {σ : tp_St} (a1 : Int64) (a3 : Int32)  (h : (a3 < 0 →
post (σ.1 58 18) σ) ∧ (¬ a3 < 0 →
vp_in (σ.1 58 18) 200 ∧
tp_E 127 19 [.ref 58, .long a1, .null, .int (a3 + (-8))] [] (tp_set (tp_set σ 73 ((σ.1 58 18)).toNatClampNeg (((a1 >>> ((a3).toInt64 &&& 63))).toInt32 &&& 255)) 58 18 ((σ.1 58 18) + 1)) post)) : tp_E 127 19 [.ref 58, .long a1, .null, .int a3] [] σ post := tp_E_step (And.intro (fun c1 => Exists.intro _ (And.intro (tp_wk_rf _) (tp_E_step (And.intro rfl (h.1 c1))))) (fun c1 => And.intro (h.2 c1).1 (Exists.intro [.ref 58, .long a1, .null, .int (a3 + (-8))] (And.intro (And.intro (Or.inr rfl) (And.intro (Or.inr rfl) (And.intro (Or.inr rfl) (And.intro (Or.inr rfl) (trivial))))) (h.2 c1).2))))
/-- X10_end (I)I, 0 -/
theorem sg_128_0 {post : Int32 → tp_St → Prop} {σ : tp_St} (a1 : Int32)  (h : tp_E 101 0 [.long (a1).toInt64, .null, .long (Int64.ofNat 0), .null, .long ((σ.1 58 18)).toInt64, .null] [] σ (fun r1 σ1 =>
(r1 = 0 →
post (-1) σ1) ∧ (¬ r1 = 0 →
post (σ1.1 58 18) (tp_set σ1 58 18 a1)))) : tp_E 128 0 [.ref 58, .int a1, .null] [] σ post := tp_E_step (tp_Em h (fun r1 σ1 h1 => And.intro (fun c2 => And.intro rfl (h1.1 c2)) (fun c2 => Exists.intro _ (And.intro (tp_wk_rf _) (tp_E_step (And.intro rfl (h1.2 c2)))))))
/-- X10_byteAt (I)I, 0 -/
theorem sg_129_0 {post : Int32 → tp_St → Prop} {σ : tp_St} (a1 : Int32)  (h : ((σ.1 58 18) ≤ a1 →
post (-4) σ) ∧ (¬ (σ.1 58 18) ≤ a1 →
vp_in a1 200 ∧
post (σ.1 73 (a1).toNatClampNeg) σ)) : tp_E 129 0 [.ref 58, .int a1] [] σ post := tp_E_step (And.intro (fun c1 => Exists.intro _ (And.intro (tp_wk_rf _) (tp_E_step (Exists.intro _ (And.intro (tp_wk_rf _) (tp_E_step (And.intro rfl (h.1 c1)))))))) (fun c1 => And.intro (h.2 c1).1 (Exists.intro _ (And.intro (tp_wk_rf _) (tp_E_step (And.intro rfl (h.2 c1).2))))))
/-- X10_fails (II)V, 0 -/
theorem sg_130_0 {post : Int32 → tp_St → Prop} {σ : tp_St} (a1 : Int32) (a2 : Int32)  (h : ((σ.1 58 30) = 0 →
post 0 (tp_set (tp_set σ 58 30 a1) 58 31 a2)) ∧ (¬ (σ.1 58 30) = 0 →
post 0 σ)) : tp_E 130 0 [.ref 58, .int a1, .int a2] [] σ post := tp_E_step (And.intro (fun c1 => Exists.intro _ (And.intro (tp_wk_rf _) (tp_E_step ((h.1 c1))))) (fun c1 => Exists.intro _ (And.intro (tp_wk_rf _) (tp_E_step ((h.2 c1))))))
/-- X10_isName (IIIIIIII)Z, 0 -/
theorem sg_131_0 {post : Int32 → tp_St → Prop} {σ : tp_St} (a1 : Int32) (a2 : Int32) (a3 : Int32) (a4 : Int32) (a5 : Int32) (a6 : Int32) (a7 : Int32) (a8 : Int32)  (h : (((σ.1 58 27) - a1) = a8 →
tp_E 131 61 [.ref 58, .int a1, .null, .null, .null, .null, .null, .null, .int a8, .ref 76, .int 1, .int 0] [] (tp_set (tp_set (tp_set (tp_set (tp_set (tp_set σ 76 0 a2) 76 1 a3) 76 2 a4) 76 3 a5) 76 4 a6) 76 5 a7) post) ∧ (¬ ((σ.1 58 27) - a1) = a8 →
tp_E 131 61 [.ref 58, .int a1, .null, .null, .null, .null, .null, .null, .int a8, .ref 76, .int 0, .int 0] [] (tp_set (tp_set (tp_set (tp_set (tp_set (tp_set σ 76 0 a2) 76 1 a3) 76 2 a4) 76 3 a5) 76 4 a6) 76 5 a7) post)) : tp_E 131 0 [.ref 58, .int a1, .int a2, .int a3, .int a4, .int a5, .int a6, .int a7, .int a8, .null, .null, .null] [] σ post := tp_E_step (And.intro (show ¬ ((0 : Int32) < 0 ∨ 6 ≤ (0 : Int32).toNatClampNeg) from by decide) (And.intro (show ¬ ((1 : Int32) < 0 ∨ 6 ≤ (1 : Int32).toNatClampNeg) from by decide) (And.intro (show ¬ ((2 : Int32) < 0 ∨ 6 ≤ (2 : Int32).toNatClampNeg) from by decide) (And.intro (show ¬ ((3 : Int32) < 0 ∨ 6 ≤ (3 : Int32).toNatClampNeg) from by decide) (And.intro (show ¬ ((4 : Int32) < 0 ∨ 6 ≤ (4 : Int32).toNatClampNeg) from by decide) (And.intro (show ¬ ((5 : Int32) < 0 ∨ 6 ≤ (5 : Int32).toNatClampNeg) from by decide) (And.intro (fun c1 => Exists.intro _ (And.intro (tp_wk_rf _) (tp_E_step (Exists.intro [.ref 58, .int a1, .null, .null, .null, .null, .null, .null, .int a8, .ref 76, .int 1, .int 0] (And.intro (And.intro (Or.inr rfl) (And.intro (Or.inr rfl) (And.intro (Or.inl rfl) (And.intro (Or.inl rfl) (And.intro (Or.inl rfl) (And.intro (Or.inl rfl) (And.intro (Or.inl rfl) (And.intro (Or.inl rfl) (And.intro (Or.inr rfl) (And.intro (Or.inr rfl) (And.intro (Or.inr rfl) (And.intro (Or.inr rfl) (trivial))))))))))))) (h.1 c1)))))) (fun c1 => Exists.intro _ (And.intro (tp_wk_rf _) (tp_E_step (Exists.intro _ (And.intro (tp_wk_rf _) (tp_E_step (Exists.intro [.ref 58, .int a1, .null, .null, .null, .null, .null, .null, .int a8, .ref 76, .int 0, .int 0] (And.intro (And.intro (Or.inr rfl) (And.intro (Or.inr rfl) (And.intro (Or.inl rfl) (And.intro (Or.inl rfl) (And.intro (Or.inl rfl) (And.intro (Or.inl rfl) (And.intro (Or.inl rfl) (And.intro (Or.inl rfl) (And.intro (Or.inr rfl) (And.intro (Or.inr rfl) (And.intro (Or.inr rfl) (And.intro (Or.inr rfl) (trivial))))))))))))) (h.2 c1))))))))))))))))
/-- X10_isName (IIIIIIII)Z, 61 -/
theorem sg_131_61 {post : Int32 → tp_St → Prop} {σ : tp_St} (a1 : Int32) (a8 : Int32) (a10 : Int32) (a11 : Int32)  (h : (a8 ≤ a11 →
narrow .boolean (.int a10) = .int a10 ∧ post a10 σ) ∧ (¬ a8 ≤ a11 →
(a10 = 0 →
narrow .boolean (.int a10) = .int a10 ∧ post a10 σ) ∧ (¬ a10 = 0 →
tp_E 129 0 [.ref 58, .int (a1 + a11)] [] σ (fun r1 σ1 =>
vp_in a11 6 ∧
(r1 = (σ1.1 76 (a11).toNatClampNeg) →
tp_E 131 61 [.ref 58, .int a1, .null, .null, .null, .null, .null, .null, .int a8, .ref 76, .int 1, .int (a11 + 1)] [] σ1 post) ∧ (¬ r1 = (σ1.1 76 (a11).toNatClampNeg) →
tp_E 131 61 [.ref 58, .int a1, .null, .null, .null, .null, .null, .null, .int a8, .ref 76, .int 0, .int (a11 + 1)] [] σ1 post))))) : tp_E 131 61 [.ref 58, .int a1, .null, .null, .null, .null, .null, .null, .int a8, .ref 76, .int a10, .int a11] [] σ post := tp_E_step (And.intro (fun c2 => Exists.intro _ (And.intro (tp_wk_rf _) (tp_E_step ((h.1 c2))))) (fun c2 => And.intro (fun c3 => Exists.intro _ (And.intro (tp_wk_rf _) (tp_E_step (((h.2 c2).1 c3))))) (fun c3 => tp_Em ((h.2 c2).2 c3) (fun r1 σ1 h1 => And.intro h1.1 (And.intro (fun c4 => Exists.intro _ (And.intro (tp_wk_rf _) (tp_E_step (Exists.intro [.ref 58, .int a1, .null, .null, .null, .null, .null, .null, .int a8, .ref 76, .int 1, .int (a11 + 1)] (And.intro (And.intro (Or.inr rfl) (And.intro (Or.inr rfl) (And.intro (Or.inr rfl) (And.intro (Or.inr rfl) (And.intro (Or.inr rfl) (And.intro (Or.inr rfl) (And.intro (Or.inr rfl) (And.intro (Or.inr rfl) (And.intro (Or.inr rfl) (And.intro (Or.inr rfl) (And.intro (Or.inr rfl) (And.intro (Or.inr rfl) (trivial))))))))))))) (h1.2.1 c4)))))) (fun c4 => Exists.intro _ (And.intro (tp_wk_rf _) (tp_E_step (Exists.intro _ (And.intro (tp_wk_rf _) (tp_E_step (Exists.intro [.ref 58, .int a1, .null, .null, .null, .null, .null, .null, .int a8, .ref 76, .int 0, .int (a11 + 1)] (And.intro (And.intro (Or.inr rfl) (And.intro (Or.inr rfl) (And.intro (Or.inr rfl) (And.intro (Or.inr rfl) (And.intro (Or.inr rfl) (And.intro (Or.inr rfl) (And.intro (Or.inr rfl) (And.intro (Or.inr rfl) (And.intro (Or.inr rfl) (And.intro (Or.inr rfl) (And.intro (Or.inr rfl) (And.intro (Or.inr rfl) (trivial))))))))))))) (h1.2.2 c4))))))))))))))
/-- X10_next ()V, 0 -/
theorem sg_132_0 {post : Int32 → tp_St → Prop} {σ : tp_St}   (h : ((σ.1 58 30) ≤ 0 →
tp_E 132 8 [.ref 58, .null] [] σ post) ∧ (¬ (σ.1 58 30) ≤ 0 →
post 0 σ)) : tp_E 132 0 [.ref 58, .null] [] σ post := tp_E_step (And.intro (fun c1 => Exists.intro [.ref 58, .null] (And.intro (And.intro (Or.inr rfl) (And.intro (Or.inr rfl) (trivial))) (h.1 c1))) (fun c1 => (h.2 c1)))
/-- X10_next ()V, 8 -/
theorem sg_132_8 {post : Int32 → tp_St → Prop} {σ : tp_St}   (h : tp_E 129 0 [.ref 58, .int (σ.1 58 27)] [] σ (fun r1 σ1 =>
(r1 = 32 →
tp_E 132 8 [.ref 58, .null] [] (tp_set σ1 58 27 ((σ1.1 58 27) + 1)) post) ∧ (¬ r1 = 32 →
tp_E 129 0 [.ref 58, .int (σ1.1 58 27)] [] (tp_set σ1 58 26 (σ1.1 58 27)) (fun r2 σ2 =>
(r2 = (-4) →
post 0 (tp_set (tp_set σ2 58 29 r2) 58 28 0)) ∧ (¬ r2 = (-4) →
tp_E 101 0 [.long (r2).toInt64, .null, .long (Int64.ofNat 97), .null, .long (Int64.ofNat 122), .null] [] (tp_set σ2 58 29 r2) (fun r3 σ3 =>
(r3 = 0 →
tp_E 101 0 [.long (r2).toInt64, .null, .long (Int64.ofNat 48), .null, .long (Int64.ofNat 57), .null] [] σ3 (fun r4 σ4 =>
(r4 = 0 →
(r2 = 59 →
post 0 (tp_set (tp_set σ4 58 27 ((σ4.1 58 27) + 1)) 58 28 3)) ∧ (¬ r2 = 59 →
tp_E 130 0 [.ref 58, .int 1, .int (σ4.1 58 26)] [] σ4 (fun r5 σ5 =>
post 0 σ5))) ∧ (¬ r4 = 0 →
tp_E 132 250 [.ref 58, .null] [] (tp_set σ4 58 29 0) post))) ∧ (¬ r3 = 0 →
tp_E 132 84 [.ref 58, .null] [] σ3 post))))))) : tp_E 132 8 [.ref 58, .null] [] σ post := tp_E_step (tp_Em h (fun r1 σ1 h1 => And.intro (fun c2 => Exists.intro [.ref 58, .null] (And.intro (And.intro (Or.inr rfl) (And.intro (Or.inr rfl) (trivial))) (h1.1 c2))) (fun c2 => Exists.intro _ (And.intro (tp_wk_rf _) (tp_E_step (tp_Em (h1.2 c2) (fun r3 σ3 h3 => And.intro (fun c4 => Exists.intro _ (And.intro (tp_wk_rf _) (tp_E_step ((h3.1 c4))))) (fun c4 => Exists.intro _ (And.intro (tp_wk_rf _) (tp_E_step (tp_Em (h3.2 c4) (fun r5 σ5 h5 => And.intro (fun c6 => Exists.intro _ (And.intro (tp_wk_rf _) (tp_E_step (tp_Em (h5.1 c6) (fun r7 σ7 h7 => And.intro (fun c8 => Exists.intro _ (And.intro (tp_wk_rf _) (tp_E_step (And.intro (fun c9 => Exists.intro _ (And.intro (tp_wk_rf _) (tp_E_step (((h7.1 c8).1 c9))))) (fun c9 => Exists.intro _ (And.intro (tp_wk_rf _) (tp_E_step (tp_Em ((h7.1 c8).2 c9) (fun r10 σ10 h10 => Exists.intro _ (And.intro (tp_wk_rf _) (tp_E_step (h10)))))))))))) (fun c8 => Exists.intro [.ref 58, .null] (And.intro (And.intro (Or.inr rfl) (And.intro (Or.inl rfl) (trivial))) (h7.2 c8)))))))) (fun c6 => Exists.intro [.ref 58, .null] (And.intro (And.intro (Or.inr rfl) (And.intro (Or.inl rfl) (trivial))) (h5.2 c6)))))))))))))))
/-- X10_next ()V, 84 -/
theorem sg_132_84 {post : Int32 → tp_St → Prop} {σ : tp_St}   (h : tp_E 129 0 [.ref 58, .int (σ.1 58 27)] [] σ (fun r1 σ1 =>
tp_E 101 0 [.long (r1).toInt64, .null, .long (Int64.ofNat 97), .null, .long (Int64.ofNat 122), .null] [] σ1 (fun r2 σ2 =>
(r2 = 0 →
tp_E 131 0 [.ref 58, .int (σ2.1 58 26), .int 102, .int 97, .int 114, .int 101, .int 0, .int 0, .int 4, .null, .null, .null] [] (tp_set σ2 58 28 1) (fun r3 σ3 =>
(r3 = 0 →
tp_E 131 0 [.ref 58, .int (σ3.1 58 26), .int 119, .int 111, .int 114, .int 107, .int 0, .int 0, .int 4, .null, .null, .null] [] σ3 (fun r4 σ4 =>
(r4 = 0 →
tp_E 131 0 [.ref 58, .int (σ4.1 58 26), .int 99, .int 104, .int 97, .int 110, .int 103, .int 101, .int 6, .null, .null, .null] [] σ4 (fun r5 σ5 =>
(r5 = 0 →
tp_E 130 0 [.ref 58, .int 1, .int (σ5.1 58 26)] [] (tp_set σ5 58 29 (-4)) (fun r6 σ6 =>
post 0 σ6)) ∧ (¬ r5 = 0 →
post 0 (tp_set σ5 58 29 2)))) ∧ (¬ r4 = 0 →
post 0 (tp_set σ4 58 29 1)))) ∧ (¬ r3 = 0 →
post 0 (tp_set σ3 58 29 0)))) ∧ (¬ r2 = 0 →
tp_E 132 84 [.ref 58, .null] [] (tp_set σ2 58 27 ((σ2.1 58 27) + 1)) post)))) : tp_E 132 84 [.ref 58, .null] [] σ post := tp_E_step (tp_Em h (fun r1 σ1 h1 => tp_Em h1 (fun r2 σ2 h2 => And.intro (fun c3 => Exists.intro _ (And.intro (tp_wk_rf _) (tp_E_step (tp_Em (h2.1 c3) (fun r4 σ4 h4 => And.intro (fun c5 => Exists.intro _ (And.intro (tp_wk_rf _) (tp_E_step (tp_Em (h4.1 c5) (fun r6 σ6 h6 => And.intro (fun c7 => Exists.intro _ (And.intro (tp_wk_rf _) (tp_E_step (tp_Em (h6.1 c7) (fun r8 σ8 h8 => And.intro (fun c9 => Exists.intro _ (And.intro (tp_wk_rf _) (tp_E_step (Exists.intro _ (And.intro (tp_wk_rf _) (tp_E_step (And.intro (fun _ => tp_Em (h8.1 c9) (fun r10 σ10 h10 => Exists.intro _ (And.intro (tp_wk_rf _) (tp_E_step (h10))))) (fun hc => absurd (show ((-4) : Int32) = (-4) from by decide) hc)))))))) (fun c9 => Exists.intro _ (And.intro (tp_wk_rf _) (tp_E_step (And.intro (fun hc => absurd hc (show ¬ ((2 : Int32) = (-4)) from by decide)) (fun _ => Exists.intro _ (And.intro (tp_wk_rf _) (tp_E_step ((h8.2 c9)))))))))))))) (fun c7 => Exists.intro _ (And.intro (tp_wk_rf _) (tp_E_step (And.intro (fun hc => absurd hc (show ¬ ((1 : Int32) = (-4)) from by decide)) (fun _ => Exists.intro _ (And.intro (tp_wk_rf _) (tp_E_step ((h6.2 c7)))))))))))))) (fun c5 => Exists.intro _ (And.intro (tp_wk_rf _) (tp_E_step (And.intro (fun hc => absurd hc (show ¬ ((0 : Int32) = (-4)) from by decide)) (fun _ => Exists.intro _ (And.intro (tp_wk_rf _) (tp_E_step ((h4.2 c5)))))))))))))) (fun c3 => Exists.intro [.ref 58, .null] (And.intro (And.intro (Or.inr rfl) (And.intro (Or.inr rfl) (trivial))) (h2.2 c3))))))
/-- X10_next ()V, 250 -/
theorem sg_132_250 {post : Int32 → tp_St → Prop} {σ : tp_St}   (h : tp_E 129 0 [.ref 58, .int (σ.1 58 27)] [] σ (fun r1 σ1 =>
tp_E 101 0 [.long (r1).toInt64, .null, .long (Int64.ofNat 48), .null, .long (Int64.ofNat 57), .null] [] σ1 (fun r2 σ2 =>
(r2 = 0 →
(((σ2.1 58 27) - (σ2.1 58 26)) ≤ 4 →
post 0 (tp_set σ2 58 28 2)) ∧ (¬ ((σ2.1 58 27) - (σ2.1 58 26)) ≤ 4 →
tp_E 130 0 [.ref 58, .int 1, .int (σ2.1 58 26)] [] (tp_set σ2 58 28 2) (fun r4 σ4 =>
post 0 σ4))) ∧ (¬ r2 = 0 →
(4 ≤ ((σ2.1 58 27) - (σ2.1 58 26)) →
tp_E 132 250 [.ref 58, .null] [] (tp_set (tp_set σ2 58 29 (σ2.1 58 29)) 58 27 ((σ2.1 58 27) + 1)) post) ∧ (¬ 4 ≤ ((σ2.1 58 27) - (σ2.1 58 26)) →
tp_E 129 0 [.ref 58, .int (σ2.1 58 27)] [] σ2 (fun r3 σ3 =>
tp_E 132 250 [.ref 58, .null] [] (tp_set (tp_set σ3 58 29 (((10 * (σ2.1 58 29)) + r3) - 48)) 58 27 ((σ3.1 58 27) + 1)) post)))))) : tp_E 132 250 [.ref 58, .null] [] σ post := tp_E_step (tp_Em h (fun r1 σ1 h1 => tp_Em h1 (fun r2 σ2 h2 => And.intro (fun c4 => Exists.intro _ (And.intro (tp_wk_rf _) (tp_E_step (And.intro (fun c6 => Exists.intro _ (And.intro (tp_wk_rf _) (tp_E_step (((h2.1 c4).1 c6))))) (fun c6 => tp_Em ((h2.1 c4).2 c6) (fun r5 σ5 h5 => Exists.intro _ (And.intro (tp_wk_rf _) (tp_E_step (h5))))))))) (fun c4 => And.intro (fun c7 => Exists.intro _ (And.intro (tp_wk_rf _) (tp_E_step (Exists.intro _ (And.intro (tp_wk_rf _) (tp_E_step (Exists.intro [.ref 58, .null] (And.intro (And.intro (Or.inr rfl) (And.intro (Or.inr rfl) (trivial))) ((h2.2 c4).1 c7))))))))) (fun c7 => tp_Em ((h2.2 c4).2 c7) (fun r3 σ3 h3 => Exists.intro _ (And.intro (tp_wk_rf _) (tp_E_step (Exists.intro [.ref 58, .null] (And.intro (And.intro (Or.inr rfl) (And.intro (Or.inr rfl) (trivial))) h3))))))))))
/-- X10_number (II)I, 0 -/
theorem sg_133_0 {post : Int32 → tp_St → Prop} {σ : tp_St} (a1 : Int32) (a2 : Int32)  (h : ((σ.1 58 30) ≤ 0 →
((σ.1 58 28) = 2 →
tp_E 101 0 [.long ((σ.1 58 29)).toInt64, .null, .long (a1).toInt64, .null, .long (a2).toInt64, .null] [] σ (fun r2 σ2 =>
(r2 = 0 →
tp_E 130 0 [.ref 58, .int 3, .int (σ2.1 58 26)] [] σ2 (fun r3 σ3 =>
tp_E 132 0 [.ref 58, .null] [] σ3 (fun r4 σ4 =>
post (σ3.1 58 29) σ4))) ∧ (¬ r2 = 0 →
tp_E 132 0 [.ref 58, .null] [] σ2 (fun r5 σ5 =>
post (σ2.1 58 29) σ5)))) ∧ (¬ (σ.1 58 28) = 2 →
tp_E 130 0 [.ref 58, .int 2, .int (σ.1 58 26)] [] σ (fun r1 σ1 =>
tp_E 132 0 [.ref 58, .null] [] σ1 (fun r6 σ6 =>
post (σ1.1 58 29) σ6)))) ∧ (¬ (σ.1 58 30) ≤ 0 →
post 0 σ)) : tp_E 133 0 [.ref 58, .int a1, .int a2, .null] [] σ post := tp_E_step (And.intro (fun c1 => Exists.intro _ (And.intro (tp_wk_rf _) (tp_E_step (And.intro (fun c3 => Exists.intro _ (And.intro (tp_wk_rf _) (tp_E_step (tp_Em ((h.1 c1).1 c3) (fun r4 σ4 h4 => And.intro (fun c6 => tp_Em (h4.1 c6) (fun r5 σ5 h5 => Exists.intro _ (And.intro (tp_wk_rf _) (tp_E_step (tp_Em h5 (fun r7 σ7 h7 => And.intro rfl h7)))))) (fun c6 => Exists.intro _ (And.intro (tp_wk_rf _) (tp_E_step (tp_Em (h4.2 c6) (fun r8 σ8 h8 => And.intro rfl h8)))))))))) (fun c3 => tp_Em ((h.1 c1).2 c3) (fun r2 σ2 h2 => Exists.intro _ (And.intro (tp_wk_rf _) (tp_E_step (tp_Em h2 (fun r9 σ9 h9 => And.intro rfl h9)))))))))) (fun c1 => And.intro rfl (h.2 c1)))
/-- X10_above (III)I, 0 -/
theorem sg_134_0 {post : Int32 → tp_St → Prop} {σ : tp_St} (a1 : Int32) (a2 : Int32) (a3 : Int32)  (h : ((σ.1 58 30) = 0 →
((σ.1 58 28) = 2 →
tp_E 101 0 [.long ((σ.1 58 29)).toInt64, .null, .long (a1).toInt64, .null, .long (a2).toInt64, .null] [] σ (fun r1 σ1 =>
(r1 = 0 →
tp_E 133 0 [.ref 58, .int a1, .int a2, .null] [] σ1 (fun r3 σ3 =>
post r3 σ3)) ∧ (¬ r1 = 0 →
(a3 < (σ1.1 58 29) →
tp_E 133 0 [.ref 58, .int a1, .int a2, .null] [] σ1 (fun r4 σ4 =>
post r4 σ4)) ∧ (¬ a3 < (σ1.1 58 29) →
tp_E 130 0 [.ref 58, .int 4, .int (σ1.1 58 26)] [] σ1 (fun r2 σ2 =>
tp_E 133 0 [.ref 58, .int a1, .int a2, .null] [] σ2 (fun r5 σ5 =>
post r5 σ5)))))) ∧ (¬ (σ.1 58 28) = 2 →
tp_E 133 0 [.ref 58, .int a1, .int a2, .null] [] σ (fun r6 σ6 =>
post r6 σ6))) ∧ (¬ (σ.1 58 30) = 0 →
tp_E 133 0 [.ref 58, .int a1, .int a2, .null] [] σ (fun r7 σ7 =>
post r7 σ7))) : tp_E 134 0 [.ref 58, .int a1, .int a2, .int a3] [] σ post := tp_E_step (And.intro (fun c3 => And.intro (fun c4 => tp_Em ((h.1 c3).1 c4) (fun r1 σ1 h1 => And.intro (fun c5 => Exists.intro _ (And.intro (tp_wk_rf _) (tp_E_step (tp_Em (h1.1 c5) (fun r6 σ6 h6 => And.intro rfl h6))))) (fun c5 => And.intro (fun c7 => Exists.intro _ (And.intro (tp_wk_rf _) (tp_E_step (tp_Em ((h1.2 c5).1 c7) (fun r8 σ8 h8 => And.intro rfl h8))))) (fun c7 => tp_Em ((h1.2 c5).2 c7) (fun r2 σ2 h2 => Exists.intro _ (And.intro (tp_wk_rf _) (tp_E_step (tp_Em h2 (fun r9 σ9 h9 => And.intro rfl h9))))))))) (fun c4 => Exists.intro _ (And.intro (tp_wk_rf _) (tp_E_step (tp_Em ((h.1 c3).2 c4) (fun r10 σ10 h10 => And.intro rfl h10)))))) (fun c3 => Exists.intro _ (And.intro (tp_wk_rf _) (tp_E_step (tp_Em (h.2 c3) (fun r11 σ11 h11 => And.intro rfl h11))))))
/-- X10_law ()V, 0 -/
theorem sg_135_0 {post : Int32 → tp_St → Prop} {σ : tp_St}   (h : ((σ.1 58 28) = 1 →
((σ.1 58 29) = 0 →
((σ.1 58 33) = 9 →
tp_E 135 63 [.ref 58, .null, .null] [] σ post) ∧ (¬ (σ.1 58 33) = 9 →
tp_E 135 36 [.ref 58, .int (σ.1 58 29), .null] [] σ post)) ∧ (¬ (σ.1 58 29) = 0 →
tp_E 135 36 [.ref 58, .int (σ.1 58 29), .null] [] σ post)) ∧ (¬ (σ.1 58 28) = 1 →
tp_E 130 0 [.ref 58, .int 2, .int (σ.1 58 26)] [] σ (fun r1 σ1 =>
post 0 σ1))) : tp_E 135 0 [.ref 58, .null, .null] [] σ post := tp_E_step (And.intro (fun c2 => Exists.intro _ (And.intro (tp_wk_rf _) (tp_E_step (And.intro (fun c3 => And.intro (fun c4 => Exists.intro [.ref 58, .null, .null] (And.intro (And.intro (Or.inr rfl) (And.intro (Or.inl rfl) (And.intro (Or.inr rfl) (trivial)))) (((h.1 c2).1 c3).1 c4))) (fun c4 => Exists.intro [.ref 58, .int (σ.1 58 29), .null] (And.intro (And.intro (Or.inr rfl) (And.intro (Or.inr rfl) (And.intro (Or.inr rfl) (trivial)))) (((h.1 c2).1 c3).2 c4)))) (fun c3 => Exists.intro [.ref 58, .int (σ.1 58 29), .null] (And.intro (And.intro (Or.inr rfl) (And.intro (Or.inr rfl) (And.intro (Or.inr rfl) (trivial)))) ((h.1 c2).2 c3))))))) (fun c2 => tp_Em (h.2 c2) (fun r1 σ1 h1 => h1)))
/-- X10_law ()V, 36 -/
theorem sg_135_36 {post : Int32 → tp_St → Prop} {σ : tp_St} (a1 : Int32)  (h : (a1 = 1 →
((σ.1 58 34) = 4 →
tp_E 135 63 [.ref 58, .null, .null] [] σ post) ∧ (¬ (σ.1 58 34) = 4 →
tp_E 135 49 [.ref 58, .int a1, .null] [] σ post)) ∧ (¬ a1 = 1 →
tp_E 135 49 [.ref 58, .int a1, .null] [] σ post)) : tp_E 135 36 [.ref 58, .int a1, .null] [] σ post := tp_E_step (And.intro (fun c1 => And.intro (fun c2 => Exists.intro [.ref 58, .null, .null] (And.intro (And.intro (Or.inr rfl) (And.intro (Or.inl rfl) (And.intro (Or.inr rfl) (trivial)))) ((h.1 c1).1 c2))) (fun c2 => Exists.intro [.ref 58, .int a1, .null] (And.intro (And.intro (Or.inr rfl) (And.intro (Or.inr rfl) (And.intro (Or.inr rfl) (trivial)))) ((h.1 c1).2 c2)))) (fun c1 => Exists.intro [.ref 58, .int a1, .null] (And.intro (And.intro (Or.inr rfl) (And.intro (Or.inr rfl) (And.intro (Or.inr rfl) (trivial)))) (h.2 c1))))
/-- X10_law ()V, 49 -/
theorem sg_135_49 {post : Int32 → tp_St → Prop} {σ : tp_St} (a1 : Int32)  (h : (a1 = 2 →
((σ.1 58 35) = (-4) →
tp_E 135 73 [.ref 58, .int a1, .null] [] σ post) ∧ (¬ (σ.1 58 35) = (-4) →
tp_E 135 63 [.ref 58, .null, .null] [] σ post)) ∧ (¬ a1 = 2 →
tp_E 135 73 [.ref 58, .int a1, .null] [] σ post)) : tp_E 135 49 [.ref 58, .int a1, .null] [] σ post := tp_E_step (And.intro (fun c1 => And.intro (fun c2 => Exists.intro [.ref 58, .int a1, .null] (And.intro (And.intro (Or.inr rfl) (And.intro (Or.inr rfl) (And.intro (Or.inr rfl) (trivial)))) ((h.1 c1).1 c2))) (fun c2 => Exists.intro [.ref 58, .null, .null] (And.intro (And.intro (Or.inr rfl) (And.intro (Or.inl rfl) (And.intro (Or.inr rfl) (trivial)))) ((h.1 c1).2 c2)))) (fun c1 => Exists.intro [.ref 58, .int a1, .null] (And.intro (And.intro (Or.inr rfl) (And.intro (Or.inr rfl) (And.intro (Or.inr rfl) (trivial)))) (h.2 c1))))
/-- X10_law ()V, 63 -/
theorem sg_135_63 {post : Int32 → tp_St → Prop} {σ : tp_St}   (h : tp_E 130 0 [.ref 58, .int 5, .int (σ.1 58 26)] [] σ (fun r1 σ1 =>
post 0 σ1)) : tp_E 135 63 [.ref 58, .null, .null] [] σ post := tp_E_step (tp_Em h (fun r1 σ1 h1 => h1))
/-- X10_law ()V, 73 -/
theorem sg_135_73 {post : Int32 → tp_St → Prop} {σ : tp_St} (a1 : Int32)  (h : tp_E 132 0 [.ref 58, .null] [] σ (fun r1 σ1 =>
(a1 = 0 →
((σ1.1 58 33) = 0 →
tp_E 135 116 [.ref 58, .null, .int (2 * (σ1.1 58 33))] [.int 0, .int 9, .int 1, .ref 58, .int (2 * (σ1.1 58 33)), .ref 77] σ1 post) ∧ (¬ (σ1.1 58 33) = 0 →
vp_in ((2 * (σ1.1 58 33)) - 2) 18 ∧
tp_E 135 116 [.ref 58, .null, .int (2 * (σ1.1 58 33))] [.int (σ1.1 77 (((2 * (σ1.1 58 33)) - 2)).toNatClampNeg), .int 9, .int 1, .ref 58, .int (2 * (σ1.1 58 33)), .ref 77] σ1 post)) ∧ (¬ a1 = 0 →
(a1 = 1 →
tp_E 133 0 [.ref 58, .int 0, .int 23, .null] [] σ1 (fun r2 σ2 =>
vp_in (3 * (σ1.1 58 34)) 12 ∧
vp_in (3 * (σ1.1 58 34)) 12 ∧
tp_E 133 0 [.ref 58, .int (((tp_set σ2 78 ((3 * (σ1.1 58 34))).toNatClampNeg r2).1 78 ((3 * (σ1.1 58 34))).toNatClampNeg) + 1), .int 24, .null] [] (tp_set σ2 78 ((3 * (σ1.1 58 34))).toNatClampNeg r2) (fun r3 σ3 =>
vp_in ((3 * (σ1.1 58 34)) + 1) 12 ∧
tp_E 133 0 [.ref 58, .int 0, .int 100, .null] [] (tp_set σ3 78 (((3 * (σ1.1 58 34)) + 1)).toNatClampNeg r3) (fun r4 σ4 =>
vp_in ((3 * (σ1.1 58 34)) + 2) 12 ∧
tp_E 135 254 [.ref 58, .null, .null] [] (tp_set (tp_set σ4 78 (((3 * (σ1.1 58 34)) + 2)).toNatClampNeg r4) 58 34 ((σ4.1 58 34) + 1)) post)))) ∧ (¬ a1 = 1 →
tp_E 133 0 [.ref 58, .int 0, .int 120, .null] [] σ1 (fun r5 σ5 =>
tp_E 135 254 [.ref 58, .null, .null] [] (tp_set σ5 58 35 r5) post))))) : tp_E 135 73 [.ref 58, .int a1, .null] [] σ post := tp_E_step (tp_Em h (fun r1 σ1 h1 => And.intro (fun c2 => And.intro (fun c3 => Exists.intro [.ref 58, .null, .int (2 * (σ1.1 58 33))] (And.intro (And.intro (Or.inr rfl) (And.intro (Or.inl rfl) (And.intro (Or.inr rfl) (trivial)))) ((h1.1 c2).1 c3))) (fun c3 => Exists.intro _ (And.intro (tp_wk_rf _) (tp_E_step (And.intro ((h1.1 c2).2 c3).1 (Exists.intro [.ref 58, .null, .int (2 * (σ1.1 58 33))] (And.intro (And.intro (Or.inr rfl) (And.intro (Or.inl rfl) (And.intro (Or.inr rfl) (trivial)))) ((h1.1 c2).2 c3).2))))))) (fun c2 => Exists.intro _ (And.intro (tp_wk_rf _) (tp_E_step (And.intro (fun c7 => tp_Em ((h1.2 c2).1 c7) (fun r4 σ4 h4 => And.intro h4.1 (And.intro h4.2.1 (tp_Em h4.2.2 (fun r5 σ5 h5 => And.intro h5.1 (tp_Em h5.2 (fun r6 σ6 h6 => And.intro h6.1 (Exists.intro [.ref 58, .null, .null] (And.intro (And.intro (Or.inr rfl) (And.intro (Or.inl rfl) (And.intro (Or.inl rfl) (trivial)))) h6.2))))))))) (fun c7 => Exists.intro _ (And.intro (tp_wk_rf _) (tp_E_step (tp_Em ((h1.2 c2).2 c7) (fun r8 σ8 h8 => Exists.intro [.ref 58, .null, .null] (And.intro (And.intro (Or.inr rfl) (And.intro (Or.inl rfl) (And.intro (Or.inr rfl) (trivial)))) h8))))))))))))
/-- X10_law ()V, 116 -/
theorem sg_135_116 {post : Int32 → tp_St → Prop} {σ : tp_St} (a2 : Int32) (s1 : Int32) (s3 : Int32) (s4 : Int32) (s5 : Int32)  (h : tp_E 134 0 [.ref 58, .int s3, .int s4, .int s5] [] σ (fun r1 σ1 =>
vp_in s1 18 ∧
((σ1.1 58 33) = 0 →
tp_E 135 151 [.ref 58, .null, .null] [.int 0, .int 999, .int 1, .ref 58, .int (a2 + 1), .ref 77] (tp_set σ1 77 (s1).toNatClampNeg r1) post) ∧ (¬ (σ1.1 58 33) = 0 →
vp_in (a2 - 1) 18 ∧
tp_E 135 151 [.ref 58, .null, .null] [.int ((tp_set σ1 77 (s1).toNatClampNeg r1).1 77 ((a2 - 1)).toNatClampNeg), .int 999, .int 1, .ref 58, .int (a2 + 1), .ref 77] (tp_set σ1 77 (s1).toNatClampNeg r1) post))) : tp_E 135 116 [.ref 58, .null, .int a2] [.int s5, .int s4, .int s3, .ref 58, .int s1, .ref 77] σ post := tp_E_step (tp_Em h (fun r1 σ1 h1 => And.intro h1.1 (And.intro (fun c2 => Exists.intro [.ref 58, .null, .null] (And.intro (And.intro (Or.inr rfl) (And.intro (Or.inr rfl) (And.intro (Or.inl rfl) (trivial)))) (h1.2.1 c2))) (fun c2 => Exists.intro _ (And.intro (tp_wk_rf _) (tp_E_step (And.intro (h1.2.2 c2).1 (Exists.intro [.ref 58, .null, .null] (And.intro (And.intro (Or.inr rfl) (And.intro (Or.inr rfl) (And.intro (Or.inl rfl) (trivial)))) (h1.2.2 c2).2)))))))))
/-- X10_law ()V, 151 -/
theorem sg_135_151 {post : Int32 → tp_St → Prop} {σ : tp_St} (s1 : Int32) (s3 : Int32) (s4 : Int32) (s5 : Int32)  (h : tp_E 134 0 [.ref 58, .int s3, .int s4, .int s5] [] σ (fun r1 σ1 =>
vp_in s1 18 ∧
tp_E 135 254 [.ref 58, .null, .null] [] (tp_set (tp_set σ1 77 (s1).toNatClampNeg r1) 58 33 ((σ1.1 58 33) + 1)) post)) : tp_E 135 151 [.ref 58, .null, .null] [.int s5, .int s4, .int s3, .ref 58, .int s1, .ref 77] σ post := tp_E_step (tp_Em h (fun r1 σ1 h1 => And.intro h1.1 (Exists.intro [.ref 58, .null, .null] (And.intro (And.intro (Or.inr rfl) (And.intro (Or.inr rfl) (And.intro (Or.inr rfl) (trivial)))) h1.2))))
/-- X10_law ()V, 254 -/
theorem sg_135_254 {post : Int32 → tp_St → Prop} {σ : tp_St}   (h : ((σ.1 58 30) = 0 →
((σ.1 58 28) = 3 →
tp_E 135 278 [.ref 58, .null, .null] [] σ post) ∧ (¬ (σ.1 58 28) = 3 →
tp_E 130 0 [.ref 58, .int 2, .int (σ.1 58 26)] [] σ (fun r1 σ1 =>
tp_E 135 278 [.ref 58, .null, .null] [] σ1 post))) ∧ (¬ (σ.1 58 30) = 0 →
tp_E 135 278 [.ref 58, .null, .null] [] σ post)) : tp_E 135 254 [.ref 58, .null, .null] [] σ post := tp_E_step (And.intro (fun c2 => And.intro (fun c3 => Exists.intro [.ref 58, .null, .null] (And.intro (And.intro (Or.inr rfl) (And.intro (Or.inr rfl) (And.intro (Or.inr rfl) (trivial)))) ((h.1 c2).1 c3))) (fun c3 => tp_Em ((h.1 c2).2 c3) (fun r1 σ1 h1 => Exists.intro [.ref 58, .null, .null] (And.intro (And.intro (Or.inr rfl) (And.intro (Or.inr rfl) (And.intro (Or.inr rfl) (trivial)))) h1)))) (fun c2 => Exists.intro [.ref 58, .null, .null] (And.intro (And.intro (Or.inr rfl) (And.intro (Or.inr rfl) (And.intro (Or.inr rfl) (trivial)))) (h.2 c2))))
/-- X10_law ()V, 278 -/
theorem sg_135_278 {post : Int32 → tp_St → Prop} {σ : tp_St}   (h : tp_E 132 0 [.ref 58, .null] [] σ (fun r1 σ1 =>
post 0 σ1)) : tp_E 135 278 [.ref 58, .null, .null] [] σ post := tp_E_step (tp_Em h (fun r1 σ1 h1 => h1))
/-- X10_laws ()I, 0 -/
theorem sg_136_0 {post : Int32 → tp_St → Prop} {σ : tp_St}   (h : tp_E 132 0 [.ref 58, .null] [] (tp_set (tp_set (tp_set (tp_set (tp_set σ 58 30 0) 58 27 0) 58 33 0) 58 34 0) 58 35 (-4)) (fun r1 σ1 =>
tp_E 136 30 [.ref 58, .null] [] σ1 post)) : tp_E 136 0 [.ref 58, .null] [] σ post := tp_E_step (tp_Em h (fun r1 σ1 h1 => Exists.intro [.ref 58, .null] (And.intro (And.intro (Or.inr rfl) (And.intro (Or.inr rfl) (trivial))) h1)))
/-- X10_laws ()I, 30 -/
theorem sg_136_30 {post : Int32 → tp_St → Prop} {σ : tp_St}   (h : ((σ.1 58 30) = 0 →
((σ.1 58 28) = 0 →
((σ.1 58 30) ≤ 0 →
tp_E 136 105 [.ref 58, .int 0] [] (tp_set (tp_set (tp_set (tp_set (tp_set σ 58 18 0) 58 19 (σ.1 58 30)) 58 20 (σ.1 58 33)) 58 22 (σ.1 58 34)) 58 24 (σ.1 58 35)) post) ∧ (¬ (σ.1 58 30) ≤ 0 →
post ((-10) - (σ.1 58 31)) (tp_set (tp_set σ 58 18 0) 58 19 (σ.1 58 30)))) ∧ (¬ (σ.1 58 28) = 0 →
tp_E 135 0 [.ref 58, .null, .null] [] σ (fun r1 σ1 =>
tp_E 136 30 [.ref 58, .null] [] σ1 post))) ∧ (¬ (σ.1 58 30) = 0 →
((σ.1 58 30) ≤ 0 →
tp_E 136 105 [.ref 58, .int 0] [] (tp_set (tp_set (tp_set (tp_set (tp_set σ 58 18 0) 58 19 (σ.1 58 30)) 58 20 (σ.1 58 33)) 58 22 (σ.1 58 34)) 58 24 (σ.1 58 35)) post) ∧ (¬ (σ.1 58 30) ≤ 0 →
post ((-10) - (σ.1 58 31)) (tp_set (tp_set σ 58 18 0) 58 19 (σ.1 58 30))))) : tp_E 136 30 [.ref 58, .null] [] σ post := tp_E_step (And.intro (fun c2 => And.intro (fun c3 => Exists.intro _ (And.intro (tp_wk_rf _) (tp_E_step (And.intro (fun c4 => Exists.intro _ (And.intro (tp_wk_rf _) (tp_E_step (Exists.intro [.ref 58, .int 0] (And.intro (And.intro (Or.inr rfl) (And.intro (Or.inr rfl) (trivial))) (((h.1 c2).1 c3).1 c4)))))) (fun c4 => And.intro rfl (((h.1 c2).1 c3).2 c4)))))) (fun c3 => tp_Em ((h.1 c2).2 c3) (fun r1 σ1 h1 => Exists.intro [.ref 58, .null] (And.intro (And.intro (Or.inr rfl) (And.intro (Or.inr rfl) (trivial))) h1)))) (fun c2 => Exists.intro _ (And.intro (tp_wk_rf _) (tp_E_step (And.intro (fun c5 => Exists.intro _ (And.intro (tp_wk_rf _) (tp_E_step (Exists.intro [.ref 58, .int 0] (And.intro (And.intro (Or.inr rfl) (And.intro (Or.inr rfl) (trivial))) ((h.2 c2).1 c5)))))) (fun c5 => And.intro rfl ((h.2 c2).2 c5)))))))
/-- X10_laws ()I, 105 -/
theorem sg_136_105 {post : Int32 → tp_St → Prop} {σ : tp_St} (a1 : Int32)  (h : (18 ≤ a1 →
tp_E 136 131 [.ref 58, .int 0] [] σ post) ∧ (¬ 18 ≤ a1 →
vp_in a1 18 ∧
vp_in a1 18 ∧
tp_E 136 105 [.ref 58, .int (a1 + 1)] [] (tp_set σ 74 (a1).toNatClampNeg (σ.1 77 (a1).toNatClampNeg)) post)) : tp_E 136 105 [.ref 58, .int a1] [] σ post := tp_E_step (And.intro (fun c1 => Exists.intro _ (And.intro (tp_wk_rf _) (tp_E_step (Exists.intro [.ref 58, .int 0] (And.intro (And.intro (Or.inr rfl) (And.intro (Or.inr rfl) (trivial))) (h.1 c1)))))) (fun c1 => And.intro (h.2 c1).1 (And.intro (h.2 c1).2.1 (Exists.intro [.ref 58, .int (a1 + 1)] (And.intro (And.intro (Or.inr rfl) (And.intro (Or.inr rfl) (trivial))) (h.2 c1).2.2)))))
/-- X10_laws ()I, 131 -/
theorem sg_136_131 {post : Int32 → tp_St → Prop} {σ : tp_St} (a1 : Int32)  (h : (12 ≤ a1 →
((σ.1 58 24) = (-4) →
post (((σ.1 58 20) + (σ.1 58 22)) + 0) (tp_set σ 58 25 (((σ.1 58 20) + (σ.1 58 22)) + 0))) ∧ (¬ (σ.1 58 24) = (-4) →
post (((σ.1 58 20) + (σ.1 58 22)) + 1) (tp_set σ 58 25 (((σ.1 58 20) + (σ.1 58 22)) + 1)))) ∧ (¬ 12 ≤ a1 →
vp_in a1 12 ∧
vp_in a1 12 ∧
tp_E 136 131 [.ref 58, .int (a1 + 1)] [] (tp_set σ 75 (a1).toNatClampNeg (σ.1 78 (a1).toNatClampNeg)) post)) : tp_E 136 131 [.ref 58, .int a1] [] σ post := tp_E_step (And.intro (fun c1 => Exists.intro _ (And.intro (tp_wk_rf _) (tp_E_step (And.intro (fun c2 => Exists.intro _ (And.intro (tp_wk_rf _) (tp_E_step (And.intro rfl ((h.1 c1).1 c2))))) (fun c2 => Exists.intro _ (And.intro (tp_wk_rf _) (tp_E_step (Exists.intro _ (And.intro (tp_wk_rf _) (tp_E_step (And.intro rfl ((h.1 c1).2 c2)))))))))))) (fun c1 => And.intro (h.2 c1).1 (And.intro (h.2 c1).2.1 (Exists.intro [.ref 58, .int (a1 + 1)] (And.intro (And.intro (Or.inr rfl) (And.intro (Or.inr rfl) (trivial))) (h.2 c1).2.2)))))
/-- X10_fault ()I, 0 -/
theorem sg_137_0 {post : Int32 → tp_St → Prop} {σ : tp_St}   (h : post (σ.1 58 19) σ) : tp_E 137 0 [.ref 58] [] σ post := tp_E_step (And.intro rfl h)
/-- X10_fare (II)I, 0 -/
theorem sg_138_0 {post : Int32 → tp_St → Prop} {σ : tp_St} (a1 : Int32) (a2 : Int32)  (h : tp_E 101 0 [.long (a1).toInt64, .null, .long (Int64.ofNat 1), .null, .long (Int64.ofNat 9), .null] [] σ (fun r1 σ1 =>
(r1 = 0 →
post (-1) σ1) ∧ (¬ r1 = 0 →
tp_E 101 0 [.long (a2).toInt64, .null, .long (Int64.ofNat 0), .null, .long (Int64.ofNat 1439), .null] [] σ1 (fun r2 σ2 =>
(r2 = 0 →
post (-1) σ2) ∧ (¬ r2 = 0 →
tp_E 138 37 [.ref 58, .int a1, .int a2, .int (-4), .int ((σ2.1 58 20) - 1)] [] σ2 post))))) : tp_E 138 0 [.ref 58, .int a1, .int a2, .null, .null] [] σ post := tp_E_step (tp_Em h (fun r1 σ1 h1 => And.intro (fun c3 => Exists.intro _ (And.intro (tp_wk_rf _) (tp_E_step (And.intro rfl (h1.1 c3))))) (fun c3 => tp_Em (h1.2 c3) (fun r2 σ2 h2 => And.intro (fun c4 => Exists.intro _ (And.intro (tp_wk_rf _) (tp_E_step (And.intro rfl (h2.1 c4))))) (fun c4 => Exists.intro _ (And.intro (tp_wk_rf _) (tp_E_step (Exists.intro [.ref 58, .int a1, .int a2, .int (-4), .int ((σ2.1 58 20) - 1)] (And.intro (And.intro (Or.inr rfl) (And.intro (Or.inr rfl) (And.intro (Or.inr rfl) (And.intro (Or.inr rfl) (And.intro (Or.inr rfl) (trivial)))))) (h2.2 c4))))))))))
/-- X10_fare (II)I, 37 -/
theorem sg_138_37 {post : Int32 → tp_St → Prop} {σ : tp_St} (a1 : Int32) (a2 : Int32) (a3 : Int32) (a4 : Int32)  (h : (a4 < 0 →
tp_E 138 80 [.ref 58, .null, .int a2, .int a3, .int 0] [] σ post) ∧ (¬ a4 < 0 →
vp_in (2 * a4) 18 ∧
((σ.1 74 ((2 * a4)).toNatClampNeg) < a1 →
tp_E 138 37 [.ref 58, .int a1, .int a2, .int a3, .int (a4 + (-1))] [] σ post) ∧ (¬ (σ.1 74 ((2 * a4)).toNatClampNeg) < a1 →
vp_in ((2 * a4) + 1) 18 ∧
tp_E 138 37 [.ref 58, .int a1, .int a2, .int (σ.1 74 (((2 * a4) + 1)).toNatClampNeg), .int (a4 + (-1))] [] σ post))) : tp_E 138 37 [.ref 58, .int a1, .int a2, .int a3, .int a4] [] σ post := tp_E_step (And.intro (fun c1 => Exists.intro _ (And.intro (tp_wk_rf _) (tp_E_step (Exists.intro [.ref 58, .null, .int a2, .int a3, .int 0] (And.intro (And.intro (Or.inr rfl) (And.intro (Or.inl rfl) (And.intro (Or.inr rfl) (And.intro (Or.inr rfl) (And.intro (Or.inr rfl) (trivial)))))) (h.1 c1)))))) (fun c1 => And.intro (h.2 c1).1 (And.intro (fun c2 => Exists.intro _ (And.intro (tp_wk_rf _) (tp_E_step (Exists.intro _ (And.intro (tp_wk_rf _) (tp_E_step (Exists.intro [.ref 58, .int a1, .int a2, .int a3, .int (a4 + (-1))] (And.intro (And.intro (Or.inr rfl) (And.intro (Or.inr rfl) (And.intro (Or.inr rfl) (And.intro (Or.inr rfl) (And.intro (Or.inr rfl) (trivial)))))) ((h.2 c1).2.1 c2))))))))) (fun c2 => And.intro ((h.2 c1).2.2 c2).1 (Exists.intro _ (And.intro (tp_wk_rf _) (tp_E_step (Exists.intro [.ref 58, .int a1, .int a2, .int (σ.1 74 (((2 * a4) + 1)).toNatClampNeg), .int (a4 + (-1))] (And.intro (And.intro (Or.inr rfl) (And.intro (Or.inr rfl) (And.intro (Or.inr rfl) (And.intro (Or.inr rfl) (And.intro (Or.inr rfl) (trivial)))))) ((h.2 c1).2.2 c2).2)))))))))
/-- X10_fare (II)I, 80 -/
theorem sg_138_80 {post : Int32 → tp_St → Prop} {σ : tp_St} (a2 : Int32) (a3 : Int32) (a4 : Int32)  (h : ((σ.1 58 22) ≤ a4 →
post a3 σ) ∧ (¬ (σ.1 58 22) ≤ a4 →
(a3 = (-4) →
post a3 σ) ∧ (¬ a3 = (-4) →
vp_in (3 * a4) 12 ∧
vp_in ((3 * a4) + 1) 12 ∧
tp_E 101 0 [.long ((a2 / 60)).toInt64, .null, .long ((σ.1 75 ((3 * a4)).toNatClampNeg)).toInt64, .null, .long (((σ.1 75 (((3 * a4) + 1)).toNatClampNeg) - 1)).toInt64, .null] [] σ (fun r1 σ1 =>
(r1 = 0 →
tp_E 138 80 [.ref 58, .null, .int a2, .int a3, .int (a4 + 1)] [] σ1 post) ∧ (¬ r1 = 0 →
vp_in ((3 * a4) + 2) 12 ∧
post (((a3 * (σ1.1 75 (((3 * a4) + 2)).toNatClampNeg)) + 99) / 100) σ1))))) : tp_E 138 80 [.ref 58, .null, .int a2, .int a3, .int a4] [] σ post := tp_E_step (And.intro (fun c2 => Exists.intro _ (And.intro (tp_wk_rf _) (tp_E_step (And.intro rfl (h.1 c2))))) (fun c2 => And.intro (fun c3 => Exists.intro _ (And.intro (tp_wk_rf _) (tp_E_step (And.intro rfl ((h.2 c2).1 c3))))) (fun c3 => And.intro (by decide) (And.intro ((h.2 c2).2 c3).1 (And.intro ((h.2 c2).2 c3).2.1 (tp_Em ((h.2 c2).2 c3).2.2 (fun r1 σ1 h1 => And.intro (fun c4 => Exists.intro _ (And.intro (tp_wk_rf _) (tp_E_step (Exists.intro [.ref 58, .null, .int a2, .int a3, .int (a4 + 1)] (And.intro (And.intro (Or.inr rfl) (And.intro (Or.inr rfl) (And.intro (Or.inr rfl) (And.intro (Or.inr rfl) (And.intro (Or.inr rfl) (trivial)))))) (h1.1 c4)))))) (fun c4 => And.intro (h1.2 c4).1 (And.intro (by decide) (And.intro rfl (h1.2 c4).2))))))))))
/-- X10_change (II)I, 0 -/
theorem sg_139_0 {post : Int32 → tp_St → Prop} {σ : tp_St} (a1 : Int32) (a2 : Int32)  (h : tp_E 101 0 [.long (a1).toInt64, .null, .long (Int64.ofNat 0), .null, .long (Int64.ofNat 1439), .null] [] σ (fun r1 σ1 =>
(r1 = 0 →
post (-1) σ1) ∧ (¬ r1 = 0 →
tp_E 101 0 [.long (a2).toInt64, .null, .long (a1).toInt64, .null, .long (Int64.ofNat 1439), .null] [] σ1 (fun r2 σ2 =>
(r2 = 0 →
post (-1) σ2) ∧ (¬ r2 = 0 →
((σ2.1 58 24) = (-4) →
post 0 σ2) ∧ (¬ (σ2.1 58 24) = (-4) →
((σ2.1 58 24) < (a2 - a1) →
post 0 σ2) ∧ (¬ (σ2.1 58 24) < (a2 - a1) →
post 1 σ2))))))) : tp_E 139 0 [.ref 58, .int a1, .int a2] [] σ post := tp_E_step (tp_Em h (fun r1 σ1 h1 => And.intro (fun c3 => Exists.intro _ (And.intro (tp_wk_rf _) (tp_E_step (And.intro rfl (h1.1 c3))))) (fun c3 => tp_Em (h1.2 c3) (fun r2 σ2 h2 => And.intro (fun c4 => Exists.intro _ (And.intro (tp_wk_rf _) (tp_E_step (And.intro rfl (h2.1 c4))))) (fun c4 => Exists.intro _ (And.intro (tp_wk_rf _) (tp_E_step (And.intro (fun c5 => Exists.intro _ (And.intro (tp_wk_rf _) (tp_E_step (Exists.intro _ (And.intro (tp_wk_rf _) (tp_E_step (And.intro rfl ((h2.2 c4).1 c5)))))))) (fun c5 => And.intro (fun c6 => Exists.intro _ (And.intro (tp_wk_rf _) (tp_E_step (Exists.intro _ (And.intro (tp_wk_rf _) (tp_E_step (And.intro rfl (((h2.2 c4).2 c5).1 c6)))))))) (fun c6 => Exists.intro _ (And.intro (tp_wk_rf _) (tp_E_step (And.intro rfl (((h2.2 c4).2 c5).2 c6))))))))))))))
/-- X10_duty (II)I, 0 -/
theorem sg_140_0 {post : Int32 → tp_St → Prop} {σ : tp_St} (a1 : Int32) (a2 : Int32)  (h : tp_E 101 0 [.long (a1).toInt64, .null, .long (Int64.ofNat 0), .null, .long (Int64.ofNat 1440), .null] [] σ (fun r1 σ1 =>
(r1 = 0 →
post (-1) σ1) ∧ (¬ r1 = 0 →
tp_E 101 0 [.long (a2).toInt64, .null, .long ((a1).toInt64 + (Int64.ofNat 1)), .null, .long (Int64.ofNat 1440), .null] [] σ1 (fun r2 σ2 =>
(r2 = 0 →
post (-1) σ2) ∧ (¬ r2 = 0 →
((σ2.1 58 38) = 10 →
post (-3) σ2) ∧ (¬ (σ2.1 58 38) = 10 →
vp_in (σ2.1 58 38) 10 ∧
vp_in (σ2.1 58 38) 10 ∧
post (((σ2.1 58 38) + 1) - 1) (tp_set (tp_set (tp_set σ2 79 ((σ2.1 58 38)).toNatClampNeg a1) 80 ((σ2.1 58 38)).toNatClampNeg a2) 58 38 ((σ2.1 58 38) + 1)))))))) : tp_E 140 0 [.ref 58, .int a1, .int a2] [] σ post := tp_E_step (tp_Em h (fun r1 σ1 h1 => And.intro (fun c3 => Exists.intro _ (And.intro (tp_wk_rf _) (tp_E_step (And.intro rfl (h1.1 c3))))) (fun c3 => tp_Em (h1.2 c3) (fun r2 σ2 h2 => And.intro (fun c4 => Exists.intro _ (And.intro (tp_wk_rf _) (tp_E_step (And.intro rfl (h2.1 c4))))) (fun c4 => Exists.intro _ (And.intro (tp_wk_rf _) (tp_E_step (And.intro (fun c5 => And.intro rfl ((h2.2 c4).1 c5)) (fun c5 => Exists.intro _ (And.intro (tp_wk_rf _) (tp_E_step (And.intro ((h2.2 c4).2 c5).1 (And.intro ((h2.2 c4).2 c5).2.1 (And.intro rfl ((h2.2 c4).2 c5).2.2))))))))))))))
/-- X10_rest (I)I, 0 -/
theorem sg_141_0 {post : Int32 → tp_St → Prop} {σ : tp_St} (a1 : Int32)  (h : tp_E 101 0 [.long (a1).toInt64, .null, .long (Int64.ofNat 0), .null, .long (Int64.ofNat 600), .null] [] σ (fun r1 σ1 =>
(r1 = 0 →
post (-1) σ1) ∧ (¬ r1 = 0 →
post (σ1.1 58 41) (tp_set σ1 58 41 a1)))) : tp_E 141 0 [.ref 58, .int a1, .null] [] σ post := tp_E_step (tp_Em h (fun r1 σ1 h1 => And.intro (fun c2 => And.intro rfl (h1.1 c2)) (fun c2 => Exists.intro _ (And.intro (tp_wk_rf _) (tp_E_step (And.intro rfl (h1.2 c2)))))))
/-- X10_layCrews ()V, 0 -/
theorem sg_142_0 {post : Int32 → tp_St → Prop} {σ : tp_St}   (h : tp_E 142 7 [.ref 58, .int 0, .null, .null] [] (tp_set σ 58 43 0) post) : tp_E 142 0 [.ref 58, .null, .null, .null] [] σ post := tp_E_step (Exists.intro [.ref 58, .int 0, .null, .null] (And.intro (And.intro (Or.inr rfl) (And.intro (Or.inr rfl) (And.intro (Or.inr rfl) (And.intro (Or.inr rfl) (trivial))))) h))
/-- X10_layCrews ()V, 7 -/
theorem sg_142_7 {post : Int32 → tp_St → Prop} {σ : tp_St} (a1 : Int32)  (h : ((σ.1 58 38) ≤ a1 →
tp_E 142 31 [.ref 58, .int 0, .null, .null] [] σ post) ∧ (¬ (σ.1 58 38) ≤ a1 →
vp_in a1 10 ∧
tp_E 142 7 [.ref 58, .int (a1 + 1), .null, .null] [] (tp_set σ 81 (a1).toNatClampNeg (-4)) post)) : tp_E 142 7 [.ref 58, .int a1, .null, .null] [] σ post := tp_E_step (And.intro (fun c1 => Exists.intro _ (And.intro (tp_wk_rf _) (tp_E_step (Exists.intro [.ref 58, .int 0, .null, .null] (And.intro (And.intro (Or.inr rfl) (And.intro (Or.inr rfl) (And.intro (Or.inr rfl) (And.intro (Or.inr rfl) (trivial))))) (h.1 c1)))))) (fun c1 => And.intro (h.2 c1).1 (Exists.intro [.ref 58, .int (a1 + 1), .null, .null] (And.intro (And.intro (Or.inr rfl) (And.intro (Or.inr rfl) (And.intro (Or.inr rfl) (And.intro (Or.inr rfl) (trivial))))) (h.2 c1).2))))
/-- X10_layCrews ()V, 31 -/
theorem sg_142_31 {post : Int32 → tp_St → Prop} {σ : tp_St} (a1 : Int32)  (h : ((σ.1 58 38) ≤ a1 →
post 0 σ) ∧ (¬ (σ.1 58 38) ≤ a1 →
tp_E 142 44 [.ref 58, .int a1, .int (-4), .int 0] [] σ post)) : tp_E 142 31 [.ref 58, .int a1, .null, .null] [] σ post := tp_E_step (And.intro (fun c1 => Exists.intro _ (And.intro (tp_wk_rf _) (tp_E_step ((h.1 c1))))) (fun c1 => Exists.intro [.ref 58, .int a1, .int (-4), .int 0] (And.intro (And.intro (Or.inr rfl) (And.intro (Or.inr rfl) (And.intro (Or.inr rfl) (And.intro (Or.inr rfl) (trivial))))) (h.2 c1))))
/-- X10_layCrews ()V, 44 -/
theorem sg_142_44 {post : Int32 → tp_St → Prop} {σ : tp_St} (a1 : Int32) (a2 : Int32) (a3 : Int32)  (h : ((σ.1 58 38) ≤ a3 →
tp_E 142 98 [.ref 58, .int a1, .int a2, .int 0] [] σ post) ∧ (¬ (σ.1 58 38) ≤ a3 →
vp_in a3 10 ∧
((σ.1 81 (a3).toNatClampNeg) = (-4) →
(a2 = (-4) →
tp_E 142 44 [.ref 58, .int a1, .int a3, .int (a3 + 1)] [] σ post) ∧ (¬ a2 = (-4) →
vp_in a3 10 ∧
vp_in a2 10 ∧
((σ.1 79 (a2).toNatClampNeg) ≤ (σ.1 79 (a3).toNatClampNeg) →
tp_E 142 44 [.ref 58, .int a1, .int a2, .int (a3 + 1)] [] σ post) ∧ (¬ (σ.1 79 (a2).toNatClampNeg) ≤ (σ.1 79 (a3).toNatClampNeg) →
tp_E 142 44 [.ref 58, .int a1, .int a3, .int (a3 + 1)] [] σ post))) ∧ (¬ (σ.1 81 (a3).toNatClampNeg) = (-4) →
tp_E 142 44 [.ref 58, .int a1, .int a2, .int (a3 + 1)] [] σ post))) : tp_E 142 44 [.ref 58, .int a1, .int a2, .int a3] [] σ post := tp_E_step (And.intro (fun c1 => Exists.intro _ (And.intro (tp_wk_rf _) (tp_E_step (Exists.intro [.ref 58, .int a1, .int a2, .int 0] (And.intro (And.intro (Or.inr rfl) (And.intro (Or.inr rfl) (And.intro (Or.inr rfl) (And.intro (Or.inr rfl) (trivial))))) (h.1 c1)))))) (fun c1 => And.intro (h.2 c1).1 (And.intro (fun c2 => And.intro (fun c3 => Exists.intro _ (And.intro (tp_wk_rf _) (tp_E_step (Exists.intro _ (And.intro (tp_wk_rf _) (tp_E_step (Exists.intro [.ref 58, .int a1, .int a3, .int (a3 + 1)] (And.intro (And.intro (Or.inr rfl) (And.intro (Or.inr rfl) (And.intro (Or.inr rfl) (And.intro (Or.inr rfl) (trivial))))) (((h.2 c1).2.1 c2).1 c3))))))))) (fun c3 => And.intro (((h.2 c1).2.1 c2).2 c3).1 (And.intro (((h.2 c1).2.1 c2).2 c3).2.1 (And.intro (fun c4 => Exists.intro _ (And.intro (tp_wk_rf _) (tp_E_step (Exists.intro _ (And.intro (tp_wk_rf _) (tp_E_step (Exists.intro [.ref 58, .int a1, .int a2, .int (a3 + 1)] (And.intro (And.intro (Or.inr rfl) (And.intro (Or.inr rfl) (And.intro (Or.inr rfl) (And.intro (Or.inr rfl) (trivial))))) ((((h.2 c1).2.1 c2).2 c3).2.2.1 c4))))))))) (fun c4 => Exists.intro _ (And.intro (tp_wk_rf _) (tp_E_step (Exists.intro _ (And.intro (tp_wk_rf _) (tp_E_step (Exists.intro [.ref 58, .int a1, .int a3, .int (a3 + 1)] (And.intro (And.intro (Or.inr rfl) (And.intro (Or.inr rfl) (And.intro (Or.inr rfl) (And.intro (Or.inr rfl) (trivial))))) ((((h.2 c1).2.1 c2).2 c3).2.2.2 c4))))))))))))) (fun c2 => Exists.intro _ (And.intro (tp_wk_rf _) (tp_E_step (Exists.intro _ (And.intro (tp_wk_rf _) (tp_E_step (Exists.intro [.ref 58, .int a1, .int a2, .int (a3 + 1)] (And.intro (And.intro (Or.inr rfl) (And.intro (Or.inr rfl) (And.intro (Or.inr rfl) (And.intro (Or.inr rfl) (trivial))))) ((h.2 c1).2.2 c2))))))))))))
/-- X10_layCrews ()V, 98 -/
theorem sg_142_98 {post : Int32 → tp_St → Prop} {σ : tp_St} (a1 : Int32) (a2 : Int32) (a3 : Int32)  (h : tp_E 143 0 [.ref 58, .int a3, .int a2, .null, .null] [] σ (fun r1 σ1 =>
(r1 = 0 →
tp_E 142 98 [.ref 58, .int a1, .int a2, .int (a3 + 1)] [] σ1 post) ∧ (¬ r1 = 0 →
vp_in a2 10 ∧
((a3 + 1) ≤ (σ1.1 58 43) →
tp_E 142 31 [.ref 58, .int (a1 + 1), .null, .null] [] (tp_set (tp_set σ1 81 (a2).toNatClampNeg a3) 58 43 (σ1.1 58 43)) post) ∧ (¬ (a3 + 1) ≤ (σ1.1 58 43) →
tp_E 142 31 [.ref 58, .int (a1 + 1), .null, .null] [] (tp_set (tp_set σ1 81 (a2).toNatClampNeg a3) 58 43 (a3 + 1)) post)))) : tp_E 142 98 [.ref 58, .int a1, .int a2, .int a3] [] σ post := tp_E_step (tp_Em h (fun r1 σ1 h1 => And.intro (fun c2 => Exists.intro [.ref 58, .int a1, .int a2, .int (a3 + 1)] (And.intro (And.intro (Or.inr rfl) (And.intro (Or.inr rfl) (And.intro (Or.inr rfl) (And.intro (Or.inr rfl) (trivial))))) (h1.1 c2))) (fun c2 => Exists.intro _ (And.intro (tp_wk_rf _) (tp_E_step (And.intro (h1.2 c2).1 (And.intro (fun c3 => Exists.intro _ (And.intro (tp_wk_rf _) (tp_E_step (Exists.intro _ (And.intro (tp_wk_rf _) (tp_E_step (Exists.intro [.ref 58, .int (a1 + 1), .null, .null] (And.intro (And.intro (Or.inr rfl) (And.intro (Or.inr rfl) (And.intro (Or.inl rfl) (And.intro (Or.inl rfl) (trivial))))) ((h1.2 c2).2.1 c3))))))))) (fun c3 => Exists.intro _ (And.intro (tp_wk_rf _) (tp_E_step (Exists.intro [.ref 58, .int (a1 + 1), .null, .null] (And.intro (And.intro (Or.inr rfl) (And.intro (Or.inr rfl) (And.intro (Or.inl rfl) (And.intro (Or.inl rfl) (trivial))))) ((h1.2 c2).2.2 c3)))))))))))))
/-- X10_mayHave (II)Z, 0 -/
theorem sg_143_0 {post : Int32 → tp_St → Prop} {σ : tp_St} (a1 : Int32) (a2 : Int32)  (h : tp_E 143 5 [.ref 58, .int a1, .int a2, .int 1, .int 0] [] σ post) : tp_E 143 0 [.ref 58, .int a1, .int a2, .null, .null] [] σ post := tp_E_step (Exists.intro [.ref 58, .int a1, .int a2, .int 1, .int 0] (And.intro (And.intro (Or.inr rfl) (And.intro (Or.inr rfl) (And.intro (Or.inr rfl) (And.intro (Or.inr rfl) (And.intro (Or.inr rfl) (trivial)))))) h))
/-- X10_mayHave (II)Z, 5 -/
theorem sg_143_5 {post : Int32 → tp_St → Prop} {σ : tp_St} (a1 : Int32) (a2 : Int32) (a3 : Int32) (a4 : Int32)  (h : ((σ.1 58 38) ≤ a4 →
narrow .boolean (.int a3) = .int a3 ∧ post a3 σ) ∧ (¬ (σ.1 58 38) ≤ a4 →
(a3 = 0 →
tp_E 143 5 [.ref 58, .int a1, .int a2, .int 0, .int (a4 + 1)] [] σ post) ∧ (¬ a3 = 0 →
vp_in a4 10 ∧
((σ.1 81 (a4).toNatClampNeg) = a1 →
vp_in a4 10 ∧
vp_in a2 10 ∧
((σ.1 79 (a2).toNatClampNeg) < ((σ.1 80 (a4).toNatClampNeg) + (σ.1 58 41)) →
tp_E 143 5 [.ref 58, .int a1, .int a2, .int 0, .int (a4 + 1)] [] σ post) ∧ (¬ (σ.1 79 (a2).toNatClampNeg) < ((σ.1 80 (a4).toNatClampNeg) + (σ.1 58 41)) →
tp_E 143 5 [.ref 58, .int a1, .int a2, .int 1, .int (a4 + 1)] [] σ post)) ∧ (¬ (σ.1 81 (a4).toNatClampNeg) = a1 →
tp_E 143 5 [.ref 58, .int a1, .int a2, .int 1, .int (a4 + 1)] [] σ post)))) : tp_E 143 5 [.ref 58, .int a1, .int a2, .int a3, .int a4] [] σ post := tp_E_step (And.intro (fun c1 => Exists.intro _ (And.intro (tp_wk_rf _) (tp_E_step ((h.1 c1))))) (fun c1 => And.intro (fun c2 => Exists.intro _ (And.intro (tp_wk_rf _) (tp_E_step (Exists.intro _ (And.intro (tp_wk_rf _) (tp_E_step (Exists.intro [.ref 58, .int a1, .int a2, .int 0, .int (a4 + 1)] (And.intro (And.intro (Or.inr rfl) (And.intro (Or.inr rfl) (And.intro (Or.inr rfl) (And.intro (Or.inr rfl) (And.intro (Or.inr rfl) (trivial)))))) ((h.2 c1).1 c2))))))))) (fun c2 => And.intro ((h.2 c1).2 c2).1 (And.intro (fun c3 => And.intro (((h.2 c1).2 c2).2.1 c3).1 (And.intro (((h.2 c1).2 c2).2.1 c3).2.1 (And.intro (fun c4 => Exists.intro _ (And.intro (tp_wk_rf _) (tp_E_step (Exists.intro _ (And.intro (tp_wk_rf _) (tp_E_step (Exists.intro [.ref 58, .int a1, .int a2, .int 0, .int (a4 + 1)] (And.intro (And.intro (Or.inr rfl) (And.intro (Or.inr rfl) (And.intro (Or.inr rfl) (And.intro (Or.inr rfl) (And.intro (Or.inr rfl) (trivial)))))) ((((h.2 c1).2 c2).2.1 c3).2.2.1 c4))))))))) (fun c4 => Exists.intro _ (And.intro (tp_wk_rf _) (tp_E_step (Exists.intro _ (And.intro (tp_wk_rf _) (tp_E_step (Exists.intro [.ref 58, .int a1, .int a2, .int 1, .int (a4 + 1)] (And.intro (And.intro (Or.inr rfl) (And.intro (Or.inr rfl) (And.intro (Or.inr rfl) (And.intro (Or.inr rfl) (And.intro (Or.inr rfl) (trivial)))))) ((((h.2 c1).2 c2).2.1 c3).2.2.2 c4)))))))))))) (fun c3 => Exists.intro _ (And.intro (tp_wk_rf _) (tp_E_step (Exists.intro _ (And.intro (tp_wk_rf _) (tp_E_step (Exists.intro [.ref 58, .int a1, .int a2, .int 1, .int (a4 + 1)] (And.intro (And.intro (Or.inr rfl) (And.intro (Or.inr rfl) (And.intro (Or.inr rfl) (And.intro (Or.inr rfl) (And.intro (Or.inr rfl) (trivial)))))) (((h.2 c1).2 c2).2.2 c3)))))))))))))
/-- X10_crew (I)I, 0 -/
theorem sg_144_0 {post : Int32 → tp_St → Prop} {σ : tp_St} (a1 : Int32)  (h : tp_E 101 0 [.long (a1).toInt64, .null, .long (Int64.ofNat 0), .null, .long (((σ.1 58 38) - 1)).toInt64, .null] [] σ (fun r1 σ1 =>
(r1 = 0 →
post (-1) σ1) ∧ (¬ r1 = 0 →
tp_E 142 0 [.ref 58, .null, .null, .null] [] σ1 (fun r2 σ2 =>
vp_in a1 10 ∧
post (σ2.1 81 (a1).toNatClampNeg) σ2)))) : tp_E 144 0 [.ref 58, .int a1] [] σ post := tp_E_step (tp_Em h (fun r1 σ1 h1 => And.intro (fun c2 => And.intro rfl (h1.1 c2)) (fun c2 => Exists.intro _ (And.intro (tp_wk_rf _) (tp_E_step (tp_Em (h1.2 c2) (fun r3 σ3 h3 => And.intro h3.1 (And.intro rfl h3.2))))))))
/-- X10_minutesOf (I)I, 0 -/
theorem sg_145_0 {post : Int32 → tp_St → Prop} {σ : tp_St} (a1 : Int32)  (h : tp_E 145 4 [.ref 58, .int a1, .int 0, .int 0] [] σ post) : tp_E 145 0 [.ref 58, .int a1, .null, .null] [] σ post := tp_E_step (Exists.intro [.ref 58, .int a1, .int 0, .int 0] (And.intro (And.intro (Or.inr rfl) (And.intro (Or.inr rfl) (And.intro (Or.inr rfl) (And.intro (Or.inr rfl) (trivial))))) h))
/-- X10_minutesOf (I)I, 4 -/
theorem sg_145_4 {post : Int32 → tp_St → Prop} {σ : tp_St} (a1 : Int32) (a2 : Int32) (a3 : Int32)  (h : ((σ.1 58 38) ≤ a3 →
post a2 σ) ∧ (¬ (σ.1 58 38) ≤ a3 →
vp_in a3 10 ∧
((σ.1 81 (a3).toNatClampNeg) = a1 →
vp_in a3 10 ∧
vp_in a3 10 ∧
tp_E 145 4 [.ref 58, .int a1, .int (a2 + ((σ.1 80 (a3).toNatClampNeg) - (σ.1 79 (a3).toNatClampNeg))), .int (a3 + 1)] [] σ post) ∧ (¬ (σ.1 81 (a3).toNatClampNeg) = a1 →
tp_E 145 4 [.ref 58, .int a1, .int (a2 + 0), .int (a3 + 1)] [] σ post))) : tp_E 145 4 [.ref 58, .int a1, .int a2, .int a3] [] σ post := tp_E_step (And.intro (fun c1 => Exists.intro _ (And.intro (tp_wk_rf _) (tp_E_step (And.intro rfl (h.1 c1))))) (fun c1 => And.intro (h.2 c1).1 (And.intro (fun c2 => And.intro ((h.2 c1).2.1 c2).1 (And.intro ((h.2 c1).2.1 c2).2.1 (Exists.intro _ (And.intro (tp_wk_rf _) (tp_E_step (Exists.intro [.ref 58, .int a1, .int (a2 + ((σ.1 80 (a3).toNatClampNeg) - (σ.1 79 (a3).toNatClampNeg))), .int (a3 + 1)] (And.intro (And.intro (Or.inr rfl) (And.intro (Or.inr rfl) (And.intro (Or.inr rfl) (And.intro (Or.inr rfl) (trivial))))) ((h.2 c1).2.1 c2).2.2))))))) (fun c2 => Exists.intro _ (And.intro (tp_wk_rf _) (tp_E_step (Exists.intro _ (And.intro (tp_wk_rf _) (tp_E_step (Exists.intro [.ref 58, .int a1, .int (a2 + 0), .int (a3 + 1)] (And.intro (And.intro (Or.inr rfl) (And.intro (Or.inr rfl) (And.intro (Or.inr rfl) (And.intro (Or.inr rfl) (trivial))))) ((h.2 c1).2.2 c2))))))))))))
/-- X10_crews (I)I, 0 -/
theorem sg_146_0 {post : Int32 → tp_St → Prop} {σ : tp_St} (a1 : Int32)  (h : tp_E 101 0 [.long (a1).toInt64, .null, .long (Int64.ofNat 0), .null, .long (Int64.ofNat 2), .null] [] σ (fun r1 σ1 =>
(r1 = 0 →
post (-1) σ1) ∧ (¬ r1 = 0 →
tp_E 142 0 [.ref 58, .null, .null, .null] [] σ1 (fun r2 σ2 =>
tp_E 146 28 [.ref 58, .int a1, .int (-4), .int ((σ2.1 58 43) - 1)] [] σ2 post)))) : tp_E 146 0 [.ref 58, .int a1, .null, .null] [] σ post := tp_E_step (tp_Em h (fun r1 σ1 h1 => And.intro (fun c2 => And.intro rfl (h1.1 c2)) (fun c2 => Exists.intro _ (And.intro (tp_wk_rf _) (tp_E_step (tp_Em (h1.2 c2) (fun r3 σ3 h3 => Exists.intro [.ref 58, .int a1, .int (-4), .int ((σ3.1 58 43) - 1)] (And.intro (And.intro (Or.inr rfl) (And.intro (Or.inr rfl) (And.intro (Or.inr rfl) (And.intro (Or.inr rfl) (trivial))))) h3))))))))
/-- X10_crews (I)I, 28 -/
theorem sg_146_28 {post : Int32 → tp_St → Prop} {σ : tp_St} (a1 : Int32) (a2 : Int32) (a3 : Int32)  (h : (a3 < 0 →
(a1 = 0 →
post (σ.1 58 43) σ) ∧ (¬ a1 = 0 →
(a1 = 2 →
post a2 σ) ∧ (¬ a1 = 2 →
(a2 = (-4) →
post 0 σ) ∧ (¬ a2 = (-4) →
tp_E 145 0 [.ref 58, .int a2, .null, .null] [] σ (fun r3 σ3 =>
post r3 σ3))))) ∧ (¬ a3 < 0 →
(a2 = (-4) →
tp_E 146 28 [.ref 58, .int a1, .int a3, .int (a3 + (-1))] [] σ post) ∧ (¬ a2 = (-4) →
tp_E 145 0 [.ref 58, .int a3, .null, .null] [] σ (fun r1 σ1 =>
tp_E 145 0 [.ref 58, .int a2, .null, .null] [] σ1 (fun r2 σ2 =>
(r1 < r2 →
tp_E 146 28 [.ref 58, .int a1, .int a2, .int (a3 + (-1))] [] σ2 post) ∧ (¬ r1 < r2 →
tp_E 146 28 [.ref 58, .int a1, .int a3, .int (a3 + (-1))] [] σ2 post)))))) : tp_E 146 28 [.ref 58, .int a1, .int a2, .int a3] [] σ post := tp_E_step (And.intro (fun c3 => Exists.intro _ (And.intro (tp_wk_rf _) (tp_E_step (And.intro (fun c4 => Exists.intro _ (And.intro (tp_wk_rf _) (tp_E_step (And.intro rfl ((h.1 c3).1 c4))))) (fun c4 => Exists.intro _ (And.intro (tp_wk_rf _) (tp_E_step (And.intro (fun c5 => Exists.intro _ (And.intro (tp_wk_rf _) (tp_E_step (And.intro rfl (((h.1 c3).2 c4).1 c5))))) (fun c5 => Exists.intro _ (And.intro (tp_wk_rf _) (tp_E_step (And.intro (fun c6 => Exists.intro _ (And.intro (tp_wk_rf _) (tp_E_step (And.intro rfl ((((h.1 c3).2 c4).2 c5).1 c6))))) (fun c6 => Exists.intro _ (And.intro (tp_wk_rf _) (tp_E_step (tp_Em ((((h.1 c3).2 c4).2 c5).2 c6) (fun r7 σ7 h7 => Exists.intro _ (And.intro (tp_wk_rf _) (tp_E_step (And.intro rfl h7)))))))))))))))))))) (fun c3 => And.intro (fun c8 => Exists.intro _ (And.intro (tp_wk_rf _) (tp_E_step (Exists.intro _ (And.intro (tp_wk_rf _) (tp_E_step (Exists.intro [.ref 58, .int a1, .int a3, .int (a3 + (-1))] (And.intro (And.intro (Or.inr rfl) (And.intro (Or.inr rfl) (And.intro (Or.inr rfl) (And.intro (Or.inr rfl) (trivial))))) ((h.2 c3).1 c8))))))))) (fun c8 => tp_Em ((h.2 c3).2 c8) (fun r1 σ1 h1 => tp_Em h1 (fun r2 σ2 h2 => And.intro (fun c9 => Exists.intro _ (And.intro (tp_wk_rf _) (tp_E_step (Exists.intro _ (And.intro (tp_wk_rf _) (tp_E_step (Exists.intro [.ref 58, .int a1, .int a2, .int (a3 + (-1))] (And.intro (And.intro (Or.inr rfl) (And.intro (Or.inr rfl) (And.intro (Or.inr rfl) (And.intro (Or.inr rfl) (trivial))))) (h2.1 c9))))))))) (fun c9 => Exists.intro _ (And.intro (tp_wk_rf _) (tp_E_step (Exists.intro _ (And.intro (tp_wk_rf _) (tp_E_step (Exists.intro [.ref 58, .int a1, .int a3, .int (a3 + (-1))] (And.intro (And.intro (Or.inr rfl) (And.intro (Or.inr rfl) (And.intro (Or.inr rfl) (And.intro (Or.inr rfl) (trivial))))) (h2.2 c9))))))))))))))
/-- X10_ill (I)I, 0 -/
theorem sg_147_0 {post : Int32 → tp_St → Prop} {σ : tp_St} (a1 : Int32)  (h : tp_E 142 0 [.ref 58, .null, .null, .null] [] σ (fun r1 σ1 =>
tp_E 101 0 [.long (a1).toInt64, .null, .long (Int64.ofNat 0), .null, .long (((σ1.1 58 43) - 1)).toInt64, .null] [] σ1 (fun r2 σ2 =>
(r2 = 0 →
post (-1) σ2) ∧ (¬ r2 = 0 →
tp_E 147 26 [.ref 58, .int a1, .int 0, .int 0, .null, .null, .null, .null] [] σ2 post)))) : tp_E 147 0 [.ref 58, .int a1, .null, .null, .null, .null, .null, .null] [] σ post := tp_E_step (tp_Em h (fun r1 σ1 h1 => tp_Em h1 (fun r2 σ2 h2 => And.intro (fun c3 => And.intro rfl (h2.1 c3)) (fun c3 => Exists.intro _ (And.intro (tp_wk_rf _) (tp_E_step (Exists.intro [.ref 58, .int a1, .int 0, .int 0, .null, .null, .null, .null] (And.intro (And.intro (Or.inr rfl) (And.intro (Or.inr rfl) (And.intro (Or.inr rfl) (And.intro (Or.inr rfl) (And.intro (Or.inr rfl) (And.intro (Or.inr rfl) (And.intro (Or.inr rfl) (And.intro (Or.inr rfl) (trivial))))))))) (h2.2 c3)))))))))
/-- X10_ill (I)I, 26 -/
theorem sg_147_26 {post : Int32 → tp_St → Prop} {σ : tp_St} (a1 : Int32) (a2 : Int32) (a3 : Int32)  (h : ((σ.1 58 38) ≤ a3 →
post a2 σ) ∧ (¬ (σ.1 58 38) ≤ a3 →
vp_in a3 10 ∧
((σ.1 81 (a3).toNatClampNeg) = a1 →
tp_E 147 54 [.ref 58, .int a1, .int a2, .int a3, .int 0, .int 0, .null, .null] [] σ post) ∧ (¬ (σ.1 81 (a3).toNatClampNeg) = a1 →
tp_E 147 54 [.ref 58, .int a1, .int a2, .int a3, .int 1, .int 0, .null, .null] [] σ post))) : tp_E 147 26 [.ref 58, .int a1, .int a2, .int a3, .null, .null, .null, .null] [] σ post := tp_E_step (And.intro (fun c1 => Exists.intro _ (And.intro (tp_wk_rf _) (tp_E_step (And.intro rfl (h.1 c1))))) (fun c1 => And.intro (h.2 c1).1 (And.intro (fun c2 => Exists.intro _ (And.intro (tp_wk_rf _) (tp_E_step (Exists.intro _ (And.intro (tp_wk_rf _) (tp_E_step (Exists.intro [.ref 58, .int a1, .int a2, .int a3, .int 0, .int 0, .null, .null] (And.intro (And.intro (Or.inr rfl) (And.intro (Or.inr rfl) (And.intro (Or.inr rfl) (And.intro (Or.inr rfl) (And.intro (Or.inr rfl) (And.intro (Or.inr rfl) (And.intro (Or.inr rfl) (And.intro (Or.inr rfl) (trivial))))))))) ((h.2 c1).2.1 c2))))))))) (fun c2 => Exists.intro _ (And.intro (tp_wk_rf _) (tp_E_step (Exists.intro [.ref 58, .int a1, .int a2, .int a3, .int 1, .int 0, .null, .null] (And.intro (And.intro (Or.inr rfl) (And.intro (Or.inr rfl) (And.intro (Or.inr rfl) (And.intro (Or.inr rfl) (And.intro (Or.inr rfl) (And.intro (Or.inr rfl) (And.intro (Or.inr rfl) (And.intro (Or.inr rfl) (trivial))))))))) ((h.2 c1).2.2 c2)))))))))
/-- X10_ill (I)I, 54 -/
theorem sg_147_54 {post : Int32 → tp_St → Prop} {σ : tp_St} (a1 : Int32) (a2 : Int32) (a3 : Int32) (a4 : Int32) (a5 : Int32)  (h : ((σ.1 58 43) ≤ a5 →
(a4 = 0 →
tp_E 147 26 [.ref 58, .int a1, .int (a2 + 1), .int (a3 + 1), .null, .null, .null, .null] [] σ post) ∧ (¬ a4 = 0 →
tp_E 147 26 [.ref 58, .int a1, .int (a2 + 0), .int (a3 + 1), .null, .null, .null, .null] [] σ post)) ∧ (¬ (σ.1 58 43) ≤ a5 →
(a4 = 0 →
(a5 = a1 →
tp_E 147 84 [.ref 58, .int a1, .int a2, .int a3, .null, .int a5, .int 0, .int 0] [] σ post) ∧ (¬ a5 = a1 →
tp_E 147 84 [.ref 58, .int a1, .int a2, .int a3, .null, .int a5, .int 1, .int 0] [] σ post)) ∧ (¬ a4 = 0 →
(a4 = 0 →
tp_E 147 26 [.ref 58, .int a1, .int (a2 + 1), .int (a3 + 1), .null, .null, .null, .null] [] σ post) ∧ (¬ a4 = 0 →
tp_E 147 26 [.ref 58, .int a1, .int (a2 + 0), .int (a3 + 1), .null, .null, .null, .null] [] σ post)))) : tp_E 147 54 [.ref 58, .int a1, .int a2, .int a3, .int a4, .int a5, .null, .null] [] σ post := tp_E_step (And.intro (fun c1 => Exists.intro _ (And.intro (tp_wk_rf _) (tp_E_step (And.intro (fun c2 => Exists.intro _ (And.intro (tp_wk_rf _) (tp_E_step (Exists.intro _ (And.intro (tp_wk_rf _) (tp_E_step (Exists.intro [.ref 58, .int a1, .int (a2 + 1), .int (a3 + 1), .null, .null, .null, .null] (And.intro (And.intro (Or.inr rfl) (And.intro (Or.inr rfl) (And.intro (Or.inr rfl) (And.intro (Or.inr rfl) (And.intro (Or.inl rfl) (And.intro (Or.inl rfl) (And.intro (Or.inr rfl) (And.intro (Or.inr rfl) (trivial))))))))) ((h.1 c1).1 c2))))))))) (fun c2 => Exists.intro _ (And.intro (tp_wk_rf _) (tp_E_step (Exists.intro [.ref 58, .int a1, .int (a2 + 0), .int (a3 + 1), .null, .null, .null, .null] (And.intro (And.intro (Or.inr rfl) (And.intro (Or.inr rfl) (And.intro (Or.inr rfl) (And.intro (Or.inr rfl) (And.intro (Or.inl rfl) (And.intro (Or.inl rfl) (And.intro (Or.inr rfl) (And.intro (Or.inr rfl) (trivial))))))))) ((h.1 c1).2 c2)))))))))) (fun c1 => And.intro (fun c3 => And.intro (fun c4 => Exists.intro _ (And.intro (tp_wk_rf _) (tp_E_step (Exists.intro _ (And.intro (tp_wk_rf _) (tp_E_step (Exists.intro [.ref 58, .int a1, .int a2, .int a3, .null, .int a5, .int 0, .int 0] (And.intro (And.intro (Or.inr rfl) (And.intro (Or.inr rfl) (And.intro (Or.inr rfl) (And.intro (Or.inr rfl) (And.intro (Or.inl rfl) (And.intro (Or.inr rfl) (And.intro (Or.inr rfl) (And.intro (Or.inr rfl) (trivial))))))))) (((h.2 c1).1 c3).1 c4))))))))) (fun c4 => Exists.intro _ (And.intro (tp_wk_rf _) (tp_E_step (Exists.intro [.ref 58, .int a1, .int a2, .int a3, .null, .int a5, .int 1, .int 0] (And.intro (And.intro (Or.inr rfl) (And.intro (Or.inr rfl) (And.intro (Or.inr rfl) (And.intro (Or.inr rfl) (And.intro (Or.inl rfl) (And.intro (Or.inr rfl) (And.intro (Or.inr rfl) (And.intro (Or.inr rfl) (trivial))))))))) (((h.2 c1).1 c3).2 c4))))))) (fun c3 => Exists.intro _ (And.intro (tp_wk_rf _) (tp_E_step (And.intro (fun c5 => Exists.intro _ (And.intro (tp_wk_rf _) (tp_E_step (Exists.intro _ (And.intro (tp_wk_rf _) (tp_E_step (Exists.intro [.ref 58, .int a1, .int (a2 + 1), .int (a3 + 1), .null, .null, .null, .null] (And.intro (And.intro (Or.inr rfl) (And.intro (Or.inr rfl) (And.intro (Or.inr rfl) (And.intro (Or.inr rfl) (And.intro (Or.inl rfl) (And.intro (Or.inl rfl) (And.intro (Or.inr rfl) (And.intro (Or.inr rfl) (trivial))))))))) (((h.2 c1).2 c3).1 c5))))))))) (fun c5 => Exists.intro _ (And.intro (tp_wk_rf _) (tp_E_step (Exists.intro [.ref 58, .int a1, .int (a2 + 0), .int (a3 + 1), .null, .null, .null, .null] (And.intro (And.intro (Or.inr rfl) (And.intro (Or.inr rfl) (And.intro (Or.inr rfl) (And.intro (Or.inr rfl) (And.intro (Or.inl rfl) (And.intro (Or.inl rfl) (And.intro (Or.inr rfl) (And.intro (Or.inr rfl) (trivial))))))))) (((h.2 c1).2 c3).2 c5))))))))))))
/-- X10_ill (I)I, 84 -/
theorem sg_147_84 {post : Int32 → tp_St → Prop} {σ : tp_St} (a1 : Int32) (a2 : Int32) (a3 : Int32) (a5 : Int32) (a6 : Int32) (a7 : Int32)  (h : ((σ.1 58 38) ≤ a7 →
tp_E 147 54 [.ref 58, .int a1, .int a2, .int a3, .int a6, .int (a5 + 1), .null, .null] [] σ post) ∧ (¬ (σ.1 58 38) ≤ a7 →
(a6 = 0 →
tp_E 147 84 [.ref 58, .int a1, .int a2, .int a3, .null, .int a5, .int 0, .int (a7 + 1)] [] σ post) ∧ (¬ a6 = 0 →
vp_in a7 10 ∧
((σ.1 81 (a7).toNatClampNeg) = a5 →
vp_in a7 10 ∧
vp_in a3 10 ∧
(((σ.1 80 (a7).toNatClampNeg) + (σ.1 58 41)) ≤ (σ.1 79 (a3).toNatClampNeg) →
tp_E 147 84 [.ref 58, .int a1, .int a2, .int a3, .null, .int a5, .int 1, .int (a7 + 1)] [] σ post) ∧ (¬ ((σ.1 80 (a7).toNatClampNeg) + (σ.1 58 41)) ≤ (σ.1 79 (a3).toNatClampNeg) →
vp_in a3 10 ∧
vp_in a7 10 ∧
((σ.1 79 (a7).toNatClampNeg) < ((σ.1 80 (a3).toNatClampNeg) + (σ.1 58 41)) →
tp_E 147 84 [.ref 58, .int a1, .int a2, .int a3, .null, .int a5, .int 0, .int (a7 + 1)] [] σ post) ∧ (¬ (σ.1 79 (a7).toNatClampNeg) < ((σ.1 80 (a3).toNatClampNeg) + (σ.1 58 41)) →
tp_E 147 84 [.ref 58, .int a1, .int a2, .int a3, .null, .int a5, .int 1, .int (a7 + 1)] [] σ post))) ∧ (¬ (σ.1 81 (a7).toNatClampNeg) = a5 →
tp_E 147 84 [.ref 58, .int a1, .int a2, .int a3, .null, .int a5, .int 1, .int (a7 + 1)] [] σ post)))) : tp_E 147 84 [.ref 58, .int a1, .int a2, .int a3, .null, .int a5, .int a6, .int a7] [] σ post := tp_E_step (And.intro (fun c1 => Exists.intro _ (And.intro (tp_wk_rf _) (tp_E_step (Exists.intro [.ref 58, .int a1, .int a2, .int a3, .int a6, .int (a5 + 1), .null, .null] (And.intro (And.intro (Or.inr rfl) (And.intro (Or.inr rfl) (And.intro (Or.inr rfl) (And.intro (Or.inr rfl) (And.intro (Or.inr rfl) (And.intro (Or.inr rfl) (And.intro (Or.inl rfl) (And.intro (Or.inl rfl) (trivial))))))))) (h.1 c1)))))) (fun c1 => And.intro (fun c2 => Exists.intro _ (And.intro (tp_wk_rf _) (tp_E_step (Exists.intro _ (And.intro (tp_wk_rf _) (tp_E_step (Exists.intro [.ref 58, .int a1, .int a2, .int a3, .null, .int a5, .int 0, .int (a7 + 1)] (And.intro (And.intro (Or.inr rfl) (And.intro (Or.inr rfl) (And.intro (Or.inr rfl) (And.intro (Or.inr rfl) (And.intro (Or.inr rfl) (And.intro (Or.inr rfl) (And.intro (Or.inr rfl) (And.intro (Or.inr rfl) (trivial))))))))) ((h.2 c1).1 c2))))))))) (fun c2 => And.intro ((h.2 c1).2 c2).1 (And.intro (fun c3 => And.intro (((h.2 c1).2 c2).2.1 c3).1 (And.intro (((h.2 c1).2 c2).2.1 c3).2.1 (And.intro (fun c4 => Exists.intro _ (And.intro (tp_wk_rf _) (tp_E_step (Exists.intro _ (And.intro (tp_wk_rf _) (tp_E_step (Exists.intro [.ref 58, .int a1, .int a2, .int a3, .null, .int a5, .int 1, .int (a7 + 1)] (And.intro (And.intro (Or.inr rfl) (And.intro (Or.inr rfl) (And.intro (Or.inr rfl) (And.intro (Or.inr rfl) (And.intro (Or.inr rfl) (And.intro (Or.inr rfl) (And.intro (Or.inr rfl) (And.intro (Or.inr rfl) (trivial))))))))) ((((h.2 c1).2 c2).2.1 c3).2.2.1 c4))))))))) (fun c4 => And.intro ((((h.2 c1).2 c2).2.1 c3).2.2.2 c4).1 (And.intro ((((h.2 c1).2 c2).2.1 c3).2.2.2 c4).2.1 (And.intro (fun c5 => Exists.intro _ (And.intro (tp_wk_rf _) (tp_E_step (Exists.intro _ (And.intro (tp_wk_rf _) (tp_E_step (Exists.intro [.ref 58, .int a1, .int a2, .int a3, .null, .int a5, .int 0, .int (a7 + 1)] (And.intro (And.intro (Or.inr rfl) (And.intro (Or.inr rfl) (And.intro (Or.inr rfl) (And.intro (Or.inr rfl) (And.intro (Or.inr rfl) (And.intro (Or.inr rfl) (And.intro (Or.inr rfl) (And.intro (Or.inr rfl) (trivial))))))))) (((((h.2 c1).2 c2).2.1 c3).2.2.2 c4).2.2.1 c5))))))))) (fun c5 => Exists.intro _ (And.intro (tp_wk_rf _) (tp_E_step (Exists.intro _ (And.intro (tp_wk_rf _) (tp_E_step (Exists.intro [.ref 58, .int a1, .int a2, .int a3, .null, .int a5, .int 1, .int (a7 + 1)] (And.intro (And.intro (Or.inr rfl) (And.intro (Or.inr rfl) (And.intro (Or.inr rfl) (And.intro (Or.inr rfl) (And.intro (Or.inr rfl) (And.intro (Or.inr rfl) (And.intro (Or.inr rfl) (And.intro (Or.inr rfl) (trivial))))))))) (((((h.2 c1).2 c2).2.1 c3).2.2.2 c4).2.2.2 c5))))))))))))))) (fun c3 => Exists.intro _ (And.intro (tp_wk_rf _) (tp_E_step (Exists.intro _ (And.intro (tp_wk_rf _) (tp_E_step (Exists.intro [.ref 58, .int a1, .int a2, .int a3, .null, .int a5, .int 1, .int (a7 + 1)] (And.intro (And.intro (Or.inr rfl) (And.intro (Or.inr rfl) (And.intro (Or.inr rfl) (And.intro (Or.inr rfl) (And.intro (Or.inr rfl) (And.intro (Or.inr rfl) (And.intro (Or.inr rfl) (And.intro (Or.inr rfl) (trivial))))))))) (((h.2 c1).2 c2).2.2 c3)))))))))))))
/-- X10_count (I)I, 0 -/
theorem sg_148_0 {post : Int32 → tp_St → Prop} {σ : tp_St} (a1 : Int32)  (h : ((a1.toInt < 0 ∨ 7 < a1.toInt) →
post (-1) σ) ∧ (a1.toInt = 0 →
post (σ.1 58 0) σ) ∧ (a1.toInt = 1 →
post (σ.1 58 5) σ) ∧ (a1.toInt = 2 →
post (σ.1 58 9) σ) ∧ (a1.toInt = 3 →
tp_E 148 65 [.ref 58, .null, .int 0, .int 0] [] σ post) ∧ (a1.toInt = 4 →
post (σ.1 58 38) σ) ∧ (a1.toInt = 5 →
post (σ.1 58 25) σ) ∧ (a1.toInt = 6 →
((σ.1 70 0) = (-4) →
post (-4) σ) ∧ (¬ (σ.1 70 0) = (-4) →
post (σ.1 71 0) σ)) ∧ (a1.toInt = 7 →
post (σ.1 58 18) σ)) : tp_E 148 0 [.ref 58, .int a1, .null, .null] [] σ post := tp_E_step (And.intro (fun c1 => Exists.intro _ (And.intro (tp_wk_rf _) (tp_E_step (And.intro rfl (h.1 c1))))) (And.intro (fun c1 => Exists.intro _ (And.intro (tp_wk_rf _) (tp_E_step (And.intro rfl (h.2.1 c1))))) (And.intro (fun c1 => Exists.intro _ (And.intro (tp_wk_rf _) (tp_E_step (And.intro rfl (h.2.2.1 c1))))) (And.intro (fun c1 => Exists.intro _ (And.intro (tp_wk_rf _) (tp_E_step (And.intro rfl (h.2.2.2.1 c1))))) (And.intro (fun c1 => Exists.intro _ (And.intro (tp_wk_rf _) (tp_E_step (Exists.intro [.ref 58, .null, .int 0, .int 0] (And.intro (And.intro (Or.inr rfl) (And.intro (Or.inl rfl) (And.intro (Or.inr rfl) (And.intro (Or.inr rfl) (trivial))))) (h.2.2.2.2.1 c1)))))) (And.intro (fun c1 => Exists.intro _ (And.intro (tp_wk_rf _) (tp_E_step (And.intro rfl (h.2.2.2.2.2.1 c1))))) (And.intro (fun c1 => Exists.intro _ (And.intro (tp_wk_rf _) (tp_E_step (And.intro rfl (h.2.2.2.2.2.2.1 c1))))) (And.intro (fun c1 => Exists.intro _ (And.intro (tp_wk_rf _) (tp_E_step (And.intro (show ¬ ((0 : Int32) < 0 ∨ 4 ≤ (0 : Int32).toNatClampNeg) from by decide) (And.intro (fun c2 => Exists.intro _ (And.intro (tp_wk_rf _) (tp_E_step (And.intro rfl ((h.2.2.2.2.2.2.2.1 c1).1 c2))))) (fun c2 => Exists.intro _ (And.intro (tp_wk_rf _) (tp_E_step (And.intro (show ¬ ((0 : Int32) < 0 ∨ 4 ≤ (0 : Int32).toNatClampNeg) from by decide) (Exists.intro _ (And.intro (tp_wk_rf _) (tp_E_step (And.intro rfl ((h.2.2.2.2.2.2.2.1 c1).2 c2)))))))))))))) (And.intro (fun c1 => Exists.intro _ (And.intro (tp_wk_rf _) (tp_E_step (And.intro rfl (h.2.2.2.2.2.2.2.2 c1))))) (trivial))))))))))
/-- X10_count (I)I, 65 -/
theorem sg_148_65 {post : Int32 → tp_St → Prop} {σ : tp_St} (a2 : Int32) (a3 : Int32)  (h : ((σ.1 58 5) ≤ a3 →
post a2 σ) ∧ (¬ (σ.1 58 5) ≤ a3 →
vp_in a3 16 ∧
((σ.1 65 (a3).toNatClampNeg) = 0 →
tp_E 148 65 [.ref 58, .null, .int (a2 + 0), .int (a3 + 1)] [] σ post) ∧ (¬ (σ.1 65 (a3).toNatClampNeg) = 0 →
tp_E 148 65 [.ref 58, .null, .int (a2 + 1), .int (a3 + 1)] [] σ post))) : tp_E 148 65 [.ref 58, .null, .int a2, .int a3] [] σ post := tp_E_step (And.intro (fun c1 => Exists.intro _ (And.intro (tp_wk_rf _) (tp_E_step (And.intro rfl (h.1 c1))))) (fun c1 => And.intro (h.2 c1).1 (And.intro (fun c2 => Exists.intro _ (And.intro (tp_wk_rf _) (tp_E_step (Exists.intro _ (And.intro (tp_wk_rf _) (tp_E_step (Exists.intro [.ref 58, .null, .int (a2 + 0), .int (a3 + 1)] (And.intro (And.intro (Or.inr rfl) (And.intro (Or.inr rfl) (And.intro (Or.inr rfl) (And.intro (Or.inr rfl) (trivial))))) ((h.2 c1).2.1 c2))))))))) (fun c2 => Exists.intro _ (And.intro (tp_wk_rf _) (tp_E_step (Exists.intro [.ref 58, .null, .int (a2 + 1), .int (a3 + 1)] (And.intro (And.intro (Or.inr rfl) (And.intro (Or.inr rfl) (And.intro (Or.inr rfl) (And.intro (Or.inr rfl) (trivial))))) ((h.2 c1).2.2 c2)))))))))
/-- J0_length_8abf5 ()I, 0 -/
theorem sg_149_0 {post : Int32 → tp_St → Prop} {σ : tp_St} (q0 : Nat) (hq0 : q0 = 94 ∨ q0 = 95 ∨ q0 = 96) (h : tp_E 151 0 [.ref q0] [] σ (fun r1 σ1 =>
post ((Int32.ofNat (tp_ln (tp_rr σ q0 0))) >>> (r1 &&& 31)) σ1)) : tp_E 149 0 [.ref q0] [] σ post := by
  rcases hq0 with rfl | rfl | rfl
  · exact tp_E_step (tp_Em h (fun r1 σ1 h1 => And.intro rfl h1))
  · exact tp_E_step (tp_Em h (fun r1 σ1 h1 => And.intro rfl h1))
  · exact tp_E_step (tp_Em h (fun r1 σ1 h1 => And.intro rfl h1))
/-- J0_charAt_5068e (I)C, 0 -/
theorem sg_150_0 {post : Int32 → tp_St → Prop} {σ : tp_St} (q0 : Nat) (a1 : Int32) (hq0 : q0 = 94 ∨ q0 = 95 ∨ q0 = 96) (h : tp_E 152 0 [.ref q0] [] σ (fun r1 σ1 =>
(r1 = 0 →
False) ∧ (¬ r1 = 0 →
tp_E 154 0 [.ref (tp_rr σ1 q0 0), .int a1] [] σ1 (fun r2 σ2 =>
narrow .char (.int r2) = .int r2 ∧ post r2 σ2)))) : tp_E 150 0 [.ref q0, .int a1] [] σ post := by
  rcases hq0 with rfl | rfl | rfl
  · exact tp_E_step (tp_Em h (fun r1 σ1 h1 => And.intro (fun c3 => False.elim (h1.1 c3)) (fun c3 => tp_Em (h1.2 c3) (fun r2 σ2 h2 => h2))))
  · exact tp_E_step (tp_Em h (fun r1 σ1 h1 => And.intro (fun c3 => False.elim (h1.1 c3)) (fun c3 => tp_Em (h1.2 c3) (fun r2 σ2 h2 => h2))))
  · exact tp_E_step (tp_Em h (fun r1 σ1 h1 => And.intro (fun c3 => False.elim (h1.1 c3)) (fun c3 => tp_Em (h1.2 c3) (fun r2 σ2 h2 => h2))))
/-- J0_coder_7d493 ()B, 0 -/
theorem sg_151_0 {post : Int32 → tp_St → Prop} {σ : tp_St} (q0 : Nat) (hq0 : q0 = 94 ∨ q0 = 95 ∨ q0 = 96) (h : post 0 σ) : tp_E 151 0 [.ref q0] [] σ post := by
  rcases hq0 with rfl | rfl | rfl
  · exact tp_E_step (And.intro (fun hc => absurd hc (show ¬ ((1 : Int32) = 0) from by decide)) (fun _ => Exists.intro _ (And.intro (tp_wk_rf _) (tp_E_step (And.intro rfl h)))))
  · exact tp_E_step (And.intro (fun hc => absurd hc (show ¬ ((1 : Int32) = 0) from by decide)) (fun _ => Exists.intro _ (And.intro (tp_wk_rf _) (tp_E_step (And.intro rfl h)))))
  · exact tp_E_step (And.intro (fun hc => absurd hc (show ¬ ((1 : Int32) = 0) from by decide)) (fun _ => Exists.intro _ (And.intro (tp_wk_rf _) (tp_E_step (And.intro rfl h)))))
/-- J0_isLatin1_aae02 ()Z, 0 -/
theorem sg_152_0 {post : Int32 → tp_St → Prop} {σ : tp_St} (q0 : Nat) (hq0 : q0 = 94 ∨ q0 = 95 ∨ q0 = 96) (h : post 1 σ) : tp_E 152 0 [.ref q0] [] σ post := by
  rcases hq0 with rfl | rfl | rfl
  · exact tp_E_step (And.intro (fun hc => absurd hc (show ¬ ((1 : Int32) = 0) from by decide)) (fun _ => And.intro (fun _ => Exists.intro _ (And.intro (tp_wk_rf _) (tp_E_step (And.intro rfl h)))) (fun hc => absurd (show (0 : Int32) = 0 from by decide) hc)))
  · exact tp_E_step (And.intro (fun hc => absurd hc (show ¬ ((1 : Int32) = 0) from by decide)) (fun _ => And.intro (fun _ => Exists.intro _ (And.intro (tp_wk_rf _) (tp_E_step (And.intro rfl h)))) (fun hc => absurd (show (0 : Int32) = 0 from by decide) hc)))
  · exact tp_E_step (And.intro (fun hc => absurd hc (show ¬ ((1 : Int32) = 0) from by decide)) (fun _ => And.intro (fun _ => Exists.intro _ (And.intro (tp_wk_rf _) (tp_E_step (And.intro rfl h)))) (fun hc => absurd (show (0 : Int32) = 0 from by decide) hc)))
/-- J0_checkIndex_df160 (II)V, 0 -/
theorem sg_153_0 {post : Int32 → tp_St → Prop} {σ : tp_St} (a0 : Int32) (a1 : Int32)  (h : (tp_E 155 0 [.int a0, .int a1, .null] [] σ (fun r1 σ1 =>
post 0 σ1)) ∧ (tp_E 155 0 [.int a0, .int a1, .ref 100] [] σ (fun r2 σ2 =>
post 0 σ2))) : tp_E 153 0 [.int a0, .int a1] [] σ post := tp_E_step (And.intro (tp_Em h.1 (fun r1 σ1 h1 => h1)) (tp_Em h.2 (fun r2 σ2 h2 => h2)))
/-- J1_charAt_3b067 ([BI)C, 0 -/
theorem sg_154_0 {post : Int32 → tp_St → Prop} {σ : tp_St} (q0 : Nat) (a1 : Int32) (hq0 : q0 = 97 ∨ q0 = 98 ∨ q0 = 99) (h : tp_E 153 0 [.int a1, .int (Int32.ofNat (tp_ln q0))] [] σ (fun r1 σ1 =>
vp_in a1 (tp_ln q0) ∧
narrow .char (.int ((((tp_rob q0 (a1).toNatClampNeg) &&& 255)).toUInt32 % 65536).toInt32) = .int ((((tp_rob q0 (a1).toNatClampNeg) &&& 255)).toUInt32 % 65536).toInt32 ∧ post ((((tp_rob q0 (a1).toNatClampNeg) &&& 255)).toUInt32 % 65536).toInt32 σ1)) : tp_E 154 0 [.ref q0, .int a1] [] σ post := by
  rcases hq0 with rfl | rfl | rfl
  · exact tp_E_step (tp_Em h (fun r1 σ1 h1 => And.intro h1.1 (h1.2)))
  · exact tp_E_step (tp_Em h (fun r1 σ1 h1 => And.intro h1.1 (h1.2)))
  · exact tp_E_step (tp_Em h (fun r1 σ1 h1 => And.intro h1.1 (h1.2)))
/-- J3_checkIndex_8e157 (IILjava/util/function/BiFunction;)I, 0 -/
theorem sg_155_0 {post : Int32 → tp_St → Prop} {σ : tp_St} (a0 : Int32) (a1 : Int32)  (h : (a0 < 0 →
False) ∧ (¬ a0 < 0 →
(a0 < a1 →
post a0 σ) ∧ (¬ a0 < a1 →
False))) : tp_E 155 0 [.int a0, .int a1, .null] [] σ post := tp_E_step (And.intro (fun c1 => False.elim (h.1 c1)) (fun c1 => And.intro (fun c2 => Exists.intro _ (And.intro (tp_wk_rf _) (tp_E_step (And.intro rfl ((h.2 c1).1 c2))))) (fun c2 => False.elim ((h.2 c1).2 c2))))
/-- L_law ([I)Z, 18 -/
theorem sg_156_18 {post : Int32 → tp_St → Prop} {σ : tp_St} (a3 : Int32)  (h : (((Int32.ofNat ((σ.1 89 0)).toNatClampNeg) - 6) < a3 →
post 1 σ) ∧ (¬ ((Int32.ofNat ((σ.1 89 0)).toNatClampNeg) - 6) < a3 →
vp_in a3 ((σ.1 89 0)).toNatClampNeg ∧
((((σ.1 90 (a3).toNatClampNeg) &&& 31).toInt < 0 ∨ 29 < ((σ.1 90 (a3).toNatClampNeg) &&& 31).toInt) →
tp_E 156 18 [.ref 90, .ref 0, .ref 58, .int (a3 + 6)] [] σ post) ∧ (((σ.1 90 (a3).toNatClampNeg) &&& 31).toInt = 0 →
vp_in (a3 + 1) ((σ.1 89 0)).toNatClampNeg ∧
vp_in (a3 + 2) ((σ.1 89 0)).toNatClampNeg ∧
tp_E 61 0 [.ref 0, .int (σ.1 90 ((a3 + 1)).toNatClampNeg), .int (σ.1 90 ((a3 + 2)).toNatClampNeg)] [] σ (fun r1 σ1 =>
vp_in (a3 + 1) ((σ1.1 89 0)).toNatClampNeg ∧
vp_in (a3 + 2) ((σ1.1 89 0)).toNatClampNeg ∧
tp_E 102 0 [.ref 58, .int (σ1.1 90 ((a3 + 1)).toNatClampNeg), .int (σ1.1 90 ((a3 + 2)).toNatClampNeg)] [] σ1 (fun r2 σ2 =>
(r1 = r2 →
tp_E 156 18 [.ref 90, .ref 0, .ref 58, .int (a3 + 6)] [] σ2 post) ∧ (¬ r1 = r2 →
post 0 σ2)))) ∧ (((σ.1 90 (a3).toNatClampNeg) &&& 31).toInt = 1 →
vp_in (a3 + 1) ((σ.1 89 0)).toNatClampNeg ∧
vp_in (a3 + 2) ((σ.1 89 0)).toNatClampNeg ∧
vp_in (a3 + 3) ((σ.1 89 0)).toNatClampNeg ∧
vp_in (a3 + 4) ((σ.1 89 0)).toNatClampNeg ∧
tp_E 62 0 [.ref 0, .int (σ.1 90 ((a3 + 1)).toNatClampNeg), .int (σ.1 90 ((a3 + 2)).toNatClampNeg), .int (σ.1 90 ((a3 + 3)).toNatClampNeg), .int (σ.1 90 ((a3 + 4)).toNatClampNeg), .null] [] σ (fun r3 σ3 =>
vp_in (a3 + 1) ((σ3.1 89 0)).toNatClampNeg ∧
vp_in (a3 + 2) ((σ3.1 89 0)).toNatClampNeg ∧
vp_in (a3 + 3) ((σ3.1 89 0)).toNatClampNeg ∧
vp_in (a3 + 4) ((σ3.1 89 0)).toNatClampNeg ∧
tp_E 104 0 [.ref 58, .int (σ3.1 90 ((a3 + 1)).toNatClampNeg), .int (σ3.1 90 ((a3 + 2)).toNatClampNeg), .int (σ3.1 90 ((a3 + 3)).toNatClampNeg), .int (σ3.1 90 ((a3 + 4)).toNatClampNeg), .null, .null, .null] [] σ3 (fun r4 σ4 =>
(r3 = r4 →
tp_E 156 18 [.ref 90, .ref 0, .ref 58, .int (a3 + 6)] [] σ4 post) ∧ (¬ r3 = r4 →
post 0 σ4)))) ∧ (((σ.1 90 (a3).toNatClampNeg) &&& 31).toInt = 2 →
vp_in (a3 + 1) ((σ.1 89 0)).toNatClampNeg ∧
vp_in (a3 + 2) ((σ.1 89 0)).toNatClampNeg ∧
vp_in (a3 + 3) ((σ.1 89 0)).toNatClampNeg ∧
tp_E 63 0 [.ref 0, .int (σ.1 90 ((a3 + 1)).toNatClampNeg), .int (σ.1 90 ((a3 + 2)).toNatClampNeg), .int (σ.1 90 ((a3 + 3)).toNatClampNeg), .null] [] σ (fun r5 σ5 =>
vp_in (a3 + 1) ((σ5.1 89 0)).toNatClampNeg ∧
vp_in (a3 + 2) ((σ5.1 89 0)).toNatClampNeg ∧
vp_in (a3 + 3) ((σ5.1 89 0)).toNatClampNeg ∧
tp_E 105 0 [.ref 58, .int (σ5.1 90 ((a3 + 1)).toNatClampNeg), .int (σ5.1 90 ((a3 + 2)).toNatClampNeg), .int (σ5.1 90 ((a3 + 3)).toNatClampNeg), .null] [] σ5 (fun r6 σ6 =>
(r5 = r6 →
tp_E 156 18 [.ref 90, .ref 0, .ref 58, .int (a3 + 6)] [] σ6 post) ∧ (¬ r5 = r6 →
post 0 σ6)))) ∧ (((σ.1 90 (a3).toNatClampNeg) &&& 31).toInt = 3 →
vp_in (a3 + 1) ((σ.1 89 0)).toNatClampNeg ∧
vp_in (a3 + 2) ((σ.1 89 0)).toNatClampNeg ∧
((σ.1 90 ((a3 + 2)).toNatClampNeg) = 0 →
tp_E 64 0 [.ref 0, .int (σ.1 90 ((a3 + 1)).toNatClampNeg), .int 0] [] σ (fun r7 σ7 =>
vp_in (a3 + 1) ((σ7.1 89 0)).toNatClampNeg ∧
vp_in (a3 + 2) ((σ7.1 89 0)).toNatClampNeg ∧
((σ7.1 90 ((a3 + 2)).toNatClampNeg) = 0 →
tp_E 106 0 [.ref 58, .int (σ7.1 90 ((a3 + 1)).toNatClampNeg), .int 0, .null] [] σ7 (fun r8 σ8 =>
(r7 = r8 →
tp_E 156 18 [.ref 90, .ref 0, .ref 58, .int (a3 + 6)] [] σ8 post) ∧ (¬ r7 = r8 →
post 0 σ8))) ∧ (¬ (σ7.1 90 ((a3 + 2)).toNatClampNeg) = 0 →
tp_E 106 0 [.ref 58, .int (σ7.1 90 ((a3 + 1)).toNatClampNeg), .int 1, .null] [] σ7 (fun r9 σ9 =>
(r7 = r9 →
tp_E 156 18 [.ref 90, .ref 0, .ref 58, .int (a3 + 6)] [] σ9 post) ∧ (¬ r7 = r9 →
post 0 σ9))))) ∧ (¬ (σ.1 90 ((a3 + 2)).toNatClampNeg) = 0 →
tp_E 64 0 [.ref 0, .int (σ.1 90 ((a3 + 1)).toNatClampNeg), .int 1] [] σ (fun r10 σ10 =>
vp_in (a3 + 1) ((σ10.1 89 0)).toNatClampNeg ∧
vp_in (a3 + 2) ((σ10.1 89 0)).toNatClampNeg ∧
((σ10.1 90 ((a3 + 2)).toNatClampNeg) = 0 →
tp_E 106 0 [.ref 58, .int (σ10.1 90 ((a3 + 1)).toNatClampNeg), .int 0, .null] [] σ10 (fun r11 σ11 =>
(r10 = r11 →
tp_E 156 18 [.ref 90, .ref 0, .ref 58, .int (a3 + 6)] [] σ11 post) ∧ (¬ r10 = r11 →
post 0 σ11))) ∧ (¬ (σ10.1 90 ((a3 + 2)).toNatClampNeg) = 0 →
tp_E 106 0 [.ref 58, .int (σ10.1 90 ((a3 + 1)).toNatClampNeg), .int 1, .null] [] σ10 (fun r12 σ12 =>
(r10 = r12 →
tp_E 156 18 [.ref 90, .ref 0, .ref 58, .int (a3 + 6)] [] σ12 post) ∧ (¬ r10 = r12 →
post 0 σ12)))))) ∧ (((σ.1 90 (a3).toNatClampNeg) &&& 31).toInt = 4 →
vp_in (a3 + 1) ((σ.1 89 0)).toNatClampNeg ∧
tp_E 65 0 [.ref 0, .int (σ.1 90 ((a3 + 1)).toNatClampNeg)] [] σ (fun r13 σ13 =>
vp_in (a3 + 1) ((σ13.1 89 0)).toNatClampNeg ∧
tp_E 109 0 [.ref 58, .int (σ13.1 90 ((a3 + 1)).toNatClampNeg)] [] σ13 (fun r14 σ14 =>
(r13 = r14 →
tp_E 156 18 [.ref 90, .ref 0, .ref 58, .int (a3 + 6)] [] σ14 post) ∧ (¬ r13 = r14 →
post 0 σ14)))) ∧ (((σ.1 90 (a3).toNatClampNeg) &&& 31).toInt = 5 →
vp_in (a3 + 1) ((σ.1 89 0)).toNatClampNeg ∧
vp_in (a3 + 2) ((σ.1 89 0)).toNatClampNeg ∧
vp_in (a3 + 3) ((σ.1 89 0)).toNatClampNeg ∧
tp_E 66 0 [.ref 0, .int (σ.1 90 ((a3 + 1)).toNatClampNeg), .int (σ.1 90 ((a3 + 2)).toNatClampNeg), .int (σ.1 90 ((a3 + 3)).toNatClampNeg), .null, .null, .null] [] σ (fun r15 σ15 =>
vp_in (a3 + 1) ((σ15.1 89 0)).toNatClampNeg ∧
vp_in (a3 + 2) ((σ15.1 89 0)).toNatClampNeg ∧
vp_in (a3 + 3) ((σ15.1 89 0)).toNatClampNeg ∧
tp_E 112 0 [.ref 58, .int (σ15.1 90 ((a3 + 1)).toNatClampNeg), .int (σ15.1 90 ((a3 + 2)).toNatClampNeg), .int (σ15.1 90 ((a3 + 3)).toNatClampNeg), .null] [] σ15 (fun r16 σ16 =>
(r15 = r16 →
tp_E 156 18 [.ref 90, .ref 0, .ref 58, .int (a3 + 6)] [] σ16 post) ∧ (¬ r15 = r16 →
post 0 σ16)))) ∧ (((σ.1 90 (a3).toNatClampNeg) &&& 31).toInt = 6 →
tp_E 67 0 [.ref 0, .null, .null, .null] [] σ (fun r17 σ17 =>
tp_E 113 0 [.ref 58, .null, .null] [] σ17 (fun r18 σ18 =>
(r17 = r18 →
tp_E 156 18 [.ref 90, .ref 0, .ref 58, .int (a3 + 6)] [] σ18 post) ∧ (¬ r17 = r18 →
post 0 σ18)))) ∧ (((σ.1 90 (a3).toNatClampNeg) &&& 31).toInt = 7 →
vp_in (a3 + 1) ((σ.1 89 0)).toNatClampNeg ∧
vp_in (a3 + 2) ((σ.1 89 0)).toNatClampNeg ∧
vp_in (a3 + 3) ((σ.1 89 0)).toNatClampNeg ∧
tp_E 68 0 [.ref 0, .int (σ.1 90 ((a3 + 1)).toNatClampNeg), .int (σ.1 90 ((a3 + 2)).toNatClampNeg), .int (σ.1 90 ((a3 + 3)).toNatClampNeg)] [] σ (fun r19 σ19 =>
vp_in (a3 + 1) ((σ19.1 89 0)).toNatClampNeg ∧
vp_in (a3 + 2) ((σ19.1 89 0)).toNatClampNeg ∧
vp_in (a3 + 3) ((σ19.1 89 0)).toNatClampNeg ∧
tp_E 114 0 [.ref 58, .int (σ19.1 90 ((a3 + 1)).toNatClampNeg), .int (σ19.1 90 ((a3 + 2)).toNatClampNeg), .int (σ19.1 90 ((a3 + 3)).toNatClampNeg), .null] [] σ19 (fun r20 σ20 =>
(r19 = r20 →
tp_E 156 18 [.ref 90, .ref 0, .ref 58, .int (a3 + 6)] [] σ20 post) ∧ (¬ r19 = r20 →
post 0 σ20)))) ∧ (((σ.1 90 (a3).toNatClampNeg) &&& 31).toInt = 8 →
vp_in (a3 + 1) ((σ.1 89 0)).toNatClampNeg ∧
vp_in (a3 + 2) ((σ.1 89 0)).toNatClampNeg ∧
vp_in (a3 + 3) ((σ.1 89 0)).toNatClampNeg ∧
tp_E 69 0 [.ref 0, .int (σ.1 90 ((a3 + 1)).toNatClampNeg), .int (σ.1 90 ((a3 + 2)).toNatClampNeg), .int (σ.1 90 ((a3 + 3)).toNatClampNeg), .null] [] σ (fun r21 σ21 =>
vp_in (a3 + 1) ((σ21.1 89 0)).toNatClampNeg ∧
vp_in (a3 + 2) ((σ21.1 89 0)).toNatClampNeg ∧
vp_in (a3 + 3) ((σ21.1 89 0)).toNatClampNeg ∧
tp_E 115 0 [.ref 58, .int (σ21.1 90 ((a3 + 1)).toNatClampNeg), .int (σ21.1 90 ((a3 + 2)).toNatClampNeg), .int (σ21.1 90 ((a3 + 3)).toNatClampNeg)] [] σ21 (fun r22 σ22 =>
(r21 = r22 →
tp_E 156 18 [.ref 90, .ref 0, .ref 58, .int (a3 + 6)] [] σ22 post) ∧ (¬ r21 = r22 →
post 0 σ22)))) ∧ (((σ.1 90 (a3).toNatClampNeg) &&& 31).toInt = 9 →
vp_in (a3 + 1) ((σ.1 89 0)).toNatClampNeg ∧
vp_in (a3 + 2) ((σ.1 89 0)).toNatClampNeg ∧
vp_in (a3 + 3) ((σ.1 89 0)).toNatClampNeg ∧
vp_in (a3 + 4) ((σ.1 89 0)).toNatClampNeg ∧
vp_in (a3 + 5) ((σ.1 89 0)).toNatClampNeg ∧
tp_E 70 0 [.ref 0, .int (σ.1 90 ((a3 + 1)).toNatClampNeg), .int (σ.1 90 ((a3 + 2)).toNatClampNeg), .int (σ.1 90 ((a3 + 3)).toNatClampNeg), .int (σ.1 90 ((a3 + 4)).toNatClampNeg), .int (σ.1 90 ((a3 + 5)).toNatClampNeg), .null, .null, .null] [] σ (fun r23 σ23 =>
vp_in (a3 + 1) ((σ23.1 89 0)).toNatClampNeg ∧
vp_in (a3 + 2) ((σ23.1 89 0)).toNatClampNeg ∧
vp_in (a3 + 3) ((σ23.1 89 0)).toNatClampNeg ∧
vp_in (a3 + 4) ((σ23.1 89 0)).toNatClampNeg ∧
vp_in (a3 + 5) ((σ23.1 89 0)).toNatClampNeg ∧
tp_E 116 0 [.ref 58, .int (σ23.1 90 ((a3 + 1)).toNatClampNeg), .int (σ23.1 90 ((a3 + 2)).toNatClampNeg), .int (σ23.1 90 ((a3 + 3)).toNatClampNeg), .int (σ23.1 90 ((a3 + 4)).toNatClampNeg), .int (σ23.1 90 ((a3 + 5)).toNatClampNeg), .null, .null, .null, .null, .null, .null, .null] [] σ23 (fun r24 σ24 =>
(r23 = r24 →
tp_E 156 18 [.ref 90, .ref 0, .ref 58, .int (a3 + 6)] [] σ24 post) ∧ (¬ r23 = r24 →
post 0 σ24)))) ∧ (((σ.1 90 (a3).toNatClampNeg) &&& 31).toInt = 10 →
vp_in (a3 + 1) ((σ.1 89 0)).toNatClampNeg ∧
vp_in (a3 + 2) ((σ.1 89 0)).toNatClampNeg ∧
vp_in (a3 + 3) ((σ.1 89 0)).toNatClampNeg ∧
tp_E 71 0 [.ref 0, .int (σ.1 90 ((a3 + 1)).toNatClampNeg), .int (σ.1 90 ((a3 + 2)).toNatClampNeg), .int (σ.1 90 ((a3 + 3)).toNatClampNeg), .null] [] σ (fun r25 σ25 =>
vp_in (a3 + 1) ((σ25.1 89 0)).toNatClampNeg ∧
vp_in (a3 + 2) ((σ25.1 89 0)).toNatClampNeg ∧
vp_in (a3 + 3) ((σ25.1 89 0)).toNatClampNeg ∧
tp_E 117 0 [.ref 58, .int (σ25.1 90 ((a3 + 1)).toNatClampNeg), .int (σ25.1 90 ((a3 + 2)).toNatClampNeg), .int (σ25.1 90 ((a3 + 3)).toNatClampNeg), .null, .null, .null, .null] [] σ25 (fun r26 σ26 =>
(r25 = r26 →
tp_E 156 18 [.ref 90, .ref 0, .ref 58, .int (a3 + 6)] [] σ26 post) ∧ (¬ r25 = r26 →
post 0 σ26)))) ∧ (((σ.1 90 (a3).toNatClampNeg) &&& 31).toInt = 11 →
vp_in (a3 + 1) ((σ.1 89 0)).toNatClampNeg ∧
tp_E 72 0 [.ref 0, .int (σ.1 90 ((a3 + 1)).toNatClampNeg)] [] σ (fun r27 σ27 =>
vp_in (a3 + 1) ((σ27.1 89 0)).toNatClampNeg ∧
tp_E 118 0 [.ref 58, .int (σ27.1 90 ((a3 + 1)).toNatClampNeg)] [] σ27 (fun r28 σ28 =>
(r27 = r28 →
tp_E 156 18 [.ref 90, .ref 0, .ref 58, .int (a3 + 6)] [] σ28 post) ∧ (¬ r27 = r28 →
post 0 σ28)))) ∧ (((σ.1 90 (a3).toNatClampNeg) &&& 31).toInt = 12 →
vp_in (a3 + 1) ((σ.1 89 0)).toNatClampNeg ∧
vp_in (a3 + 2) ((σ.1 89 0)).toNatClampNeg ∧
tp_E 73 0 [.ref 0, .int (σ.1 90 ((a3 + 1)).toNatClampNeg), .int (σ.1 90 ((a3 + 2)).toNatClampNeg), .null, .null] [] σ (fun r29 σ29 =>
vp_in (a3 + 1) ((σ29.1 89 0)).toNatClampNeg ∧
vp_in (a3 + 2) ((σ29.1 89 0)).toNatClampNeg ∧
tp_E 119 0 [.ref 58, .int (σ29.1 90 ((a3 + 1)).toNatClampNeg), .int (σ29.1 90 ((a3 + 2)).toNatClampNeg), .null, .null] [] σ29 (fun r30 σ30 =>
(r29 = r30 →
tp_E 156 18 [.ref 90, .ref 0, .ref 58, .int (a3 + 6)] [] σ30 post) ∧ (¬ r29 = r30 →
post 0 σ30)))) ∧ (((σ.1 90 (a3).toNatClampNeg) &&& 31).toInt = 13 →
vp_in (a3 + 1) ((σ.1 89 0)).toNatClampNeg ∧
vp_in (a3 + 2) ((σ.1 89 0)).toNatClampNeg ∧
vp_in (a3 + 3) ((σ.1 89 0)).toNatClampNeg ∧
tp_E 74 0 [.ref 0, .int (σ.1 90 ((a3 + 1)).toNatClampNeg), .int (σ.1 90 ((a3 + 2)).toNatClampNeg), .int (σ.1 90 ((a3 + 3)).toNatClampNeg)] [] σ (fun r31 σ31 =>
vp_in (a3 + 1) ((σ31.1 89 0)).toNatClampNeg ∧
vp_in (a3 + 2) ((σ31.1 89 0)).toNatClampNeg ∧
vp_in (a3 + 3) ((σ31.1 89 0)).toNatClampNeg ∧
tp_E 122 0 [.ref 58, .int (σ31.1 90 ((a3 + 1)).toNatClampNeg), .int (σ31.1 90 ((a3 + 2)).toNatClampNeg), .int (σ31.1 90 ((a3 + 3)).toNatClampNeg)] [] σ31 (fun r32 σ32 =>
(r31 = r32 →
tp_E 156 18 [.ref 90, .ref 0, .ref 58, .int (a3 + 6)] [] σ32 post) ∧ (¬ r31 = r32 →
post 0 σ32)))) ∧ (((σ.1 90 (a3).toNatClampNeg) &&& 31).toInt = 14 →
vp_in (a3 + 1) ((σ.1 89 0)).toNatClampNeg ∧
((σ.1 90 ((a3 + 1)).toNatClampNeg) = 0 →
vp_in (a3 + 2) ((σ.1 89 0)).toNatClampNeg ∧
vp_in (a3 + 3) ((σ.1 89 0)).toNatClampNeg ∧
tp_E 75 0 [.ref 0, .int 0, .int (σ.1 90 ((a3 + 2)).toNatClampNeg), .int (σ.1 90 ((a3 + 3)).toNatClampNeg), .null, .null] [] σ (fun r33 σ33 =>
vp_in (a3 + 1) ((σ33.1 89 0)).toNatClampNeg ∧
((σ33.1 90 ((a3 + 1)).toNatClampNeg) = 0 →
vp_in (a3 + 2) ((σ33.1 89 0)).toNatClampNeg ∧
vp_in (a3 + 3) ((σ33.1 89 0)).toNatClampNeg ∧
tp_E 123 0 [.ref 58, .int 0, .int (σ33.1 90 ((a3 + 2)).toNatClampNeg), .int (σ33.1 90 ((a3 + 3)).toNatClampNeg), .null, .null] [] σ33 (fun r34 σ34 =>
(r33 = r34 →
tp_E 156 18 [.ref 90, .ref 0, .ref 58, .int (a3 + 6)] [] σ34 post) ∧ (¬ r33 = r34 →
post 0 σ34))) ∧ (¬ (σ33.1 90 ((a3 + 1)).toNatClampNeg) = 0 →
vp_in (a3 + 2) ((σ33.1 89 0)).toNatClampNeg ∧
vp_in (a3 + 3) ((σ33.1 89 0)).toNatClampNeg ∧
tp_E 123 0 [.ref 58, .int 1, .int (σ33.1 90 ((a3 + 2)).toNatClampNeg), .int (σ33.1 90 ((a3 + 3)).toNatClampNeg), .null, .null] [] σ33 (fun r35 σ35 =>
(r33 = r35 →
tp_E 156 18 [.ref 90, .ref 0, .ref 58, .int (a3 + 6)] [] σ35 post) ∧ (¬ r33 = r35 →
post 0 σ35))))) ∧ (¬ (σ.1 90 ((a3 + 1)).toNatClampNeg) = 0 →
vp_in (a3 + 2) ((σ.1 89 0)).toNatClampNeg ∧
vp_in (a3 + 3) ((σ.1 89 0)).toNatClampNeg ∧
tp_E 75 0 [.ref 0, .int 1, .int (σ.1 90 ((a3 + 2)).toNatClampNeg), .int (σ.1 90 ((a3 + 3)).toNatClampNeg), .null, .null] [] σ (fun r36 σ36 =>
vp_in (a3 + 1) ((σ36.1 89 0)).toNatClampNeg ∧
((σ36.1 90 ((a3 + 1)).toNatClampNeg) = 0 →
vp_in (a3 + 2) ((σ36.1 89 0)).toNatClampNeg ∧
vp_in (a3 + 3) ((σ36.1 89 0)).toNatClampNeg ∧
tp_E 123 0 [.ref 58, .int 0, .int (σ36.1 90 ((a3 + 2)).toNatClampNeg), .int (σ36.1 90 ((a3 + 3)).toNatClampNeg), .null, .null] [] σ36 (fun r37 σ37 =>
(r36 = r37 →
tp_E 156 18 [.ref 90, .ref 0, .ref 58, .int (a3 + 6)] [] σ37 post) ∧ (¬ r36 = r37 →
post 0 σ37))) ∧ (¬ (σ36.1 90 ((a3 + 1)).toNatClampNeg) = 0 →
vp_in (a3 + 2) ((σ36.1 89 0)).toNatClampNeg ∧
vp_in (a3 + 3) ((σ36.1 89 0)).toNatClampNeg ∧
tp_E 123 0 [.ref 58, .int 1, .int (σ36.1 90 ((a3 + 2)).toNatClampNeg), .int (σ36.1 90 ((a3 + 3)).toNatClampNeg), .null, .null] [] σ36 (fun r38 σ38 =>
(r36 = r38 →
tp_E 156 18 [.ref 90, .ref 0, .ref 58, .int (a3 + 6)] [] σ38 post) ∧ (¬ r36 = r38 →
post 0 σ38)))))) ∧ (((σ.1 90 (a3).toNatClampNeg) &&& 31).toInt = 15 →
vp_in (a3 + 1) ((σ.1 89 0)).toNatClampNeg ∧
vp_in (a3 + 2) ((σ.1 89 0)).toNatClampNeg ∧
vp_in (a3 + 3) ((σ.1 89 0)).toNatClampNeg ∧
vp_in (a3 + 4) ((σ.1 89 0)).toNatClampNeg ∧
tp_E 76 0 [.ref 0, .int (σ.1 90 ((a3 + 1)).toNatClampNeg), .int (σ.1 90 ((a3 + 2)).toNatClampNeg), .int (σ.1 90 ((a3 + 3)).toNatClampNeg), .int (σ.1 90 ((a3 + 4)).toNatClampNeg), .null, .null] [] σ (fun r39 σ39 =>
vp_in (a3 + 1) ((σ39.1 89 0)).toNatClampNeg ∧
vp_in (a3 + 2) ((σ39.1 89 0)).toNatClampNeg ∧
vp_in (a3 + 3) ((σ39.1 89 0)).toNatClampNeg ∧
vp_in (a3 + 4) ((σ39.1 89 0)).toNatClampNeg ∧
tp_E 124 0 [.ref 58, .int (σ39.1 90 ((a3 + 1)).toNatClampNeg), .int (σ39.1 90 ((a3 + 2)).toNatClampNeg), .int (σ39.1 90 ((a3 + 3)).toNatClampNeg), .int (σ39.1 90 ((a3 + 4)).toNatClampNeg), .null, .null, .null] [] σ39 (fun r40 σ40 =>
(r39 = r40 →
tp_E 156 18 [.ref 90, .ref 0, .ref 58, .int (a3 + 6)] [] σ40 post) ∧ (¬ r39 = r40 →
post 0 σ40)))) ∧ (((σ.1 90 (a3).toNatClampNeg) &&& 31).toInt = 16 →
vp_in (a3 + 1) ((σ.1 89 0)).toNatClampNeg ∧
vp_in (a3 + 2) ((σ.1 89 0)).toNatClampNeg ∧
vp_in (a3 + 3) ((σ.1 89 0)).toNatClampNeg ∧
tp_E 77 0 [.ref 0, .int (σ.1 90 ((a3 + 1)).toNatClampNeg), .int (σ.1 90 ((a3 + 2)).toNatClampNeg), .int (σ.1 90 ((a3 + 3)).toNatClampNeg), .null, .null] [] σ (fun r41 σ41 =>
vp_in (a3 + 1) ((σ41.1 89 0)).toNatClampNeg ∧
vp_in (a3 + 2) ((σ41.1 89 0)).toNatClampNeg ∧
vp_in (a3 + 3) ((σ41.1 89 0)).toNatClampNeg ∧
tp_E 125 0 [.ref 58, .int (σ41.1 90 ((a3 + 1)).toNatClampNeg), .int (σ41.1 90 ((a3 + 2)).toNatClampNeg), .int (σ41.1 90 ((a3 + 3)).toNatClampNeg), .null, .null] [] σ41 (fun r42 σ42 =>
(r41 = r42 →
tp_E 156 18 [.ref 90, .ref 0, .ref 58, .int (a3 + 6)] [] σ42 post) ∧ (¬ r41 = r42 →
post 0 σ42)))) ∧ (((σ.1 90 (a3).toNatClampNeg) &&& 31).toInt = 17 →
vp_in (a3 + 1) ((σ.1 89 0)).toNatClampNeg ∧
tp_E 78 0 [.ref 0, .int (σ.1 90 ((a3 + 1)).toNatClampNeg), .null, .null, .null, .null] [] σ (fun r43 σ43 =>
vp_in (a3 + 1) ((σ43.1 89 0)).toNatClampNeg ∧
tp_E 126 0 [.ref 58, .int (σ43.1 90 ((a3 + 1)).toNatClampNeg), .null, .null, .null, .null, .null] [] σ43 (fun r44 σ44 =>
(r43 = r44 →
tp_E 156 18 [.ref 90, .ref 0, .ref 58, .int (a3 + 6)] [] σ44 post) ∧ (¬ r43 = r44 →
post 0 σ44)))) ∧ (((σ.1 90 (a3).toNatClampNeg) &&& 31).toInt = 18 →
vp_in (a3 + 1) ((σ.1 89 0)).toNatClampNeg ∧
vp_in (a3 + 2) ((σ.1 89 0)).toNatClampNeg ∧
tp_E 79 0 [.ref 0, .long ((((σ.1 90 ((a3 + 1)).toNatClampNeg)).toInt64 <<< ((32).toInt64 &&& 63)) ||| (((σ.1 90 ((a3 + 2)).toNatClampNeg)).toInt64 &&& (Int64.ofNat 4294967295))), .null] [] σ (fun r45 σ45 =>
vp_in (a3 + 1) ((σ45.1 89 0)).toNatClampNeg ∧
vp_in (a3 + 2) ((σ45.1 89 0)).toNatClampNeg ∧
tp_E 127 0 [.ref 58, .long ((((σ45.1 90 ((a3 + 1)).toNatClampNeg)).toInt64 <<< ((32).toInt64 &&& 63)) ||| (((σ45.1 90 ((a3 + 2)).toNatClampNeg)).toInt64 &&& (Int64.ofNat 4294967295))), .null, .null] [] σ45 (fun r46 σ46 =>
(r45 = r46 →
tp_E 156 18 [.ref 90, .ref 0, .ref 58, .int (a3 + 6)] [] σ46 post) ∧ (¬ r45 = r46 →
post 0 σ46)))) ∧ (((σ.1 90 (a3).toNatClampNeg) &&& 31).toInt = 19 →
vp_in (a3 + 1) ((σ.1 89 0)).toNatClampNeg ∧
tp_E 80 0 [.ref 0, .int (σ.1 90 ((a3 + 1)).toNatClampNeg), .null] [] σ (fun r47 σ47 =>
vp_in (a3 + 1) ((σ47.1 89 0)).toNatClampNeg ∧
tp_E 128 0 [.ref 58, .int (σ47.1 90 ((a3 + 1)).toNatClampNeg), .null] [] σ47 (fun r48 σ48 =>
(r47 = r48 →
tp_E 156 18 [.ref 90, .ref 0, .ref 58, .int (a3 + 6)] [] σ48 post) ∧ (¬ r47 = r48 →
post 0 σ48)))) ∧ (((σ.1 90 (a3).toNatClampNeg) &&& 31).toInt = 20 →
tp_E 81 0 [.ref 0] [] σ (fun r49 σ49 =>
tp_E 136 0 [.ref 58, .null] [] σ49 (fun r50 σ50 =>
(r49 = r50 →
tp_E 156 18 [.ref 90, .ref 0, .ref 58, .int (a3 + 6)] [] σ50 post) ∧ (¬ r49 = r50 →
post 0 σ50)))) ∧ (((σ.1 90 (a3).toNatClampNeg) &&& 31).toInt = 21 →
tp_E 82 0 [.ref 0] [] σ (fun r51 σ51 =>
tp_E 137 0 [.ref 58] [] σ51 (fun r52 σ52 =>
(r51 = r52 →
tp_E 156 18 [.ref 90, .ref 0, .ref 58, .int (a3 + 6)] [] σ52 post) ∧ (¬ r51 = r52 →
post 0 σ52)))) ∧ (((σ.1 90 (a3).toNatClampNeg) &&& 31).toInt = 22 →
vp_in (a3 + 1) ((σ.1 89 0)).toNatClampNeg ∧
vp_in (a3 + 2) ((σ.1 89 0)).toNatClampNeg ∧
tp_E 83 0 [.ref 0, .int (σ.1 90 ((a3 + 1)).toNatClampNeg), .int (σ.1 90 ((a3 + 2)).toNatClampNeg)] [] σ (fun r53 σ53 =>
vp_in (a3 + 1) ((σ53.1 89 0)).toNatClampNeg ∧
vp_in (a3 + 2) ((σ53.1 89 0)).toNatClampNeg ∧
tp_E 138 0 [.ref 58, .int (σ53.1 90 ((a3 + 1)).toNatClampNeg), .int (σ53.1 90 ((a3 + 2)).toNatClampNeg), .null, .null] [] σ53 (fun r54 σ54 =>
(r53 = r54 →
tp_E 156 18 [.ref 90, .ref 0, .ref 58, .int (a3 + 6)] [] σ54 post) ∧ (¬ r53 = r54 →
post 0 σ54)))) ∧ (((σ.1 90 (a3).toNatClampNeg) &&& 31).toInt = 23 →
vp_in (a3 + 1) ((σ.1 89 0)).toNatClampNeg ∧
vp_in (a3 + 2) ((σ.1 89 0)).toNatClampNeg ∧
tp_E 84 0 [.ref 0, .int (σ.1 90 ((a3 + 1)).toNatClampNeg), .int (σ.1 90 ((a3 + 2)).toNatClampNeg)] [] σ (fun r55 σ55 =>
vp_in (a3 + 1) ((σ55.1 89 0)).toNatClampNeg ∧
vp_in (a3 + 2) ((σ55.1 89 0)).toNatClampNeg ∧
tp_E 139 0 [.ref 58, .int (σ55.1 90 ((a3 + 1)).toNatClampNeg), .int (σ55.1 90 ((a3 + 2)).toNatClampNeg)] [] σ55 (fun r56 σ56 =>
(r55 = r56 →
tp_E 156 18 [.ref 90, .ref 0, .ref 58, .int (a3 + 6)] [] σ56 post) ∧ (¬ r55 = r56 →
post 0 σ56)))) ∧ (((σ.1 90 (a3).toNatClampNeg) &&& 31).toInt = 24 →
vp_in (a3 + 1) ((σ.1 89 0)).toNatClampNeg ∧
vp_in (a3 + 2) ((σ.1 89 0)).toNatClampNeg ∧
tp_E 85 0 [.ref 0, .int (σ.1 90 ((a3 + 1)).toNatClampNeg), .int (σ.1 90 ((a3 + 2)).toNatClampNeg)] [] σ (fun r57 σ57 =>
vp_in (a3 + 1) ((σ57.1 89 0)).toNatClampNeg ∧
vp_in (a3 + 2) ((σ57.1 89 0)).toNatClampNeg ∧
tp_E 140 0 [.ref 58, .int (σ57.1 90 ((a3 + 1)).toNatClampNeg), .int (σ57.1 90 ((a3 + 2)).toNatClampNeg)] [] σ57 (fun r58 σ58 =>
(r57 = r58 →
tp_E 156 18 [.ref 90, .ref 0, .ref 58, .int (a3 + 6)] [] σ58 post) ∧ (¬ r57 = r58 →
post 0 σ58)))) ∧ (((σ.1 90 (a3).toNatClampNeg) &&& 31).toInt = 25 →
vp_in (a3 + 1) ((σ.1 89 0)).toNatClampNeg ∧
tp_E 86 0 [.ref 0, .int (σ.1 90 ((a3 + 1)).toNatClampNeg)] [] σ (fun r59 σ59 =>
vp_in (a3 + 1) ((σ59.1 89 0)).toNatClampNeg ∧
tp_E 141 0 [.ref 58, .int (σ59.1 90 ((a3 + 1)).toNatClampNeg), .null] [] σ59 (fun r60 σ60 =>
(r59 = r60 →
tp_E 156 18 [.ref 90, .ref 0, .ref 58, .int (a3 + 6)] [] σ60 post) ∧ (¬ r59 = r60 →
post 0 σ60)))) ∧ (((σ.1 90 (a3).toNatClampNeg) &&& 31).toInt = 26 →
vp_in (a3 + 1) ((σ.1 89 0)).toNatClampNeg ∧
tp_E 87 0 [.ref 0, .int (σ.1 90 ((a3 + 1)).toNatClampNeg)] [] σ (fun r61 σ61 =>
vp_in (a3 + 1) ((σ61.1 89 0)).toNatClampNeg ∧
tp_E 144 0 [.ref 58, .int (σ61.1 90 ((a3 + 1)).toNatClampNeg)] [] σ61 (fun r62 σ62 =>
(r61 = r62 →
tp_E 156 18 [.ref 90, .ref 0, .ref 58, .int (a3 + 6)] [] σ62 post) ∧ (¬ r61 = r62 →
post 0 σ62)))) ∧ (((σ.1 90 (a3).toNatClampNeg) &&& 31).toInt = 27 →
vp_in (a3 + 1) ((σ.1 89 0)).toNatClampNeg ∧
tp_E 88 0 [.ref 0, .int (σ.1 90 ((a3 + 1)).toNatClampNeg), .null] [] σ (fun r63 σ63 =>
vp_in (a3 + 1) ((σ63.1 89 0)).toNatClampNeg ∧
tp_E 146 0 [.ref 58, .int (σ63.1 90 ((a3 + 1)).toNatClampNeg), .null, .null] [] σ63 (fun r64 σ64 =>
(r63 = r64 →
tp_E 156 18 [.ref 90, .ref 0, .ref 58, .int (a3 + 6)] [] σ64 post) ∧ (¬ r63 = r64 →
post 0 σ64)))) ∧ (((σ.1 90 (a3).toNatClampNeg) &&& 31).toInt = 28 →
vp_in (a3 + 1) ((σ.1 89 0)).toNatClampNeg ∧
tp_E 89 0 [.ref 0, .int (σ.1 90 ((a3 + 1)).toNatClampNeg)] [] σ (fun r65 σ65 =>
vp_in (a3 + 1) ((σ65.1 89 0)).toNatClampNeg ∧
tp_E 147 0 [.ref 58, .int (σ65.1 90 ((a3 + 1)).toNatClampNeg), .null, .null, .null, .null, .null, .null] [] σ65 (fun r66 σ66 =>
(r65 = r66 →
tp_E 156 18 [.ref 90, .ref 0, .ref 58, .int (a3 + 6)] [] σ66 post) ∧ (¬ r65 = r66 →
post 0 σ66)))) ∧ (((σ.1 90 (a3).toNatClampNeg) &&& 31).toInt = 29 →
vp_in (a3 + 1) ((σ.1 89 0)).toNatClampNeg ∧
tp_E 90 0 [.ref 0, .int (σ.1 90 ((a3 + 1)).toNatClampNeg)] [] σ (fun r67 σ67 =>
vp_in (a3 + 1) ((σ67.1 89 0)).toNatClampNeg ∧
tp_E 148 0 [.ref 58, .int (σ67.1 90 ((a3 + 1)).toNatClampNeg), .null, .null] [] σ67 (fun r68 σ68 =>
(r67 = r68 →
tp_E 156 18 [.ref 90, .ref 0, .ref 58, .int (a3 + 6)] [] σ68 post) ∧ (¬ r67 = r68 →
post 0 σ68)))))) : tp_E 156 18 [.ref 90, .ref 0, .ref 58, .int a3] [] σ post := tp_E_step (And.intro (fun c1 => Exists.intro _ (And.intro (tp_wk_rf _) (tp_E_step (And.intro rfl (h.1 c1))))) (fun c1 => And.intro (h.2 c1).1 (And.intro (fun c2 => Exists.intro _ (And.intro (tp_wk_rf _) (tp_E_step (Exists.intro [.ref 90, .ref 0, .ref 58, .int (a3 + 6)] (And.intro (And.intro (Or.inr rfl) (And.intro (Or.inr rfl) (And.intro (Or.inr rfl) (And.intro (Or.inr rfl) (trivial))))) ((h.2 c1).2.1 c2)))))) (And.intro (fun c2 => Exists.intro _ (And.intro (tp_wk_rf _) (tp_E_step (And.intro ((h.2 c1).2.2.1 c2).1 (And.intro ((h.2 c1).2.2.1 c2).2.1 (tp_Em ((h.2 c1).2.2.1 c2).2.2 (fun r110 σ110 h110 => And.intro h110.1 (And.intro h110.2.1 (tp_Em h110.2.2 (fun r111 σ111 h111 => And.intro (fun c112 => Exists.intro _ (And.intro (tp_wk_rf _) (tp_E_step (Exists.intro [.ref 90, .ref 0, .ref 58, .int (a3 + 6)] (And.intro (And.intro (Or.inr rfl) (And.intro (Or.inr rfl) (And.intro (Or.inr rfl) (And.intro (Or.inr rfl) (trivial))))) (h111.1 c112)))))) (fun c112 => And.intro rfl (h111.2 c112)))))))))))) (And.intro (fun c2 => Exists.intro _ (And.intro (tp_wk_rf _) (tp_E_step (And.intro ((h.2 c1).2.2.2.1 c2).1 (And.intro ((h.2 c1).2.2.2.1 c2).2.1 (And.intro ((h.2 c1).2.2.2.1 c2).2.2.1 (And.intro ((h.2 c1).2.2.2.1 c2).2.2.2.1 (tp_Em ((h.2 c1).2.2.2.1 c2).2.2.2.2 (fun r107 σ107 h107 => And.intro h107.1 (And.intro h107.2.1 (And.intro h107.2.2.1 (And.intro h107.2.2.2.1 (tp_Em h107.2.2.2.2 (fun r108 σ108 h108 => And.intro (fun c109 => Exists.intro _ (And.intro (tp_wk_rf _) (tp_E_step (Exists.intro [.ref 90, .ref 0, .ref 58, .int (a3 + 6)] (And.intro (And.intro (Or.inr rfl) (And.intro (Or.inr rfl) (And.intro (Or.inr rfl) (And.intro (Or.inr rfl) (trivial))))) (h108.1 c109)))))) (fun c109 => And.intro rfl (h108.2 c109)))))))))))))))) (And.intro (fun c2 => Exists.intro _ (And.intro (tp_wk_rf _) (tp_E_step (And.intro ((h.2 c1).2.2.2.2.1 c2).1 (And.intro ((h.2 c1).2.2.2.2.1 c2).2.1 (And.intro ((h.2 c1).2.2.2.2.1 c2).2.2.1 (tp_Em ((h.2 c1).2.2.2.2.1 c2).2.2.2 (fun r104 σ104 h104 => And.intro h104.1 (And.intro h104.2.1 (And.intro h104.2.2.1 (tp_Em h104.2.2.2 (fun r105 σ105 h105 => And.intro (fun c106 => Exists.intro _ (And.intro (tp_wk_rf _) (tp_E_step (Exists.intro [.ref 90, .ref 0, .ref 58, .int (a3 + 6)] (And.intro (And.intro (Or.inr rfl) (And.intro (Or.inr rfl) (And.intro (Or.inr rfl) (And.intro (Or.inr rfl) (trivial))))) (h105.1 c106)))))) (fun c106 => And.intro rfl (h105.2 c106)))))))))))))) (And.intro (fun c2 => Exists.intro _ (And.intro (tp_wk_rf _) (tp_E_step (And.intro ((h.2 c1).2.2.2.2.2.1 c2).1 (And.intro ((h.2 c1).2.2.2.2.2.1 c2).2.1 (And.intro (fun c91 => Exists.intro _ (And.intro (tp_wk_rf _) (tp_E_step (Exists.intro _ (And.intro (tp_wk_rf _) (tp_E_step (tp_Em (((h.2 c1).2.2.2.2.2.1 c2).2.2.1 c91) (fun r92 σ92 h92 => And.intro h92.1 (And.intro h92.2.1 (And.intro (fun c93 => Exists.intro _ (And.intro (tp_wk_rf _) (tp_E_step (Exists.intro _ (And.intro (tp_wk_rf _) (tp_E_step (tp_Em (h92.2.2.1 c93) (fun r94 σ94 h94 => And.intro (fun c95 => Exists.intro _ (And.intro (tp_wk_rf _) (tp_E_step (Exists.intro [.ref 90, .ref 0, .ref 58, .int (a3 + 6)] (And.intro (And.intro (Or.inr rfl) (And.intro (Or.inr rfl) (And.intro (Or.inr rfl) (And.intro (Or.inr rfl) (trivial))))) (h94.1 c95)))))) (fun c95 => And.intro rfl (h94.2 c95)))))))))) (fun c93 => Exists.intro _ (And.intro (tp_wk_rf _) (tp_E_step (tp_Em (h92.2.2.2 c93) (fun r96 σ96 h96 => And.intro (fun c97 => Exists.intro _ (And.intro (tp_wk_rf _) (tp_E_step (Exists.intro [.ref 90, .ref 0, .ref 58, .int (a3 + 6)] (And.intro (And.intro (Or.inr rfl) (And.intro (Or.inr rfl) (And.intro (Or.inr rfl) (And.intro (Or.inr rfl) (trivial))))) (h96.1 c97)))))) (fun c97 => And.intro rfl (h96.2 c97))))))))))))))))) (fun c91 => Exists.intro _ (And.intro (tp_wk_rf _) (tp_E_step (tp_Em (((h.2 c1).2.2.2.2.2.1 c2).2.2.2 c91) (fun r98 σ98 h98 => And.intro h98.1 (And.intro h98.2.1 (And.intro (fun c99 => Exists.intro _ (And.intro (tp_wk_rf _) (tp_E_step (Exists.intro _ (And.intro (tp_wk_rf _) (tp_E_step (tp_Em (h98.2.2.1 c99) (fun r100 σ100 h100 => And.intro (fun c101 => Exists.intro _ (And.intro (tp_wk_rf _) (tp_E_step (Exists.intro [.ref 90, .ref 0, .ref 58, .int (a3 + 6)] (And.intro (And.intro (Or.inr rfl) (And.intro (Or.inr rfl) (And.intro (Or.inr rfl) (And.intro (Or.inr rfl) (trivial))))) (h100.1 c101)))))) (fun c101 => And.intro rfl (h100.2 c101)))))))))) (fun c99 => Exists.intro _ (And.intro (tp_wk_rf _) (tp_E_step (tp_Em (h98.2.2.2 c99) (fun r102 σ102 h102 => And.intro (fun c103 => Exists.intro _ (And.intro (tp_wk_rf _) (tp_E_step (Exists.intro [.ref 90, .ref 0, .ref 58, .int (a3 + 6)] (And.intro (And.intro (Or.inr rfl) (And.intro (Or.inr rfl) (And.intro (Or.inr rfl) (And.intro (Or.inr rfl) (trivial))))) (h102.1 c103)))))) (fun c103 => And.intro rfl (h102.2 c103)))))))))))))))))))) (And.intro (fun c2 => Exists.intro _ (And.intro (tp_wk_rf _) (tp_E_step (And.intro ((h.2 c1).2.2.2.2.2.2.1 c2).1 (tp_Em ((h.2 c1).2.2.2.2.2.2.1 c2).2 (fun r88 σ88 h88 => And.intro h88.1 (tp_Em h88.2 (fun r89 σ89 h89 => And.intro (fun c90 => Exists.intro _ (And.intro (tp_wk_rf _) (tp_E_step (Exists.intro [.ref 90, .ref 0, .ref 58, .int (a3 + 6)] (And.intro (And.intro (Or.inr rfl) (And.intro (Or.inr rfl) (And.intro (Or.inr rfl) (And.intro (Or.inr rfl) (trivial))))) (h89.1 c90)))))) (fun c90 => And.intro rfl (h89.2 c90)))))))))) (And.intro (fun c2 => Exists.intro _ (And.intro (tp_wk_rf _) (tp_E_step (And.intro ((h.2 c1).2.2.2.2.2.2.2.1 c2).1 (And.intro ((h.2 c1).2.2.2.2.2.2.2.1 c2).2.1 (And.intro ((h.2 c1).2.2.2.2.2.2.2.1 c2).2.2.1 (tp_Em ((h.2 c1).2.2.2.2.2.2.2.1 c2).2.2.2 (fun r85 σ85 h85 => And.intro h85.1 (And.intro h85.2.1 (And.intro h85.2.2.1 (tp_Em h85.2.2.2 (fun r86 σ86 h86 => And.intro (fun c87 => Exists.intro _ (And.intro (tp_wk_rf _) (tp_E_step (Exists.intro [.ref 90, .ref 0, .ref 58, .int (a3 + 6)] (And.intro (And.intro (Or.inr rfl) (And.intro (Or.inr rfl) (And.intro (Or.inr rfl) (And.intro (Or.inr rfl) (trivial))))) (h86.1 c87)))))) (fun c87 => And.intro rfl (h86.2 c87)))))))))))))) (And.intro (fun c2 => Exists.intro _ (And.intro (tp_wk_rf _) (tp_E_step (tp_Em ((h.2 c1).2.2.2.2.2.2.2.2.1 c2) (fun r82 σ82 h82 => tp_Em h82 (fun r83 σ83 h83 => And.intro (fun c84 => Exists.intro _ (And.intro (tp_wk_rf _) (tp_E_step (Exists.intro [.ref 90, .ref 0, .ref 58, .int (a3 + 6)] (And.intro (And.intro (Or.inr rfl) (And.intro (Or.inr rfl) (And.intro (Or.inr rfl) (And.intro (Or.inr rfl) (trivial))))) (h83.1 c84)))))) (fun c84 => And.intro rfl (h83.2 c84)))))))) (And.intro (fun c2 => Exists.intro _ (And.intro (tp_wk_rf _) (tp_E_step (And.intro ((h.2 c1).2.2.2.2.2.2.2.2.2.1 c2).1 (And.intro ((h.2 c1).2.2.2.2.2.2.2.2.2.1 c2).2.1 (And.intro ((h.2 c1).2.2.2.2.2.2.2.2.2.1 c2).2.2.1 (tp_Em ((h.2 c1).2.2.2.2.2.2.2.2.2.1 c2).2.2.2 (fun r79 σ79 h79 => And.intro h79.1 (And.intro h79.2.1 (And.intro h79.2.2.1 (tp_Em h79.2.2.2 (fun r80 σ80 h80 => And.intro (fun c81 => Exists.intro _ (And.intro (tp_wk_rf _) (tp_E_step (Exists.intro [.ref 90, .ref 0, .ref 58, .int (a3 + 6)] (And.intro (And.intro (Or.inr rfl) (And.intro (Or.inr rfl) (And.intro (Or.inr rfl) (And.intro (Or.inr rfl) (trivial))))) (h80.1 c81)))))) (fun c81 => And.intro rfl (h80.2 c81)))))))))))))) (And.intro (fun c2 => Exists.intro _ (And.intro (tp_wk_rf _) (tp_E_step (And.intro ((h.2 c1).2.2.2.2.2.2.2.2.2.2.1 c2).1 (And.intro ((h.2 c1).2.2.2.2.2.2.2.2.2.2.1 c2).2.1 (And.intro ((h.2 c1).2.2.2.2.2.2.2.2.2.2.1 c2).2.2.1 (tp_Em ((h.2 c1).2.2.2.2.2.2.2.2.2.2.1 c2).2.2.2 (fun r76 σ76 h76 => And.intro h76.1 (And.intro h76.2.1 (And.intro h76.2.2.1 (tp_Em h76.2.2.2 (fun r77 σ77 h77 => And.intro (fun c78 => Exists.intro _ (And.intro (tp_wk_rf _) (tp_E_step (Exists.intro [.ref 90, .ref 0, .ref 58, .int (a3 + 6)] (And.intro (And.intro (Or.inr rfl) (And.intro (Or.inr rfl) (And.intro (Or.inr rfl) (And.intro (Or.inr rfl) (trivial))))) (h77.1 c78)))))) (fun c78 => And.intro rfl (h77.2 c78)))))))))))))) (And.intro (fun c2 => Exists.intro _ (And.intro (tp_wk_rf _) (tp_E_step (And.intro ((h.2 c1).2.2.2.2.2.2.2.2.2.2.2.1 c2).1 (And.intro ((h.2 c1).2.2.2.2.2.2.2.2.2.2.2.1 c2).2.1 (And.intro ((h.2 c1).2.2.2.2.2.2.2.2.2.2.2.1 c2).2.2.1 (And.intro ((h.2 c1).2.2.2.2.2.2.2.2.2.2.2.1 c2).2.2.2.1 (And.intro ((h.2 c1).2.2.2.2.2.2.2.2.2.2.2.1 c2).2.2.2.2.1 (tp_Em ((h.2 c1).2.2.2.2.2.2.2.2.2.2.2.1 c2).2.2.2.2.2 (fun r73 σ73 h73 => And.intro h73.1 (And.intro h73.2.1 (And.intro h73.2.2.1 (And.intro h73.2.2.2.1 (And.intro h73.2.2.2.2.1 (tp_Em h73.2.2.2.2.2 (fun r74 σ74 h74 => And.intro (fun c75 => Exists.intro _ (And.intro (tp_wk_rf _) (tp_E_step (Exists.intro [.ref 90, .ref 0, .ref 58, .int (a3 + 6)] (And.intro (And.intro (Or.inr rfl) (And.intro (Or.inr rfl) (And.intro (Or.inr rfl) (And.intro (Or.inr rfl) (trivial))))) (h74.1 c75)))))) (fun c75 => And.intro rfl (h74.2 c75)))))))))))))))))) (And.intro (fun c2 => Exists.intro _ (And.intro (tp_wk_rf _) (tp_E_step (And.intro ((h.2 c1).2.2.2.2.2.2.2.2.2.2.2.2.1 c2).1 (And.intro ((h.2 c1).2.2.2.2.2.2.2.2.2.2.2.2.1 c2).2.1 (And.intro ((h.2 c1).2.2.2.2.2.2.2.2.2.2.2.2.1 c2).2.2.1 (tp_Em ((h.2 c1).2.2.2.2.2.2.2.2.2.2.2.2.1 c2).2.2.2 (fun r70 σ70 h70 => And.intro h70.1 (And.intro h70.2.1 (And.intro h70.2.2.1 (tp_Em h70.2.2.2 (fun r71 σ71 h71 => And.intro (fun c72 => Exists.intro _ (And.intro (tp_wk_rf _) (tp_E_step (Exists.intro [.ref 90, .ref 0, .ref 58, .int (a3 + 6)] (And.intro (And.intro (Or.inr rfl) (And.intro (Or.inr rfl) (And.intro (Or.inr rfl) (And.intro (Or.inr rfl) (trivial))))) (h71.1 c72)))))) (fun c72 => And.intro rfl (h71.2 c72)))))))))))))) (And.intro (fun c2 => Exists.intro _ (And.intro (tp_wk_rf _) (tp_E_step (And.intro ((h.2 c1).2.2.2.2.2.2.2.2.2.2.2.2.2.1 c2).1 (tp_Em ((h.2 c1).2.2.2.2.2.2.2.2.2.2.2.2.2.1 c2).2 (fun r67 σ67 h67 => And.intro h67.1 (tp_Em h67.2 (fun r68 σ68 h68 => And.intro (fun c69 => Exists.intro _ (And.intro (tp_wk_rf _) (tp_E_step (Exists.intro [.ref 90, .ref 0, .ref 58, .int (a3 + 6)] (And.intro (And.intro (Or.inr rfl) (And.intro (Or.inr rfl) (And.intro (Or.inr rfl) (And.intro (Or.inr rfl) (trivial))))) (h68.1 c69)))))) (fun c69 => And.intro rfl (h68.2 c69)))))))))) (And.intro (fun c2 => Exists.intro _ (And.intro (tp_wk_rf _) (tp_E_step (And.intro ((h.2 c1).2.2.2.2.2.2.2.2.2.2.2.2.2.2.1 c2).1 (And.intro ((h.2 c1).2.2.2.2.2.2.2.2.2.2.2.2.2.2.1 c2).2.1 (tp_Em ((h.2 c1).2.2.2.2.2.2.2.2.2.2.2.2.2.2.1 c2).2.2 (fun r64 σ64 h64 => And.intro h64.1 (And.intro h64.2.1 (tp_Em h64.2.2 (fun r65 σ65 h65 => And.intro (fun c66 => Exists.intro _ (And.intro (tp_wk_rf _) (tp_E_step (Exists.intro [.ref 90, .ref 0, .ref 58, .int (a3 + 6)] (And.intro (And.intro (Or.inr rfl) (And.intro (Or.inr rfl) (And.intro (Or.inr rfl) (And.intro (Or.inr rfl) (trivial))))) (h65.1 c66)))))) (fun c66 => And.intro rfl (h65.2 c66)))))))))))) (And.intro (fun c2 => Exists.intro _ (And.intro (tp_wk_rf _) (tp_E_step (And.intro ((h.2 c1).2.2.2.2.2.2.2.2.2.2.2.2.2.2.2.1 c2).1 (And.intro ((h.2 c1).2.2.2.2.2.2.2.2.2.2.2.2.2.2.2.1 c2).2.1 (And.intro ((h.2 c1).2.2.2.2.2.2.2.2.2.2.2.2.2.2.2.1 c2).2.2.1 (tp_Em ((h.2 c1).2.2.2.2.2.2.2.2.2.2.2.2.2.2.2.1 c2).2.2.2 (fun r61 σ61 h61 => And.intro h61.1 (And.intro h61.2.1 (And.intro h61.2.2.1 (tp_Em h61.2.2.2 (fun r62 σ62 h62 => And.intro (fun c63 => Exists.intro _ (And.intro (tp_wk_rf _) (tp_E_step (Exists.intro [.ref 90, .ref 0, .ref 58, .int (a3 + 6)] (And.intro (And.intro (Or.inr rfl) (And.intro (Or.inr rfl) (And.intro (Or.inr rfl) (And.intro (Or.inr rfl) (trivial))))) (h62.1 c63)))))) (fun c63 => And.intro rfl (h62.2 c63)))))))))))))) (And.intro (fun c2 => Exists.intro _ (And.intro (tp_wk_rf _) (tp_E_step (And.intro ((h.2 c1).2.2.2.2.2.2.2.2.2.2.2.2.2.2.2.2.1 c2).1 (And.intro (fun c48 => Exists.intro _ (And.intro (tp_wk_rf _) (tp_E_step (Exists.intro _ (And.intro (tp_wk_rf _) (tp_E_step (And.intro (((h.2 c1).2.2.2.2.2.2.2.2.2.2.2.2.2.2.2.2.1 c2).2.1 c48).1 (And.intro (((h.2 c1).2.2.2.2.2.2.2.2.2.2.2.2.2.2.2.2.1 c2).2.1 c48).2.1 (tp_Em (((h.2 c1).2.2.2.2.2.2.2.2.2.2.2.2.2.2.2.2.1 c2).2.1 c48).2.2 (fun r49 σ49 h49 => And.intro h49.1 (And.intro (fun c50 => Exists.intro _ (And.intro (tp_wk_rf _) (tp_E_step (Exists.intro _ (And.intro (tp_wk_rf _) (tp_E_step (And.intro (h49.2.1 c50).1 (And.intro (h49.2.1 c50).2.1 (tp_Em (h49.2.1 c50).2.2 (fun r51 σ51 h51 => And.intro (fun c52 => Exists.intro _ (And.intro (tp_wk_rf _) (tp_E_step (Exists.intro [.ref 90, .ref 0, .ref 58, .int (a3 + 6)] (And.intro (And.intro (Or.inr rfl) (And.intro (Or.inr rfl) (And.intro (Or.inr rfl) (And.intro (Or.inr rfl) (trivial))))) (h51.1 c52)))))) (fun c52 => And.intro rfl (h51.2 c52)))))))))))) (fun c50 => Exists.intro _ (And.intro (tp_wk_rf _) (tp_E_step (And.intro (h49.2.2 c50).1 (And.intro (h49.2.2 c50).2.1 (tp_Em (h49.2.2 c50).2.2 (fun r53 σ53 h53 => And.intro (fun c54 => Exists.intro _ (And.intro (tp_wk_rf _) (tp_E_step (Exists.intro [.ref 90, .ref 0, .ref 58, .int (a3 + 6)] (And.intro (And.intro (Or.inr rfl) (And.intro (Or.inr rfl) (And.intro (Or.inr rfl) (And.intro (Or.inr rfl) (trivial))))) (h53.1 c54)))))) (fun c54 => And.intro rfl (h53.2 c54)))))))))))))))))))) (fun c48 => Exists.intro _ (And.intro (tp_wk_rf _) (tp_E_step (And.intro (((h.2 c1).2.2.2.2.2.2.2.2.2.2.2.2.2.2.2.2.1 c2).2.2 c48).1 (And.intro (((h.2 c1).2.2.2.2.2.2.2.2.2.2.2.2.2.2.2.2.1 c2).2.2 c48).2.1 (tp_Em (((h.2 c1).2.2.2.2.2.2.2.2.2.2.2.2.2.2.2.2.1 c2).2.2 c48).2.2 (fun r55 σ55 h55 => And.intro h55.1 (And.intro (fun c56 => Exists.intro _ (And.intro (tp_wk_rf _) (tp_E_step (Exists.intro _ (And.intro (tp_wk_rf _) (tp_E_step (And.intro (h55.2.1 c56).1 (And.intro (h55.2.1 c56).2.1 (tp_Em (h55.2.1 c56).2.2 (fun r57 σ57 h57 => And.intro (fun c58 => Exists.intro _ (And.intro (tp_wk_rf _) (tp_E_step (Exists.intro [.ref 90, .ref 0, .ref 58, .int (a3 + 6)] (And.intro (And.intro (Or.inr rfl) (And.intro (Or.inr rfl) (And.intro (Or.inr rfl) (And.intro (Or.inr rfl) (trivial))))) (h57.1 c58)))))) (fun c58 => And.intro rfl (h57.2 c58)))))))))))) (fun c56 => Exists.intro _ (And.intro (tp_wk_rf _) (tp_E_step (And.intro (h55.2.2 c56).1 (And.intro (h55.2.2 c56).2.1 (tp_Em (h55.2.2 c56).2.2 (fun r59 σ59 h59 => And.intro (fun c60 => Exists.intro _ (And.intro (tp_wk_rf _) (tp_E_step (Exists.intro [.ref 90, .ref 0, .ref 58, .int (a3 + 6)] (And.intro (And.intro (Or.inr rfl) (And.intro (Or.inr rfl) (And.intro (Or.inr rfl) (And.intro (Or.inr rfl) (trivial))))) (h59.1 c60)))))) (fun c60 => And.intro rfl (h59.2 c60)))))))))))))))))))))) (And.intro (fun c2 => Exists.intro _ (And.intro (tp_wk_rf _) (tp_E_step (And.intro ((h.2 c1).2.2.2.2.2.2.2.2.2.2.2.2.2.2.2.2.2.1 c2).1 (And.intro ((h.2 c1).2.2.2.2.2.2.2.2.2.2.2.2.2.2.2.2.2.1 c2).2.1 (And.intro ((h.2 c1).2.2.2.2.2.2.2.2.2.2.2.2.2.2.2.2.2.1 c2).2.2.1 (And.intro ((h.2 c1).2.2.2.2.2.2.2.2.2.2.2.2.2.2.2.2.2.1 c2).2.2.2.1 (tp_Em ((h.2 c1).2.2.2.2.2.2.2.2.2.2.2.2.2.2.2.2.2.1 c2).2.2.2.2 (fun r45 σ45 h45 => And.intro h45.1 (And.intro h45.2.1 (And.intro h45.2.2.1 (And.intro h45.2.2.2.1 (tp_Em h45.2.2.2.2 (fun r46 σ46 h46 => And.intro (fun c47 => Exists.intro _ (And.intro (tp_wk_rf _) (tp_E_step (Exists.intro [.ref 90, .ref 0, .ref 58, .int (a3 + 6)] (And.intro (And.intro (Or.inr rfl) (And.intro (Or.inr rfl) (And.intro (Or.inr rfl) (And.intro (Or.inr rfl) (trivial))))) (h46.1 c47)))))) (fun c47 => And.intro rfl (h46.2 c47)))))))))))))))) (And.intro (fun c2 => Exists.intro _ (And.intro (tp_wk_rf _) (tp_E_step (And.intro ((h.2 c1).2.2.2.2.2.2.2.2.2.2.2.2.2.2.2.2.2.2.1 c2).1 (And.intro ((h.2 c1).2.2.2.2.2.2.2.2.2.2.2.2.2.2.2.2.2.2.1 c2).2.1 (And.intro ((h.2 c1).2.2.2.2.2.2.2.2.2.2.2.2.2.2.2.2.2.2.1 c2).2.2.1 (tp_Em ((h.2 c1).2.2.2.2.2.2.2.2.2.2.2.2.2.2.2.2.2.2.1 c2).2.2.2 (fun r42 σ42 h42 => And.intro h42.1 (And.intro h42.2.1 (And.intro h42.2.2.1 (tp_Em h42.2.2.2 (fun r43 σ43 h43 => And.intro (fun c44 => Exists.intro _ (And.intro (tp_wk_rf _) (tp_E_step (Exists.intro [.ref 90, .ref 0, .ref 58, .int (a3 + 6)] (And.intro (And.intro (Or.inr rfl) (And.intro (Or.inr rfl) (And.intro (Or.inr rfl) (And.intro (Or.inr rfl) (trivial))))) (h43.1 c44)))))) (fun c44 => And.intro rfl (h43.2 c44)))))))))))))) (And.intro (fun c2 => Exists.intro _ (And.intro (tp_wk_rf _) (tp_E_step (And.intro ((h.2 c1).2.2.2.2.2.2.2.2.2.2.2.2.2.2.2.2.2.2.2.1 c2).1 (tp_Em ((h.2 c1).2.2.2.2.2.2.2.2.2.2.2.2.2.2.2.2.2.2.2.1 c2).2 (fun r39 σ39 h39 => And.intro h39.1 (tp_Em h39.2 (fun r40 σ40 h40 => And.intro (fun c41 => Exists.intro _ (And.intro (tp_wk_rf _) (tp_E_step (Exists.intro [.ref 90, .ref 0, .ref 58, .int (a3 + 6)] (And.intro (And.intro (Or.inr rfl) (And.intro (Or.inr rfl) (And.intro (Or.inr rfl) (And.intro (Or.inr rfl) (trivial))))) (h40.1 c41)))))) (fun c41 => And.intro rfl (h40.2 c41)))))))))) (And.intro (fun c2 => Exists.intro _ (And.intro (tp_wk_rf _) (tp_E_step (And.intro ((h.2 c1).2.2.2.2.2.2.2.2.2.2.2.2.2.2.2.2.2.2.2.2.1 c2).1 (And.intro ((h.2 c1).2.2.2.2.2.2.2.2.2.2.2.2.2.2.2.2.2.2.2.2.1 c2).2.1 (tp_Em ((h.2 c1).2.2.2.2.2.2.2.2.2.2.2.2.2.2.2.2.2.2.2.2.1 c2).2.2 (fun r36 σ36 h36 => And.intro h36.1 (And.intro h36.2.1 (tp_Em h36.2.2 (fun r37 σ37 h37 => And.intro (fun c38 => Exists.intro _ (And.intro (tp_wk_rf _) (tp_E_step (Exists.intro [.ref 90, .ref 0, .ref 58, .int (a3 + 6)] (And.intro (And.intro (Or.inr rfl) (And.intro (Or.inr rfl) (And.intro (Or.inr rfl) (And.intro (Or.inr rfl) (trivial))))) (h37.1 c38)))))) (fun c38 => And.intro rfl (h37.2 c38)))))))))))) (And.intro (fun c2 => Exists.intro _ (And.intro (tp_wk_rf _) (tp_E_step (And.intro ((h.2 c1).2.2.2.2.2.2.2.2.2.2.2.2.2.2.2.2.2.2.2.2.2.1 c2).1 (tp_Em ((h.2 c1).2.2.2.2.2.2.2.2.2.2.2.2.2.2.2.2.2.2.2.2.2.1 c2).2 (fun r33 σ33 h33 => And.intro h33.1 (tp_Em h33.2 (fun r34 σ34 h34 => And.intro (fun c35 => Exists.intro _ (And.intro (tp_wk_rf _) (tp_E_step (Exists.intro [.ref 90, .ref 0, .ref 58, .int (a3 + 6)] (And.intro (And.intro (Or.inr rfl) (And.intro (Or.inr rfl) (And.intro (Or.inr rfl) (And.intro (Or.inr rfl) (trivial))))) (h34.1 c35)))))) (fun c35 => And.intro rfl (h34.2 c35)))))))))) (And.intro (fun c2 => Exists.intro _ (And.intro (tp_wk_rf _) (tp_E_step (tp_Em ((h.2 c1).2.2.2.2.2.2.2.2.2.2.2.2.2.2.2.2.2.2.2.2.2.2.1 c2) (fun r30 σ30 h30 => tp_Em h30 (fun r31 σ31 h31 => And.intro (fun c32 => Exists.intro _ (And.intro (tp_wk_rf _) (tp_E_step (Exists.intro [.ref 90, .ref 0, .ref 58, .int (a3 + 6)] (And.intro (And.intro (Or.inr rfl) (And.intro (Or.inr rfl) (And.intro (Or.inr rfl) (And.intro (Or.inr rfl) (trivial))))) (h31.1 c32)))))) (fun c32 => And.intro rfl (h31.2 c32)))))))) (And.intro (fun c2 => Exists.intro _ (And.intro (tp_wk_rf _) (tp_E_step (tp_Em ((h.2 c1).2.2.2.2.2.2.2.2.2.2.2.2.2.2.2.2.2.2.2.2.2.2.2.1 c2) (fun r27 σ27 h27 => tp_Em h27 (fun r28 σ28 h28 => And.intro (fun c29 => Exists.intro _ (And.intro (tp_wk_rf _) (tp_E_step (Exists.intro [.ref 90, .ref 0, .ref 58, .int (a3 + 6)] (And.intro (And.intro (Or.inr rfl) (And.intro (Or.inr rfl) (And.intro (Or.inr rfl) (And.intro (Or.inr rfl) (trivial))))) (h28.1 c29)))))) (fun c29 => And.intro rfl (h28.2 c29)))))))) (And.intro (fun c2 => Exists.intro _ (And.intro (tp_wk_rf _) (tp_E_step (And.intro ((h.2 c1).2.2.2.2.2.2.2.2.2.2.2.2.2.2.2.2.2.2.2.2.2.2.2.2.1 c2).1 (And.intro ((h.2 c1).2.2.2.2.2.2.2.2.2.2.2.2.2.2.2.2.2.2.2.2.2.2.2.2.1 c2).2.1 (tp_Em ((h.2 c1).2.2.2.2.2.2.2.2.2.2.2.2.2.2.2.2.2.2.2.2.2.2.2.2.1 c2).2.2 (fun r24 σ24 h24 => And.intro h24.1 (And.intro h24.2.1 (tp_Em h24.2.2 (fun r25 σ25 h25 => And.intro (fun c26 => Exists.intro _ (And.intro (tp_wk_rf _) (tp_E_step (Exists.intro [.ref 90, .ref 0, .ref 58, .int (a3 + 6)] (And.intro (And.intro (Or.inr rfl) (And.intro (Or.inr rfl) (And.intro (Or.inr rfl) (And.intro (Or.inr rfl) (trivial))))) (h25.1 c26)))))) (fun c26 => And.intro rfl (h25.2 c26)))))))))))) (And.intro (fun c2 => Exists.intro _ (And.intro (tp_wk_rf _) (tp_E_step (And.intro ((h.2 c1).2.2.2.2.2.2.2.2.2.2.2.2.2.2.2.2.2.2.2.2.2.2.2.2.2.1 c2).1 (And.intro ((h.2 c1).2.2.2.2.2.2.2.2.2.2.2.2.2.2.2.2.2.2.2.2.2.2.2.2.2.1 c2).2.1 (tp_Em ((h.2 c1).2.2.2.2.2.2.2.2.2.2.2.2.2.2.2.2.2.2.2.2.2.2.2.2.2.1 c2).2.2 (fun r21 σ21 h21 => And.intro h21.1 (And.intro h21.2.1 (tp_Em h21.2.2 (fun r22 σ22 h22 => And.intro (fun c23 => Exists.intro _ (And.intro (tp_wk_rf _) (tp_E_step (Exists.intro [.ref 90, .ref 0, .ref 58, .int (a3 + 6)] (And.intro (And.intro (Or.inr rfl) (And.intro (Or.inr rfl) (And.intro (Or.inr rfl) (And.intro (Or.inr rfl) (trivial))))) (h22.1 c23)))))) (fun c23 => And.intro rfl (h22.2 c23)))))))))))) (And.intro (fun c2 => Exists.intro _ (And.intro (tp_wk_rf _) (tp_E_step (And.intro ((h.2 c1).2.2.2.2.2.2.2.2.2.2.2.2.2.2.2.2.2.2.2.2.2.2.2.2.2.2.1 c2).1 (And.intro ((h.2 c1).2.2.2.2.2.2.2.2.2.2.2.2.2.2.2.2.2.2.2.2.2.2.2.2.2.2.1 c2).2.1 (tp_Em ((h.2 c1).2.2.2.2.2.2.2.2.2.2.2.2.2.2.2.2.2.2.2.2.2.2.2.2.2.2.1 c2).2.2 (fun r18 σ18 h18 => And.intro h18.1 (And.intro h18.2.1 (tp_Em h18.2.2 (fun r19 σ19 h19 => And.intro (fun c20 => Exists.intro _ (And.intro (tp_wk_rf _) (tp_E_step (Exists.intro [.ref 90, .ref 0, .ref 58, .int (a3 + 6)] (And.intro (And.intro (Or.inr rfl) (And.intro (Or.inr rfl) (And.intro (Or.inr rfl) (And.intro (Or.inr rfl) (trivial))))) (h19.1 c20)))))) (fun c20 => And.intro rfl (h19.2 c20)))))))))))) (And.intro (fun c2 => Exists.intro _ (And.intro (tp_wk_rf _) (tp_E_step (And.intro ((h.2 c1).2.2.2.2.2.2.2.2.2.2.2.2.2.2.2.2.2.2.2.2.2.2.2.2.2.2.2.1 c2).1 (tp_Em ((h.2 c1).2.2.2.2.2.2.2.2.2.2.2.2.2.2.2.2.2.2.2.2.2.2.2.2.2.2.2.1 c2).2 (fun r15 σ15 h15 => And.intro h15.1 (tp_Em h15.2 (fun r16 σ16 h16 => And.intro (fun c17 => Exists.intro _ (And.intro (tp_wk_rf _) (tp_E_step (Exists.intro [.ref 90, .ref 0, .ref 58, .int (a3 + 6)] (And.intro (And.intro (Or.inr rfl) (And.intro (Or.inr rfl) (And.intro (Or.inr rfl) (And.intro (Or.inr rfl) (trivial))))) (h16.1 c17)))))) (fun c17 => And.intro rfl (h16.2 c17)))))))))) (And.intro (fun c2 => Exists.intro _ (And.intro (tp_wk_rf _) (tp_E_step (And.intro ((h.2 c1).2.2.2.2.2.2.2.2.2.2.2.2.2.2.2.2.2.2.2.2.2.2.2.2.2.2.2.2.1 c2).1 (tp_Em ((h.2 c1).2.2.2.2.2.2.2.2.2.2.2.2.2.2.2.2.2.2.2.2.2.2.2.2.2.2.2.2.1 c2).2 (fun r12 σ12 h12 => And.intro h12.1 (tp_Em h12.2 (fun r13 σ13 h13 => And.intro (fun c14 => Exists.intro _ (And.intro (tp_wk_rf _) (tp_E_step (Exists.intro [.ref 90, .ref 0, .ref 58, .int (a3 + 6)] (And.intro (And.intro (Or.inr rfl) (And.intro (Or.inr rfl) (And.intro (Or.inr rfl) (And.intro (Or.inr rfl) (trivial))))) (h13.1 c14)))))) (fun c14 => And.intro rfl (h13.2 c14)))))))))) (And.intro (fun c2 => Exists.intro _ (And.intro (tp_wk_rf _) (tp_E_step (And.intro ((h.2 c1).2.2.2.2.2.2.2.2.2.2.2.2.2.2.2.2.2.2.2.2.2.2.2.2.2.2.2.2.2.1 c2).1 (tp_Em ((h.2 c1).2.2.2.2.2.2.2.2.2.2.2.2.2.2.2.2.2.2.2.2.2.2.2.2.2.2.2.2.2.1 c2).2 (fun r9 σ9 h9 => And.intro h9.1 (tp_Em h9.2 (fun r10 σ10 h10 => And.intro (fun c11 => Exists.intro _ (And.intro (tp_wk_rf _) (tp_E_step (Exists.intro [.ref 90, .ref 0, .ref 58, .int (a3 + 6)] (And.intro (And.intro (Or.inr rfl) (And.intro (Or.inr rfl) (And.intro (Or.inr rfl) (And.intro (Or.inr rfl) (trivial))))) (h10.1 c11)))))) (fun c11 => And.intro rfl (h10.2 c11)))))))))) (And.intro (fun c2 => Exists.intro _ (And.intro (tp_wk_rf _) (tp_E_step (And.intro ((h.2 c1).2.2.2.2.2.2.2.2.2.2.2.2.2.2.2.2.2.2.2.2.2.2.2.2.2.2.2.2.2.2.1 c2).1 (tp_Em ((h.2 c1).2.2.2.2.2.2.2.2.2.2.2.2.2.2.2.2.2.2.2.2.2.2.2.2.2.2.2.2.2.2.1 c2).2 (fun r6 σ6 h6 => And.intro h6.1 (tp_Em h6.2 (fun r7 σ7 h7 => And.intro (fun c8 => Exists.intro _ (And.intro (tp_wk_rf _) (tp_E_step (Exists.intro [.ref 90, .ref 0, .ref 58, .int (a3 + 6)] (And.intro (And.intro (Or.inr rfl) (And.intro (Or.inr rfl) (And.intro (Or.inr rfl) (And.intro (Or.inr rfl) (trivial))))) (h7.1 c8)))))) (fun c8 => And.intro rfl (h7.2 c8)))))))))) (And.intro (fun c2 => Exists.intro _ (And.intro (tp_wk_rf _) (tp_E_step (And.intro ((h.2 c1).2.2.2.2.2.2.2.2.2.2.2.2.2.2.2.2.2.2.2.2.2.2.2.2.2.2.2.2.2.2.2 c2).1 (tp_Em ((h.2 c1).2.2.2.2.2.2.2.2.2.2.2.2.2.2.2.2.2.2.2.2.2.2.2.2.2.2.2.2.2.2.2 c2).2 (fun r3 σ3 h3 => And.intro h3.1 (tp_Em h3.2 (fun r4 σ4 h4 => And.intro (fun c5 => Exists.intro _ (And.intro (tp_wk_rf _) (tp_E_step (Exists.intro [.ref 90, .ref 0, .ref 58, .int (a3 + 6)] (And.intro (And.intro (Or.inr rfl) (And.intro (Or.inr rfl) (And.intro (Or.inr rfl) (And.intro (Or.inr rfl) (trivial))))) (h4.1 c5)))))) (fun c5 => And.intro rfl (h4.2 c5)))))))))) (trivial))))))))))))))))))))))))))))))))))
end
section
/-! PURE: words for what methods answer -/
/-- answers 1 or 0 by P, changes nothing -/
def tp_bool (i : Nat) (av : List Value) (σ : tp_St) (P : Prop) : Prop := ∀ post : Int32 → tp_St → Prop, (P → post 1 σ) → (¬ P → post 0 σ) → tp_E i 0 av [] σ post
/-- answers v, changes nothing -/
def tp_val (i : Nat) (av : List Value) (σ : tp_St) (v : Int32) : Prop := ∀ post : Int32 → tp_St → Prop, post v σ → tp_E i 0 av [] σ post
theorem tp_if {i : Nat} {av : List Value} {σ : tp_St} {P : Prop} {A B : tp_St → Prop} (hb : tp_bool i av σ P) (hT : P → B σ) (hF : ¬ P → A σ) : tp_E i 0 av [] σ (fun r σ1 => (r = 0 → A σ1) ∧ (¬ r = 0 → B σ1)) :=
  hb _ (fun h => ⟨fun q => absurd q (by decide), fun _ => hT h⟩) (fun h => ⟨fun _ => hF h, fun q => absurd rfl q⟩)
theorem tp_bool_iff {i : Nat} {av : List Value} {σ : tp_St} {P Q : Prop} (h : P ↔ Q) (hb : tp_bool i av σ P) : tp_bool i av σ Q := fun post h1 h0 => hb post (fun p => h1 (h.mp p)) (fun p => h0 (fun q => p (h.mpr q)))
theorem tp_lt {a b : Int32} : a < b ↔ a.toInt < b.toInt := Int32.lt_iff_toInt_lt
theorem tp_le {a b : Int32} : a ≤ b ↔ a.toInt ≤ b.toInt := Int32.le_iff_toInt_le
theorem tp_eq {a b : Int32} : a = b ↔ a.toInt = b.toInt := Int32.toInt_inj.symm
theorem tp_sg (σ : tp_St) (o k : Nat) (v : Int32) (o' k' : Nat) : (tp_set σ o k v).1 o' k' = if o' = o then (if k' = k then v else σ.1 o' k') else σ.1 o' k' := rfl
theorem tp_s2 (σ : tp_St) (o k : Nat) (v : Int32) : (tp_set σ o k v).2 = σ.2 := rfl
def tp_rg (lo hi : Int) (x : Int32) : Prop := lo ≤ x.toInt ∧ x.toInt ≤ hi
theorem tp_rg_nI {x : Int32} {hi : Nat} (h : tp_rg 0 hi x) (hh : hi < 2 ^ 31) : ∃ n : Nat, n ≤ hi ∧ x = nI n := by
  refine ⟨x.toInt.toNat, by have := h.1; have := h.2; omega, tp_eq.mpr ?_⟩
  have h1 := h.1
  have h2 := h.2
  rw [nI_toInt (by omega)]
  omega
theorem tp_vin {x : Int32} {n : Nat} : vp_in x n ↔ 0 ≤ x.toInt ∧ x.toInt < n := vp_in_iff
theorem tp_vin_nI {k n : Nat} (h : k < n) (hn : n < 2 ^ 31) : vp_in (nI k) n := vp_in_nI h hn
/-- a loop that counts up: its state at turn i is a function of i -/
theorem tp_up_loop {E : Nat → Prop} {n : Nat} (hs : ∀ i, i < n → E (i + 1) → E i) (hx : E n) : ∀ i, i ≤ n → E i := by
  intro i hi
  have key : ∀ d i, i + d = n → E i := by
    intro d
    induction d with
    | zero => intro i h; rw [show i = n by omega]; exact hx
    | succ d ih => intro i h; exact hs i (by omega) (ih (i + 1) (by omega))
  exact key (n - i) i (by omega)
/-- a loop that counts down -/
theorem tp_dn_loop {E : Nat → Prop} {n : Nat} (hs : ∀ i, i < n → E i → E (i + 1)) (hx : E 0) : E n := by
  have key : ∀ i, i ≤ n → E i := by
    intro i
    induction i with
    | zero => intro _; exact hx
    | succ i ih => intro h; exact hs i (by omega) (ih (by omega))
  exact key n (Nat.le_refl n)
def tp_fo {α : Type} (step : Nat → α → α) : Nat → α → α
  | 0, a => a
  | n + 1, a => step n (tp_fo step n a)
theorem tp_fo_congr {α : Type} {f g : Nat → α → α} {a : α} : ∀ {n : Nat}, (∀ i, i < n → ∀ x, f i x = g i x) → tp_fo f n a = tp_fo g n a
  | 0, _ => rfl
  | n + 1, h => by
    show f n (tp_fo f n a) = g n (tp_fo g n a)
    rw [tp_fo_congr (n := n) (fun i hi => h i (by omega)), h n (by omega)]
/-- a loop with a value that each turn changes -/
theorem tp_fold {α : Type} {E : Nat → α → Prop} {step : Nat → α → α} {n : Nat} {a : α} (hs : ∀ i x, i < n → E (i + 1) (step i x) → E i x) (hx : E n (tp_fo step n a)) : E 0 a := by
  have key := tp_up_loop (E := fun i => E i (tp_fo step i a)) (n := n) (fun i hi h => hs i _ hi h) hx
  exact key 0 (Nat.zero_le n)
/-! small methods -/
theorem sp_91 {σ : tp_St} {a lo hi : Int32} {l h : Int} (hl : lo.toInt = l) (hh : hi.toInt = h) : tp_bool 91 [.int a, .int lo, .int hi] σ (a.toInt < l ∨ h < a.toInt) := by
  subst hl; subst hh
  intro post h1 h0
  refine sg_91_0 _ _ _ ⟨fun c => h1 (Or.inl (tp_lt.mp c)), fun c => ⟨fun d => h0 ?_, fun d => h1 ?_⟩⟩
  · rw [tp_lt] at c; rw [tp_le] at d; omega
  · rw [tp_le] at d; omega
theorem tp_i64 {x : Int32} : x.toInt64.toInt = x.toInt := by simp
theorem sp_101 {σ : tp_St} {a lo hi : Int64} {x l h : Int} (hx : a.toInt = x) (hl : lo.toInt = l) (hh : hi.toInt = h) : tp_bool 101 [.long a, .null, .long lo, .null, .long hi, .null] σ (l ≤ x ∧ x ≤ h) := by
  subst hl; subst hh; subst hx
  intro post h1 h0
  have e1 := lg_cmp_ge a lo
  have e2 := lg_cmp_le a hi
  rw [Int64.le_iff_toInt_le] at e1 e2
  refine sg_101_0 _ _ _ ⟨fun c => h0 ?_, fun c => ⟨fun d => h0 ?_, fun d => h1 ?_⟩⟩
  · rw [← Int32.not_le] at c; rw [e1] at c; omega
  · rw [← Int32.not_le] at d; rw [e2] at d; omega
  · rw [Int32.not_lt] at c d; rw [e1] at c; rw [e2] at d; omega
theorem sp_53 {σ : tp_St} {a : Int32} {n : Nat} (hn : σ.1 3 3 = nI n) (h : n < 2 ^ 31) : tp_bool 53 [.ref 3, .int a] σ (0 ≤ a.toInt ∧ a.toInt < n) := by
  intro post h1 h0
  have e : (σ.1 3 3).toInt = n := by rw [hn, nI_toInt h]
  refine sg_53_0 _ ⟨fun c => h0 ?_, fun c => ⟨fun d => h0 ?_, fun d => h1 ?_⟩⟩
  · rw [tp_lt] at c; simp at c; omega
  · rw [tp_le] at d; omega
  · rw [tp_lt] at c; rw [tp_le] at d; simp at c; omega
theorem sp_59 {σ : tp_St} {a : Int32} {n : Nat} (hn : σ.1 1 2 = nI n) (h : n < 2 ^ 31) : tp_bool 59 [.ref 1, .int a] σ (0 ≤ a.toInt ∧ a.toInt < n) := by
  intro post h1 h0
  have e : (σ.1 1 2).toInt = n := by rw [hn, nI_toInt h]
  refine sg_59_0 _ ⟨fun c => h0 ?_, fun c => ⟨fun d => h0 ?_, fun d => h1 ?_⟩⟩
  · rw [tp_lt] at c; simp at c; omega
  · rw [tp_le] at d; omega
  · rw [tp_lt] at c; rw [tp_le] at d; simp at c; omega
theorem tp_pred {n : Nat} (h : n < 2 ^ 31) : (nI n - 1).toInt = (n : Int) - 1 := by
  cases n with
  | zero => decide
  | succ n => rw [nI_pred, nI_toInt (by omega)]; omega
theorem sp_107 {σ : tp_St} {a : Int32} {n : Nat} (hn : σ.1 58 5 = nI n) (h : n < 2 ^ 31) : tp_bool 107 [.ref 58, .int a] σ (0 ≤ a.toInt ∧ a.toInt < n) := by
  intro post h1 h0
  refine sg_107_0 _ (sp_101 tp_i64 (l := 0) rfl (h := (n : Int) - 1) (by rw [tp_i64, hn, tp_pred h]) _ (fun c => ⟨rfl, h1 (by omega)⟩) (fun c => ⟨rfl, h0 (by omega)⟩))
theorem sp_92 {σ : tp_St} {c y : Int32} {n : Nat} (hn : σ.1 1 2 = nI n) (h : n < 2 ^ 31) : tp_bool 92 [.ref 0, .int c, .int y] σ ((0 ≤ c.toInt ∧ c.toInt < 6) ∧ 0 ≤ y.toInt ∧ y.toInt < n) := by
  intro post h1 h0
  refine sg_92_0 _ _ (tp_if (sp_91 (l := 0) rfl (h := 5) rfl) (fun q => h0 (by omega)) (fun q => tp_if (sp_59 hn h) (fun q2 => h1 (by omega)) (fun q2 => h0 (by omega))))
theorem sp_103 {σ : tp_St} {c y : Int32} {n : Nat} (hn : σ.1 58 0 = nI n) (h : n < 2 ^ 31) : tp_bool 103 [.ref 58, .int c, .int y] σ ((0 ≤ c.toInt ∧ c.toInt < 6) ∧ 0 ≤ y.toInt ∧ y.toInt < n) := by
  intro post h1 h0
  refine sg_103_0 _ _ (tp_if (sp_101 tp_i64 (l := 0) rfl (h := 5) rfl) (fun q => tp_if (sp_101 tp_i64 (l := 0) rfl (h := (n : Int) - 1) (by rw [tp_i64, hn, tp_pred h])) (fun q2 => h1 (by omega)) (fun q2 => h0 (by omega))) (fun q => h0 (by omega)))
end
section
/-! THE RELATION of the two worlds -/
theorem tp_sg_ne {σ : tp_St} {o k o' k' : Nat} {v : Int32} (h : ¬ (o' = o ∧ k' = k)) : (tp_set σ o k v).1 o' k' = σ.1 o' k' := by
  rw [tp_sg]
  split
  · rename_i h1
    split
    · rename_i h2
      exact absurd ⟨h1, h2⟩ h
    · rfl
  · rfl
theorem tp_sg_eq {σ : tp_St} {o k : Nat} {v : Int32} : (tp_set σ o k v).1 o k = v := by rw [tp_sg, if_pos rfl, if_pos rfl]
/-- crews, laid -/
abbrev cl_S : Type := (Nat → Option Nat) × (Nat → Int) × Nat
def cl_first (n : Nat) (fr : Nat → Int) (cr : Nat → Option Nat) : Option Nat := tp_fo (fun d (b : Option Nat) => if cr d = none ∧ (∀ e, b = some e → fr d < fr e) then some d else b) n none
def cl_crew (x : Int) (ff : Nat → Int) : Nat → Nat → Nat
  | 0, c => c
  | d + 1, c => if ff c ≤ x then c else cl_crew x ff d (c + 1)
def cl_turn (n : Nat) (fr to : Nat → Int) (rest : Int) (s : cl_S) : cl_S := match cl_first n fr s.1 with
  | none => s
  | some d => (fun e => if e = d then some (cl_crew (fr d) s.2.1 s.2.2 0) else s.1 e, fun e => if e = cl_crew (fr d) s.2.1 s.2.2 0 then to d + rest else s.2.1 e, if s.2.2 ≤ cl_crew (fr d) s.2.1 s.2.2 0 then cl_crew (fr d) s.2.1 s.2.2 0 + 1 else s.2.2)
def cl_lay (n : Nat) (fr to : Nat → Int) (rest : Int) : Nat → cl_S := fun k => tp_fo (fun _ s => cl_turn n fr to rest s) k (fun _ => none, fun _ => 0, 0)
/-! the groups -/
def RT (σ : tp_St) (nT : Nat) : Prop := nT ≤ 5 ∧ σ.1 1 2 = nI nT ∧ σ.1 58 0 = nI nT ∧ ∀ k, k < nT → σ.1 59 k = σ.1 8 k ∧ σ.1 60 k = σ.1 9 k ∧ tp_rg 1 60 (σ.1 8 k) ∧ tp_rg 1 9 (σ.1 9 k)
def RP (σ : tp_St) : Prop := ∀ c t, c < 6 → t < 5 → σ.1 61 (5 * c + t) = σ.1 (46 + c) t ∧ σ.1 62 (5 * c + t) = σ.1 (52 + c) t ∧ 0 ≤ (σ.1 (46 + c) t).toInt ∧ (σ.1 (46 + c) t).toInt ≤ (σ.1 (52 + c) t).toInt ∧ (σ.1 (52 + c) t).toInt ≤ 101000
def RR (σ : tp_St) (nR : Nat) : Prop := nR ≤ 16 ∧ σ.1 3 3 = nI nR ∧ σ.1 58 5 = nI nR ∧ ∀ k, k < nR → σ.1 63 k = σ.1 12 k ∧ σ.1 64 k = σ.1 13 k ∧ σ.1 65 k = σ.1 14 k ∧ (∃ c, c < 6 ∧ σ.1 12 k = nI c) ∧ (σ.1 13 k = 0 ∨ σ.1 13 k = 1) ∧ (σ.1 14 k = 0 ∨ σ.1 14 k = 1)
def RS1 (σ : tp_St) (nT nR k : Nat) : Prop := (∃ t, t < nR ∧ σ.1 15 k = nI t ∧ σ.1 66 k = nI t ∧ σ.1 17 k = (if σ.1 13 t = 0 then 9 - σ.1 68 k else σ.1 68 k)) ∧ (∃ y, y < nT ∧ σ.1 16 k = nI y ∧ σ.1 67 k = nI y) ∧ σ.1 69 k = σ.1 18 k ∧ tp_rg 0 8 (σ.1 17 k) ∧ tp_rg 0 101000 (σ.1 18 k)
def RS (σ : tp_St) (nT nR nS : Nat) : Prop := nS ≤ 200 ∧ σ.1 4 4 = nI nS ∧ σ.1 58 9 = nI nS ∧ ∀ k, k < nS → RS1 σ nT nR k
def RH (σ : tp_St) : Prop := (∀ k, k < 4 → (σ.1 70 k = -4 ∧ σ.1 (20 + k) 2 = -1) ∨ ∃ l n : Nat, l < 3 ∧ n ≤ 64 ∧ σ.1 70 k = nI l ∧ σ.1 (20 + k) 1 = nI l ∧ σ.1 71 k = nI n ∧ σ.1 (20 + k) 2 = nI n) ∧ ∀ k j, k < 4 → j < 64 → σ.1 72 (64 * k + j) = σ.1 (32 + k) j
def RA (σ : tp_St) (nB : Nat) : Prop := nB ≤ 200 ∧ σ.1 19 1 = nI nB ∧ σ.1 58 18 = nI nB ∧ ∀ j, j < nB → σ.1 73 j = σ.1 27 j &&& 255 ∧ (σ.1 27 j).toInt8.toInt32 = σ.1 27 j
def tp_lb (o : Nat) : Nat := if o = 24 then 36 else 41
def RLw (σ : tp_St) : Prop := (σ.2 = (24, 25) ∨ σ.2 = (25, 24)) ∧ σ.1 6 2 = σ.1 58 19 ∧ ∃ nf nw : Nat, nf ≤ 9 ∧ nw ≤ 4 ∧ σ.1 σ.2.1 5 = nI nf ∧ σ.1 58 20 = nI nf ∧ σ.1 σ.2.1 6 = nI nw ∧ σ.1 58 22 = nI nw ∧
  (∀ k, k < nf → σ.1 74 (2 * k) = σ.1 (tp_lb σ.2.1) k ∧ σ.1 74 (2 * k + 1) = σ.1 (tp_lb σ.2.1 + 1) k ∧ tp_rg 1 9 (σ.1 (tp_lb σ.2.1) k) ∧ tp_rg 1 999 (σ.1 (tp_lb σ.2.1 + 1) k)) ∧
  (∀ k, k < nw → σ.1 75 (3 * k) = σ.1 (tp_lb σ.2.1 + 2) k ∧ σ.1 75 (3 * k + 1) = σ.1 (tp_lb σ.2.1 + 3) k ∧ σ.1 75 (3 * k + 2) = σ.1 (tp_lb σ.2.1 + 4) k ∧ tp_rg 0 23 (σ.1 (tp_lb σ.2.1 + 2) k) ∧ tp_rg 1 24 (σ.1 (tp_lb σ.2.1 + 3) k) ∧ tp_rg 0 100 (σ.1 (tp_lb σ.2.1 + 4) k)) ∧
  ((σ.1 σ.2.1 7 = -1 ∧ σ.1 58 24 = -4 ∧ σ.1 58 25 = nI (nf + nw)) ∨ ∃ m : Nat, m ≤ 120 ∧ σ.1 σ.2.1 7 = nI m ∧ σ.1 58 24 = nI m ∧ σ.1 58 25 = nI (nf + nw + 1))
def RD0 (σ : tp_St) (nD : Nat) : Prop := nD ≤ 10 ∧ σ.1 7 4 = nI nD ∧ σ.1 58 38 = nI nD ∧ (∀ k, k < nD → σ.1 79 k = σ.1 28 k ∧ σ.1 80 k = σ.1 29 k ∧ 0 ≤ (σ.1 28 k).toInt ∧ (σ.1 28 k).toInt < (σ.1 29 k).toInt ∧ (σ.1 29 k).toInt ≤ 1440) ∧ σ.1 58 41 = σ.1 7 6 ∧ tp_rg 0 600 (σ.1 7 6)
def tp_cl (σ : tp_St) (nD : Nat) : cl_S := cl_lay nD (fun d => (σ.1 28 d).toInt) (fun d => (σ.1 29 d).toInt) (σ.1 7 6).toInt nD
def RC (σ : tp_St) (nD : Nat) : Prop := σ.1 7 5 = nI (tp_cl σ nD).2.2 ∧ ∀ d, d < nD → ∃ c, (tp_cl σ nD).1 d = some c ∧ σ.1 31 d = nI c
def RD (σ : tp_St) (nD : Nat) : Prop := RD0 σ nD ∧ RC σ nD
def RK (σ : tp_St) : Prop := (σ.1 91 0 = 2 ∧ σ.1 91 1 = 3 ∧ σ.1 91 2 = 1) ∧ (∀ k, k < 9 → σ.1 92 k = [1, 1, 0, 0, 1, 0, 0, 0, 0].getD k 0) ∧ ∀ k, k < 9 → σ.1 93 k = [9, 999, 0, 23, 24, 100, 120, 0, 0].getD k 0
def RR_all (σ : tp_St) : Prop := ∃ nT nR nS nB nD, RT σ nT ∧ RP σ ∧ RR σ nR ∧ RS σ nT nR nS ∧ RH σ ∧ RA σ nB ∧ RLw σ ∧ RD σ nD ∧ RK σ
def tp_Res (m : Nat) (av : List Value) : Int32 → tp_St → Prop := fun r σ1 => tp_E m 0 av [] σ1 (fun r' σ2 => r = r' ∧ RR_all σ2)
/-! a group stays where its places stay -/
theorem RT_fr {σ σ' : tp_St} {n : Nat} (h : RT σ n) (e : ∀ o k, ((o = 1 ∧ k = 2) ∨ (o = 58 ∧ k = 0) ∨ o = 8 ∨ o = 9 ∨ o = 59 ∨ o = 60) → σ'.1 o k = σ.1 o k) : RT σ' n := by
  obtain ⟨h1, h2, h3, h4⟩ := h
  refine ⟨h1, by rw [e _ _ (by omega)]; exact h2, by rw [e _ _ (by omega)]; exact h3, fun k hk => ?_⟩
  rw [e 59 k (by omega), e 60 k (by omega), e 8 k (by omega), e 9 k (by omega)]
  exact h4 k hk
theorem RP_fr {σ σ' : tp_St} (h : RP σ) (e : ∀ o k, (o = 61 ∨ o = 62 ∨ (46 ≤ o ∧ o < 58)) → σ'.1 o k = σ.1 o k) : RP σ' := by
  intro c t hc ht
  rw [e 61 _ (by omega), e 62 _ (by omega), e (46 + c) _ (by omega), e (52 + c) _ (by omega)]
  exact h c t hc ht
theorem RR_fr {σ σ' : tp_St} {n : Nat} (h : RR σ n) (e : ∀ o k, ((o = 3 ∧ k = 3) ∨ (o = 58 ∧ k = 5) ∨ o = 12 ∨ o = 13 ∨ o = 14 ∨ o = 63 ∨ o = 64 ∨ o = 65) → σ'.1 o k = σ.1 o k) : RR σ' n := by
  obtain ⟨h1, h2, h3, h4⟩ := h
  refine ⟨h1, by rw [e _ _ (by omega)]; exact h2, by rw [e _ _ (by omega)]; exact h3, fun k hk => ?_⟩
  rw [e 63 k (by omega), e 64 k (by omega), e 65 k (by omega), e 12 k (by omega), e 13 k (by omega), e 14 k (by omega)]
  exact h4 k hk
theorem RS1_fr {σ σ' : tp_St} {nT nR nT' nR' k : Nat} (h : RS1 σ nT nR k) (hT : nT ≤ nT') (hR : nR ≤ nR') (e : ∀ o j, (((o = 15 ∨ o = 16 ∨ o = 17 ∨ o = 18 ∨ o = 66 ∨ o = 67 ∨ o = 68 ∨ o = 69) ∧ j = k) ∨ (o = 13 ∧ j < nR)) → σ'.1 o j = σ.1 o j) : RS1 σ' nT' nR' k := by
  obtain ⟨⟨t, a1, a2, a3, a4⟩, ⟨y, b1, b2, b3⟩, c1, c2, c3⟩ := h
  refine ⟨⟨t, by omega, ?_, ?_, ?_⟩, ⟨y, by omega, ?_, ?_⟩, ?_, ?_, ?_⟩
  · rw [e 15 k (by omega)]; exact a2
  · rw [e 66 k (by omega)]; exact a3
  · rw [e 17 k (by omega), e 68 k (by omega), e 13 t (by omega)]; exact a4
  · rw [e 16 k (by omega)]; exact b2
  · rw [e 67 k (by omega)]; exact b3
  · rw [e 69 k (by omega), e 18 k (by omega)]; exact c1
  · rw [e 17 k (by omega)]; exact c2
  · rw [e 18 k (by omega)]; exact c3
theorem RS_fr {σ σ' : tp_St} {nT nR nS nT' nR' : Nat} (h : RS σ nT nR nS) (hT : nT ≤ nT') (hR : nR ≤ nR') (e : ∀ o k, ((o = 4 ∧ k = 4) ∨ (o = 58 ∧ k = 9) ∨ o = 15 ∨ o = 16 ∨ o = 17 ∨ o = 18 ∨ o = 66 ∨ o = 67 ∨ o = 68 ∨ o = 69 ∨ (o = 13 ∧ k < nR)) → σ'.1 o k = σ.1 o k) : RS σ' nT' nR' nS := by
  obtain ⟨h1, h2, h3, h4⟩ := h
  refine ⟨h1, by rw [e _ _ (by omega)]; exact h2, by rw [e _ _ (by omega)]; exact h3, fun k hk => ?_⟩
  exact RS1_fr (h4 k hk) hT hR (fun o j hj => e o j (by omega))
theorem RH_fr {σ σ' : tp_St} (h : RH σ) (e : ∀ o k, ((20 ≤ o ∧ o < 24) ∨ (32 ≤ o ∧ o < 36) ∨ o = 70 ∨ o = 71 ∨ o = 72) → σ'.1 o k = σ.1 o k) : RH σ' := by
  obtain ⟨h1, h2⟩ := h
  refine ⟨fun k hk => ?_, fun k j hk hj => ?_⟩
  · rw [e 70 k (by omega), e 71 k (by omega), e (20 + k) 1 (by omega), e (20 + k) 2 (by omega)]
    exact h1 k hk
  · rw [e 72 _ (by omega), e (32 + k) j (by omega)]
    exact h2 k j hk hj
theorem RA_fr {σ σ' : tp_St} {n : Nat} (h : RA σ n) (e : ∀ o k, ((o = 19 ∧ k = 1) ∨ (o = 58 ∧ k = 18) ∨ o = 73 ∨ o = 27) → σ'.1 o k = σ.1 o k) : RA σ' n := by
  obtain ⟨h1, h2, h3, h4⟩ := h
  refine ⟨h1, by rw [e _ _ (by omega)]; exact h2, by rw [e _ _ (by omega)]; exact h3, fun k hk => ?_⟩
  rw [e 73 k (by omega), e 27 k (by omega)]
  exact h4 k hk
theorem RLw_fr {σ σ' : tp_St} (h : RLw σ) (e2 : σ'.2 = σ.2) (e : ∀ o k, ((o = 6 ∧ k = 2) ∨ (o = 58 ∧ (k = 19 ∨ k = 20 ∨ k = 22 ∨ k = 24 ∨ k = 25)) ∨ o = 74 ∨ o = 75 ∨ o = 24 ∨ o = 25 ∨ (36 ≤ o ∧ o < 46)) → σ'.1 o k = σ.1 o k) : RLw σ' := by
  obtain ⟨h1, h2, nf, nw, a1, a2, a3, a4, a5, a6, a7, a8, a9⟩ := h
  have hb : tp_lb σ.2.1 = 36 ∨ tp_lb σ.2.1 = 41 := by rcases h1 with h1 | h1 <;> rw [h1] <;> simp [tp_lb]
  have ho : σ.2.1 = 24 ∨ σ.2.1 = 25 := by rcases h1 with h1 | h1 <;> rw [h1] <;> simp
  unfold RLw
  rw [e2]
  refine ⟨h1, ?_, nf, nw, a1, a2, ?_, ?_, ?_, ?_, fun k hk => ?_, fun k hk => ?_, ?_⟩
  · rw [e 6 2 (by omega), e 58 19 (by omega)]; exact h2
  · rw [e _ 5 (by omega)]; exact a3
  · rw [e 58 20 (by omega)]; exact a4
  · rw [e _ 6 (by omega)]; exact a5
  · rw [e 58 22 (by omega)]; exact a6
  · rw [e 74 _ (by omega), e 74 _ (by omega), e (tp_lb σ.2.1) _ (by omega), e (tp_lb σ.2.1 + 1) _ (by omega)]; exact a7 k hk
  · rw [e 75 _ (by omega), e 75 _ (by omega), e 75 _ (by omega), e (tp_lb σ.2.1 + 2) _ (by omega), e (tp_lb σ.2.1 + 3) _ (by omega), e (tp_lb σ.2.1 + 4) _ (by omega)]; exact a8 k hk
  · rw [e σ.2.1 7 (by omega), e 58 24 (by omega), e 58 25 (by omega)]; exact a9
theorem RD_fr {σ σ' : tp_St} {n : Nat} (h : RD σ n) (e : ∀ o k, ((o = 7 ∧ (k = 4 ∨ k = 5 ∨ k = 6)) ∨ (o = 58 ∧ (k = 38 ∨ k = 41)) ∨ o = 28 ∨ o = 29 ∨ o = 31 ∨ o = 79 ∨ o = 80) → σ'.1 o k = σ.1 o k) : RD σ' n := by
  obtain ⟨⟨h1, h2, h3, h4, h5, h6⟩, h7, h8⟩ := h
  have hc : tp_cl σ' n = tp_cl σ n := by
    unfold tp_cl
    rw [e 7 6 (by omega), show (fun d => (σ'.1 28 d).toInt) = (fun d => (σ.1 28 d).toInt) from funext fun d => by rw [e 28 d (by omega)], show (fun d => (σ'.1 29 d).toInt) = (fun d => (σ.1 29 d).toInt) from funext fun d => by rw [e 29 d (by omega)]]
  refine ⟨⟨h1, by rw [e _ _ (by omega)]; exact h2, by rw [e _ _ (by omega)]; exact h3, fun k hk => ?_, by rw [e _ _ (by omega), e 7 6 (by omega)]; exact h5, by rw [e 7 6 (by omega)]; exact h6⟩, ?_, fun d hd => ?_⟩
  · rw [e 79 k (by omega), e 80 k (by omega), e 28 k (by omega), e 29 k (by omega)]; exact h4 k hk
  · rw [hc, e 7 5 (by omega)]; exact h7
  · rw [hc, e 31 d (by omega)]; exact h8 d hd
theorem RK_fr {σ σ' : tp_St} (h : RK σ) (e : ∀ o k, (91 ≤ o ∧ o < 94) → σ'.1 o k = σ.1 o k) : RK σ' := by
  obtain ⟨⟨h1, h2, h3⟩, h4, h5⟩ := h
  refine ⟨⟨by rw [e _ _ (by omega)]; exact h1, by rw [e _ _ (by omega)]; exact h2, by rw [e _ _ (by omega)]; exact h3⟩, fun k hk => by rw [e _ _ (by omega)]; exact h4 k hk, fun k hk => by rw [e _ _ (by omega)]; exact h5 k hk⟩
end
section
/-! types, packs, trips, money -/
theorem tp_c {n : Nat} (h : n < 1000000) : (nI n).toNatClampNeg = n := nI_clamp (Nat.lt_trans h (by decide))
theorem tp_t {n : Nat} (h : n < 1000000) : (nI n).toInt = (n : Int) := nI_toInt (Nat.lt_trans h (by decide))
theorem tp_nle {a b : Nat} (h : a < b) (hb : b < 1000000) : ¬ nI b ≤ nI a := by rw [tp_le, tp_t hb, tp_t (by omega)]; omega
theorem tp_nlt {a b : Nat} (h : b ≤ a) (hb : a < 1000000) : ¬ nI a < nI b := by rw [tp_lt, tp_t hb, tp_t (by omega)]; omega
theorem tp_vi {k n : Nat} (h : k < n) (hn : n < 1000000) : vp_in (nI k) n := vp_in_nI h (Nat.lt_trans hn (by decide))
theorem op_fault {σ : tp_St} (h : RR_all σ) : tp_E 82 0 [.ref 0] [] σ (tp_Res 137 [.ref 58]) := by
  obtain ⟨nT, nR, nS, nB, nD, hT, hP, hR, hS, hH, hA, hL, hD, hK⟩ := id h
  exact sg_82_0 (sg_137_0 ⟨hL.2.1, h⟩)
theorem op_end {σ : tp_St} {a : Int32} (h : RR_all σ) : tp_E 80 0 [.ref 0, .int a, .null] [] σ (tp_Res 128 [.ref 58, .int a, .null]) := by
  obtain ⟨nT, nR, nS, nB, nD, hT, hP, hR, hS, hH, hA, hL, hD, hK⟩ := id h
  obtain ⟨a1, a2, a3, a4⟩ := id hA
  refine sg_80_0 _ (tp_if (sp_91 (l := 0) rfl (h := nB) (by rw [a2, tp_t (by omega)])) (fun q => ?_) (fun q => ?_))
  · refine sg_128_0 _ (tp_if (sp_101 tp_i64 (l := 0) rfl (h := nB) (by rw [tp_i64, a3, tp_t (by omega)])) (fun p => absurd p (by omega)) (fun p => ⟨rfl, h⟩))
  · refine sg_128_0 _ (tp_if (sp_101 tp_i64 (l := 0) rfl (h := nB) (by rw [tp_i64, tp_sg_ne (by decide), a3, tp_t (by omega)])) (fun p => ⟨?_, ?_⟩) (fun p => absurd q (by omega)))
    · rw [tp_sg_ne (by decide), a2, a3]
    · obtain ⟨n, hn, rfl⟩ := tp_rg_nI (x := a) (hi := nB) ⟨by omega, by omega⟩ (by omega)
      refine ⟨nT, nR, nS, n, nD, RT_fr hT (fun o k hd => (tp_sg_ne (by omega)).trans ((tp_sg_ne (by omega)).trans (rfl))), RP_fr hP (fun o k hd => (tp_sg_ne (by omega)).trans ((tp_sg_ne (by omega)).trans (rfl))), RR_fr hR (fun o k hd => (tp_sg_ne (by omega)).trans ((tp_sg_ne (by omega)).trans (rfl))), RS_fr hS (Nat.le_refl _) (Nat.le_refl _) (fun o k hd => (tp_sg_ne (by omega)).trans ((tp_sg_ne (by omega)).trans (rfl))), RH_fr hH (fun o k hd => (tp_sg_ne (by omega)).trans ((tp_sg_ne (by omega)).trans (rfl))), ⟨by omega, ?_, ?_, fun j hj => ?_⟩, RLw_fr hL rfl (fun o k hd => (tp_sg_ne (by omega)).trans ((tp_sg_ne (by omega)).trans (rfl))), RD_fr hD (fun o k hd => (tp_sg_ne (by omega)).trans ((tp_sg_ne (by omega)).trans (rfl))), RK_fr hK (fun o k hd => (tp_sg_ne (by omega)).trans ((tp_sg_ne (by omega)).trans (rfl)))⟩
      · rw [tp_sg_ne (by decide), tp_sg_eq]
      · rw [tp_sg_eq]
      · rw [tp_sg_ne (by omega), tp_sg_ne (by omega), tp_sg_ne (by omega), tp_sg_ne (by omega)]
        exact a4 j (by omega)
/-- what a trip's sales come to -/
def tp_tk (σ : tp_St) (t : Int32) (n : Nat) : Int32 := tp_fo (fun i x => if σ.1 15 i = t then x + σ.1 8 (σ.1 16 i).toNatClampNeg else x) n 0
theorem sp_93 {σ : tp_St} {t : Int32} {nT nR nS : Nat} (hT : RT σ nT) (hS : RS σ nT nR nS) : tp_val 93 [.ref 0, .int t, .null, .null] σ (tp_tk σ t nS) := by
  intro post hp
  obtain ⟨s1, s2, s3, s4⟩ := hS
  refine sg_93_0 _ ?_
  refine tp_fold (E := fun i x => tp_E 93 4 [.ref 0, .int t, .int x, .int (nI i)] [] σ post) (step := fun i x => if σ.1 15 i = t then x + σ.1 8 (σ.1 16 i).toNatClampNeg else x) (n := nS) (a := 0) (fun i x hi h => ?_) ?_
  · obtain ⟨-, ⟨y, y1, y2, y3⟩, -⟩ := s4 i hi
    refine sg_93_4 _ _ _ ?_
    rw [tp_c (show i < 1000000 by omega), s2, nI_1]
    refine ⟨fun c => absurd c (tp_nle hi (by omega)), fun _ => ⟨tp_vi (by omega) (by omega), fun c => ⟨tp_vi (by omega) (by omega), by rw [y2]; exact tp_vi (by have := hT.1; omega) (by omega), ?_⟩, fun c => ?_⟩⟩
    · rw [if_pos c] at h
      exact h
    · rw [if_neg c] at h
      exact h
  · refine sg_93_4 _ _ _ ?_
    rw [s2]
    exact ⟨fun _ => hp, fun c => absurd (tp_le.mpr (Int.le_refl _)) c⟩
theorem sp_108 {σ : tp_St} {t : Int32} {nT nR nS : Nat} (hT : RT σ nT) (hS : RS σ nT nR nS) : tp_val 108 [.ref 58, .int t, .null, .null] σ (tp_tk σ t nS) := by
  intro post hp
  obtain ⟨s1, s2, s3, s4⟩ := hS
  refine sg_108_0 _ ?_
  refine tp_fold (E := fun i x => tp_E 108 4 [.ref 58, .int t, .int x, .int (nI i)] [] σ post) (step := fun i x => if σ.1 15 i = t then x + σ.1 8 (σ.1 16 i).toNatClampNeg else x) (n := nS) (a := 0) (fun i x hi h => ?_) ?_
  · obtain ⟨⟨u, u1, u2, u3, u4⟩, ⟨y, y1, y2, y3⟩, -⟩ := s4 i hi
    refine sg_108_4 _ _ _ ?_
    rw [tp_c (show i < 1000000 by omega), s3, nI_1, u3, y3, tp_c (show y < 1000000 by have := hT.1; omega), (hT.2.2.2 y y1).1]
    rw [u2, y2, tp_c (show y < 1000000 by have := hT.1; omega)] at h
    refine ⟨fun c => absurd c (tp_nle hi (by omega)), fun _ => ⟨tp_vi (by omega) (by omega), fun c => ⟨tp_vi (by omega) (by omega), tp_vi (by have := hT.1; omega) (by omega), ?_⟩, fun c => ?_⟩⟩
    · rw [if_pos c] at h
      exact h
    · rw [if_neg c] at h
      rw [Int32.add_zero]
      exact h
  · refine sg_108_4 _ _ _ ?_
    rw [s3]
    exact ⟨fun _ => hp, fun c => absurd (tp_le.mpr (Int.le_refl _)) c⟩
theorem op_money {σ : tp_St} {a : Int32} (h : RR_all σ) : tp_E 72 0 [.ref 0, .int a] [] σ (tp_Res 118 [.ref 58, .int a]) := by
  obtain ⟨nT, nR, nS, nB, nD, hT, hP, hR, hS, hH, hA, hL, hD, hK⟩ := id h
  obtain ⟨r1, r2, r3, r4⟩ := id hR
  refine sg_72_0 _ (tp_if (sp_53 r2 (by omega)) (fun q => sp_93 hT hS _ ?_) (fun q => ?_))
  · exact sg_118_0 _ (tp_if (sp_107 r3 (by omega)) (fun p => sp_108 hT hS _ ⟨rfl, h⟩) (fun p => absurd q p))
  · exact sg_118_0 _ (tp_if (sp_107 r3 (by omega)) (fun p => absurd p q) (fun p => ⟨rfl, h⟩))
theorem tp_bz : vp_nar .boolean 0 = 0 := by decide +kernel
theorem tp_bo : vp_nar .boolean 1 = 1 := by decide +kernel
theorem op_close {σ : tp_St} {a : Int32} (h : RR_all σ) : tp_E 65 0 [.ref 0, .int a] [] σ (tp_Res 109 [.ref 58, .int a]) := by
  obtain ⟨nT, nR, nS, nB, nD, hT, hP, hR, hS, hH, hA, hL, hD, hK⟩ := id h
  obtain ⟨r1, r2, r3, r4⟩ := id hR
  refine sg_65_0 _ (tp_if (sp_53 r2 (by omega)) (fun q => ?_) (fun q => ?_))
  · obtain ⟨t, ht, rfl⟩ := tp_rg_nI (x := a) (hi := nR - 1) ⟨q.1, by omega⟩ (by omega)
    have htR : t < nR := by have := q.2; rw [tp_t (by omega)] at this; omega
    obtain ⟨k1, k2, k3, k4, k5, k6⟩ := r4 t htR
    rw [tp_c (show t < 1000000 by omega), tp_bz]
    refine ⟨tp_vi (by omega) (by omega), fun c => ?_, fun c => ⟨tp_vi (by omega) (by omega), ?_⟩⟩
    · refine sg_109_0 _ (tp_if (sp_107 r3 (by omega)) (fun p => ?_) (fun p => absurd q p))
      rw [tp_c (show t < 1000000 by omega), k3]
      exact ⟨tp_vi (by omega) (by omega), fun _ => ⟨rfl, h⟩, fun c2 => absurd c c2⟩
    · have hT2 : RT (tp_set σ 14 t 0) nT := RT_fr hT (fun o k hd => (tp_sg_ne (by omega)).trans (rfl))
      have hS2 : RS (tp_set σ 14 t 0) nT nR nS := RS_fr hS (Nat.le_refl _) (Nat.le_refl _) (fun o k hd => (tp_sg_ne (by omega)).trans (rfl))
      refine sp_93 hT2 hS2 _ ?_
      refine sg_109_0 _ (tp_if (sp_107 (n := nR) (by rw [tp_sg_ne (by omega)]; exact r3) (by omega)) (fun p => ?_) (fun p => absurd q p))
      rw [tp_c (show t < 1000000 by omega), tp_sg_ne (by omega), k3, tp_bz]
      refine ⟨tp_vi (by omega) (by omega), fun c2 => absurd c2 c, fun _ => ⟨tp_vi (by omega) (by omega), ?_⟩⟩
      have hT3 : RT (tp_set (tp_set σ 14 t 0) 65 t 0) nT := RT_fr hT (fun o k hd => (tp_sg_ne (by omega)).trans ((tp_sg_ne (by omega)).trans (rfl)))
      have hS3 : RS (tp_set (tp_set σ 14 t 0) 65 t 0) nT nR nS := RS_fr hS (Nat.le_refl _) (Nat.le_refl _) (fun o k hd => (tp_sg_ne (by omega)).trans ((tp_sg_ne (by omega)).trans (rfl)))
      refine sp_108 hT3 hS3 _ ⟨rfl, nT, nR, nS, nB, nD, hT3, RP_fr hP (fun o k hd => (tp_sg_ne (by omega)).trans ((tp_sg_ne (by omega)).trans (rfl))), ⟨r1, ?_, ?_, fun k hk => ?_⟩, hS3, RH_fr hH (fun o k hd => (tp_sg_ne (by omega)).trans ((tp_sg_ne (by omega)).trans (rfl))), RA_fr hA (fun o k hd => (tp_sg_ne (by omega)).trans ((tp_sg_ne (by omega)).trans (rfl))), RLw_fr hL rfl (fun o k hd => (tp_sg_ne (by omega)).trans ((tp_sg_ne (by omega)).trans (rfl))), RD_fr hD (fun o k hd => (tp_sg_ne (by omega)).trans ((tp_sg_ne (by omega)).trans (rfl))), RK_fr hK (fun o k hd => (tp_sg_ne (by omega)).trans ((tp_sg_ne (by omega)).trans (rfl)))⟩
      · rw [tp_sg_ne (by omega), tp_sg_ne (by omega)]; exact r2
      · rw [tp_sg_ne (by omega), tp_sg_ne (by omega)]; exact r3
      · obtain ⟨m1, m2, m3, m4, m5, m6⟩ := r4 k hk
        have e1 : ∀ o, o ≠ 14 → o ≠ 65 → (tp_set (tp_set σ 14 t 0) 65 t 0).1 o k = σ.1 o k := fun o h1 h2 => by rw [tp_sg_ne (by omega), tp_sg_ne (by omega)]
        rw [e1 63 (by decide) (by decide), e1 64 (by decide) (by decide), e1 12 (by decide) (by decide), e1 13 (by decide) (by decide)]
        refine ⟨m1, m2, ?_, m4, m5, ?_⟩
        · by_cases e : k = t
          · subst e
            rw [tp_sg_eq, tp_sg_ne (by omega), tp_sg_eq]
          · rw [tp_sg_ne (by omega), tp_sg_ne (by omega), tp_sg_ne (by omega), tp_sg_ne (by omega)]
            exact m3
        · by_cases e : k = t
          · subst e
            rw [tp_sg_ne (by omega), tp_sg_eq]
            exact Or.inl rfl
          · rw [tp_sg_ne (by omega), tp_sg_ne (by omega)]
            exact m6
  · exact sg_109_0 _ (tp_if (sp_107 r3 (by omega)) (fun p => absurd p q) (fun p => ⟨rfl, h⟩))
/-- paid in less what closed trips come to -/
def tp_pd (σ : tp_St) (c : Int32) (nS : Nat) (x : Int32) (n : Nat) : Int32 := tp_fo (fun i x => if σ.1 12 i = c ∧ σ.1 14 i = 0 then x - tp_tk σ (nI i) nS else x) n x
theorem op_paid {σ : tp_St} {a b : Int32} (h : RR_all σ) : tp_E 73 0 [.ref 0, .int a, .int b, .null, .null] [] σ (tp_Res 119 [.ref 58, .int a, .int b, .null, .null]) := by
  obtain ⟨nT, nR, nS, nB, nD, hT, hP, hR, hS, hH, hA, hL, hD, hK⟩ := id h
  obtain ⟨r1, r2, r3, r4⟩ := id hR
  have bad : (¬ (0 ≤ a.toInt ∧ a.toInt ≤ 5) ∨ ¬ (0 ≤ b.toInt ∧ b.toInt ≤ 100000)) → tp_Res 119 [.ref 58, .int a, .int b, .null, .null] (-1000000) σ := fun hb =>
    sg_119_0 _ _ (tp_if (sp_101 tp_i64 (l := 0) rfl (h := 5) rfl) (fun p1 => tp_if (sp_101 tp_i64 (l := 0) rfl (h := 100000) rfl) (fun p2 => by omega) (fun p2 => ⟨rfl, h⟩)) (fun p1 => ⟨rfl, h⟩))
  refine sg_73_0 _ _ (tp_if (sp_91 (l := 0) rfl (h := 5) rfl) (fun q1 => bad (by omega)) (fun q1 => tp_if (sp_91 (l := 0) rfl (h := 100000) rfl) (fun q2 => bad (by omega)) (fun q2 => ?_)))
  refine tp_fold (E := fun i x => tp_E 73 27 [.ref 0, .int a, .null, .int x, .int (nI i)] [] σ _) (step := fun i x => if σ.1 12 i = a ∧ σ.1 14 i = 0 then x - tp_tk σ (nI i) nS else x) (n := nR) (a := b) (fun i x hi g => ?_) ?_
  · refine sg_73_27 _ _ _ ?_
    rw [tp_c (show i < 1000000 by omega), r2, nI_1]
    refine ⟨fun c => absurd c (tp_nle hi (by omega)), fun _ => ⟨tp_vi (by omega) (by omega), fun c => ⟨tp_vi (by omega) (by omega), fun c2 => sp_93 hT hS _ ?_, fun c2 => ?_⟩, fun c => ?_⟩⟩
    · rw [if_pos ⟨c, c2⟩] at g; exact g
    · rw [if_neg (fun z => c2 z.2)] at g; exact g
    · rw [if_neg (fun z => c z.1)] at g; exact g
  · refine sg_73_27 _ _ _ ?_
    rw [r2]
    refine ⟨fun _ => ?_, fun c => absurd (tp_le.mpr (Int.le_refl _)) c⟩
    refine sg_119_0 _ _ (tp_if (sp_101 tp_i64 (l := 0) rfl (h := 5) rfl) (fun p1 => tp_if (sp_101 tp_i64 (l := 0) rfl (h := 100000) rfl) (fun p2 => ?_) (fun p2 => by omega)) (fun p1 => by omega))
    refine tp_fold (E := fun i x => tp_E 119 32 [.ref 58, .int a, .null, .int x, .int (nI i)] [] σ _) (step := fun i x => if σ.1 12 i = a ∧ σ.1 14 i = 0 then x - tp_tk σ (nI i) nS else x) (n := nR) (a := b) (fun i x hi g => ?_) ?_
    · obtain ⟨k1, k2, k3, k4, k5, k6⟩ := r4 i hi
      refine sg_119_32 _ _ _ ?_
      rw [tp_c (show i < 1000000 by omega), r3, nI_1, k1, k3, Int32.sub_zero]
      refine ⟨fun c => absurd c (tp_nle hi (by omega)), fun _ => ⟨tp_vi (by omega) (by omega), fun c => ⟨tp_vi (by omega) (by omega), fun c2 => sp_108 hT hS _ ?_, fun c2 => ?_⟩, fun c => ?_⟩⟩
      · rw [if_pos ⟨c, c2⟩] at g; exact g
      · rw [if_neg (fun z => c2 z.2)] at g; exact g
      · rw [if_neg (fun z => c z.1)] at g; exact g
    · refine sg_119_32 _ _ _ ?_
      rw [r3]
      exact ⟨fun _ => ⟨rfl, h⟩, fun c => absurd (tp_le.mpr (Int.le_refl _)) c⟩
theorem op_type {σ : tp_St} {a b : Int32} (h : RR_all σ) : tp_E 61 0 [.ref 0, .int a, .int b] [] σ (tp_Res 102 [.ref 58, .int a, .int b]) := by
  obtain ⟨nT, nR, nS, nB, nD, hT, hP, hR, hS, hH, hA, hL, hD, hK⟩ := id h
  obtain ⟨t1, t2, t3, t4⟩ := id hT
  have bad : (¬ (1 ≤ a.toInt ∧ a.toInt ≤ 60) ∨ ¬ (1 ≤ b.toInt ∧ b.toInt ≤ 9)) → tp_Res 102 [.ref 58, .int a, .int b] (-1) σ := fun hb =>
    sg_102_0 _ _ (tp_if (sp_101 tp_i64 (l := 1) rfl (h := 60) rfl) (fun p1 => tp_if (sp_101 tp_i64 (l := 1) rfl (h := 9) rfl) (fun p2 => by omega) (fun p2 => ⟨rfl, h⟩)) (fun p1 => ⟨rfl, h⟩))
  refine sg_61_0 _ _ (tp_if (sp_91 (l := 1) rfl (h := 60) rfl) (fun q1 => bad (by omega)) (fun q1 => tp_if (sp_91 (l := 1) rfl (h := 9) rfl) (fun q2 => bad (by omega)) (fun q2 => ?_)))
  refine sg_60_0 _ _ ?_
  rw [t2, tp_c (show nT < 1000000 by omega), nI_1]
  refine ⟨fun c => ?_, fun c => ?_⟩
  · have c5 : nT < 5 := by rw [tp_lt, tp_t (by omega)] at c; have : (nT : Int) < 5 := c; omega
    refine ⟨tp_vi (by omega) (by omega), tp_vi (by omega) (by omega), ?_⟩
    refine sg_102_0 _ _ (tp_if (sp_101 tp_i64 (l := 1) rfl (h := 60) rfl) (fun p1 => tp_if (sp_101 tp_i64 (l := 1) rfl (h := 9) rfl) (fun p2 => ?_) (fun p2 => by omega)) (fun p1 => by omega))
    rw [tp_sg_ne (by omega), tp_sg_ne (by omega), tp_sg_ne (by omega), t3, tp_c (show nT < 1000000 by omega), nI_1, nI_pred]
    refine ⟨fun c2 => ?_, fun c2 => ⟨tp_vi (by omega) (by omega), tp_vi (by omega) (by omega), rfl, ?_⟩⟩
    · rw [tp_eq, tp_t (by omega)] at c2
      have : (nT : Int) = 5 := c2
      omega
    · refine ⟨nT + 1, nR, nS, nB, nD, ⟨by omega, ?_, ?_, fun k hk => ?_⟩, RP_fr hP (fun o k hd => (tp_sg_ne (by omega)).trans ((tp_sg_ne (by omega)).trans ((tp_sg_ne (by omega)).trans ((tp_sg_ne (by omega)).trans ((tp_sg_ne (by omega)).trans ((tp_sg_ne (by omega)).trans (rfl))))))), RR_fr hR (fun o k hd => (tp_sg_ne (by omega)).trans ((tp_sg_ne (by omega)).trans ((tp_sg_ne (by omega)).trans ((tp_sg_ne (by omega)).trans ((tp_sg_ne (by omega)).trans ((tp_sg_ne (by omega)).trans (rfl))))))), RS_fr hS (by omega) (Nat.le_refl _) (fun o k hd => (tp_sg_ne (by omega)).trans ((tp_sg_ne (by omega)).trans ((tp_sg_ne (by omega)).trans ((tp_sg_ne (by omega)).trans ((tp_sg_ne (by omega)).trans ((tp_sg_ne (by omega)).trans (rfl))))))), RH_fr hH (fun o k hd => (tp_sg_ne (by omega)).trans ((tp_sg_ne (by omega)).trans ((tp_sg_ne (by omega)).trans ((tp_sg_ne (by omega)).trans ((tp_sg_ne (by omega)).trans ((tp_sg_ne (by omega)).trans (rfl))))))), RA_fr hA (fun o k hd => (tp_sg_ne (by omega)).trans ((tp_sg_ne (by omega)).trans ((tp_sg_ne (by omega)).trans ((tp_sg_ne (by omega)).trans ((tp_sg_ne (by omega)).trans ((tp_sg_ne (by omega)).trans (rfl))))))), RLw_fr hL rfl (fun o k hd => (tp_sg_ne (by omega)).trans ((tp_sg_ne (by omega)).trans ((tp_sg_ne (by omega)).trans ((tp_sg_ne (by omega)).trans ((tp_sg_ne (by omega)).trans ((tp_sg_ne (by omega)).trans (rfl))))))), RD_fr hD (fun o k hd => (tp_sg_ne (by omega)).trans ((tp_sg_ne (by omega)).trans ((tp_sg_ne (by omega)).trans ((tp_sg_ne (by omega)).trans ((tp_sg_ne (by omega)).trans ((tp_sg_ne (by omega)).trans (rfl))))))), RK_fr hK (fun o k hd => (tp_sg_ne (by omega)).trans ((tp_sg_ne (by omega)).trans ((tp_sg_ne (by omega)).trans ((tp_sg_ne (by omega)).trans ((tp_sg_ne (by omega)).trans ((tp_sg_ne (by omega)).trans (rfl)))))))⟩
      · rw [tp_sg_ne (by omega), tp_sg_ne (by omega), tp_sg_ne (by omega), tp_sg_eq]
      · rw [tp_sg_eq]
      · by_cases e : k = nT
        · subst e
          simp only [tp_sg]
          simp
          exact ⟨⟨by omega, by omega⟩, by omega, by omega⟩
        · rw [tp_sg_ne (by omega), tp_sg_ne (by omega), tp_sg_ne (by omega), tp_sg_ne (by omega), tp_sg_ne (by omega), tp_sg_ne (by omega), tp_sg_ne (by omega), tp_sg_ne (by omega), tp_sg_ne (by omega), tp_sg_ne (by omega), tp_sg_ne (by omega), tp_sg_ne (by omega), tp_sg_ne (by omega), tp_sg_ne (by omega), tp_sg_ne (by omega), tp_sg_ne (by omega), tp_sg_ne (by omega), tp_sg_ne (by omega), tp_sg_ne (by omega), tp_sg_ne (by omega), tp_sg_ne (by omega), tp_sg_ne (by omega), tp_sg_ne (by omega), tp_sg_ne (by omega)]
          exact t4 k (by omega)
  · have c5 : nT = 5 := by rw [tp_lt, tp_t (by omega)] at c; have : ¬ (nT : Int) < 5 := c; omega
    refine sg_102_0 _ _ (tp_if (sp_101 tp_i64 (l := 1) rfl (h := 60) rfl) (fun p1 => tp_if (sp_101 tp_i64 (l := 1) rfl (h := 9) rfl) (fun p2 => ?_) (fun p2 => by omega)) (fun p1 => by omega))
    rw [t3, c5]
    exact ⟨fun _ => ⟨rfl, h⟩, fun c2 => absurd rfl c2⟩
theorem sp_14 {σ : tp_St} {c y : Nat} (hc : c < 6) (hy : y < 5) : tp_val 14 [.ref 2, .int (nI c), .int (nI y)] σ (σ.1 (52 + c) y - σ.1 (46 + c) y) := by
  intro post hp
  refine sg_14_0 _ _ ?_
  rw [tp_c (show c < 1000000 by omega), tp_c (show y < 1000000 by omega)]
  exact ⟨tp_vi hc (by omega), tp_vi hy (by omega), tp_vi hc (by omega), tp_vi hy (by omega), hp⟩
theorem tp_5c {c y : Nat} : (5 : Int32) * nI c + nI y = nI (5 * c + y) := by
  rw [show (5 : Int32) = nI 5 from rfl, pk_mul, nI_add]
theorem tp_lit {a b : Int32} {x y : Int} (ha : a.toInt = x) (hb : b.toInt = y) : a = b ↔ x = y := by rw [tp_eq, ha, hb]
theorem tp_sub0 {a b : Int32} (h : a - b = 0) : a = b := by rw [← Int32.sub_add_cancel a b, h, Int32.zero_add]
theorem op_pack {σ : tp_St} {a b w : Int32} (h : RR_all σ) : tp_E 63 0 [.ref 0, .int a, .int b, .int w, .null] [] σ (tp_Res 105 [.ref 58, .int a, .int b, .int w, .null]) := by
  obtain ⟨nT, nR, nS, nB, nD, hT, hP, hR, hS, hH, hA, hL, hD, hK⟩ := id h
  obtain ⟨t1, t2, t3, t4⟩ := id hT
  have bad : (¬ ((0 ≤ a.toInt ∧ a.toInt < 6) ∧ 0 ≤ b.toInt ∧ b.toInt < nT) ∨ ¬ (0 ≤ w.toInt ∧ w.toInt ≤ 1)) → tp_Res 105 [.ref 58, .int a, .int b, .int w, .null] (-1) σ := fun hb =>
    sg_105_0 _ _ _ (tp_if (sp_103 t3 (by omega)) (fun p1 => tp_if (sp_101 tp_i64 (l := 0) rfl (h := 1) rfl) (fun p2 => by omega) (fun p2 => ⟨rfl, h⟩)) (fun p1 => ⟨rfl, h⟩))
  refine sg_63_0 _ _ _ (tp_if (sp_92 t2 (by omega)) (fun q1 => tp_if (sp_91 (l := 0) rfl (h := 1) rfl) (fun q2 => bad (by omega)) (fun q2 => ?_)) (fun q1 => bad (Or.inl q1)))
  obtain ⟨c, hc, rfl⟩ := tp_rg_nI (x := a) (hi := 5) ⟨q1.1.1, by omega⟩ (by omega)
  obtain ⟨y, hy, rfl⟩ := tp_rg_nI (x := b) (hi := nT - 1) ⟨q1.2.1, by omega⟩ (by omega)
  have hyT : y < nT := by have := q1.2.2; rw [tp_t (by omega)] at this; omega
  refine sp_14 (show c < 6 by omega) (show y < 5 by omega) _ ?_
  obtain ⟨p1, p2, p3, p4, p5⟩ := hP c y (by omega) (by omega)
  rw [tp_c (show c < 1000000 by omega), tp_c (show y < 1000000 by omega)]
  have model : ∀ r, (w = 1 → r = σ.1 (52 + c) y - σ.1 (46 + c) y) → (¬ w = 1 → σ.1 (52 + c) y = σ.1 (46 + c) y → r = -4) → (¬ w = 1 → ¬ σ.1 (52 + c) y = σ.1 (46 + c) y → r = σ.1 (46 + c) y) → tp_Res 105 [.ref 58, .int (nI c), .int (nI y), .int w, .null] r σ := fun r e1 e2 e3 => by
    refine sg_105_0 _ _ _ (tp_if (sp_103 t3 (by omega)) (fun _ => tp_if (sp_101 tp_i64 (l := 0) rfl (h := 1) rfl) (fun _ => ?_) (fun z => by omega)) (fun z => absurd q1 z))
    rw [tp_5c, tp_c (show 5 * c + y < 1000000 by omega), p1, p2]
    have hv := tp_vi (show 5 * c + y < 30 by omega) (by omega)
    refine ⟨fun z => ⟨hv, hv, e1 z, h⟩, fun z => ⟨hv, hv, fun z2 => ⟨e2 z ?_, h⟩, fun z2 => ⟨hv, e3 z (fun z3 => z2 ?_), h⟩⟩⟩
    · rw [tp_le] at z2; rw [tp_eq]; omega
    · rw [tp_le, z3]; exact Int.le_refl _
  refine ⟨fun z => model _ (fun _ => rfl) (fun z2 => absurd z z2) (fun z2 => absurd z z2), fun z => ⟨fun z2 => model _ (fun z3 => absurd z3 z) (fun _ _ => rfl) (fun _ z4 => absurd ?_ z4), fun z2 => ⟨tp_vi (show c < 6 by omega) (by omega), tp_vi (show y < 5 by omega) (by omega), model _ (fun z3 => absurd z3 z) (fun _ z4 => absurd ?_ z2) (fun _ _ => rfl)⟩⟩⟩
  · exact tp_sub0 z2
  · rw [z4, Int32.sub_self]
theorem tp_bool01 {a : Int32} (h : a = 0 ∨ a = 1) : vp_nar .boolean a = a := by rcases h with rfl | rfl <;> first | exact tp_bz | exact tp_bo
theorem sp_55 {σ : tp_St} {c : Int32} {n : Nat} (hn : σ.1 3 3 = nI n) (h : n ≤ 16) : tp_bool 55 [.ref 3, .int c, .null] σ (∃ k, k < n ∧ σ.1 12 k = c ∧ ¬ σ.1 14 k = 0) := by
  intro post h1 h0
  refine sg_55_0 _ ?_
  refine tp_up_loop (E := fun i => (∀ k, k < i → ¬ (σ.1 12 k = c ∧ ¬ σ.1 14 k = 0)) → tp_E 55 2 [.ref 3, .int c, .int (nI i)] [] σ post) (n := n) (fun i hi g hno => ?_) (fun hno => ?_) 0 (Nat.zero_le _) (fun k hk => absurd hk (Nat.not_lt_zero _))
  · refine sg_55_2 _ _ ?_
    rw [tp_c (show i < 1000000 by omega), hn, nI_1]
    have step : ¬ (σ.1 12 i = c ∧ ¬ σ.1 14 i = 0) → tp_E 55 2 [.ref 3, .int c, .int (nI (i + 1))] [] σ post := fun q => g (fun k hk => by
      by_cases e : k = i
      · rw [e]; exact q
      · exact hno k (by omega))
    exact ⟨fun z => absurd z (tp_nle hi (by omega)), fun _ => ⟨tp_vi (by omega) (by omega), fun z => step (fun q => q.2 z), fun z => ⟨tp_vi (by omega) (by omega), fun z2 => h1 ⟨i, hi, z2, z⟩, fun z2 => step (fun q => z2 q.1)⟩⟩⟩
  · refine sg_55_2 _ _ ?_
    rw [hn]
    exact ⟨fun _ => h0 (fun ⟨k, hk, q⟩ => hno k hk q), fun z => absurd (tp_le.mpr (Int.le_refl _)) z⟩
theorem op_trip {σ : tp_St} {a u : Int32} (hu : u = 0 ∨ u = 1) (h : RR_all σ) : tp_E 64 0 [.ref 0, .int a, .int u] [] σ (tp_Res 106 [.ref 58, .int a, .int u, .null]) := by
  obtain ⟨nT, nR, nS, nB, nD, hT, hP, hR, hS, hH, hA, hL, hD, hK⟩ := id h
  obtain ⟨r1, r2, r3, r4⟩ := id hR
  refine sg_64_0 _ _ (tp_if (sp_91 (l := 0) rfl (h := 5) rfl) (fun q1 => ?_) (fun q1 => tp_if (sp_55 r2 r1) (fun q2 => ?_) (fun q2 => ?_)))
  · exact sg_106_0 _ _ (tp_if (sp_101 tp_i64 (l := 0) rfl (h := 5) rfl) (fun p1 => by omega) (fun p1 => ⟨rfl, h⟩))
  · -- one is open
    refine sg_106_0 _ _ (tp_if (sp_101 tp_i64 (l := 0) rfl (h := 5) rfl) (fun p1 => ?_) (fun p1 => by omega))
    obtain ⟨k, hk, hk1, hk2⟩ := q2
    refine tp_up_loop (E := fun i => i ≤ k → tp_E 106 16 [.ref 58, .int a, .int u, .int (nI i)] [] σ _) (n := k + 1) (fun i hi g hik => ?_) (fun z => absurd z (by omega)) 0 (Nat.zero_le _) (Nat.zero_le _)
    refine sg_106_16 _ _ _ ?_
    obtain ⟨k1, k2, k3, k4, k5, k6⟩ := r4 i (by omega)
    rw [tp_c (show i < 1000000 by omega), r3, k1, k3]
    simp only [nI_1]
    refine ⟨fun z => absurd z (tp_nle (by omega) (by omega)), fun _ => ⟨tp_vi (by omega) (by omega), fun z => ⟨tp_vi (by omega) (by omega), fun z2 => ?_, fun z2 => ⟨trivial, h⟩⟩, fun z => ?_⟩⟩
    · by_cases e : i = k
      · rw [e] at z2
        exact absurd z2 hk2
      · exact g (by omega)
    · by_cases e : i = k
      · rw [e] at z
        exact absurd hk1 z
      · exact g (by omega)
  · refine sg_54_0 _ _ ?_
    rw [r2, tp_c (show nR < 1000000 by omega), nI_1, tp_bool01 hu, tp_bo]
    have hno : ∀ k, k < nR → ¬ (σ.1 12 k = a ∧ ¬ σ.1 14 k = 0) := fun k hk z => q2 ⟨k, hk, z⟩
    have e6 : nR < 16 → tp_E 106 0 [.ref 58, .int a, .int u, .null] [] (tp_set (tp_set (tp_set (tp_set σ 12 nR a) 13 nR u) 14 nR 1) 3 3 (nI (nR + 1))) (fun r' σ2 => nI nR = r' ∧ RR_all σ2) := by
      intro c16
      refine sg_106_0 _ _ (tp_if (sp_101 tp_i64 (l := 0) rfl (h := 5) rfl) (fun p1 => ?_) (fun p1 => by omega))
      refine tp_up_loop (E := fun i => tp_E 106 16 [.ref 58, .int a, .int u, .int (nI i)] [] _ _) (n := nR) (fun i hi g => ?_) ?_ 0 (Nat.zero_le _)
      · refine sg_106_16 _ _ _ ?_
        obtain ⟨k1, k2, k3, k4, k5, k6⟩ := r4 i hi
        have e1 : ∀ o, o ≠ 12 → o ≠ 13 → o ≠ 14 → o ≠ 3 → ∀ j, (tp_set (tp_set (tp_set (tp_set σ 12 nR a) 13 nR u) 14 nR 1) 3 3 (nI (nR + 1))).1 o j = σ.1 o j := fun o h1 h2 h3 h4 j => by rw [tp_sg_ne (by omega), tp_sg_ne (by omega), tp_sg_ne (by omega), tp_sg_ne (by omega)]
        rw [tp_c (show i < 1000000 by omega), e1 58 (by decide) (by decide) (by decide) (by decide), e1 63 (by decide) (by decide) (by decide) (by decide), e1 65 (by decide) (by decide) (by decide) (by decide), r3, k1, k3]
        simp only [nI_1]
        refine ⟨fun z => absurd z (tp_nle (by omega) (by omega)), fun _ => ⟨tp_vi (by omega) (by omega), fun z => ⟨tp_vi (by omega) (by omega), fun z2 => g, fun z2 => absurd ⟨z, z2⟩ (hno i hi)⟩, fun z => g⟩⟩
      · refine sg_106_16 _ _ _ ?_
        rw [tp_sg_ne (by omega), tp_sg_ne (by omega), tp_sg_ne (by omega), tp_sg_ne (by omega), r3, tp_c (show nR < 1000000 by omega), tp_bool01 hu, tp_bo, nI_1, nI_pred]
        refine ⟨fun _ => ⟨fun z => ?_, fun _ => ⟨tp_vi (by omega) (by omega), tp_vi (by omega) (by omega), tp_vi (by omega) (by omega), rfl, ?_⟩⟩, fun z => absurd (tp_le.mpr (Int.le_refl _)) z⟩
        · rw [tp_eq, tp_t (by omega)] at z
          have : (nR : Int) = 16 := z
          omega
        · obtain ⟨c, hc, rfl⟩ := tp_rg_nI (x := a) (hi := 5) ⟨p1.1, p1.2⟩ (by omega)
          refine ⟨nT, nR + 1, nS, nB, nD, RT_fr hT (fun o k hd => (tp_sg_ne (by omega)).trans ((tp_sg_ne (by omega)).trans ((tp_sg_ne (by omega)).trans ((tp_sg_ne (by omega)).trans ((tp_sg_ne (by omega)).trans ((tp_sg_ne (by omega)).trans ((tp_sg_ne (by omega)).trans ((tp_sg_ne (by omega)).trans (rfl))))))))), RP_fr hP (fun o k hd => (tp_sg_ne (by omega)).trans ((tp_sg_ne (by omega)).trans ((tp_sg_ne (by omega)).trans ((tp_sg_ne (by omega)).trans ((tp_sg_ne (by omega)).trans ((tp_sg_ne (by omega)).trans ((tp_sg_ne (by omega)).trans ((tp_sg_ne (by omega)).trans (rfl))))))))), ⟨by omega, ?_, ?_, fun k hk => ?_⟩, ?_, RH_fr hH (fun o k hd => (tp_sg_ne (by omega)).trans ((tp_sg_ne (by omega)).trans ((tp_sg_ne (by omega)).trans ((tp_sg_ne (by omega)).trans ((tp_sg_ne (by omega)).trans ((tp_sg_ne (by omega)).trans ((tp_sg_ne (by omega)).trans ((tp_sg_ne (by omega)).trans (rfl))))))))), RA_fr hA (fun o k hd => (tp_sg_ne (by omega)).trans ((tp_sg_ne (by omega)).trans ((tp_sg_ne (by omega)).trans ((tp_sg_ne (by omega)).trans ((tp_sg_ne (by omega)).trans ((tp_sg_ne (by omega)).trans ((tp_sg_ne (by omega)).trans ((tp_sg_ne (by omega)).trans (rfl))))))))), RLw_fr hL rfl (fun o k hd => (tp_sg_ne (by omega)).trans ((tp_sg_ne (by omega)).trans ((tp_sg_ne (by omega)).trans ((tp_sg_ne (by omega)).trans ((tp_sg_ne (by omega)).trans ((tp_sg_ne (by omega)).trans ((tp_sg_ne (by omega)).trans ((tp_sg_ne (by omega)).trans (rfl))))))))), RD_fr hD (fun o k hd => (tp_sg_ne (by omega)).trans ((tp_sg_ne (by omega)).trans ((tp_sg_ne (by omega)).trans ((tp_sg_ne (by omega)).trans ((tp_sg_ne (by omega)).trans ((tp_sg_ne (by omega)).trans ((tp_sg_ne (by omega)).trans ((tp_sg_ne (by omega)).trans (rfl))))))))), RK_fr hK (fun o k hd => (tp_sg_ne (by omega)).trans ((tp_sg_ne (by omega)).trans ((tp_sg_ne (by omega)).trans ((tp_sg_ne (by omega)).trans ((tp_sg_ne (by omega)).trans ((tp_sg_ne (by omega)).trans ((tp_sg_ne (by omega)).trans ((tp_sg_ne (by omega)).trans (rfl)))))))))⟩
          · rw [tp_sg_ne (by omega), tp_sg_ne (by omega), tp_sg_ne (by omega), tp_sg_ne (by omega), tp_sg_eq]
          · rw [tp_sg_eq]
          · by_cases e : k = nR
            · subst e
              simp only [tp_sg]
              simp
              exact ⟨⟨c, by omega, rfl⟩, hu⟩
            · obtain ⟨m1, m2, m3, m4, m5, m6⟩ := r4 k (by omega)
              have e1 : ∀ o, o ≠ 3 → o ≠ 58 → (tp_set (tp_set (tp_set (tp_set (tp_set (tp_set (tp_set (tp_set σ 12 nR (nI c)) 13 nR u) 14 nR 1) 3 3 (nI (nR + 1))) 63 nR (nI c)) 64 nR u) 65 nR 1) 58 5 (nI (nR + 1))).1 o k = σ.1 o k := fun o h1 h2 => by rw [tp_sg_ne (by omega), tp_sg_ne (by omega), tp_sg_ne (by omega), tp_sg_ne (by omega), tp_sg_ne (by omega), tp_sg_ne (by omega), tp_sg_ne (by omega), tp_sg_ne (by omega)]
              rw [e1 63 (by decide) (by decide), e1 64 (by decide) (by decide), e1 65 (by decide) (by decide), e1 12 (by decide) (by decide), e1 13 (by decide) (by decide), e1 14 (by decide) (by decide)]
              exact ⟨m1, m2, m3, m4, m5, m6⟩
          · exact RS_fr hS (Nat.le_refl _) (by omega) (fun o k hd => (tp_sg_ne (by omega)).trans ((tp_sg_ne (by omega)).trans ((tp_sg_ne (by omega)).trans ((tp_sg_ne (by omega)).trans ((tp_sg_ne (by omega)).trans ((tp_sg_ne (by omega)).trans ((tp_sg_ne (by omega)).trans ((tp_sg_ne (by omega)).trans (rfl)))))))))
    refine ⟨fun c => ⟨tp_vi ?_ (by omega), tp_vi ?_ (by omega), tp_vi ?_ (by omega), e6 ?_⟩, fun c => ?_⟩
    · rw [tp_lt, tp_t (by omega)] at c; have : (nR : Int) < 16 := c; omega
    · rw [tp_lt, tp_t (by omega)] at c; have : (nR : Int) < 16 := c; omega
    · rw [tp_lt, tp_t (by omega)] at c; have : (nR : Int) < 16 := c; omega
    · rw [tp_lt, tp_t (by omega)] at c; have : (nR : Int) < 16 := c; omega
    · have c16 : nR = 16 := by rw [tp_lt, tp_t (by omega)] at c; have : ¬ (nR : Int) < 16 := c; omega
      refine sg_106_0 _ _ (tp_if (sp_101 tp_i64 (l := 0) rfl (h := 5) rfl) (fun p1 => ?_) (fun p1 => by omega))
      refine tp_up_loop (E := fun i => tp_E 106 16 [.ref 58, .int a, .int u, .int (nI i)] [] _ _) (n := nR) (fun i hi g => ?_) ?_ 0 (Nat.zero_le _)
      · refine sg_106_16 _ _ _ ?_
        obtain ⟨k1, k2, k3, k4, k5, k6⟩ := r4 i hi
        rw [tp_c (show i < 1000000 by omega), r3, k1, k3]
        simp only [nI_1]
        exact ⟨fun z => absurd z (tp_nle (by omega) (by omega)), fun _ => ⟨tp_vi (by omega) (by omega), fun z => ⟨tp_vi (by omega) (by omega), fun z2 => g, fun z2 => absurd ⟨z, z2⟩ (hno i hi)⟩, fun z => g⟩⟩
      · refine sg_106_16 _ _ _ ?_
        rw [r3, c16]
        exact ⟨fun _ => ⟨fun _ => ⟨rfl, h⟩, fun z => absurd rfl z⟩, fun z => absurd (tp_le.mpr (Int.le_refl _)) z⟩
end
section
/-! issue -/
theorem tp_rg_of {hi : Nat} {x : Int32} (h0 : 0 ≤ x.toInt) (h1 : x.toInt ≤ (hi : Int)) (hh : hi < 2 ^ 31) : ∃ n : Nat, n ≤ hi ∧ x = nI n := tp_rg_nI ⟨h0, h1⟩ hh
theorem tp_ne {a b : Nat} (ha : a < 1000000) (hb : b < 1000000) : nI a = nI b ↔ a = b := by rw [tp_eq, tp_t ha, tp_t hb]; omega
theorem tp_leN {a b : Nat} (ha : a < 1000000) (hb : b < 1000000) : nI a ≤ nI b ↔ a ≤ b := by rw [tp_le, tp_t ha, tp_t hb]; omega
theorem tp_ltN {a b : Nat} (ha : a < 1000000) (hb : b < 1000000) : nI a < nI b ↔ a < b := by rw [tp_lt, tp_t ha, tp_t hb]; omega
theorem sp_34 {σ : tp_St} {y f g nT nR nS : Nat} (hT : RT σ nT) (hS : RS σ nT nR nS) (hf : f < 1000000) (hg : g < 1000000) : tp_bool 34 [.ref 4, .int (nI y), .int (nI f), .int (nI g), .null] σ (∃ k, k < nS ∧ σ.1 16 k = nI y ∧ (f : Int) ≤ (σ.1 18 k).toInt ∧ (σ.1 18 k).toInt < g) := by
  intro post h1 h0
  obtain ⟨s1, s2, s3, s4⟩ := hS
  refine sg_34_0 _ _ _ ?_
  refine tp_up_loop (E := fun i => (∀ k, k < i → ¬ (σ.1 16 k = nI y ∧ (f : Int) ≤ (σ.1 18 k).toInt ∧ (σ.1 18 k).toInt < g)) → tp_E 34 3 [.ref 4, .int (nI y), .int (nI f), .int (nI g), .int (nI i)] [] σ post) (n := nS) (fun i hi gg hno => ?_) (fun hno => ?_) 0 (Nat.zero_le _) (fun k hk => absurd hk (Nat.not_lt_zero _))
  · have step : ¬ (σ.1 16 i = nI y ∧ (f : Int) ≤ (σ.1 18 i).toInt ∧ (σ.1 18 i).toInt < g) → tp_E 34 3 [.ref 4, .int (nI y), .int (nI f), .int (nI g), .int (nI (i + 1))] [] σ post := fun q => gg (fun k hk => by
      by_cases e : k = i
      · rw [e]; exact q
      · exact hno k (by omega))
    refine sg_34_3 _ _ _ _ ?_
    rw [tp_c (show i < 1000000 by omega), s2]
    simp only [nI_1, tp_lt (b := nI f), tp_le (a := nI g), tp_t hf, tp_t hg]
    exact ⟨fun z => absurd z (tp_nle hi (by omega)), fun _ => ⟨tp_vi (by omega) (by omega), fun z => ⟨tp_vi (by omega) (by omega), fun z2 => step (fun q => by omega), fun z2 => ⟨tp_vi (by omega) (by omega), fun z3 => step (fun q => by omega), fun z3 => h1 ⟨i, hi, z, by omega, by omega⟩⟩⟩, fun z => step (fun q => z q.1)⟩⟩
  · refine sg_34_3 _ _ _ _ ?_
    rw [s2]
    exact ⟨fun _ => h0 (fun ⟨k, hk, q⟩ => hno k hk q), fun z => absurd (tp_le.mpr (Int.le_refl _)) z⟩
/-- another's pack has one of the numbers -/
def tp_oth (σ : tp_St) (c y f g k : Nat) : Prop := k ≠ c ∧ f < g ∧ (f : Int) < (σ.1 (52 + k) y).toInt ∧ (σ.1 (46 + k) y).toInt < g ∧ (σ.1 (46 + k) y).toInt < (σ.1 (52 + k) y).toInt
theorem sp_17 {σ : tp_St} {c y f g : Nat} (hc : c < 6) (hy : y < 5) (hf : f < 1000000) (hg : g < 1000000) : tp_bool 17 [.ref 2, .int (nI c), .int (nI y), .int (nI f), .int (nI g), .null, .null] σ (∃ k, k < 6 ∧ tp_oth σ c y f g k) := by
  intro post h1 h0
  refine sg_17_0 _ _ _ _ ?_
  refine tp_up_loop (E := fun i => (∀ k, k < i → ¬ tp_oth σ c y f g k) → tp_E 17 3 [.ref 2, .int (nI c), .int (nI y), .int (nI f), .int (nI g), .int (nI i), .null] [] σ post) (n := 6) (fun i hi gg hno => ?_) (fun hno => ?_) 0 (Nat.zero_le _) (fun k hk => absurd hk (Nat.not_lt_zero _))
  · have step : ¬ tp_oth σ c y f g i → tp_E 17 3 [.ref 2, .int (nI c), .int (nI y), .int (nI f), .int (nI g), .int (nI (i + 1)), .null] [] σ post := fun q => gg (fun k hk => by
      by_cases e : k = i
      · rw [e]; exact q
      · exact hno k (by omega))
    refine sg_17_3 _ _ _ _ _ ?_
    rw [tp_c (show i < 1000000 by omega), tp_c (show y < 1000000 by omega)]
    simp only [nI_1]
    refine ⟨fun z => absurd z (by rw [show (6 : Int32) = nI 6 from rfl]; exact tp_nle hi (by omega)), fun _ => ⟨tp_vi (by omega) (by omega), tp_vi (by omega) (by omega), fun z => step (fun q => q.1 ?_), fun z => ⟨tp_vi (by omega) (by omega), tp_vi (by omega) (by omega), fun z2 => step (fun q => ?_), fun z2 => h1 ⟨i, hi, ?_⟩⟩⟩⟩
    · rw [tp_ne (by omega) (by omega)] at z; exact z
    · obtain ⟨q1, q2, q3, q4, q5⟩ := q
      have hf2 := tp_t hf
      have hg2 := tp_t hg
      rw [tp_le] at z2
      split at z2 <;> split at z2 <;> (try rw [tp_lt] at *) <;> omega
    · have hf2 := tp_t hf
      have hg2 := tp_t hg
      refine ⟨fun e => z (by rw [e]), ?_⟩
      rw [tp_le] at z2
      split at z2 <;> split at z2 <;> (try rw [tp_lt] at *) <;> omega
  · refine sg_17_3 _ _ _ _ _ ?_
    exact ⟨fun _ => h0 (fun ⟨k, hk, q⟩ => hno k hk q), fun z => absurd (by rw [show (6 : Int32) = nI 6 from rfl]; exact tp_le.mpr (Int.le_refl _)) z⟩
/-- two stores alike in the reference's world -/
def tp_ag (σ τ : tp_St) : Prop := ∀ o k, 58 ≤ o → o < 82 → τ.1 o k = σ.1 o k
theorem tp_ag_rf {σ : tp_St} : tp_ag σ σ := fun _ _ _ _ => rfl
/-- the reference's two loops of issue -/
theorem sp_104 {σ τ : tp_St} {c y f m nT nR nS : Nat} (ag : tp_ag σ τ) (hT : RT σ nT) (hP : RP σ) (hS : RS σ nT nR nS) (hc : c < 6) (hy : y < nT) (hf : f ≤ 100000) (hm : m ≤ 1000) {post : Int32 → tp_St → Prop}
    (h1 : ((∃ k, k < nS ∧ σ.1 16 k = nI y ∧ (f : Int) ≤ (σ.1 18 k).toInt ∧ (σ.1 18 k).toInt < (f + m : Nat)) ∨ ∃ k, k < 6 ∧ tp_oth σ c y f (f + m) k) → post (-2) τ)
    (h0 : ¬ ((∃ k, k < nS ∧ σ.1 16 k = nI y ∧ (f : Int) ≤ (σ.1 18 k).toInt ∧ (σ.1 18 k).toInt < (f + m : Nat)) ∨ ∃ k, k < 6 ∧ tp_oth σ c y f (f + m) k) → post (σ.1 62 (5 * c + y) - σ.1 61 (5 * c + y)) (tp_set (tp_set τ 61 (5 * c + y) (nI f)) 62 (5 * c + y) (nI (f + m)))) :
    tp_E 104 42 [.ref 58, .int (nI c), .int (nI y), .int (nI f), .int (nI m), .int 0, .int 0, .null] [] τ post := by
  obtain ⟨s1, s2, s3, s4⟩ := id hS
  have hT5 := hT.1
  have e61 : ∀ k, τ.1 61 k = σ.1 61 k := fun k => ag _ _ (by decide) (by decide)
  have e62 : ∀ k, τ.1 62 k = σ.1 62 k := fun k => ag _ _ (by decide) (by decide)
  have e67 : ∀ k, τ.1 67 k = σ.1 67 k := fun k => ag _ _ (by decide) (by decide)
  have e69' : ∀ k, τ.1 69 k = σ.1 69 k := fun k => ag _ _ (by decide) (by decide)
  have e58 : τ.1 58 9 = nI nS := (ag _ _ (by decide) (by decide)).trans s3
  have second : ∀ x : Int32, ((x = 0 ∧ ¬ ∃ k, k < nS ∧ σ.1 16 k = nI y ∧ (f : Int) ≤ (σ.1 18 k).toInt ∧ (σ.1 18 k).toInt < (f + m : Nat)) ∨ (x = 1 ∧ ∃ k, k < nS ∧ σ.1 16 k = nI y ∧ (f : Int) ≤ (σ.1 18 k).toInt ∧ (σ.1 18 k).toInt < (f + m : Nat))) → tp_E 104 106 [.ref 58, .int (nI c), .int (nI y), .int (nI f), .int (nI m), .int x, .int 0, .null] [] τ post := by
    intro x hx
    have hx2 : (x = 0 ∧ ¬ ((∃ k, k < nS ∧ σ.1 16 k = nI y ∧ (f : Int) ≤ (σ.1 18 k).toInt ∧ (σ.1 18 k).toInt < (f + m : Nat)) ∨ ∃ k, k < 0 ∧ tp_oth σ c y f (f + m) k)) ∨ (x = 1 ∧ ((∃ k, k < nS ∧ σ.1 16 k = nI y ∧ (f : Int) ≤ (σ.1 18 k).toInt ∧ (σ.1 18 k).toInt < (f + m : Nat)) ∨ ∃ k, k < 0 ∧ tp_oth σ c y f (f + m) k)) := by
      rcases hx with ⟨e, q⟩ | ⟨e, q⟩
      · exact Or.inl ⟨e, fun z => z.elim q (fun ⟨k, hk, _⟩ => absurd hk (Nat.not_lt_zero _))⟩
      · exact Or.inr ⟨e, Or.inl q⟩
    clear hx
    revert x
    refine tp_up_loop (E := fun i => ∀ x : Int32, ((x = 0 ∧ ¬ ((∃ k, k < nS ∧ σ.1 16 k = nI y ∧ (f : Int) ≤ (σ.1 18 k).toInt ∧ (σ.1 18 k).toInt < (f + m : Nat)) ∨ ∃ k, k < i ∧ tp_oth σ c y f (f + m) k)) ∨ (x = 1 ∧ ((∃ k, k < nS ∧ σ.1 16 k = nI y ∧ (f : Int) ≤ (σ.1 18 k).toInt ∧ (σ.1 18 k).toInt < (f + m : Nat)) ∨ ∃ k, k < i ∧ tp_oth σ c y f (f + m) k))) → tp_E 104 106 [.ref 58, .int (nI c), .int (nI y), .int (nI f), .int (nI m), .int x, .int (nI i), .null] [] τ post) (n := 6) (fun i hi gg x hx => ?_) (fun x hx => ?_) 0 (Nat.zero_le _)
    · obtain ⟨p1, p2, p3, p4, p5⟩ := hP i y hi (by omega)
      refine sg_104_106 _ _ _ _ _ _ ?_
      simp only [tp_5c, nI_1, tp_c (show 5 * i + y < 1000000 by omega), nI_add, e61, e62, p1, p2]
      have hv := tp_vi (show 5 * i + y < 30 by omega) (by omega)
      have keep : ¬ tp_oth σ c y f (f + m) i → x = 0 → tp_E 104 106 [.ref 58, .int (nI c), .int (nI y), .int (nI f), .int (nI m), .int 0, .int (nI (i + 1)), .null] [] τ post := fun q e => by
        refine gg 0 (Or.inl ⟨rfl, ?_⟩)
        rcases hx with ⟨-, z⟩ | ⟨z, -⟩
        · rintro (z2 | ⟨k, hk, z2⟩)
          · exact z (Or.inl z2)
          · by_cases ek : k = i
            · rw [ek] at z2; exact q z2
            · exact z (Or.inr ⟨k, by omega, z2⟩)
        · rw [e] at z; exact absurd z (by decide)
      refine ⟨fun z => absurd z (by rw [show (6 : Int32) = nI 6 from rfl]; exact tp_nle hi (by omega)), fun _ => ⟨fun e => ⟨fun z => keep (fun q => q.1 ?_) e, fun z => ⟨hv, fun z2 => keep (fun q => ?_) e, fun z2 => ⟨hv, fun z3 => keep (fun q => ?_) e, fun z3 => ⟨hv, hv, fun z4 => keep (fun q => ?_) e, fun z4 => ⟨fun z5 => keep (fun q => ?_) e, fun z5 => gg 1 (Or.inr ⟨rfl, Or.inr ⟨i, by omega, ?_⟩⟩)⟩⟩⟩⟩⟩, fun e => gg 1 ?_⟩⟩
      · rw [tp_ne (by omega) (by omega)] at z; exact z
      · obtain ⟨q1, q2, q3, q4, q5⟩ := q
        rw [tp_le, tp_t (by omega)] at z2; omega
      · obtain ⟨q1, q2, q3, q4, q5⟩ := q
        rw [tp_le, tp_t (by omega)] at z3; omega
      · obtain ⟨q1, q2, q3, q4, q5⟩ := q
        rw [tp_le] at z4; omega
      · obtain ⟨q1, q2, q3, q4, q5⟩ := q
        rw [tp_le, tp_t (by omega)] at z5
        have : (m : Int) ≤ 0 := z5
        omega
      · rw [tp_le, tp_t (by omega)] at z2 z3
        rw [tp_le] at z4
        rw [tp_le, tp_t (by omega)] at z5
        have z6 : ¬ (m : Int) ≤ 0 := z5
        exact ⟨fun e2 => z (by rw [e2]), by omega, by omega, by omega, by omega⟩
      · rcases hx with ⟨z, -⟩ | ⟨-, z⟩
        · exact absurd z e
        · exact Or.inr ⟨rfl, z.elim Or.inl (fun ⟨k, hk, z2⟩ => Or.inr ⟨k, by omega, z2⟩)⟩
    · refine sg_104_106 _ _ _ _ _ _ ?_
      simp only [tp_5c, tp_c (show 5 * c + y < 1000000 by omega), nI_add, e61, e62]
      have hv := tp_vi (show 5 * c + y < 30 by omega) (by omega)
      refine ⟨fun _ => ⟨fun e => ⟨hv, hv, hv, hv, h0 ?_⟩, fun e => h1 ?_⟩, fun z => absurd (by rw [show (6 : Int32) = nI 6 from rfl]; exact tp_le.mpr (Int.le_refl _)) z⟩
      · rcases hx with ⟨-, z⟩ | ⟨z, -⟩
        · exact z
        · rw [e] at z; exact absurd z (by decide)
      · rcases hx with ⟨z, -⟩ | ⟨-, z⟩
        · exact absurd z e
        · exact z
  have first : ∀ x : Int32, ((x = 0 ∧ ¬ ∃ k, k < 0 ∧ σ.1 16 k = nI y ∧ (f : Int) ≤ (σ.1 18 k).toInt ∧ (σ.1 18 k).toInt < (f + m : Nat)) ∨ (x = 1 ∧ ∃ k, k < 0 ∧ σ.1 16 k = nI y ∧ (f : Int) ≤ (σ.1 18 k).toInt ∧ (σ.1 18 k).toInt < (f + m : Nat))) → tp_E 104 42 [.ref 58, .int (nI c), .int (nI y), .int (nI f), .int (nI m), .int x, .int 0, .null] [] τ post := by
    refine tp_up_loop (E := fun i => ∀ x : Int32, ((x = 0 ∧ ¬ ∃ k, k < i ∧ σ.1 16 k = nI y ∧ (f : Int) ≤ (σ.1 18 k).toInt ∧ (σ.1 18 k).toInt < (f + m : Nat)) ∨ (x = 1 ∧ ∃ k, k < i ∧ σ.1 16 k = nI y ∧ (f : Int) ≤ (σ.1 18 k).toInt ∧ (σ.1 18 k).toInt < (f + m : Nat))) → tp_E 104 42 [.ref 58, .int (nI c), .int (nI y), .int (nI f), .int (nI m), .int x, .int (nI i), .null] [] τ post) (n := nS) (fun i hi gg x hx => ?_) (fun x hx => ?_) 0 (Nat.zero_le _)
    · obtain ⟨-, ⟨w, w1, w2, w3⟩, e69, -, -⟩ := s4 i hi
      refine sg_104_42 _ _ _ _ _ _ ?_
      rw [tp_c (show i < 1000000 by omega), e58]
      simp only [nI_1, nI_add, e67, e69', w3, e69]
      have hv := tp_vi (show i < 200 by omega) (by omega)
      have keep : ¬ (σ.1 16 i = nI y ∧ (f : Int) ≤ (σ.1 18 i).toInt ∧ (σ.1 18 i).toInt < (f + m : Nat)) → x = 0 → tp_E 104 42 [.ref 58, .int (nI c), .int (nI y), .int (nI f), .int (nI m), .int 0, .int (nI (i + 1)), .null] [] τ post := fun q e => by
        refine gg 0 (Or.inl ⟨rfl, ?_⟩)
        rcases hx with ⟨-, z⟩ | ⟨z, -⟩
        · rintro ⟨k, hk, z2⟩
          by_cases ek : k = i
          · rw [ek] at z2; exact q z2
          · exact z ⟨k, by omega, z2⟩
        · rw [e] at z; exact absurd z (by decide)
      refine ⟨fun z => absurd z (tp_nle hi (by omega)), fun _ => ⟨fun e => ⟨hv, fun z => ⟨hv, tp_if (sp_101 tp_i64 (l := f) (by rw [tp_i64, tp_t (by omega)]) (h := (f + m : Nat) - 1) (by rw [tp_i64, tp_pred (by omega)])) (fun z2 => gg 1 (Or.inr ⟨rfl, i, by omega, by rw [w2]; exact z, by omega, by omega⟩)) (fun z2 => keep (fun q => z2 ⟨q.2.1, by omega⟩) e)⟩, fun z => keep (fun q => z (by rw [← w2]; exact q.1)) e⟩, fun e => gg 1 ?_⟩⟩
      rcases hx with ⟨z, -⟩ | ⟨-, k, hk, z⟩
      · exact absurd z e
      · exact Or.inr ⟨rfl, k, by omega, z⟩
    · refine sg_104_42 _ _ _ _ _ _ ?_
      rw [e58]
      exact ⟨fun _ => second x hx, fun z => absurd (tp_le.mpr (Int.le_refl _)) z⟩
  exact first 0 (Or.inl ⟨rfl, fun ⟨k, hk, _⟩ => absurd hk (Nat.not_lt_zero _)⟩)
theorem op_issue {σ : tp_St} {a b f m : Int32} (h : RR_all σ) : tp_E 62 0 [.ref 0, .int a, .int b, .int f, .int m, .null] [] σ (tp_Res 104 [.ref 58, .int a, .int b, .int f, .int m, .null, .null, .null]) := by
  obtain ⟨nT, nR, nS, nB, nD, hT, hP, hR, hS, hH, hA, hL, hD, hK⟩ := id h
  obtain ⟨t1, t2, t3, t4⟩ := id hT
  have bad : (¬ ((0 ≤ a.toInt ∧ a.toInt < 6) ∧ 0 ≤ b.toInt ∧ b.toInt < nT) ∨ ¬ (0 ≤ f.toInt ∧ f.toInt ≤ 100000) ∨ ¬ (0 ≤ m.toInt ∧ m.toInt ≤ 1000)) → tp_Res 104 [.ref 58, .int a, .int b, .int f, .int m, .null, .null, .null] (-1) σ := fun hb =>
    sg_104_0 _ _ _ _ (tp_if (sp_103 t3 (by omega)) (fun p1 => tp_if (sp_101 tp_i64 (l := 0) rfl (h := 100000) rfl) (fun p2 => tp_if (sp_101 tp_i64 (l := 0) rfl (h := 1000) rfl) (fun p3 => by omega) (fun p3 => ⟨rfl, h⟩)) (fun p2 => ⟨rfl, h⟩)) (fun p1 => ⟨rfl, h⟩))
  refine sg_62_0 _ _ _ _ (tp_if (sp_92 t2 (by omega)) (fun q1 => tp_if (sp_91 (l := 0) rfl (h := 100000) rfl) (fun q2 => bad (by omega)) (fun q2 => tp_if (sp_91 (l := 0) rfl (h := 1000) rfl) (fun q3 => bad (by omega)) (fun q3 => ?_))) (fun q1 => bad (Or.inl q1)))
  obtain ⟨c, hc, rfl⟩ := tp_rg_of (x := a) (hi := 5) q1.1.1 (by omega) (by omega)
  obtain ⟨y, hy, rfl⟩ := tp_rg_of (x := b) (hi := nT - 1) q1.2.1 (by omega) (by omega)
  obtain ⟨g, hg, rfl⟩ := tp_rg_of (x := f) (hi := 100000) (by omega) (by omega) (by omega)
  obtain ⟨n, hn, rfl⟩ := tp_rg_of (x := m) (hi := 1000) (by omega) (by omega) (by omega)
  have hyT : y < nT := by have := q1.2.2; rw [tp_t (by omega)] at this; omega
  simp only [nI_add]
  refine tp_if (sp_34 hT hS (by omega) (by omega)) (fun q4 => ?_) (fun q4 => tp_if (sp_17 (show c < 6 by omega) (show y < 5 by omega) (by omega) (by omega)) (fun q5 => ?_) (fun q5 => ?_))
  · refine sg_104_0 _ _ _ _ (tp_if (sp_103 t3 (by omega)) (fun p1 => tp_if (sp_101 tp_i64 (l := 0) rfl (h := 100000) rfl) (fun p2 => tp_if (sp_101 tp_i64 (l := 0) rfl (h := 1000) rfl) (fun p3 => ?_) (fun p3 => by omega)) (fun p2 => by omega)) (fun p1 => absurd q1 p1))
    exact sp_104 tp_ag_rf hT hP hS (by omega) hyT hg hn (fun _ => ⟨rfl, h⟩) (fun z => absurd (Or.inl q4) z)
  · refine sg_104_0 _ _ _ _ (tp_if (sp_103 t3 (by omega)) (fun p1 => tp_if (sp_101 tp_i64 (l := 0) rfl (h := 100000) rfl) (fun p2 => tp_if (sp_101 tp_i64 (l := 0) rfl (h := 1000) rfl) (fun p3 => ?_) (fun p3 => by omega)) (fun p2 => by omega)) (fun p1 => absurd q1 p1))
    exact sp_104 tp_ag_rf hT hP hS (by omega) hyT hg hn (fun _ => ⟨rfl, h⟩) (fun z => absurd (Or.inr q5) z)
  · refine sp_14 (show c < 6 by omega) (show y < 5 by omega) _ ?_
    refine sg_15_0 _ _ _ _ ?_
    rw [tp_c (show c < 1000000 by omega), tp_c (show y < 1000000 by omega)]
    refine ⟨tp_vi (by omega) (by omega), tp_vi (by omega) (by omega), tp_vi (by omega) (by omega), tp_vi (by omega) (by omega), ?_⟩
    refine sg_104_0 _ _ _ _ (tp_if (sp_103 (n := nT) (by rw [tp_sg_ne (by omega), tp_sg_ne (by omega)]; exact t3) (by omega)) (fun p1 => tp_if (sp_101 tp_i64 (l := 0) rfl (h := 100000) rfl) (fun p2 => tp_if (sp_101 tp_i64 (l := 0) rfl (h := 1000) rfl) (fun p3 => ?_) (fun p3 => by omega)) (fun p2 => by omega)) (fun p1 => absurd q1 p1))
    obtain ⟨pp1, pp2, pp3, pp4, pp5⟩ := hP c y (by omega) (by omega)
    refine sp_104 (σ := σ) (fun o k h1 h2 => by rw [tp_sg_ne (by omega), tp_sg_ne (by omega)]) hT hP hS (by omega) hyT hg hn (fun z => absurd z (by rintro (z | z) <;> contradiction)) (fun _ => ⟨by rw [pp1, pp2], nT, nR, nS, nB, nD, RT_fr hT (fun o k hd => (tp_sg_ne (by omega)).trans ((tp_sg_ne (by omega)).trans ((tp_sg_ne (by omega)).trans ((tp_sg_ne (by omega)).trans (rfl))))), ?_, RR_fr hR (fun o k hd => (tp_sg_ne (by omega)).trans ((tp_sg_ne (by omega)).trans ((tp_sg_ne (by omega)).trans ((tp_sg_ne (by omega)).trans (rfl))))), RS_fr hS (Nat.le_refl _) (Nat.le_refl _) (fun o k hd => (tp_sg_ne (by omega)).trans ((tp_sg_ne (by omega)).trans ((tp_sg_ne (by omega)).trans ((tp_sg_ne (by omega)).trans (rfl))))), RH_fr hH (fun o k hd => (tp_sg_ne (by omega)).trans ((tp_sg_ne (by omega)).trans ((tp_sg_ne (by omega)).trans ((tp_sg_ne (by omega)).trans (rfl))))), RA_fr hA (fun o k hd => (tp_sg_ne (by omega)).trans ((tp_sg_ne (by omega)).trans ((tp_sg_ne (by omega)).trans ((tp_sg_ne (by omega)).trans (rfl))))), RLw_fr hL rfl (fun o k hd => (tp_sg_ne (by omega)).trans ((tp_sg_ne (by omega)).trans ((tp_sg_ne (by omega)).trans ((tp_sg_ne (by omega)).trans (rfl))))), RD_fr hD (fun o k hd => (tp_sg_ne (by omega)).trans ((tp_sg_ne (by omega)).trans ((tp_sg_ne (by omega)).trans ((tp_sg_ne (by omega)).trans (rfl))))), RK_fr hK (fun o k hd => (tp_sg_ne (by omega)).trans ((tp_sg_ne (by omega)).trans ((tp_sg_ne (by omega)).trans ((tp_sg_ne (by omega)).trans (rfl)))))⟩)
    intro c' y' hc' hy'
    by_cases e : c' = c ∧ y' = y
    · obtain ⟨rfl, rfl⟩ := e
      have e1 : (tp_set (tp_set (tp_set (tp_set σ (46 + c') y' (nI g)) (52 + c') y' (nI (g + n))) 61 (5 * c' + y') (nI g)) 62 (5 * c' + y') (nI (g + n))).1 61 (5 * c' + y') = nI g := by rw [tp_sg_ne (by omega), tp_sg_eq]
      have e2 : (tp_set (tp_set (tp_set (tp_set σ (46 + c') y' (nI g)) (52 + c') y' (nI (g + n))) 61 (5 * c' + y') (nI g)) 62 (5 * c' + y') (nI (g + n))).1 (46 + c') y' = nI g := by rw [tp_sg_ne (by omega), tp_sg_ne (by omega), tp_sg_ne (by omega), tp_sg_eq]
      have e3 : (tp_set (tp_set (tp_set (tp_set σ (46 + c') y' (nI g)) (52 + c') y' (nI (g + n))) 61 (5 * c' + y') (nI g)) 62 (5 * c' + y') (nI (g + n))).1 (52 + c') y' = nI (g + n) := by rw [tp_sg_ne (by omega), tp_sg_ne (by omega), tp_sg_eq]
      rw [e1, e2, e3, tp_sg_eq, tp_t (by omega), tp_t (by omega)]
      exact ⟨rfl, rfl, by omega, by omega, by omega⟩
    · rw [tp_sg_ne (by omega), tp_sg_ne (by omega), tp_sg_ne (by omega), tp_sg_ne (by omega), tp_sg_ne (by omega), tp_sg_ne (by omega), tp_sg_ne (by omega), tp_sg_ne (by omega), tp_sg_ne (by omega), tp_sg_ne (by omega), tp_sg_ne (by omega), tp_sg_ne (by omega), tp_sg_ne (by omega), tp_sg_ne (by omega), tp_sg_ne (by omega), tp_sg_ne (by omega)]
      exact hP c' y' hc' hy'
end
section
/-! waybills -/
def wb_p (σ : tp_St) (t y : Int32) (k : Nat) : Bool := decide (σ.1 15 k = t) && decide (σ.1 16 k = y)
def wb_c (σ : tp_St) (t y : Int32) : Nat → Nat
  | 0 => 0
  | n + 1 => if wb_p σ t y n = true then wb_c σ t y n + 1 else wb_c σ t y n
def wb_f (σ : tp_St) (t y : Int32) : Nat → Option Nat
  | 0 => none
  | n + 1 => match wb_f σ t y n with
    | some j => some j
    | none => if wb_p σ t y n = true then some n else none
def wb_l (σ : tp_St) (t y : Int32) : Nat → Option Nat
  | 0 => none
  | n + 1 => if wb_p σ t y n = true then some n else wb_l σ t y n
theorem wb_c_le {σ : tp_St} {t y : Int32} : ∀ n, wb_c σ t y n ≤ n
  | 0 => Nat.le_refl _
  | n + 1 => by
    unfold wb_c
    have := wb_c_le (σ := σ) (t := t) (y := y) n
    split <;> omega
theorem wb_f_lt {σ : tp_St} {t y : Int32} : ∀ {n j}, wb_f σ t y n = some j → j < n
  | 0, _, h => by cases h
  | n + 1, j, h => by
    unfold wb_f at h
    cases e : wb_f σ t y n with
    | some k =>
      rw [e] at h
      cases h
      have := wb_f_lt e
      omega
    | none =>
      rw [e] at h
      dsimp only at h
      split at h
      · cases h; omega
      · cases h
theorem wb_l_lt {σ : tp_St} {t y : Int32} : ∀ {n j}, wb_l σ t y n = some j → j < n
  | 0, _, h => by cases h
  | n + 1, j, h => by
    unfold wb_l at h
    split at h
    · cases h; omega
    · have := wb_l_lt h
      omega
theorem wb_f_stay {σ : tp_St} {t y : Int32} {i j : Nat} (h : wb_f σ t y i = some j) : ∀ d, wb_f σ t y (i + d) = some j
  | 0 => h
  | d + 1 => by
    show wb_f σ t y (i + d + 1) = some j
    unfold wb_f
    rw [wb_f_stay h d]
theorem wb_c0 {σ : tp_St} {t y : Int32} : ∀ n, (wb_c σ t y n = 0 ↔ wb_f σ t y n = none)
  | 0 => by simp [wb_c, wb_f]
  | n + 1 => by
    have ih := wb_c0 (σ := σ) (t := t) (y := y) n
    unfold wb_c wb_f
    cases e : wb_f σ t y n with
    | some k =>
      have h0 : ¬ wb_c σ t y n = 0 := fun z => by rw [ih, e] at z; cases z
      dsimp only
      constructor
      · intro z
        split at z <;> omega
      · intro z; cases z
    | none =>
      have h0 : wb_c σ t y n = 0 := ih.mpr e
      dsimp only
      split <;> simp [h0]
theorem sp_40 {σ : tp_St} {t y : Int32} {i : Nat} (hi : i < 200) : tp_bool 40 [.ref 4, .int (nI i), .int t, .int y] σ (wb_p σ t y i = true) := by
  intro post h1 h0
  refine sg_40_0 _ _ _ ?_
  rw [tp_c (show i < 1000000 by omega)]
  unfold wb_p at h1 h0
  simp only [Bool.and_eq_true, decide_eq_true_eq] at h1 h0
  exact ⟨tp_vi hi (by omega), fun z => ⟨tp_vi hi (by omega), fun z2 => h1 ⟨z, z2⟩, fun z2 => h0 (fun q => z2 q.2)⟩, fun z => h0 (fun q => z q.1)⟩
theorem sp_37 {σ : tp_St} {t y : Int32} {nS : Nat} (hn : σ.1 4 4 = nI nS) (hs : nS ≤ 200) : tp_val 37 [.ref 4, .int t, .int y, .null, .null] σ (nI (wb_c σ t y nS)) := by
  intro post hp
  refine sg_37_0 _ _ ?_
  refine tp_up_loop (E := fun i => tp_E 37 5 [.ref 4, .int t, .int y, .int (nI (wb_c σ t y i)), .int (nI i)] [] σ post) (n := nS) (fun i hi g => ?_) ?_ 0 (Nat.zero_le _)
  · refine sg_37_5 _ _ _ _ ?_
    rw [hn]
    simp only [nI_1]
    unfold wb_c at g
    refine ⟨fun z => absurd z (tp_nle hi (by omega)), fun _ => tp_if (sp_40 (by omega)) (fun z => ?_) (fun z => ?_)⟩
    · rw [if_pos z] at g; exact g
    · rw [if_neg z] at g; exact g
  · refine sg_37_5 _ _ _ _ ?_
    rw [hn]
    exact ⟨fun _ => hp, fun z => absurd (tp_le.mpr (Int.le_refl _)) z⟩
def tp_ox (b : Option Nat) : Int32 := match b with
  | none => -1
  | some j => nI j
theorem sp_38 {σ : tp_St} {t y : Int32} {nS : Nat} (hn : σ.1 4 4 = nI nS) (hs : nS ≤ 200) : tp_val 38 [.ref 4, .int t, .int y, .null] σ (tp_ox (wb_f σ t y nS)) := by
  intro post hp
  refine sg_38_0 _ _ ?_
  refine tp_up_loop (E := fun i => wb_f σ t y i = none → tp_E 38 2 [.ref 4, .int t, .int y, .int (nI i)] [] σ post) (n := nS) (fun i hi g hno => ?_) (fun hno => ?_) 0 (Nat.zero_le _) rfl
  · refine sg_38_2 _ _ _ ?_
    rw [hn]
    simp only [nI_1]
    have e : wb_f σ t y (i + 1) = if wb_p σ t y i = true then some i else none := by
      conv => lhs; unfold wb_f
      rw [hno]
    refine ⟨fun z => absurd z (tp_nle hi (by omega)), fun _ => tp_if (sp_40 (by omega)) (fun z => ?_) (fun z => g ?_)⟩
    · rw [if_pos z] at e
      have := wb_f_stay e (nS - (i + 1))
      rw [show i + 1 + (nS - (i + 1)) = nS by omega] at this
      rw [this] at hp
      exact hp
    · rw [if_neg z] at e; exact e
  · refine sg_38_2 _ _ _ ?_
    rw [hn]
    rw [hno] at hp
    exact ⟨fun _ => hp, fun z => absurd (tp_le.mpr (Int.le_refl _)) z⟩
theorem tp_m1 {x : Int32} : x + (-1) = x - 1 := (Int32.sub_eq_add_neg x 1).symm
theorem tp_neg1 : (nI 0 - 1 : Int32) = -1 := by decide
theorem sp_39 {σ : tp_St} {t y : Int32} {nS : Nat} (hn : σ.1 4 4 = nI nS) (hs : nS ≤ 200) : tp_val 39 [.ref 4, .int t, .int y, .null] σ (tp_ox (wb_l σ t y nS)) := by
  intro post hp
  refine sg_39_0 _ _ ?_
  rw [hn]
  have key : ∀ n, n ≤ nS → post (tp_ox (wb_l σ t y n)) σ → tp_E 39 7 [.ref 4, .int t, .int y, .int (nI n - 1)] [] σ post := by
    intro n
    induction n with
    | zero =>
      intro _ h
      refine sg_39_7 _ _ _ ?_
      rw [tp_neg1]
      exact ⟨fun _ => h, fun z => absurd (by decide) z⟩
    | succ n ih =>
      intro hle h
      refine sg_39_7 _ _ _ ?_
      rw [nI_pred, tp_m1]
      unfold wb_l at h
      refine ⟨fun z => absurd z (by rw [tp_lt, tp_t (by omega)]; show ¬ (n : Int) < 0; omega), fun _ => tp_if (sp_40 (by omega)) (fun z => ?_) (fun z => ih (by omega) ?_)⟩
      · rw [if_pos z] at h; exact h
      · rw [if_neg z] at h; exact h
  exact key nS (Nat.le_refl _) hp
def tp_oy (σ : tp_St) (b : Option Nat) : Int32 := match b with
  | none => -4
  | some j => σ.1 18 j
theorem op_waybill {σ : tp_St} {a b w : Int32} (h : RR_all σ) : tp_E 71 0 [.ref 0, .int a, .int b, .int w, .null] [] σ (tp_Res 117 [.ref 58, .int a, .int b, .int w, .null, .null, .null, .null]) := by
  obtain ⟨nT, nR, nS, nB, nD, hT, hP, hR, hS, hH, hA, hL, hD, hK⟩ := id h
  obtain ⟨t1, t2, t3, t4⟩ := id hT
  obtain ⟨r1, r2, r3, r4⟩ := id hR
  obtain ⟨s1, s2, s3, s4⟩ := id hS
  have bad : (¬ (0 ≤ a.toInt ∧ a.toInt < nR) ∨ ¬ (0 ≤ b.toInt ∧ b.toInt < nT) ∨ ¬ (0 ≤ w.toInt ∧ w.toInt ≤ 2)) → tp_Res 117 [.ref 58, .int a, .int b, .int w, .null, .null, .null, .null] (-1) σ := fun hb =>
    sg_117_0 _ _ _ (tp_if (sp_107 r3 (by omega)) (fun p1 => tp_if (sp_101 tp_i64 (l := 0) rfl (h := (nT : Int) - 1) (by rw [tp_i64, t3, tp_pred (by omega)])) (fun p2 => tp_if (sp_101 tp_i64 (l := 0) rfl (h := 2) rfl) (fun p3 => by omega) (fun p3 => ⟨rfl, h⟩)) (fun p2 => ⟨rfl, h⟩)) (fun p1 => ⟨rfl, h⟩))
  refine sg_71_0 _ _ _ (tp_if (sp_53 r2 (by omega)) (fun q1 => tp_if (sp_59 t2 (by omega)) (fun q2 => tp_if (sp_91 (l := 0) rfl (h := 2) rfl) (fun q3 => bad (by omega)) (fun q3 => ?_)) (fun q2 => bad (by omega))) (fun q1 => bad (by omega)))
  have model : ∀ r, (w = 0 → r = nI (wb_c σ a b nS)) → (¬ w = 0 → w = 1 → r = tp_oy σ (wb_f σ a b nS)) → (¬ w = 0 → ¬ w = 1 → r = tp_oy σ (wb_l σ a b nS)) → tp_Res 117 [.ref 58, .int a, .int b, .int w, .null, .null, .null, .null] r σ := fun r e1 e2 e3 => by
    refine sg_117_0 _ _ _ (tp_if (sp_107 r3 (by omega)) (fun p1 => tp_if (sp_101 tp_i64 (l := 0) rfl (h := (nT : Int) - 1) (by rw [tp_i64, t3, tp_pred (by omega)])) (fun p2 => tp_if (sp_101 tp_i64 (l := 0) rfl (h := 2) rfl) (fun p3 => ?_) (fun p3 => by omega)) (fun p2 => by omega)) (fun p1 => absurd q1 p1))
    refine tp_up_loop (E := fun i => tp_E 117 52 [.ref 58, .int a, .int b, .int w, .int (nI (wb_c σ a b i)), .int (tp_oy σ (wb_f σ a b i)), .int (tp_oy σ (wb_l σ a b i)), .int (nI i)] [] σ _) (n := nS) (fun i hi g => ?_) ?_ 0 (Nat.zero_le _)
    · refine sg_117_52 _ _ _ _ _ _ _ ?_
      obtain ⟨⟨u, u1, u2, u3, u4⟩, ⟨y, y1, y2, y3⟩, e69, -⟩ := s4 i hi
      have hc := wb_c_le (σ := σ) (t := a) (y := b) i
      rw [tp_c (show i < 1000000 by omega), s3, u3, y3, e69]
      simp only [nI_1]
      have hv := tp_vi (show i < 200 by omega) (by omega)
      have hp : wb_p σ a b i = true ↔ (nI u = a ∧ nI y = b) := by
        unfold wb_p
        rw [u2, y2]
        simp
      unfold wb_c wb_f wb_l at g
      refine ⟨fun z => absurd z (tp_nle hi (by omega)), fun _ => ⟨hv, fun z => ⟨hv, fun z2 => ?_, fun z2 => ?_⟩, fun z => ?_⟩⟩
      · have hp1 : wb_p σ a b i = true := hp.mpr ⟨z, z2⟩
        rw [if_pos hp1, if_pos hp1] at g
        refine ⟨fun z3 => ⟨hv, hv, ?_⟩, fun z3 => ⟨hv, ?_⟩⟩
        · have z4 : wb_f σ a b i = none := (wb_c0 i).mp (by rw [tp_eq, tp_t (by omega)] at z3; have : (wb_c σ a b i : Int) = 0 := z3; omega)
          rw [z4] at g
          dsimp only at g
          rw [if_pos hp1] at g
          exact g
        · have z4 : ¬ wb_f σ a b i = none := fun z4 => z3 (by rw [(wb_c0 i).mpr z4]; rfl)
          cases e : wb_f σ a b i with
          | none => exact absurd e z4
          | some j => rw [e] at g; dsimp only at g; first | exact g | (rw [if_pos hp1] at g; exact g)
      · have hp1 : ¬ wb_p σ a b i = true := fun q => z2 (hp.mp q).2
        rw [if_neg hp1, if_neg hp1] at g
        cases e : wb_f σ a b i with
        | none => rw [e] at g; dsimp only at g; rw [if_neg hp1] at g; exact g
        | some j => rw [e] at g; dsimp only at g; first | exact g | (rw [if_neg hp1] at g; exact g)
      · have hp1 : ¬ wb_p σ a b i = true := fun q => z (hp.mp q).1
        rw [if_neg hp1, if_neg hp1] at g
        cases e : wb_f σ a b i with
        | none => rw [e] at g; dsimp only at g; rw [if_neg hp1] at g; exact g
        | some j => rw [e] at g; dsimp only at g; first | exact g | (rw [if_neg hp1] at g; exact g)
    · refine sg_117_52 _ _ _ _ _ _ _ ?_
      rw [s3]
      exact ⟨fun _ => ⟨fun z => ⟨e1 z, h⟩, fun z => ⟨fun z2 => ⟨e2 z z2, h⟩, fun z2 => ⟨e3 z z2, h⟩⟩⟩, fun z => absurd (tp_le.mpr (Int.le_refl _)) z⟩
  refine ⟨fun z => sp_37 s2 s1 _ (model _ (fun _ => rfl) (fun z2 => absurd z z2) (fun z2 => absurd z z2)), fun z => ⟨fun z2 => sp_38 s2 s1 _ ?_, fun z2 => sp_39 s2 s1 _ ?_⟩⟩
  · cases e : wb_f σ a b nS with
    | none => exact ⟨fun z3 => absurd z3 (by decide), fun _ => model _ (fun z3 => absurd z3 z) (fun _ _ => by rw [e]; rfl) (fun _ z3 => absurd z2 z3)⟩
    | some j =>
      have hj := wb_f_lt e
      simp only [tp_ox]
      rw [tp_c (show j < 1000000 by omega)]
      exact ⟨fun _ => ⟨tp_vi (by omega) (by omega), model _ (fun z3 => absurd z3 z) (fun _ _ => by rw [e]; rfl) (fun _ z3 => absurd z2 z3)⟩, fun z3 => absurd (by rw [tp_le, tp_t (by omega)]; show (0 : Int) ≤ j; omega) z3⟩
  · cases e : wb_l σ a b nS with
    | none => exact ⟨fun z3 => absurd z3 (by decide), fun _ => model _ (fun z3 => absurd z3 z) (fun _ z3 => absurd z3 z2) (fun _ _ => by rw [e]; rfl)⟩
    | some j =>
      have hj := wb_l_lt e
      simp only [tp_ox]
      rw [tp_c (show j < 1000000 by omega)]
      exact ⟨fun _ => ⟨tp_vi (by omega) (by omega), model _ (fun z3 => absurd z3 z) (fun _ z3 => absurd z3 z2) (fun _ _ => by rw [e]; rfl)⟩, fun z3 => absurd (by rw [tp_le, tp_t (by omega)]; show (0 : Int) ≤ j; omega) z3⟩
end
section
/-! who is aboard -/
def ct (p : Nat → Bool) : Nat → Nat
  | 0 => 0
  | n + 1 => if p n = true then ct p n + 1 else ct p n
theorem ct_le {p : Nat → Bool} : ∀ n, ct p n ≤ n
  | 0 => Nat.le_refl _
  | n + 1 => by
    unfold ct
    have := ct_le (p := p) n
    split <;> omega
def sm (f : Nat → Nat) : Nat → Nat
  | 0 => 0
  | n + 1 => sm f n + f n
theorem sm_add {f g : Nat → Nat} : ∀ n, sm (fun r => f r + g r) n = sm f n + sm g n
  | 0 => rfl
  | n + 1 => by
    unfold sm
    rw [sm_add n]
    omega
theorem sm_congr {f g : Nat → Nat} : ∀ {n}, (∀ r, r < n → f r = g r) → sm f n = sm g n
  | 0, _ => rfl
  | n + 1, h => by
    unfold sm
    rw [sm_congr (n := n) (fun r hr => h r (by omega)), h n (by omega)]
theorem sm_one {q : Bool} {t : Nat} : ∀ m, sm (fun r => if r = t ∧ q = true then 1 else 0) m = if t < m ∧ q = true then 1 else 0
  | 0 => by unfold sm; rw [if_neg (by omega)]
  | m + 1 => by
    unfold sm
    rw [sm_one m]
    cases q with
    | false => simp
    | true =>
      by_cases h : t < m
      · rw [if_pos ⟨h, rfl⟩, if_neg (by omega), if_pos ⟨by omega, rfl⟩]
      · by_cases h2 : m = t
        · rw [if_neg (fun z => h z.1), if_pos ⟨h2, rfl⟩, if_pos ⟨by omega, rfl⟩]
        · rw [if_neg (fun z => h z.1), if_neg (fun z => h2 z.1), if_neg (fun z => by omega)]
theorem sm_ct {q : Nat → Bool} {tr : Nat → Nat} {p : Nat → Bool} {m : Nat} : ∀ {n}, (∀ k, k < n → tr k < m) → sm (fun r => if q r = true then ct (fun k => decide (tr k = r) && p k) n else 0) m = ct (fun k => q (tr k) && p k) n
  | 0, _ => by
    unfold ct
    have : ∀ m, sm (fun r => if q r = true then (0 : Nat) else 0) m = 0 := by
      intro m
      induction m with
      | zero => rfl
      | succ m ih => unfold sm; rw [ih]; split <;> rfl
    exact this m
  | n + 1, h => by
    have ih := sm_ct (q := q) (tr := tr) (p := p) (m := m) (n := n) (fun k hk => h k (by omega))
    have e : sm (fun r => if q r = true then ct (fun k => decide (tr k = r) && p k) (n + 1) else 0) m = sm (fun r => (if q r = true then ct (fun k => decide (tr k = r) && p k) n else 0) + (if r = tr n ∧ (q (tr n) && p n) = true then 1 else 0)) m := by
      refine sm_congr (fun r _ => ?_)
      conv => lhs; unfold ct
      by_cases hq : q r = true
      · rw [if_pos hq, if_pos hq]
        by_cases hr : r = tr n
        · subst hr
          rw [hq]
          cases p n <;> simp
        · simp [hr, show ¬ tr n = r from fun z => hr z.symm]
      · rw [if_neg hq, if_neg hq]
        by_cases hr : r = tr n
        · subst hr
          simp [hq]
        · rw [if_neg (fun z => hr z.1)]
    rw [e, sm_add, ih, sm_one]
    conv => rhs; unfold ct
    have := h n (by omega)
    by_cases hq : (q (tr n) && p n) = true
    · rw [if_pos ⟨this, hq⟩, if_pos hq]
    · rw [if_neg (fun z => hq z.2), if_neg hq]; rfl
def ab_b (σ : tp_St) (t : Nat) (s : Int32) : Int32 := if σ.1 13 t = 0 then 8 - s else s
abbrev ab_g (σ : tp_St) (k : Nat) (b : Int32) : Prop := σ.1 17 k ≤ b ∧ b < σ.1 17 k + σ.1 9 (σ.1 16 k).toNatClampNeg
def ab_p (σ : tp_St) (s w : Int32) (k : Nat) : Bool := if w = 0 then decide (σ.1 17 k = ab_b σ (σ.1 15 k).toNatClampNeg s) else decide (ab_g σ k (ab_b σ (σ.1 15 k).toNatClampNeg s))
def ab_c (σ : tp_St) (t s w : Int32) (n : Nat) : Nat := ct (fun k => decide (σ.1 15 k = t) && ab_p σ s w k) n
theorem sp_58 {σ : tp_St} {t : Nat} {s : Int32} (ht : t < 16) : tp_val 58 [.ref 3, .int (nI t), .int s] σ (ab_b σ t s) := by
  intro post hp
  refine sg_58_0 _ _ ?_
  rw [tp_c (show t < 1000000 by omega)]
  unfold ab_b at hp
  refine ⟨tp_vi ht (by omega), fun z => ?_, fun z => ?_⟩
  · rw [if_pos z] at hp; exact hp
  · rw [if_neg z] at hp; exact hp
theorem sp_96 {σ : tp_St} {k nT nR nS : Nat} {b : Int32} (hT : RT σ nT) (hS : RS σ nT nR nS) (hk : k < nS) : tp_bool 96 [.ref 0, .int (nI k), .int b, .null] σ (ab_g σ k b) := by
  intro post h1 h0
  obtain ⟨-, ⟨y, y1, y2, y3⟩, -⟩ := hS.2.2.2 k hk
  have := hT.1
  have := hS.1
  unfold ab_g at h1 h0
  refine sg_96_0 _ _ ?_
  rw [tp_c (show k < 1000000 by omega)]
  refine ⟨tp_vi (by omega) (by omega), fun z => h0 (fun z2 => ?_), fun z => ⟨tp_vi (by omega) (by omega), by rw [y2]; exact tp_vi (by omega) (by omega), fun z2 => h0 (fun z3 => ?_), fun z2 => h1 ?_⟩⟩
  · rw [tp_lt] at z; have := z2.1; rw [tp_le] at this; omega
  · rw [tp_le] at z2; have := z3.2; rw [tp_lt] at this; omega
  · rw [tp_lt] at z; rw [tp_le] at z2; rw [tp_le, tp_lt]; omega
theorem tp_nb0 : narrow .boolean (.int 0) = .int 0 := by decide +kernel
theorem tp_nb1 : narrow .boolean (.int 1) = .int 1 := by decide +kernel
theorem sp_95 {σ : tp_St} {k nT nR nS : Nat} {s w : Int32} (hT : RT σ nT) (hR : RR σ nR) (hS : RS σ nT nR nS) (hk : k < nS) : tp_bool 95 [.ref 0, .int (nI k), .int s, .int w, .null] σ (ab_p σ s w k = true) := by
  intro post h1 h0
  obtain ⟨⟨u, u1, u2, u3, u4⟩, -⟩ := hS.2.2.2 k hk
  have := hR.1
  have := hS.1
  refine sg_95_0 _ _ _ ?_
  unfold ab_p at h1 h0
  rw [tp_c (show k < 1000000 by omega), u2]
  rw [u2, tp_c (show u < 1000000 by omega)] at h1 h0
  refine ⟨tp_vi (by omega) (by omega), sp_58 (by omega) _ ⟨fun z => ?_, fun z => ?_⟩⟩
  · rw [if_pos z] at h1 h0
    exact ⟨tp_vi (by omega) (by omega), fun z2 => h1 (by simpa using z2), fun z2 => h0 (by simpa using z2)⟩
  · rw [if_neg z] at h1 h0
    exact sp_96 hT hS hk _ (fun z2 => ⟨tp_nb1, h1 (by simpa using z2)⟩) (fun z2 => ⟨tp_nb0, h0 (by simpa using z2)⟩)
theorem sp_94 {σ : tp_St} {nT nR nS : Nat} {t s w : Int32} (hT : RT σ nT) (hR : RR σ nR) (hS : RS σ nT nR nS) : tp_val 94 [.ref 0, .int t, .int s, .int w, .null, .null] σ (nI (ab_c σ t s w nS)) := by
  intro post hp
  have := hS.1
  refine sg_94_0 _ _ _ ?_
  refine tp_up_loop (E := fun i => tp_E 94 6 [.ref 0, .int t, .int s, .int w, .int (nI (ab_c σ t s w i)), .int (nI i)] [] σ post) (n := nS) (fun i hi g => ?_) ?_ 0 (Nat.zero_le _)
  · refine sg_94_6 _ _ _ _ _ ?_
    unfold ab_c at g ⊢
    rw [tp_c (show i < 1000000 by omega), hS.2.1]
    simp only [nI_1]
    conv at g => unfold ct
    refine ⟨fun z => absurd z (tp_nle hi (by omega)), fun _ => ⟨tp_vi (by omega) (by omega), fun z => tp_if (sp_95 hT hR hS hi) (fun z2 => ?_) (fun z2 => ?_), fun z => ?_⟩⟩
    · rw [if_pos (by simp [z, z2])] at g; exact g
    · rw [if_neg (by simp [z, z2])] at g; exact g
    · rw [if_neg (by simp [z])] at g; exact g
  · refine sg_94_6 _ _ _ _ _ ?_
    rw [hS.2.1]
    exact ⟨fun _ => hp, fun z => absurd (tp_le.mpr (Int.le_refl _)) z⟩
theorem sp_120 {σ : tp_St} {t nR : Nat} {s : Int32} (hR : RR σ nR) (ht : t < nR) : tp_val 120 [.ref 58, .int (nI t), .int s] σ (ab_b σ t s) := by
  intro post hp
  obtain ⟨r1, r2, r3, r4⟩ := hR
  refine sg_120_0 _ _ ?_
  rw [tp_c (show t < 1000000 by omega), (r4 t ht).2.1]
  unfold ab_b at hp
  refine ⟨tp_vi (by omega) (by omega), fun z => ?_, fun z => ?_⟩
  · rw [if_pos z] at hp; exact hp
  · rw [if_neg z] at hp; exact hp
theorem sp_110 {σ : tp_St} {t nR : Nat} {s : Int32} (hR : RR σ nR) (ht : t < nR) : tp_val 110 [.ref 58, .int (nI t), .int s] σ (if σ.1 13 t = 0 then 9 - s else s) := by
  intro post hp
  obtain ⟨r1, r2, r3, r4⟩ := hR
  refine sg_110_0 _ _ ?_
  rw [tp_c (show t < 1000000 by omega), (r4 t ht).2.1]
  refine ⟨tp_vi (by omega) (by omega), fun z => ?_, fun z => ?_⟩
  · rw [if_pos z] at hp; exact hp
  · rw [if_neg z] at hp; exact hp
theorem sp_121 {σ : tp_St} {t nT nR nS : Nat} {s w : Int32} (hT : RT σ nT) (hR : RR σ nR) (hS : RS σ nT nR nS) (ht : t < nR) : tp_val 121 [.ref 58, .int (nI t), .int s, .int w, .null, .null, .null, .null] σ (nI (ab_c σ (nI t) s w nS)) := by
  intro post hp
  have := hR.1
  have := hS.1
  have := hT.1
  refine sg_121_0 _ _ _ (sp_120 hR ht _ ?_)
  refine tp_up_loop (E := fun i => tp_E 121 14 [.ref 58, .int (nI t), .null, .int w, .int (ab_b σ t s), .int (nI (ab_c σ (nI t) s w i)), .int (nI i), .null] [] σ post) (n := nS) (fun i hi g => ?_) ?_ 0 (Nat.zero_le _)
  · obtain ⟨⟨u, u1, u2, u3, u4⟩, ⟨y, y1, y2, y3⟩, -⟩ := hS.2.2.2 i hi
    refine sg_121_14 _ _ _ _ _ ?_
    unfold ab_c at g ⊢
    rw [tp_c (show i < 1000000 by omega), hS.2.2.1, u3]
    simp only [nI_1, Int32.add_zero]
    have hv := tp_vi (show i < 200 by omega) (by omega)
    conv at g => unfold ct
    rw [u2] at g
    refine ⟨fun z => absurd z (tp_nle hi (by omega)), fun _ => ⟨hv, fun z => ⟨hv, sp_110 hR ht _ ?_⟩, fun z => ?_⟩⟩
    · have zt : u = t := (tp_ne (by omega) (by omega)).mp z
      subst zt
      rw [← u4, y3, tp_c (show y < 1000000 by omega), (hT.2.2.2 y y1).2.1]
      have key : ab_p σ s w i = if w = 0 then decide (σ.1 17 i = ab_b σ u s) else decide (ab_g σ i (ab_b σ u s)) := by
        unfold ab_p
        rw [u2, tp_c (show u < 1000000 by omega)]
      refine ⟨fun z2 => ⟨fun z3 => ?_, fun z3 => ?_⟩, fun z2 => ⟨fun z3 => ?_, fun z3 => ⟨hv, tp_vi (by omega) (by omega), fun z4 => ?_, fun z4 => ?_⟩⟩⟩
      · rw [if_pos (by rw [key, if_pos z2]; simp [z3])] at g; exact g
      · rw [if_neg (by rw [key, if_pos z2]; simp [z3])] at g; exact g
      · rw [if_neg (by
          rw [key, if_neg z2]
          simp only [Bool.and_eq_true, decide_eq_true_eq]
          intro q
          have q1 := q.2.1
          rw [tp_lt] at z3; rw [tp_le] at q1; omega)] at g
        exact g
      · rw [if_neg (by
          rw [key, if_neg z2]
          simp only [Bool.and_eq_true, decide_eq_true_eq]
          intro q
          have q1 := q.2.2
          rw [y2, tp_c (show y < 1000000 by omega)] at q1
          rw [tp_le] at z4; rw [tp_lt] at q1; omega)] at g
        exact g
      · rw [if_pos (by
          rw [key, if_neg z2]
          simp only [Bool.and_eq_true, decide_eq_true_eq]
          refine ⟨trivial, ?_⟩
          unfold ab_g
          rw [y2, tp_c (show y < 1000000 by omega)]
          rw [tp_le] at z4; rw [tp_lt] at z3; rw [tp_le, tp_lt]; omega)] at g
        exact g
    · rw [if_neg (by simp [z])] at g; exact g
  · refine sg_121_14 _ _ _ _ _ ?_
    rw [hS.2.2.1]
    exact ⟨fun _ => hp, fun z => absurd (tp_le.mpr (Int.le_refl _)) z⟩
theorem tp_01 {w : Int32} (h : 0 ≤ w.toInt ∧ w.toInt ≤ 1) : w = 0 ∨ w = 1 := by
  by_cases e : w.toInt = 0
  · exact Or.inl (tp_eq.mpr e)
  · exact Or.inr (tp_eq.mpr (show w.toInt = 1 by omega))
theorem op_aboard {σ : tp_St} {a s w : Int32} (h : RR_all σ) : tp_E 74 0 [.ref 0, .int a, .int s, .int w] [] σ (tp_Res 122 [.ref 58, .int a, .int s, .int w]) := by
  obtain ⟨nT, nR, nS, nB, nD, hT, hP, hR, hS, hH, hA, hL, hD, hK⟩ := id h
  obtain ⟨r1, r2, r3, r4⟩ := id hR
  have bad : (¬ (0 ≤ a.toInt ∧ a.toInt < nR) ∨ ¬ (0 ≤ s.toInt ∧ s.toInt ≤ 8) ∨ ¬ (0 ≤ w.toInt ∧ w.toInt ≤ 1)) → tp_Res 122 [.ref 58, .int a, .int s, .int w] (-1) σ := fun hb =>
    sg_122_0 _ _ _ (tp_if (sp_107 r3 (by omega)) (fun p1 => tp_if (sp_101 tp_i64 (l := 0) rfl (h := 8) rfl) (fun p2 => tp_if (sp_101 tp_i64 (l := 0) rfl (h := 1) rfl) (fun p3 => by omega) (fun p3 => ⟨rfl, h⟩)) (fun p2 => ⟨rfl, h⟩)) (fun p1 => ⟨rfl, h⟩))
  refine sg_74_0 _ _ _ (tp_if (sp_53 r2 (by omega)) (fun q1 => tp_if (sp_91 (l := 0) rfl (h := 8) rfl) (fun q2 => bad (by omega)) (fun q2 => tp_if (sp_91 (l := 0) rfl (h := 1) rfl) (fun q3 => bad (by omega)) (fun q3 => ?_))) (fun q1 => bad (by omega)))
  obtain ⟨t, ht, rfl⟩ := tp_rg_nI (x := a) (hi := nR - 1) ⟨q1.1, by omega⟩ (by omega)
  have htR : t < nR := by have := q1.2; rw [tp_t (by omega)] at this; omega
  refine sp_94 hT hR hS _ ?_
  refine sg_122_0 _ _ _ (tp_if (sp_107 r3 (by omega)) (fun p1 => tp_if (sp_101 tp_i64 (l := 0) rfl (h := 8) rfl) (fun p2 => tp_if (sp_101 tp_i64 (l := 0) rfl (h := 1) rfl) (fun p3 => ?_) (fun p3 => by omega)) (fun p2 => by omega)) (fun p1 => absurd q1 p1))
  rcases tp_01 p3 with hw | hw
  · rw [hw]
    exact ⟨fun z => absurd z (by decide), fun _ => sp_121 hT hR hS htR _ ⟨rfl, h⟩⟩
  · rw [hw]
    exact ⟨fun _ => sp_121 hT hR hS htR _ ⟨rfl, h⟩, fun z => absurd rfl z⟩
theorem op_heads {σ : tp_St} {a s w : Int32} (h : RR_all σ) : tp_E 77 0 [.ref 0, .int a, .int s, .int w, .null, .null] [] σ (tp_Res 125 [.ref 58, .int a, .int s, .int w, .null, .null]) := by
  obtain ⟨nT, nR, nS, nB, nD, hT, hP, hR, hS, hH, hA, hL, hD, hK⟩ := id h
  obtain ⟨r1, r2, r3, r4⟩ := id hR
  have bad : (¬ (0 ≤ a.toInt ∧ a.toInt < nR) ∨ ¬ (0 ≤ s.toInt ∧ s.toInt ≤ 8) ∨ ¬ (0 ≤ w.toInt ∧ w.toInt ≤ 1000)) → tp_Res 125 [.ref 58, .int a, .int s, .int w, .null, .null] (-1000000) σ := fun hb =>
    sg_125_0 _ _ _ (tp_if (sp_107 r3 (by omega)) (fun p1 => tp_if (sp_101 tp_i64 (l := 0) rfl (h := 8) rfl) (fun p2 => tp_if (sp_101 tp_i64 (l := 0) rfl (h := 1000) rfl) (fun p3 => by omega) (fun p3 => ⟨rfl, h⟩)) (fun p2 => ⟨rfl, h⟩)) (fun p1 => ⟨rfl, h⟩))
  refine sg_77_0 _ _ _ (tp_if (sp_53 r2 (by omega)) (fun q1 => tp_if (sp_91 (l := 0) rfl (h := 8) rfl) (fun q2 => bad (by omega)) (fun q2 => tp_if (sp_91 (l := 0) rfl (h := 1000) rfl) (fun q3 => bad (by omega)) (fun q3 => ?_))) (fun q1 => bad (by omega)))
  obtain ⟨t, ht, rfl⟩ := tp_rg_nI (x := a) (hi := nR - 1) ⟨q1.1, by omega⟩ (by omega)
  have htR : t < nR := by have := q1.2; rw [tp_t (by omega)] at this; omega
  have model : ∀ r, (w ≤ nI (ab_c σ (nI t) s 1 nS) → nI (ab_c σ (nI t) s 0 nS) ≤ w → r = 0) → (w ≤ nI (ab_c σ (nI t) s 1 nS) → ¬ nI (ab_c σ (nI t) s 0 nS) ≤ w → r = w - nI (ab_c σ (nI t) s 0 nS)) → (¬ w ≤ nI (ab_c σ (nI t) s 1 nS) → r = w - nI (ab_c σ (nI t) s 1 nS)) → tp_Res 125 [.ref 58, .int (nI t), .int s, .int w, .null, .null] r σ := fun r e1 e2 e3 => by
    refine sg_125_0 _ _ _ (tp_if (sp_107 r3 (by omega)) (fun p1 => tp_if (sp_101 tp_i64 (l := 0) rfl (h := 8) rfl) (fun p2 => tp_if (sp_101 tp_i64 (l := 0) rfl (h := 1000) rfl) (fun p3 => ?_) (fun p3 => by omega)) (fun p2 => by omega)) (fun p1 => absurd q1 p1))
    refine sp_121 hT hR hS htR _ (sp_121 hT hR hS htR _ ?_)
    exact ⟨fun z => ⟨fun z2 => ⟨e1 z z2, h⟩, fun z2 => ⟨e2 z z2, h⟩⟩, fun z => ⟨e3 z, h⟩⟩
  refine sp_94 hT hR hS _ ⟨fun z => sp_94 hT hR hS _ ⟨fun z2 => ?_, fun z2 => ?_⟩, fun z => ?_⟩
  · exact model _ (fun _ _ => rfl) (fun _ y => absurd z2 y) (fun y => absurd z y)
  · exact model _ (fun _ y => absurd y z2) (fun _ _ => rfl) (fun y => absurd z y)
  · exact model _ (fun y => absurd y z) (fun y => absurd y z) (fun _ => rfl)
theorem op_riders {σ : tp_St} {a s w : Int32} (h : RR_all σ) : tp_E 75 0 [.ref 0, .int a, .int s, .int w, .null, .null] [] σ (tp_Res 123 [.ref 58, .int a, .int s, .int w, .null, .null]) := by
  obtain ⟨nT, nR, nS, nB, nD, hT, hP, hR, hS, hH, hA, hL, hD, hK⟩ := id h
  obtain ⟨r1, r2, r3, r4⟩ := id hR
  have hs200 := hS.1
  have bad : (¬ (0 ≤ s.toInt ∧ s.toInt ≤ 8) ∨ ¬ (0 ≤ w.toInt ∧ w.toInt ≤ 1)) → tp_Res 123 [.ref 58, .int a, .int s, .int w, .null, .null] (-1) σ := fun hb =>
    sg_123_0 _ _ _ (tp_if (sp_101 tp_i64 (l := 0) rfl (h := 8) rfl) (fun p2 => tp_if (sp_101 tp_i64 (l := 0) rfl (h := 1) rfl) (fun p3 => by omega) (fun p3 => ⟨rfl, h⟩)) (fun p2 => ⟨rfl, h⟩))
  refine sg_75_0 _ _ _ (tp_if (sp_91 (l := 0) rfl (h := 8) rfl) (fun q2 => bad (by omega)) (fun q2 => tp_if (sp_91 (l := 0) rfl (h := 1) rfl) (fun q3 => bad (by omega)) (fun q3 => ?_)))
  refine tp_up_loop (E := fun i => tp_E 75 27 [.ref 0, .int a, .int s, .int w, .int (nI (ct (fun k => decide (σ.1 13 (σ.1 15 k).toNatClampNeg = a) && ab_p σ s w k) i)), .int (nI i)] [] σ _) (n := nS) (fun i hi g => ?_) ?_ 0 (Nat.zero_le _)
  · obtain ⟨⟨u, u1, u2, u3, u4⟩, -⟩ := hS.2.2.2 i hi
    refine sg_75_27 _ _ _ _ _ ?_
    rw [tp_c (show i < 1000000 by omega), hS.2.1]
    simp only [nI_1]
    conv at g => unfold ct
    refine ⟨fun z => absurd z (tp_nle hi (by omega)), fun _ => ⟨tp_vi (by omega) (by omega), by rw [u2]; exact tp_vi (by omega) (by omega), fun z => tp_if (sp_95 hT hR hS hi) (fun z2 => ?_) (fun z2 => ?_), fun z => ?_⟩⟩
    · rw [if_pos (by simp [z, z2])] at g; exact g
    · rw [if_neg (by simp [z, z2])] at g; exact g
    · rw [if_neg (by simp [z])] at g; exact g
  · refine sg_75_27 _ _ _ _ _ ?_
    rw [hS.2.1]
    refine ⟨fun _ => ?_, fun z => absurd (tp_le.mpr (Int.le_refl _)) z⟩
    refine sg_123_0 _ _ _ (tp_if (sp_101 tp_i64 (l := 0) rfl (h := 8) rfl) (fun p2 => tp_if (sp_101 tp_i64 (l := 0) rfl (h := 1) rfl) (fun p3 => ?_) (fun p3 => by omega)) (fun p2 => by omega))
    have hsum : sm (fun r => if decide (σ.1 13 r = a) = true then ab_c σ (nI r) s w nS else 0) nR = ct (fun k => decide (σ.1 13 (σ.1 15 k).toNatClampNeg = a) && ab_p σ s w k) nS := by
      have hlt : ∀ k, k < nS → (σ.1 15 k).toNatClampNeg < nR := fun k hk => by
        obtain ⟨⟨u, u1, u2, -⟩, -⟩ := hS.2.2.2 k hk
        rw [u2, tp_c (by omega)]; exact u1
      rw [← sm_ct (q := fun r => decide (σ.1 13 r = a)) (tr := fun k => (σ.1 15 k).toNatClampNeg) (p := fun k => ab_p σ s w k) (m := nR) (n := nS) hlt]
      refine sm_congr (fun r hr => ?_)
      have e : ∀ n, n ≤ nS → ab_c σ (nI r) s w n = ct (fun k => decide ((σ.1 15 k).toNatClampNeg = r) && ab_p σ s w k) n := by
        intro n
        unfold ab_c
        induction n with
        | zero => intro _; rfl
        | succ n ih =>
          intro hn
          obtain ⟨⟨u, u1, u2, -⟩, -⟩ := hS.2.2.2 n (by omega)
          unfold ct
          rw [ih (by omega), u2, tp_c (show u < 1000000 by omega)]
          have : decide (nI u = nI r) = decide (u = r) := by
            by_cases e : u = r
            · simp [e]
            · simp [e, (tp_ne (show u < 1000000 by omega) (show r < 1000000 by omega))]
          rw [this]
      rw [e nS (Nat.le_refl _)]
    refine tp_up_loop (E := fun i => tp_E 123 30 [.ref 58, .int a, .int s, .int w, .int (nI (sm (fun r => if decide (σ.1 13 r = a) = true then ab_c σ (nI r) s w nS else 0) i)), .int (nI i)] [] σ _) (n := nR) (fun i hi g => ?_) ?_ 0 (Nat.zero_le _)
    · refine sg_123_30 _ _ _ _ _ ?_
      rw [tp_c (show i < 1000000 by omega), r3, (r4 i hi).2.1]
      simp only [nI_1, Int32.add_zero]
      conv at g => unfold sm
      have hcnt : ∀ w2, ab_c σ (nI i) s w2 nS ≤ nS := fun w2 => ct_le nS
      refine ⟨fun z => absurd z (tp_nle hi (by omega)), fun _ => ⟨tp_vi (by omega) (by omega), fun z => ⟨fun z2 => sp_121 hT hR hS hi _ ?_, fun z2 => sp_121 hT hR hS hi _ ?_⟩, fun z => ?_⟩⟩
      · rw [z2] at g ⊢
        rw [if_pos (decide_eq_true z)] at g
        rw [nI_add]
        exact g
      · have z3 : w = 0 := (tp_01 p3).resolve_right z2
        rw [z3] at g ⊢
        rw [if_pos (decide_eq_true z)] at g
        rw [nI_add]
        exact g
      · rw [if_neg (by simp [z])] at g; exact g
    · refine sg_123_30 _ _ _ _ _ ?_
      rw [r3, hsum]
      exact ⟨fun _ => ⟨rfl, h⟩, fun z => absurd (tp_le.mpr (Int.le_refl _)) z⟩
end
section
/-! a ticket shown -/
def fd_p (σ : tp_St) (y x : Int32) (k : Nat) : Bool := decide (σ.1 16 k = y) && decide (σ.1 18 k = x)
def fd (σ : tp_St) (y x : Int32) : Nat → Option Nat
  | 0 => none
  | n + 1 => match fd σ y x n with
    | some j => some j
    | none => if fd_p σ y x n = true then some n else none
theorem fd_lt {σ : tp_St} {y x : Int32} : ∀ {n j}, fd σ y x n = some j → j < n
  | 0, _, h => by cases h
  | n + 1, j, h => by
    unfold fd at h
    cases e : fd σ y x n with
    | some k =>
      rw [e] at h
      cases h
      have := fd_lt e
      omega
    | none =>
      rw [e] at h
      dsimp only at h
      split at h
      · cases h; omega
      · cases h
theorem fd_is {σ : tp_St} {y x : Int32} : ∀ {n j}, fd σ y x n = some j → fd_p σ y x j = true
  | 0, _, h => by cases h
  | n + 1, j, h => by
    unfold fd at h
    cases e : fd σ y x n with
    | some k =>
      rw [e] at h
      cases h
      exact fd_is e
    | none =>
      rw [e] at h
      dsimp only at h
      split at h
      · cases h; assumption
      · cases h
theorem fd_stay {σ : tp_St} {y x : Int32} {i j : Nat} (h : fd σ y x i = some j) : ∀ d, fd σ y x (i + d) = some j
  | 0 => h
  | d + 1 => by
    show fd σ y x (i + d + 1) = some j
    unfold fd
    rw [fd_stay h d]
theorem fd_step {σ : tp_St} {y x : Int32} {i : Nat} (h : fd σ y x i = none) : fd σ y x (i + 1) = if fd_p σ y x i = true then some i else none := by
  conv => lhs; unfold fd
  rw [h]
theorem sp_33 {σ : tp_St} {y x : Int32} {nS : Nat} (hn : σ.1 4 4 = nI nS) (hs : nS ≤ 200) : tp_val 33 [.ref 4, .int y, .int x, .null] σ (tp_ox (fd σ y x nS)) := by
  intro post hp
  refine sg_33_0 _ _ ?_
  refine tp_up_loop (E := fun i => fd σ y x i = none → tp_E 33 2 [.ref 4, .int y, .int x, .int (nI i)] [] σ post) (n := nS) (fun i hi g hno => ?_) (fun hno => ?_) 0 (Nat.zero_le _) rfl
  · refine sg_33_2 _ _ _ ?_
    rw [tp_c (show i < 1000000 by omega), hn]
    simp only [nI_1]
    have e := fd_step hno
    unfold fd_p at e
    refine ⟨fun z => absurd z (tp_nle hi (by omega)), fun _ => ⟨tp_vi (by omega) (by omega), fun z => ⟨tp_vi (by omega) (by omega), fun z2 => ?_, fun z2 => g ?_⟩, fun z => g ?_⟩⟩
    · rw [if_pos (by simp [z, z2])] at e
      have := fd_stay e (nS - (i + 1))
      rw [show i + 1 + (nS - (i + 1)) = nS by omega] at this
      rw [this] at hp
      exact hp
    · rw [if_neg (by simp [z2])] at e; exact e
    · rw [if_neg (by simp [z])] at e; exact e
  · refine sg_33_2 _ _ _ ?_
    rw [hn]
    rw [hno] at hp
    exact ⟨fun _ => hp, fun z => absurd (tp_le.mpr (Int.le_refl _)) z⟩
theorem op_shown {σ : tp_St} {a s y x : Int32} (h : RR_all σ) : tp_E 76 0 [.ref 0, .int a, .int s, .int y, .int x, .null, .null] [] σ (tp_Res 124 [.ref 58, .int a, .int s, .int y, .int x, .null, .null, .null]) := by
  obtain ⟨nT, nR, nS, nB, nD, hT, hP, hR, hS, hH, hA, hL, hD, hK⟩ := id h
  obtain ⟨r1, r2, r3, r4⟩ := id hR
  obtain ⟨t1, t2, t3, t4⟩ := id hT
  have hs200 := hS.1
  have bad : (¬ (0 ≤ a.toInt ∧ a.toInt < nR) ∨ ¬ (0 ≤ s.toInt ∧ s.toInt ≤ 8) ∨ ¬ (0 ≤ y.toInt ∧ y.toInt < nT) ∨ ¬ 0 ≤ x) → tp_Res 124 [.ref 58, .int a, .int s, .int y, .int x, .null, .null, .null] (-1) σ := fun hb =>
    sg_124_0 _ _ _ _ (tp_if (sp_107 r3 (by omega)) (fun p1 => tp_if (sp_101 tp_i64 (l := 0) rfl (h := 8) rfl) (fun p2 => tp_if (sp_101 tp_i64 (l := 0) rfl (h := (nT : Int) - 1) (by rw [tp_i64, t3, tp_pred (by omega)])) (fun p3 => ⟨fun z => by rcases hb with hb | hb | hb | hb <;> first | exact absurd z hb | omega, fun _ => ⟨rfl, h⟩⟩) (fun p3 => ⟨rfl, h⟩)) (fun p2 => ⟨rfl, h⟩)) (fun p1 => ⟨rfl, h⟩))
  refine sg_76_0 _ _ _ _ (tp_if (sp_53 r2 (by omega)) (fun q1 => tp_if (sp_91 (l := 0) rfl (h := 8) rfl) (fun q2 => bad (by omega)) (fun q2 => tp_if (sp_59 t2 (by omega)) (fun q3 => ⟨fun q4 => ?_, fun q4 => bad (Or.inr (Or.inr (Or.inr q4)))⟩) (fun q3 => bad (by omega)))) (fun q1 => bad (by omega)))
  obtain ⟨t, ht, rfl⟩ := tp_rg_nI (x := a) (hi := nR - 1) ⟨q1.1, by omega⟩ (by omega)
  have htR : t < nR := by have := q1.2; rw [tp_t (by omega)] at this; omega
  obtain ⟨v, hv, rfl⟩ := tp_rg_nI (x := y) (hi := nT - 1) ⟨q3.1, by omega⟩ (by omega)
  have hvT : v < nT := by have := q3.2; rw [tp_t (by omega)] at this; omega
  have model : ∀ r, (fd σ (nI v) x nS = none → r = 1) → (∀ j, fd σ (nI v) x nS = some j → (¬ σ.1 15 j = nI t → r = 2) ∧ (σ.1 15 j = nI t → (¬ σ.1 17 j ≤ ab_b σ t s → r = 3) ∧ (σ.1 17 j ≤ ab_b σ t s → (ab_b σ t s < σ.1 17 j + σ.1 9 v → r = 0) ∧ (¬ ab_b σ t s < σ.1 17 j + σ.1 9 v → r = 4)))) → tp_Res 124 [.ref 58, .int (nI t), .int s, .int (nI v), .int x, .null, .null, .null] r σ := fun r e1 e2 => by
    refine sg_124_0 _ _ _ _ (tp_if (sp_107 r3 (by omega)) (fun p1 => tp_if (sp_101 tp_i64 (l := 0) rfl (h := 8) rfl) (fun p2 => tp_if (sp_101 tp_i64 (l := 0) rfl (h := (nT : Int) - 1) (by rw [tp_i64, t3, tp_pred (by omega)])) (fun p3 => ⟨fun _ => ?_, fun z => absurd q4 z⟩) (fun p3 => by omega)) (fun p2 => by omega)) (fun p1 => absurd q1 p1))
    refine tp_up_loop (E := fun i => fd σ (nI v) x i = none → tp_E 124 46 [.ref 58, .int (nI t), .int s, .int (nI v), .int x, .int (nI i), .null, .null] [] σ _) (n := nS) (fun i hi g hno => ?_) (fun hno => ?_) 0 (Nat.zero_le _) rfl
    · refine sg_124_46 _ _ _ _ _ ?_
      obtain ⟨⟨u, u1, u2, u3, u4⟩, ⟨y, y1, y2, y3⟩, e69, -⟩ := hS.2.2.2 i hi
      rw [tp_c (show i < 1000000 by omega), hS.2.2.1, y3, e69]
      simp only [nI_1]
      have e := fd_step hno
      unfold fd_p at e
      rw [y2] at e
      have hvi := tp_vi (show i < 200 by omega) (by omega)
      refine ⟨fun z => absurd z (tp_nle hi (by omega)), fun _ => ⟨hvi, fun z => ⟨hvi, fun z2 => ?_, fun z2 => g ?_⟩, fun z => g ?_⟩⟩
      · rw [if_pos (by simp [z, z2])] at e
        have := fd_stay e (nS - (i + 1))
        rw [show i + 1 + (nS - (i + 1)) = nS by omega] at this
        obtain ⟨f2, f3⟩ := e2 i this
        refine sp_120 hR htR _ ⟨hvi, sp_110 hR htR _ ⟨hvi, ?_⟩⟩
        rw [u3, tp_c (show v < 1000000 by omega), (t4 v hvT).2.1]
        rw [u2] at f2 f3
        refine ⟨fun z3 => ?_, fun z3 => ⟨f2 z3, h⟩⟩
        have zt : u = t := (tp_ne (by omega) (by omega)).mp z3
        subst zt
        rw [← u4]
        obtain ⟨f4, f5⟩ := f3 rfl
        exact ⟨fun z4 => ⟨tp_vi (by omega) (by omega), fun z5 => ⟨(f5 z4).1 z5, h⟩, fun z5 => ⟨(f5 z4).2 z5, h⟩⟩, fun z4 => ⟨f4 z4, h⟩⟩
      · rw [if_neg (by simp [z2])] at e; exact e
      · rw [if_neg (by simp [z])] at e; exact e
    · refine sg_124_46 _ _ _ _ _ ?_
      rw [hS.2.2.1]
      exact ⟨fun _ => ⟨e1 hno, h⟩, fun z => absurd (tp_le.mpr (Int.le_refl _)) z⟩
  refine sp_33 hS.2.1 hs200 _ ?_
  cases e : fd σ (nI v) x nS with
  | none => exact ⟨fun z => absurd z (by decide), fun _ => model _ (fun _ => rfl) (fun j hj => by rw [e] at hj; cases hj)⟩
  | some j =>
    have hj := fd_lt e
    have hp := fd_is e
    unfold fd_p at hp
    simp only [Bool.and_eq_true, decide_eq_true_eq] at hp
    simp only [tp_ox]
    rw [tp_c (show j < 1000000 by omega)]
    have only : ∀ r, ((¬ σ.1 15 j = nI t → r = 2) ∧ (σ.1 15 j = nI t → (¬ σ.1 17 j ≤ ab_b σ t s → r = 3) ∧ (σ.1 17 j ≤ ab_b σ t s → (ab_b σ t s < σ.1 17 j + σ.1 9 v → r = 0) ∧ (¬ ab_b σ t s < σ.1 17 j + σ.1 9 v → r = 4)))) → tp_Res 124 [.ref 58, .int (nI t), .int s, .int (nI v), .int x, .null, .null, .null] r σ := fun r e2 => model r (fun z => by rw [e] at z; cases z) (fun j2 hj2 => by rw [e] at hj2; cases hj2; exact e2)
    refine ⟨fun _ => ⟨tp_vi (by omega) (by omega), fun z => ?_, fun z => only _ ⟨fun _ => rfl, fun z2 => absurd z2 z⟩⟩, fun z => absurd (by rw [tp_le, tp_t (by omega)]; show (0 : Int) ≤ j; omega) z⟩
    refine sp_58 (by omega) _ ⟨tp_vi (by omega) (by omega), fun z2 => ?_, fun z2 => only _ ⟨fun z3 => absurd z z3, fun _ => ⟨fun _ => rfl, fun z3 => absurd z3 z2⟩⟩⟩
    refine tp_if (sp_96 hT hS hj) (fun z3 => only _ ⟨fun z4 => absurd z z4, fun _ => ⟨fun z4 => absurd z2 z4, fun _ => ⟨fun _ => rfl, fun z4 => ?_⟩⟩⟩) (fun z3 => only _ ⟨fun z4 => absurd z z4, fun _ => ⟨fun z4 => absurd z2 z4, fun _ => ⟨fun z4 => ?_, fun _ => rfl⟩⟩⟩)
    · unfold ab_g at z3
      rw [hp.1, tp_c (show v < 1000000 by omega)] at z3
      exact absurd z3.2 z4
    · unfold ab_g at z3
      rw [hp.1, tp_c (show v < 1000000 by omega)] at z3
      exact absurd ⟨z2, z4⟩ z3
end
section
/-! the gap -/
theorem ct_mono {p q : Nat → Bool} : ∀ {n}, (∀ k, k < n → q k = true → p k = true) → ct q n ≤ ct p n
  | 0, _ => Nat.le_refl _
  | n + 1, h => by
    have ih := ct_mono (p := p) (q := q) (n := n) (fun k hk => h k (by omega))
    have := h n (by omega)
    unfold ct
    by_cases hq : q n = true
    · rw [if_pos hq, if_pos (this hq)]; omega
    · rw [if_neg hq]; split <;> omega
theorem ct_strict {p q : Nat → Bool} {j : Nat} (hp : p j = true) (hq : ¬ q j = true) : ∀ {n}, (∀ k, k < n → q k = true → p k = true) → j < n → ct q n < ct p n
  | 0, _, h => by omega
  | n + 1, h, hj => by
    have h2 : ∀ k, k < n → q k = true → p k = true := fun k hk => h k (by omega)
    unfold ct
    by_cases e : j = n
    · subst e
      rw [if_neg hq, if_pos hp]
      have := ct_mono h2
      omega
    · have ih := ct_strict hp hq h2 (show j < n by omega)
      have := h n (by omega)
      by_cases hqn : q n = true
      · rw [if_pos hqn, if_pos (this hqn)]; omega
      · rw [if_neg hqn]; split <;> omega
abbrev gp_s (σ : tp_St) (y k x : Nat) : Prop := σ.1 16 k = nI y ∧ σ.1 18 k = nI x
abbrev gp_k (σ : tp_St) (y c x : Nat) : Prop := (σ.1 (46 + c) y).toInt ≤ x ∧ (x : Int) < (σ.1 (52 + c) y).toInt
def gp_h (σ : tp_St) (y nS x : Nat) : Prop := (∃ k, k < nS ∧ gp_s σ y k x) ∨ ∃ c, c < 6 ∧ gp_k σ y c x
def gp_p (σ : tp_St) (y n k : Nat) : Bool := decide (σ.1 16 k = nI y) && decide ((n : Int) ≤ (σ.1 18 k).toInt)
def gp_q (σ : tp_St) (y n c : Nat) : Bool := decide ((n : Int) < (σ.1 (52 + c) y).toInt)
def gp_M (σ : tp_St) (y nS n : Nat) : Nat := ct (gp_p σ y n) nS + ct (gp_q σ y n) 6
theorem gp_p_anti {σ : tp_St} {y a b k : Nat} (h : a ≤ b) (hb : gp_p σ y b k = true) : gp_p σ y a k = true := by
  unfold gp_p at *
  simp only [Bool.and_eq_true, decide_eq_true_eq] at *
  exact ⟨hb.1, by have := hb.2; omega⟩
theorem gp_q_anti {σ : tp_St} {y a b k : Nat} (h : a ≤ b) (hb : gp_q σ y b k = true) : gp_q σ y a k = true := by
  unfold gp_q at *
  simp only [decide_eq_true_eq] at *
  omega
theorem gp_M_le (σ : tp_St) (y nS n : Nat) : gp_M σ y nS n ≤ nS + 6 := by
  unfold gp_M
  have := ct_le (p := gp_p σ y n) nS
  have := ct_le (p := gp_q σ y n) 6
  omega
theorem gp_M_s {σ : tp_St} {y nS k f : Nat} (hk : k < nS) (hf : f < 1000000) (h : gp_s σ y k f) : gp_M σ y nS (f + 1) < gp_M σ y nS f := by
  unfold gp_M
  have h1 : ct (gp_p σ y (f + 1)) nS < ct (gp_p σ y f) nS := ct_strict (j := k) (by unfold gp_p; rw [h.1, h.2, tp_t hf]; simp) (by unfold gp_p; rw [h.1, h.2, tp_t hf]; simp; omega) (fun k _ => gp_p_anti (by omega)) hk
  have h2 : ct (gp_q σ y (f + 1)) 6 ≤ ct (gp_q σ y f) 6 := ct_mono (fun k _ => gp_q_anti (by omega))
  omega
theorem gp_M_k {σ : tp_St} {y nS c f l : Nat} (hc : c < 6) (hl : l < 1000000) (e : σ.1 (52 + c) y = nI l) (h : f < l) : gp_M σ y nS l < gp_M σ y nS f := by
  unfold gp_M
  have h1 : ct (gp_q σ y l) 6 < ct (gp_q σ y f) 6 := ct_strict (j := c) (by unfold gp_q; rw [e, tp_t hl]; simp; omega) (by unfold gp_q; rw [e, tp_t hl]; simp) (fun k _ => gp_q_anti (by omega)) hc
  have h2 : ct (gp_p σ y l) nS ≤ ct (gp_p σ y f) nS := ct_mono (fun k _ => gp_p_anti (by omega))
  omega
def gp_I (σ : tp_St) (y nS n : Nat) (P : Prop) (f : Nat) : Prop := f ≤ 101001 ∧ (∀ z, z < f → gp_h σ y nS z) ∧ ((f = n ∧ P) ∨ (n < f ∧ gp_M σ y nS f < gp_M σ y nS n))
theorem sp_100 {σ : tp_St} {y n nT nR nS : Nat} (hT : RT σ nT) (hP : RP σ) (hS : RS σ nT nR nS) (hy : y < 5) (hn : n ≤ 101001) (hh : ∀ z, z < n → gp_h σ y nS z) {post : Int32 → tp_St → Prop} (hp : ∀ f, gp_I σ y nS n (¬ gp_h σ y nS n) f → post (nI f) σ) : tp_E 100 0 [.ref 0, .int (nI y), .int (nI n)] [] σ post := by
  obtain ⟨s1, s2, s3, s4⟩ := id hS
  refine sg_100_0 _ _ ?_
  have second : ∀ f, gp_I σ y nS n (∀ k, k < nS → ¬ gp_s σ y k n) f → tp_E 18 0 [.ref 2, .int (nI y), .int (nI f), .null, .null] [] σ (fun r2 σ2 => post r2 σ2) := by
    intro f hf
    refine sg_18_0 _ _ ?_
    refine tp_up_loop (E := fun i => ∀ f, gp_I σ y nS n ((∀ k, k < nS → ¬ gp_s σ y k n) ∧ ∀ c, c < i → ¬ gp_k σ y c n) f → tp_E 18 5 [.ref 2, .int (nI y), .null, .int (nI f), .int (nI i)] [] σ (fun r2 σ2 => post r2 σ2)) (n := 6) (fun i hi g f hf => ?_) (fun f hf => ?_) 0 (Nat.zero_le _) f ⟨hf.1, hf.2.1, hf.2.2.imp (fun z => ⟨z.1, z.2, fun c hc => absurd hc (by omega)⟩) id⟩
    · obtain ⟨f1, f2, f3⟩ := hf
      obtain ⟨p1, p2, p3, p4, p5⟩ := hP i y hi hy
      obtain ⟨l, hl, el⟩ := tp_rg_of (hi := 101000) (x := σ.1 (52 + i) y) (by omega) p5 (by omega)
      refine sg_18_5 _ _ _ ?_
      rw [tp_c (show i < 1000000 by omega), tp_c (show y < 1000000 by omega)]
      simp only [nI_1]
      rw [show (6 : Int32) = nI 6 from rfl]
      have keep : ¬ gp_k σ y i f → gp_I σ y nS n ((∀ k, k < nS → ¬ gp_s σ y k n) ∧ ∀ c, c < i + 1 → ¬ gp_k σ y c n) f := fun z => ⟨f1, f2, f3.imp (fun w => ⟨w.1, w.2.1, fun c hc => by
        by_cases e : c = i
        · rw [e, ← w.1]; exact z
        · exact w.2.2 c (by omega)⟩) id⟩
      refine ⟨fun z => absurd z (tp_nle hi (by omega)), fun _ => ⟨tp_vi hi (by omega), tp_vi hy (by omega), fun z => g f (keep (fun w => ?_)), fun z => ⟨tp_vi hi (by omega), tp_vi hy (by omega), fun z2 => g f (keep (fun w => ?_)), fun z2 => ⟨tp_vi hi (by omega), tp_vi hy (by omega), ?_⟩⟩⟩⟩
      · rw [tp_lt, tp_t (by omega)] at z; have := w.1; omega
      · rw [tp_le, tp_t (show f < 1000000 by omega)] at z2; have := w.2; omega
      · rw [tp_lt, tp_t (by omega)] at z
        rw [el, tp_leN (by omega) (by omega)] at z2
        rw [el]
        have hM := gp_M_k (nS := nS) hi (show l < 1000000 by omega) el (show f < l by omega)
        refine g l ⟨by omega, fun x hx => ?_, Or.inr ?_⟩
        · by_cases hx2 : x < f
          · exact f2 x hx2
          · exact Or.inr ⟨i, hi, by omega, by rw [el, tp_t (by omega)]; omega⟩
        · rcases f3 with f3 | f3
          · rw [← f3.1]; exact ⟨by omega, hM⟩
          · exact ⟨by omega, by omega⟩
    · refine sg_18_5 _ _ _ ?_
      rw [show (6 : Int32) = nI 6 from rfl]
      refine ⟨fun _ => hp f ⟨hf.1, hf.2.1, hf.2.2.imp (fun z => ⟨z.1, fun w => ?_⟩) id⟩, fun z => absurd (tp_le.mpr (Int.le_refl _)) z⟩
      rcases w with ⟨k, hk, w⟩ | ⟨c, hc, w⟩
      · exact z.2.1 k hk w
      · exact z.2.2 c hc w
  refine sg_35_0 _ _ ?_
  refine tp_up_loop (E := fun i => ∀ f, gp_I σ y nS n (∀ k, k < i → ¬ gp_s σ y k n) f → tp_E 35 5 [.ref 4, .int (nI y), .null, .int (nI f), .int (nI i)] [] σ _) (n := nS) (fun i hi g f hf => ?_) (fun f hf => ?_) 0 (Nat.zero_le _) n ⟨hn, hh, Or.inl ⟨rfl, fun k hk => absurd hk (by omega)⟩⟩
  · obtain ⟨f1, f2, f3⟩ := hf
    refine sg_35_5 _ _ _ ?_
    rw [tp_c (show i < 1000000 by omega), s2]
    simp only [nI_1]
    have keep : ¬ gp_s σ y i f → gp_I σ y nS n (∀ k, k < i + 1 → ¬ gp_s σ y k n) f := fun z => ⟨f1, f2, f3.imp (fun w => ⟨w.1, fun k hk => by
      by_cases e : k = i
      · rw [e, ← w.1]; exact z
      · exact w.2 k (by omega)⟩) id⟩
    refine ⟨fun z => absurd z (tp_nle hi (by omega)), fun _ => ⟨tp_vi (by omega) (by omega), fun z => ⟨tp_vi (by omega) (by omega), fun z2 => ?_, fun z2 => g f (keep (fun w => z2 w.2))⟩, fun z => g f (keep (fun w => z w.1))⟩⟩
    obtain ⟨-, -, -, -, e18⟩ := s4 i hi
    have hf0 : f ≤ 101000 := by have := e18.2; rw [z2, tp_t (by omega)] at this; omega
    have hM := gp_M_s hi (show f < 1000000 by omega) ⟨z, z2⟩
    refine g (f + 1) ⟨by omega, fun x hx => ?_, Or.inr ?_⟩
    · by_cases hx2 : x < f
      · exact f2 x hx2
      · rw [show x = f by omega]; exact Or.inl ⟨i, hi, z, z2⟩
    · rcases f3 with f3 | f3
      · rw [← f3.1]; exact ⟨by omega, hM⟩
      · exact ⟨by omega, by omega⟩
  · refine sg_35_5 _ _ _ ?_
    rw [s2]
    exact ⟨fun _ => second f hf, fun z => absurd (tp_le.mpr (Int.le_refl _)) z⟩
def gp_g (σ : tp_St) (y : Int32) (n : Nat) : Int32 := tp_fo (fun i x => if σ.1 16 i = y then (if x < σ.1 18 i then σ.1 18 i else x) else x) n (-1)
theorem sp_36 {σ : tp_St} {y : Int32} {nS : Nat} (hn : σ.1 4 4 = nI nS) (hs : nS ≤ 200) : tp_val 36 [.ref 4, .int y, .null, .null] σ (gp_g σ y nS) := by
  intro post hp
  refine sg_36_0 _ ?_
  refine tp_fold (E := fun i x => tp_E 36 4 [.ref 4, .int y, .int x, .int (nI i)] [] σ post) (step := fun i x => if σ.1 16 i = y then (if x < σ.1 18 i then σ.1 18 i else x) else x) (n := nS) (a := -1) (fun i x hi g => ?_) ?_
  · refine sg_36_4 _ _ _ ?_
    rw [tp_c (show i < 1000000 by omega), hn]
    simp only [nI_1]
    refine ⟨fun z => absurd z (tp_nle hi (by omega)), fun _ => ⟨tp_vi (by omega) (by omega), fun z => ⟨tp_vi (by omega) (by omega), ?_⟩, fun z => ?_⟩⟩
    · rw [if_pos z] at g; exact g
    · rw [if_neg z] at g; exact g
  · refine sg_36_4 _ _ _ ?_
    rw [hn]
    exact ⟨fun _ => hp, fun z => absurd (tp_le.mpr (Int.le_refl _)) z⟩
def gp_a (σ : tp_St) (y nS : Nat) (L : Int32) (r : Int32) : Prop := (∃ x : Nat, nI x < L ∧ x < 1000000 ∧ ¬ gp_h σ y nS x ∧ (∀ z, z < x → gp_h σ y nS z) ∧ r = nI x) ∨ ((∀ x : Nat, x < 1000000 → nI x < L → gp_h σ y nS x) ∧ r = -4)
theorem gp_class {σ : tp_St} {y nT nR nS : Nat} (hT : RT σ nT) (hP : RP σ) (hS : RS σ nT nR nS) (hy : y < 5) {post : Int32 → tp_St → Prop} {L : Int32} (hp : ∀ r, gp_a σ y nS L r → post r σ) : ∀ d i n, i + d = 206 → n ≤ 101001 → (∀ z, z < n → gp_h σ y nS z) → gp_M σ y nS n + i ≤ 206 → tp_E 78 27 [.ref 0, .int (nI y), .int L, .int (nI n), .int (nI i), .null] [] σ post := by
  intro d
  induction d with
  | zero =>
    intro i n hd hn hh hM
    refine sg_78_27 _ _ _ _ ?_
    simp only [nI_1]
    rw [show (206 : Int32) = nI 206 from rfl]
    refine ⟨fun z => absurd z (tp_nlt (by omega) (by omega)), fun _ => ⟨fun z => hp _ (Or.inr ⟨fun x hx hl => hh x ?_, rfl⟩), fun z => sp_100 hT hP hS hy hn hh (fun f hf => ?_)⟩⟩
    · rw [tp_lt, tp_t hx] at hl; rw [tp_le, tp_t (show n < 1000000 by omega)] at z; omega
    · obtain ⟨f1, f2, f3⟩ := hf
      rcases f3 with f3 | f3
      · rw [f3.1]
        refine ⟨fun _ => hp _ (Or.inl ⟨n, ?_, by omega, f3.2, hh, rfl⟩), fun w => absurd rfl w⟩
        rw [tp_le] at z; rw [tp_lt]; omega
      · omega
  | succ d ih =>
    intro i n hd hn hh hM
    refine sg_78_27 _ _ _ _ ?_
    simp only [nI_1]
    rw [show (206 : Int32) = nI 206 from rfl]
    refine ⟨fun z => absurd z (tp_nlt (by omega) (by omega)), fun _ => ⟨fun z => hp _ (Or.inr ⟨fun x hx hl => hh x ?_, rfl⟩), fun z => sp_100 hT hP hS hy hn hh (fun f hf => ?_)⟩⟩
    · rw [tp_lt, tp_t hx] at hl; rw [tp_le, tp_t (show n < 1000000 by omega)] at z; omega
    · obtain ⟨f1, f2, f3⟩ := hf
      rcases f3 with f3 | f3
      · rw [f3.1]
        refine ⟨fun _ => hp _ (Or.inl ⟨n, ?_, by omega, f3.2, hh, rfl⟩), fun w => absurd rfl w⟩
        rw [tp_le] at z; rw [tp_lt]; omega
      · refine ⟨fun w => ?_, fun _ => ih (i + 1) f (by omega) f1 f2 (by omega)⟩
        rw [tp_ne (by omega) (by omega)] at w; omega
theorem gp_model {σ : tp_St} {y nT nR nS : Nat} (hT : RT σ nT) (hP : RP σ) (hS : RS σ nT nR nS) (hy : y < 5) {post : Int32 → tp_St → Prop} {L r : Int32} (hp : post r σ) (ha : gp_a σ y nS L r) : ∀ d n : Nat, L.toInt ≤ n + d → n ≤ 101001 → (∀ z, z < n → gp_h σ y nS z) → tp_E 126 69 [.ref 58, .int (nI y), .int L, .int (nI n), .null, .null, .null] [] σ post := by
  obtain ⟨s1, s2, s3, s4⟩ := id hS
  intro d
  induction d with
  | zero =>
    intro n hd hn hh
    refine sg_126_69 _ _ _ ⟨fun _ => ?_, fun z => absurd (by rw [tp_le, tp_t (by omega)]; omega) z⟩
    rcases ha with ⟨x, x1, x2, x3, x4, x5⟩ | ⟨-, x5⟩
    · rw [tp_lt, tp_t x2] at x1
      exact absurd (hh x (by omega)) x3
    · rw [← x5]; exact hp
  | succ d ih =>
    intro n hd hn hh
    refine sg_126_69 _ _ _ ⟨fun z => ?_, fun hlt => ?_⟩
    · rw [tp_le, tp_t (by omega)] at z
      rcases ha with ⟨x, x1, x2, x3, x4, x5⟩ | ⟨-, x5⟩
      · rw [tp_lt, tp_t x2] at x1
        exact absurd (hh x (by omega)) x3
      · rw [← x5]; exact hp
    · have fin : ∀ f, f ≤ 101001 → (∀ z, z < f → gp_h σ y nS z) → ((f = n ∧ ¬ gp_h σ y nS n) ∨ n < f) → (nI f = nI n → post (nI n) σ) ∧ (¬ nI f = nI n → tp_E 126 69 [.ref 58, .int (nI y), .int L, .int (nI f), .null, .null, .null] [] σ post) := fun f f1 f2 f3 => by
        rcases f3 with f3 | f3
        · refine ⟨fun _ => ?_, fun w => absurd (by rw [f3.1]) w⟩
          have hL : nI n < L := by rw [tp_le] at hlt; rw [tp_lt]; omega
          rcases ha with ⟨x, x1, x2, x3, x4, x5⟩ | ⟨x4, -⟩
          · have : x = n := by
              rcases Nat.lt_trichotomy x n with h | h | h
              · exact absurd (hh x h) x3
              · exact h
              · exact absurd (x4 n h) f3.2
            rw [← this, ← x5]; exact hp
          · exact absurd (x4 n (by omega) hL) f3.2
        · exact ⟨fun w => by rw [tp_ne (by omega) (by omega)] at w; omega, fun _ => ih f (by omega) f1 f2⟩
      have second : ∀ f, f ≤ 101001 → (∀ z, z < f → gp_h σ y nS z) → ((f = n ∧ ∀ k, k < nS → ¬ gp_s σ y k n) ∨ n < f) → tp_E 126 130 [.ref 58, .int (nI y), .int L, .int (nI n), .int (nI f), .int 0, .null] [] σ post := by
        intro f f1 f2 f3
        refine tp_up_loop (E := fun i => ∀ f, f ≤ 101001 → (∀ z, z < f → gp_h σ y nS z) → ((f = n ∧ (∀ k, k < nS → ¬ gp_s σ y k n) ∧ ∀ c, c < i → ¬ gp_k σ y c n) ∨ n < f) → tp_E 126 130 [.ref 58, .int (nI y), .int L, .int (nI n), .int (nI f), .int (nI i), .null] [] σ post) (n := 6) (fun i hi g f f1 f2 f3 => ?_) (fun f f1 f2 f3 => ?_) 0 (Nat.zero_le _) f f1 f2 (f3.imp (fun z => ⟨z.1, z.2, fun c hc => absurd hc (by omega)⟩) id)
        · obtain ⟨p1, p2, p3, p4, p5⟩ := hP i y hi hy
          obtain ⟨l, hl, el⟩ := tp_rg_of (hi := 101000) (x := σ.1 (52 + i) y) (by omega) p5 (by omega)
          refine sg_126_130 _ _ _ _ _ ?_
          rw [tp_5c, tp_c (show 5 * i + y < 1000000 by omega), p1, p2]
          simp only [nI_1]
          rw [show (6 : Int32) = nI 6 from rfl]
          have hv := tp_vi (show 5 * i + y < 30 by omega) (by omega)
          have keep : ¬ gp_k σ y i n → ((f = n ∧ (∀ k, k < nS → ¬ gp_s σ y k n) ∧ ∀ c, c < i + 1 → ¬ gp_k σ y c n) ∨ n < f) := fun z => f3.imp (fun w => ⟨w.1, w.2.1, fun c hc => by
            by_cases e : c = i
            · rw [e]; exact z
            · exact w.2.2 c (by omega)⟩) id
          refine ⟨fun z => absurd z (tp_nle hi (by omega)), fun _ => ⟨hv, fun z => g f f1 f2 (keep (fun w => ?_)), fun z => ⟨hv, fun z2 => g f f1 f2 (keep (fun w => ?_)), fun z2 => ⟨hv, ?_⟩⟩⟩⟩
          · rw [tp_lt, tp_t (by omega)] at z; have := w.1; omega
          · rw [tp_le, tp_t (show n < 1000000 by omega)] at z2; have := w.2; omega
          · rw [tp_lt, tp_t (by omega)] at z
            rw [el, tp_leN (by omega) (by omega)] at z2
            rw [el]
            refine g l (by omega) (fun x hx => ?_) (Or.inr (by omega))
            by_cases hx2 : x < n
            · exact hh x hx2
            · exact Or.inr ⟨i, hi, by omega, by rw [el, tp_t (by omega)]; omega⟩
        · refine sg_126_130 _ _ _ _ _ ?_
          rw [show (6 : Int32) = nI 6 from rfl]
          refine ⟨fun _ => fin f f1 f2 (f3.imp (fun z => ⟨z.1, fun w => ?_⟩) id), fun z => absurd (tp_le.mpr (Int.le_refl _)) z⟩
          rcases w with ⟨k, hk, w⟩ | ⟨c, hc, w⟩
          · exact z.2.1 k hk w
          · exact z.2.2 c hc w
      refine tp_up_loop (E := fun i => ∀ f, f ≤ 101001 → (∀ z, z < f → gp_h σ y nS z) → ((f = n ∧ ∀ k, k < i → ¬ gp_s σ y k n) ∨ n < f) → tp_E 126 80 [.ref 58, .int (nI y), .int L, .int (nI n), .int (nI f), .int (nI i), .null] [] σ post) (n := nS) (fun i hi g f f1 f2 f3 => ?_) (fun f f1 f2 f3 => ?_) 0 (Nat.zero_le _) n hn hh (Or.inl ⟨rfl, fun k hk => absurd hk (by omega)⟩)
      · refine sg_126_80 _ _ _ _ _ ?_
        obtain ⟨-, ⟨v, v1, v2, v3⟩, e69, -, e18⟩ := s4 i hi
        rw [tp_c (show i < 1000000 by omega), s3, e69, v3, ← v2]
        simp only [nI_1]
        have keep : ¬ gp_s σ y i n → ((f = n ∧ ∀ k, k < i + 1 → ¬ gp_s σ y k n) ∨ n < f) := fun z => f3.imp (fun w => ⟨w.1, fun k hk => by
          by_cases e : k = i
          · rw [e]; exact z
          · exact w.2 k (by omega)⟩) id
        refine ⟨fun z => absurd z (tp_nle hi (by omega)), fun _ => ⟨tp_vi (by omega) (by omega), fun z => ⟨tp_vi (by omega) (by omega), fun z2 => ?_, fun z2 => g f f1 f2 (keep (fun w => z2 w.2))⟩, fun z => g f f1 f2 (keep (fun w => z w.1))⟩⟩
        have hf0 : n ≤ 101000 := by have := e18.2; rw [z2, tp_t (by omega)] at this; omega
        refine g (n + 1) (by omega) (fun x hx => ?_) (Or.inr (by omega))
        by_cases hx2 : x < n
        · exact hh x hx2
        · rw [show x = n by omega]; exact Or.inl ⟨i, hi, z, z2⟩
      · refine sg_126_80 _ _ _ _ _ ?_
        rw [s3]
        exact ⟨fun _ => second f f1 f2 f3, fun z => absurd (tp_le.mpr (Int.le_refl _)) z⟩
theorem op_gap {σ : tp_St} {y : Int32} (h : RR_all σ) : tp_E 78 0 [.ref 0, .int y, .null, .null, .null, .null] [] σ (tp_Res 126 [.ref 58, .int y, .null, .null, .null, .null, .null]) := by
  obtain ⟨nT, nR, nS, nB, nD, hT, hP, hR, hS, hH, hA, hL, hD, hK⟩ := id h
  obtain ⟨t1, t2, t3, t4⟩ := id hT
  obtain ⟨s1, s2, s3, s4⟩ := id hS
  refine sg_78_0 _ (tp_if (sp_59 t2 (by omega)) (fun q1 => ?_) (fun q1 => ?_))
  · obtain ⟨v, hv, rfl⟩ := tp_rg_nI (x := y) (hi := nT - 1) ⟨q1.1, by omega⟩ (by omega)
    have hM := gp_M_le σ v nS 0
    refine sp_36 s2 s1 _ (gp_class hT hP hS (show v < 5 by omega) (fun r hr => ?_) 206 0 0 (by omega) (by omega) (fun z hz => absurd hz (by omega)) (by omega))
    refine sg_126_0 _ (tp_if (sp_101 tp_i64 (l := 0) rfl (h := (nT : Int) - 1) (by rw [tp_i64, t3, tp_pred (by omega)])) (fun p => ?_) (fun p => by omega))
    refine tp_fold (E := fun i x => tp_E 126 22 [.ref 58, .int (nI v), .int x, .int (nI i), .null, .null, .null] [] σ _) (step := fun i x => if σ.1 16 i = nI v then (if x < σ.1 18 i then σ.1 18 i else x) else x) (n := nS) (a := -1) (fun i x hi g => ?_) ?_
    · refine sg_126_22 _ _ _ ?_
      obtain ⟨-, ⟨u, u1, u2, u3⟩, e69, -, e18⟩ := s4 i hi
      rw [tp_c (show i < 1000000 by omega), s3, e69, u3, ← u2]
      simp only [nI_1]
      refine ⟨fun z => absurd z (tp_nle hi (by omega)), fun _ => ⟨tp_vi (by omega) (by omega), fun z => ⟨tp_vi (by omega) (by omega), fun z2 => ?_, fun z2 => ⟨tp_vi (by omega) (by omega), ?_⟩⟩, fun z => ?_⟩⟩
      · rw [if_pos z, if_neg (by rw [tp_le] at z2; rw [tp_lt]; omega)] at g; exact g
      · rw [if_pos z, if_pos (by rw [tp_le] at z2; rw [tp_lt]; omega)] at g; exact g
      · rw [if_neg z] at g; exact g
    · refine sg_126_22 _ _ _ ?_
      rw [s3]
      refine ⟨fun _ => ?_, fun z => absurd (tp_le.mpr (Int.le_refl _)) z⟩
      exact gp_model hT hP hS (show v < 5 by omega) (r := r) (L := gp_g σ (nI v) nS) ⟨rfl, h⟩ hr (gp_g σ (nI v) nS).toInt.toNat 0 (by omega) (by omega) (fun z hz => absurd hz (by omega))
  · exact sg_126_0 _ (tp_if (sp_101 tp_i64 (l := 0) rfl (h := (nT : Int) - 1) (by rw [tp_i64, t3, tp_pred (by omega)])) (fun p => by omega) (fun p => ⟨rfl, h⟩))
end
section
/-! sheets -/
theorem tp_rr20 {σ : tp_St} {k : Nat} (hk : k < 4) : tp_rr σ (20 + k) 0 = 32 + k := by
  rcases (show k = 0 ∨ k = 1 ∨ k = 2 ∨ k = 3 by omega) with rfl | rfl | rfl | rfl <;> rfl
theorem tp_q20 {k : Nat} (hk : k < 4) : 20 + k = 20 ∨ 20 + k = 21 ∨ 20 + k = 22 ∨ 20 + k = 23 := by omega
theorem tp_q4 {k : Nat} {P : Nat → Prop} (hk : k < 4) (h : P (20 + k)) : (nI k = 0 → P 20) ∧ (nI k = 1 → P 21) ∧ (nI k = 2 → P 22) ∧ (nI k = 3 → P 23) := by
  rcases (show k = 0 ∨ k = 1 ∨ k = 2 ∨ k = 3 by omega) with rfl | rfl | rfl | rfl
  · exact ⟨fun _ => h, fun z => absurd z (by decide), fun z => absurd z (by decide), fun z => absurd z (by decide)⟩
  · exact ⟨fun z => absurd z (by decide), fun _ => h, fun z => absurd z (by decide), fun z => absurd z (by decide)⟩
  · exact ⟨fun z => absurd z (by decide), fun z => absurd z (by decide), fun _ => h, fun z => absurd z (by decide)⟩
  · exact ⟨fun z => absurd z (by decide), fun z => absurd z (by decide), fun z => absurd z (by decide), fun _ => h⟩
def tp_fl (o b n : Nat) (σ : tp_St) : tp_St := tp_fo (fun i s => tp_set s o (b + i) 0) n σ
theorem tp_fl_g {o b n : Nat} {σ : tp_St} {o' k' : Nat} : (tp_fl o b n σ).1 o' k' = if o' = o ∧ b ≤ k' ∧ k' < b + n then 0 else σ.1 o' k' := by
  induction n with
  | zero => rw [if_neg (by omega)]; rfl
  | succ n ih =>
    show (tp_set (tp_fl o b n σ) o (b + n) 0).1 o' k' = _
    rw [tp_sg, ih]
    by_cases h1 : o' = o
    · by_cases h2 : k' = b + n
      · rw [if_pos h1, if_pos h2, if_pos ⟨h1, by omega, by omega⟩]
      · rw [if_pos h1, if_neg h2]
        by_cases h3 : b ≤ k' ∧ k' < b + n
        · rw [if_pos ⟨h1, h3⟩, if_pos ⟨h1, by omega, by omega⟩]
        · rw [if_neg (fun z => h3 z.2), if_neg (fun z => h3 ⟨z.2.1, by omega⟩)]
    · rw [if_neg h1, if_neg (fun z => h1 z.1), if_neg (fun z => h1 z.1)]
theorem tp_fl_2 {o b n : Nat} {σ : tp_St} : (tp_fl o b n σ).2 = σ.2 := by
  induction n with
  | zero => rfl
  | succ n ih => exact ih
theorem sp_43 {σ : tp_St} {k : Nat} {l n : Int32} {post : Int32 → tp_St → Prop} (hk : k < 4) (hp : post 0 (tp_fl (32 + k) 0 64 (tp_set (tp_set σ (20 + k) 1 l) (20 + k) 2 n))) : tp_E 43 0 [.ref (20 + k), .int l, .int n, .null] [] σ post := by
  refine sg_43_0 _ _ _ (tp_q20 hk) ?_
  refine tp_up_loop (E := fun i => tp_E 43 12 [.ref (20 + k), .null, .null, .int (nI i)] [] (tp_fl (32 + k) 0 i (tp_set (tp_set σ (20 + k) 1 l) (20 + k) 2 n)) post) (n := 64) (fun i hi g => ?_) ?_ 0 (Nat.zero_le _)
  · refine sg_43_12 _ _ (tp_q20 hk) ?_
    rw [tp_rr20 hk, tp_c (show i < 1000000 by omega), show (64 : Int32) = nI 64 from rfl]
    simp only [nI_1]
    refine ⟨fun z => absurd z (tp_nle hi (by omega)), fun _ => ⟨tp_vi (by omega) (by omega), ?_⟩⟩
    have e : tp_fl (32 + k) 0 (i + 1) (tp_set (tp_set σ (20 + k) 1 l) (20 + k) 2 n) = tp_set (tp_fl (32 + k) 0 i (tp_set (tp_set σ (20 + k) 1 l) (20 + k) 2 n)) (32 + k) i 0 := by
      show tp_set _ _ (0 + i) _ = _
      rw [Nat.zero_add]
      rfl
    rw [e] at g
    exact g
  · refine sg_43_12 _ _ (tp_q20 hk) ?_
    rw [show (64 : Int32) = nI 64 from rfl]
    exact ⟨fun _ => hp, fun z => absurd (tp_le.mpr (Int.le_refl _)) z⟩
theorem tp_64 {k i : Nat} : (64 : Int32) * nI k + nI i = nI (64 * k + i) := by
  rw [show (64 : Int32) = nI 64 from rfl, pk_mul, nI_add]
theorem op_sheet {σ : tp_St} {a b w : Int32} (h : RR_all σ) : tp_E 68 0 [.ref 0, .int a, .int b, .int w] [] σ (tp_Res 114 [.ref 58, .int a, .int b, .int w, .null]) := by
  obtain ⟨nT, nR, nS, nB, nD, hT, hP, hR, hS, hH, hA, hL, hD, hK⟩ := id h
  have model : ∀ (r : Int32) (σ1 : tp_St), ((¬ (0 ≤ a.toInt ∧ a.toInt ≤ 3) ∨ ¬ (0 ≤ b.toInt ∧ b.toInt ≤ 2) ∨ ¬ w ≤ 64) → r = -1 ∧ RR_all σ1) → ((0 ≤ a.toInt ∧ a.toInt ≤ 3) → (0 ≤ b.toInt ∧ b.toInt ≤ 2) → w ≤ 64 → ¬ 0 ≤ w → r = -14 ∧ RR_all σ1) → ((0 ≤ a.toInt ∧ a.toInt ≤ 3) → (0 ≤ b.toInt ∧ b.toInt ≤ 2) → w ≤ 64 → 0 ≤ w → tp_E 114 56 [.ref 58, .int a, .null, .null, .int 0] [] (tp_set (tp_set σ1 70 a.toNatClampNeg b) 71 a.toNatClampNeg w) (fun r' σ2 => r = r' ∧ RR_all σ2)) → tp_Res 114 [.ref 58, .int a, .int b, .int w, .null] r σ1 := fun r σ1 e1 e2 e3 =>
    sg_114_0 _ _ _ (tp_if (sp_101 tp_i64 (l := 0) rfl (h := 3) rfl) (fun p1 => tp_if (sp_101 tp_i64 (l := 0) rfl (h := 2) rfl) (fun p2 => ⟨fun p3 => ⟨fun p4 => ⟨tp_vin.mpr (by omega), tp_vin.mpr (by omega), e3 p1 p2 p3 p4⟩, fun p4 => e2 p1 p2 p3 p4⟩, fun p3 => e1 (Or.inr (Or.inr p3))⟩) (fun p2 => e1 (Or.inr (Or.inl p2)))) (fun p1 => e1 (Or.inl p1)))
  refine sg_68_0 _ _ _ (tp_if (sp_91 (l := 0) rfl (h := 3) rfl) (fun q1 => model _ _ (fun _ => ⟨rfl, h⟩) (fun z => by omega) (fun z => by omega)) (fun q1 => tp_if (sp_91 (l := 0) rfl (h := 2) rfl) (fun q2 => model _ _ (fun _ => ⟨rfl, h⟩) (fun _ z => by omega) (fun _ z => by omega)) (fun q2 => ⟨fun q3 => ⟨fun q4 => ?_, fun q4 => model _ _ (fun z => ?_) (fun _ _ _ _ => ⟨rfl, h⟩) (fun _ _ _ z => absurd z q4)⟩, fun q3 => model _ _ (fun _ => ⟨rfl, h⟩) (fun _ _ z => absurd z q3) (fun _ _ z => absurd z q3)⟩)))
  · obtain ⟨k, hk3, rfl⟩ := tp_rg_nI (x := a) (hi := 3) ⟨by omega, by omega⟩ (by omega)
    have hk : k < 4 := by omega
    refine ⟨tp_vi hk (by omega), tp_q4 (P := fun q => tp_E 43 0 [.ref q, .int b, .int w, .null] [] σ (fun _ σ3 => tp_Res 114 [.ref 58, .int (nI k), .int b, .int w, .null] 1 σ3)) hk (sp_43 hk ?_)⟩
    refine model _ _ (fun z => ?_) (fun _ _ _ z => absurd q4 z) (fun _ _ _ _ => ?_)
    · rcases z with z | z | z
      · omega
      · omega
      · exact absurd q3 z
    · rw [tp_c (show k < 1000000 by omega)]
      have fin : ∀ σ2 : tp_St, σ2 = tp_fl 72 (64 * k) 64 (tp_set (tp_set (tp_fl (32 + k) 0 64 (tp_set (tp_set σ (20 + k) 1 b) (20 + k) 2 w)) 70 k b) 71 k w) → RR_all σ2 := by
        intro σ2 e
        have ne : ∀ o j, o ≠ 20 + k → o ≠ 32 + k → o ≠ 70 → o ≠ 71 → o ≠ 72 → σ2.1 o j = σ.1 o j := fun o j h1 h2 h3 h4 h5 => by
          rw [e, tp_fl_g, if_neg (by omega), tp_sg_ne (by omega), tp_sg_ne (by omega), tp_fl_g, if_neg (by omega), tp_sg_ne (by omega), tp_sg_ne (by omega)]
        refine ⟨nT, nR, nS, nB, nD, RT_fr hT (fun o j hd => ne o j (by omega) (by omega) (by omega) (by omega) (by omega)), RP_fr hP (fun o j hd => ne o j (by omega) (by omega) (by omega) (by omega) (by omega)), RR_fr hR (fun o j hd => ne o j (by omega) (by omega) (by omega) (by omega) (by omega)), RS_fr hS (Nat.le_refl _) (Nat.le_refl _) (fun o j hd => ne o j (by omega) (by omega) (by omega) (by omega) (by omega)), ⟨fun c hc => ?_, fun c j hc hj => ?_⟩, RA_fr hA (fun o j hd => ne o j (by omega) (by omega) (by omega) (by omega) (by omega)), RLw_fr hL (by rw [e, tp_fl_2, tp_s2, tp_s2, tp_fl_2, tp_s2, tp_s2]) (fun o j hd => ne o j (by omega) (by omega) (by omega) (by omega) (by omega)), RD_fr hD (fun o j hd => ne o j (by omega) (by omega) (by omega) (by omega) (by omega)), RK_fr hK (fun o j hd => ne o j (by omega) (by omega) (by omega) (by omega) (by omega))⟩
        · by_cases hck : c = k
          · subst hck
            obtain ⟨l, hl, el⟩ := tp_rg_nI (x := b) (hi := 2) ⟨by omega, by omega⟩ (by omega)
            obtain ⟨n, hn, en⟩ := tp_rg_nI (x := w) (hi := 64) ⟨tp_le.mp q4, tp_le.mp q3⟩ (by omega)
            refine Or.inr ⟨l, n, by omega, hn, ?_, ?_, ?_, ?_⟩
            · rw [e, tp_fl_g, if_neg (by omega), tp_sg_ne (by omega), tp_sg_eq]; exact el
            · rw [e, tp_fl_g, if_neg (by omega), tp_sg_ne (by omega), tp_sg_ne (by omega), tp_fl_g, if_neg (by omega), tp_sg_ne (by omega), tp_sg_eq]; exact el
            · rw [e, tp_fl_g, if_neg (by omega), tp_sg_eq]; exact en
            · rw [e, tp_fl_g, if_neg (by omega), tp_sg_ne (by omega), tp_sg_ne (by omega), tp_fl_g, if_neg (by omega), tp_sg_eq]; exact en
          · have e70 : σ2.1 70 c = σ.1 70 c := by rw [e, tp_fl_g, if_neg (by omega), tp_sg_ne (by omega), tp_sg_ne (by omega), tp_fl_g, if_neg (by omega), tp_sg_ne (by omega), tp_sg_ne (by omega)]
            have e71 : σ2.1 71 c = σ.1 71 c := by rw [e, tp_fl_g, if_neg (by omega), tp_sg_ne (by omega), tp_sg_ne (by omega), tp_fl_g, if_neg (by omega), tp_sg_ne (by omega), tp_sg_ne (by omega)]
            rw [e70, e71, ne (20 + c) 1 (by omega) (by omega) (by omega) (by omega) (by omega), ne (20 + c) 2 (by omega) (by omega) (by omega) (by omega) (by omega)]
            exact hH.1 c hc
        · by_cases hck : c = k
          · subst hck
            rw [e, tp_fl_g, if_pos (by omega), tp_fl_g, if_neg (by omega), tp_sg_ne (by omega), tp_sg_ne (by omega), tp_fl_g, if_pos (by omega)]
          · rw [ne (32 + c) j (by omega) (by omega) (by omega) (by omega) (by omega)]
            rw [e, tp_fl_g, if_neg (by omega), tp_sg_ne (by omega), tp_sg_ne (by omega), tp_fl_g, if_neg (by omega), tp_sg_ne (by omega), tp_sg_ne (by omega)]
            exact hH.2 c j hc hj
      refine tp_up_loop (E := fun i => tp_E 114 56 [.ref 58, .int (nI k), .null, .null, .int (nI i)] [] (tp_fl 72 (64 * k) i (tp_set (tp_set (tp_fl (32 + k) 0 64 (tp_set (tp_set σ (20 + k) 1 b) (20 + k) 2 w)) 70 k b) 71 k w)) _) (n := 64) (fun i hi g => ?_) ?_ 0 (Nat.zero_le _)
      · refine sg_114_56 _ _ ?_
        rw [tp_64, tp_c (show 64 * k + i < 1000000 by omega), show (64 : Int32) = nI 64 from rfl]
        simp only [nI_1]
        exact ⟨fun z => absurd z (tp_nle hi (by omega)), fun _ => ⟨tp_vi (by omega) (by omega), g⟩⟩
      · refine sg_114_56 _ _ ?_
        rw [show (64 : Int32) = nI 64 from rfl]
        exact ⟨fun _ => ⟨rfl, fin _ rfl⟩, fun z => absurd (tp_le.mpr (Int.le_refl _)) z⟩
  · rcases z with z | z | z
    · omega
    · omega
    · exact absurd q3 z
/-! laying a cell -/
theorem sp_41 {σ : tp_St} {k : Nat} (hk : k < 4) : tp_bool 41 [.ref (20 + k)] σ (σ.1 (20 + k) 2 = -1) := fun _ h1 h0 => sg_41_0 _ (tp_q20 hk) ⟨h1, h0⟩
theorem sp_42 {σ : tp_St} {k : Nat} {i : Int32} (hk : k < 4) : tp_bool 42 [.ref (20 + k), .int i] σ (0 ≤ i.toInt ∧ i.toInt < (σ.1 (20 + k) 2).toInt) := by
  intro post h1 h0
  refine sg_42_0 _ _ (tp_q20 hk) ⟨fun z => h0 (fun w => ?_), fun z => ⟨fun z2 => h0 (fun w => ?_), fun z2 => h1 ?_⟩⟩
  · rw [tp_lt] at z; have := w.1; have : i.toInt < 0 := z; omega
  · rw [tp_le] at z2; omega
  · rw [tp_lt] at z; rw [tp_le] at z2; have : ¬ i.toInt < 0 := z; omega
def ly_v (l : Nat) (v : Int32) : Int32 := if l = 0 then v.toInt8.toInt32 else if l = 1 then v.toInt16.toInt32 else v
theorem sh_8 (x : Int32) : (x <<< (24 &&& 31)) >>> (24 &&& 31) = x.toInt8.toInt32 := by
  apply Int32.toInt_inj.mp
  rw [show ((24 : Int32) &&& 31) = 24 from by decide]
  rw [Int8.toInt_toInt32, Int32.toInt_toInt8]
  rw [← Int32.toInt_toBitVec, Int32.toBitVec_shiftRight, Int32.toBitVec_shiftLeft]
  rw [show ((24 : Int32).toBitVec.smod 32) = 24#32 from by decide]
  rw [BitVec.sshiftRight_eq', BitVec.toInt_sshiftRight, BitVec.shiftLeft_eq', BitVec.toInt_shiftLeft]
  have e : x.toInt = (x.toBitVec.toNat : Int).bmod (2 ^ 32) := by rw [← Int32.toInt_toBitVec, BitVec.toInt_eq_toNat_bmod]
  rw [e]
  generalize x.toBitVec.toNat = n
  simp only [Int.bmod_def, Int.shiftRight_eq_div_pow, Nat.shiftLeft_eq]
  simp
  omega
theorem sh_16 (x : Int32) : (x <<< (16 &&& 31)) >>> (16 &&& 31) = x.toInt16.toInt32 := by
  apply Int32.toInt_inj.mp
  rw [show ((16 : Int32) &&& 31) = 16 from by decide]
  rw [Int16.toInt_toInt32, Int32.toInt_toInt16]
  rw [← Int32.toInt_toBitVec, Int32.toBitVec_shiftRight, Int32.toBitVec_shiftLeft]
  rw [show ((16 : Int32).toBitVec.smod 32) = 16#32 from by decide]
  rw [BitVec.sshiftRight_eq', BitVec.toInt_sshiftRight, BitVec.shiftLeft_eq', BitVec.toInt_shiftLeft]
  have e : x.toInt = (x.toBitVec.toNat : Int).bmod (2 ^ 32) := by rw [← Int32.toInt_toBitVec, BitVec.toInt_eq_toNat_bmod]
  rw [e]
  generalize x.toBitVec.toNat = n
  simp only [Int.bmod_def, Int.shiftRight_eq_div_pow, Nat.shiftLeft_eq]
  simp
  omega
theorem sp_44 {σ : tp_St} {k j l n : Nat} {v : Int32} {post : Int32 → tp_St → Prop} (hk : k < 4) (hl : σ.1 (20 + k) 1 = nI l) (hl3 : l < 3) (hn : σ.1 (20 + k) 2 = nI n) (hj : j < n) (hn64 : n ≤ 64) (hp : post 0 (tp_set σ (32 + k) j (ly_v l v))) : tp_E 44 0 [.ref (20 + k), .int (nI j), .int v] [] σ post := by
  refine sg_44_0 _ _ _ (tp_q20 hk) (tp_if (sp_42 hk) (fun q => ?_) (fun q => absurd ⟨by rw [tp_t (by omega)]; omega, by rw [tp_t (by omega), hn, tp_t (by omega)]; omega⟩ q))
  rw [hl, tp_c (show j < 1000000 by omega), tp_t (show l < 1000000 by omega), tp_rr20 hk]
  have hv := tp_vi (show j < 64 by omega) (by omega)
  unfold ly_v at hp
  refine ⟨fun z => ⟨hv, ?_⟩, fun z => ⟨fun z2 => ⟨hv, ?_⟩, fun z2 => ⟨hv, ?_⟩⟩⟩
  · rw [if_pos (by omega)] at hp; exact hp
  · rw [if_neg (by omega), if_pos (by omega)] at hp; exact hp
  · rw [if_neg (by omega), if_neg (by omega)] at hp; exact hp
theorem op_lay {σ : tp_St} {a b v : Int32} (h : RR_all σ) : tp_E 69 0 [.ref 0, .int a, .int b, .int v, .null] [] σ (tp_Res 115 [.ref 58, .int a, .int b, .int v]) := by
  obtain ⟨nT, nR, nS, nB, nD, hT, hP, hR, hS, hH, hA, hL, hD, hK⟩ := id h
  refine sg_69_0 _ _ _ (tp_if (sp_91 (l := 0) rfl (h := 3) rfl) (fun q1 => sg_115_0 _ _ _ (tp_if (sp_101 tp_i64 (l := 0) rfl (h := 3) rfl) (fun p1 => by omega) (fun p1 => ⟨rfl, h⟩))) (fun q1 => ?_))
  obtain ⟨k, hk3, rfl⟩ := tp_rg_nI (x := a) (hi := 3) ⟨by omega, by omega⟩ (by omega)
  have hk : k < 4 := by omega
  refine ⟨tp_vi hk (by omega), tp_q4 (P := fun q => tp_E 41 0 [.ref q] [] σ (fun r2 σ2 => (r2 = 0 → tp_E 42 0 [.ref q, .int b] [] σ2 (fun r6 σ6 => (r6 = 0 → tp_Res 115 [.ref 58, .int (nI k), .int b, .int v] (-12) σ6) ∧ (¬ r6 = 0 → tp_E 44 0 [.ref q, .int b, .int v] [] σ6 (fun _ σ7 => tp_Res 115 [.ref 58, .int (nI k), .int b, .int v] 1 σ7)))) ∧ (¬ r2 = 0 → tp_Res 115 [.ref 58, .int (nI k), .int b, .int v] (-11) σ2))) hk (tp_if (sp_41 hk) (fun q2 => ?_) (fun q2 => ?_))⟩
  · refine sg_115_0 _ _ _ (tp_if (sp_101 tp_i64 (l := 0) rfl (h := 3) rfl) (fun p1 => ?_) (fun p1 => by omega))
    rw [tp_c (show k < 1000000 by omega)]
    rcases hH.1 k hk with ⟨h1, h2⟩ | ⟨l, n, h1, h2, h3, h4, h5, h6⟩
    · exact ⟨tp_vi hk (by omega), fun _ => ⟨rfl, h⟩, fun z => absurd h1 z⟩
    · rw [h6, tp_eq, tp_t (by omega)] at q2
      have : (n : Int) = -1 := q2
      omega
  · rcases hH.1 k hk with ⟨h1, h2⟩ | ⟨l, n, h1, h2, h3, h4, h5, h6⟩
    · exact absurd h2 q2
    have hne : ¬ nI l = -4 := by
      rw [tp_eq, tp_t (by omega)]
      show ¬ (l : Int) = -4
      omega
    refine tp_if (sp_42 hk) (fun q3 => ?_) (fun q3 => ?_)
    · rw [h6, tp_t (by omega)] at q3
      obtain ⟨j, hj, rfl⟩ := tp_rg_nI (x := b) (hi := n - 1) ⟨by omega, by omega⟩ (by omega)
      have hjn : j < n := by have := q3.2; rw [tp_t (by omega)] at this; omega
      refine sp_44 hk h4 h1 h6 hjn h2 ?_
      refine sg_115_0 _ _ _ (tp_if (sp_101 tp_i64 (l := 0) rfl (h := 3) rfl) (fun p1 => ?_) (fun p1 => by omega))
      rw [tp_c (show k < 1000000 by omega), tp_sg_ne (by omega), tp_sg_ne (by omega), h3, h5]
      refine ⟨tp_vi hk (by omega), fun z => absurd z hne, fun _ => ⟨tp_vi hk (by omega), tp_if (sp_101 tp_i64 (l := 0) rfl (h := (n : Int) - 1) (by rw [tp_i64, tp_pred (by omega)])) (fun p2 => ?_) (fun p2 => absurd ⟨q3.1, by omega⟩ p2)⟩⟩
      rw [tp_sg_ne (by omega), h3, tp_64, tp_c (show 64 * k + j < 1000000 by omega)]
      have hv := tp_vi (show 64 * k + j < 256 by omega) (by omega)
      have fin : RR_all (tp_set (tp_set σ (32 + k) j (ly_v l v)) 72 (64 * k + j) (ly_v l v)) := by
        refine ⟨nT, nR, nS, nB, nD, RT_fr hT (fun o k hd => (tp_sg_ne (by omega)).trans ((tp_sg_ne (by omega)).trans (rfl))), RP_fr hP (fun o k hd => (tp_sg_ne (by omega)).trans ((tp_sg_ne (by omega)).trans (rfl))), RR_fr hR (fun o k hd => (tp_sg_ne (by omega)).trans ((tp_sg_ne (by omega)).trans (rfl))), RS_fr hS (Nat.le_refl _) (Nat.le_refl _) (fun o k hd => (tp_sg_ne (by omega)).trans ((tp_sg_ne (by omega)).trans (rfl))), ⟨fun c hc => ?_, fun c i hc hi => ?_⟩, RA_fr hA (fun o k hd => (tp_sg_ne (by omega)).trans ((tp_sg_ne (by omega)).trans (rfl))), RLw_fr hL rfl (fun o k hd => (tp_sg_ne (by omega)).trans ((tp_sg_ne (by omega)).trans (rfl))), RD_fr hD (fun o k hd => (tp_sg_ne (by omega)).trans ((tp_sg_ne (by omega)).trans (rfl))), RK_fr hK (fun o k hd => (tp_sg_ne (by omega)).trans ((tp_sg_ne (by omega)).trans (rfl)))⟩
        · have e : ∀ o i, o ≠ 72 → o ≠ 32 + k → (tp_set (tp_set σ (32 + k) j (ly_v l v)) 72 (64 * k + j) (ly_v l v)).1 o i = σ.1 o i := fun o i h1 h2 => by rw [tp_sg_ne (by omega), tp_sg_ne (by omega)]
          rw [e 70 c (by omega) (by omega), e 71 c (by omega) (by omega), e (20 + c) 1 (by omega) (by omega), e (20 + c) 2 (by omega) (by omega)]
          exact hH.1 c hc
        · by_cases hci : c = k ∧ i = j
          · obtain ⟨rfl, rfl⟩ := hci
            rw [tp_sg_eq, tp_sg_ne (by omega), tp_sg_eq]
          · rw [tp_sg_ne (by omega), tp_sg_ne (by omega), tp_sg_ne (by omega), tp_sg_ne (by omega)]
            exact hH.2 c i hc hi
      unfold ly_v at fin ⊢
      rw [sh_8, sh_16]
      refine ⟨tp_vi hk (by omega), fun z => ⟨hv, rfl, ?_⟩, fun z => ⟨tp_vi hk (by omega), fun z2 => ⟨hv, rfl, ?_⟩, fun z2 => ⟨hv, rfl, ?_⟩⟩⟩
      · have zl : l = 0 := (tp_ne (a := l) (b := 0) (by omega) (by omega)).mp z
        rw [if_pos zl] at fin ⊢; exact fin
      · have zl : ¬ l = 0 := fun w => z (by rw [w]; rfl)
        have zl2 : l = 1 := (tp_ne (a := l) (b := 1) (by omega) (by omega)).mp z2
        rw [if_neg zl, if_pos zl2] at fin ⊢; exact fin
      · have zl : ¬ l = 0 := fun w => z (by rw [w]; rfl)
        have zl2 : ¬ l = 1 := fun w => z2 (by rw [w]; rfl)
        rw [if_neg zl, if_neg zl2] at fin ⊢; exact fin
    · refine sg_115_0 _ _ _ (tp_if (sp_101 tp_i64 (l := 0) rfl (h := 3) rfl) (fun p1 => ?_) (fun p1 => by omega))
      rw [tp_c (show k < 1000000 by omega), h3, h5]
      refine ⟨tp_vi hk (by omega), fun z => absurd z hne, fun _ => ⟨tp_vi hk (by omega), tp_if (sp_101 tp_i64 (l := 0) rfl (h := (n : Int) - 1) (by rw [tp_i64, tp_pred (by omega)])) (fun p2 => absurd ⟨p2.1, by rw [h6, tp_t (by omega)]; omega⟩ q3) (fun p2 => ⟨rfl, h⟩)⟩⟩
end
section
/-! selling: a ghost g of both sides; rows behind the n sales may be anything -/
def wc (n : Nat) (g σ : tp_St) : Prop := (∀ o k, ¬ (58 ≤ o ∧ o < 82) → ¬ ((15 ≤ o ∧ o ≤ 18) ∧ n ≤ k) → σ.1 o k = g.1 o k) ∧ σ.2 = g.2
def wr (n : Nat) (g σ : tp_St) : Prop := ∀ o k, (58 ≤ o ∧ o < 82) → ¬ ((66 ≤ o ∧ o ≤ 69) ∧ n ≤ k) → σ.1 o k = g.1 o k
def sc (σ τ : tp_St) : Prop := (∀ o k, ¬ (58 ≤ o ∧ o < 82) → τ.1 o k = σ.1 o k) ∧ τ.2 = σ.2
theorem wc_rf {n : Nat} {g : tp_St} : wc n g g := ⟨fun _ _ _ _ => rfl, rfl⟩
theorem wr_rf {n : Nat} {g : tp_St} : wr n g g := fun _ _ _ _ => rfl
theorem wr_ag {n : Nat} {g σ τ : tp_St} (h : wr n g σ) (a : tp_ag σ τ) : wr n g τ := fun o k h1 h2 => (a o k h1.1 h1.2).trans (h o k h1 h2)
theorem wc_sc {n : Nat} {g σ τ : tp_St} (h : wc n g σ) (a : sc σ τ) : wc n g τ := ⟨fun o k h1 h2 => (a.1 o k h1).trans (h.1 o k h1 h2), a.2.trans h.2⟩
theorem sc_rf {σ : tp_St} : sc σ σ := ⟨fun _ _ _ => rfl, rfl⟩
theorem sc_tr {a b c : tp_St} (h : sc a b) (k : sc b c) : sc a c := ⟨fun o i h1 => (k.1 o i h1).trans (h.1 o i h1), k.2.trans h.2⟩
theorem ag_tr {a b c : tp_St} (h : tp_ag a b) (k : tp_ag b c) : tp_ag a c := fun o i h1 h2 => (k o i h1 h2).trans (h o i h1 h2)
theorem sg_cg {σ g : tp_St} {a b o k : Nat} {v : Int32} (h : ¬ (o = a ∧ k = b) → σ.1 o k = g.1 o k) : (tp_set σ a b v).1 o k = (tp_set g a b v).1 o k := by
  by_cases e : o = a ∧ k = b
  · obtain ⟨rfl, rfl⟩ := e
    rw [tp_sg_eq, tp_sg_eq]
  · rw [tp_sg_ne (by omega), tp_sg_ne (by omega)]
    exact h e
def RRn (g : tp_St) (nT nR n : Nat) : Prop := RT g nT ∧ RP g ∧ RR g nR ∧ RS g nT nR n ∧ RH g ∧ (∃ nB, RA g nB) ∧ RLw g ∧ (∃ nD, RD g nD) ∧ RK g
theorem RRn_all {g : tp_St} {nT nR n : Nat} (h : RRn g nT nR n) : RR_all g := by
  obtain ⟨hT, hP, hR, hS, hH, ⟨nB, hA⟩, hL, ⟨nD, hD⟩, hK⟩ := h
  exact ⟨nT, nR, n, nB, nD, hT, hP, hR, hS, hH, hA, hL, hD, hK⟩
theorem RR_wk {g σ : tp_St} {nT nR n : Nat} (h : RRn g nT nR n) (hc : wc n g σ) (hr : wr n g σ) : RR_all σ := by
  obtain ⟨hT, hP, hR, hS, hH, ⟨nB, hA⟩, hL, ⟨nD, hD⟩, hK⟩ := h
  have e : ∀ o k, ¬ (((15 ≤ o ∧ o ≤ 18) ∨ (66 ≤ o ∧ o ≤ 69)) ∧ n ≤ k) → σ.1 o k = g.1 o k := fun o k h1 => by
    by_cases h2 : 58 ≤ o ∧ o < 82
    · exact hr o k h2 (by omega)
    · exact hc.1 o k h2 (by omega)
  refine ⟨nT, nR, n, nB, nD, RT_fr hT (fun o k hd => e o k (by omega)), RP_fr hP (fun o k hd => e o k (by omega)), RR_fr hR (fun o k hd => e o k (by omega)), ⟨hS.1, by rw [e 4 4 (by omega)]; exact hS.2.1, by rw [e 58 9 (by omega)]; exact hS.2.2.1, fun k hk => RS1_fr (hS.2.2.2 k hk) (Nat.le_refl _) (Nat.le_refl _) (fun o j hj => e o j (by omega))⟩, RH_fr hH (fun o k hd => e o k (by omega)), RA_fr hA (fun o k hd => e o k (by omega)), RLw_fr hL hc.2 (fun o k hd => e o k (by omega)), RD_fr hD (fun o k hd => e o k (by omega)), RK_fr hK (fun o k hd => e o k (by omega))⟩
def ls (g : tp_St) (t : Int32) : Nat → Int32
  | 0 => 0
  | n + 1 => if g.1 15 n = t then g.1 17 n else ls g t n
def sl_st (g : tp_St) (t s : Int32) : Int32 := if g.1 13 t.toNatClampNeg = 0 then 9 - s else s
def sl_c (g : tp_St) (t : Int32) : Nat := (g.1 12 t.toNatClampNeg).toNatClampNeg
def sl_x (g : tp_St) (t y : Int32) : Int32 := g.1 (46 + sl_c g t) y.toNatClampNeg
def sl_ok (nT nR : Nat) (t y s : Int32) : Prop := (0 ≤ t.toInt ∧ t.toInt < nR) ∧ (0 ≤ y.toInt ∧ y.toInt < nT) ∧ (0 ≤ s.toInt ∧ s.toInt ≤ 9)
def sl_no (g : tp_St) (n : Nat) (t y s : Int32) : Option Int32 := if g.1 14 t.toNatClampNeg = 0 then some (-2) else if sl_st g t s < ls g t n then some (-2) else if sl_st g t s = 9 then some (-2) else if n = 200 then some (-3) else if g.1 (52 + sl_c g t) y.toNatClampNeg = sl_x g t y then some (-4) else none
/-- what a sale answers when it fails -/
def sl_f (g : tp_St) (nT nR n : Nat) (t y s : Int32) (r : Option Int32) : Prop := (¬ sl_ok nT nR t y s ∧ r = some (-1)) ∨ (sl_ok nT nR t y s ∧ r = sl_no g n t y s)
def sl_cs (g : tp_St) (c yy n : Nat) (t y st x : Int32) : tp_St := tp_set (tp_set (tp_set (tp_set (tp_set (tp_set g (46 + c) yy (x + 1)) 15 n t) 16 n y) 17 n st) 18 n x) 4 4 (nI (n + 1))
def sl_ms (g : tp_St) (c yy n : Nat) (t y s x : Int32) : tp_St := tp_set (tp_set (tp_set (tp_set (tp_set (tp_set g 66 n t) 67 n y) 68 n s) 69 n x) 61 (5 * c + yy) (x + 1)) 58 9 (nI (n + 1))
def sl_b (g : tp_St) (n : Nat) (t y s : Int32) : tp_St := sl_ms (sl_cs g (sl_c g t) y.toNatClampNeg n t y (sl_st g t s) (sl_x g t y)) (sl_c g t) y.toNatClampNeg n t y s (sl_x g t y)
theorem sl_ms_c {g : tp_St} {c yy n : Nat} {t y s x : Int32} {o k : Nat} (h : ¬ (58 ≤ o ∧ o < 82)) : (sl_ms g c yy n t y s x).1 o k = g.1 o k := by
  unfold sl_ms
  rw [tp_sg_ne (by omega), tp_sg_ne (by omega), tp_sg_ne (by omega), tp_sg_ne (by omega), tp_sg_ne (by omega), tp_sg_ne (by omega)]
theorem sl_cs_r {g : tp_St} {c yy n : Nat} {t y st x : Int32} {o k : Nat} (hc : c < 6) (h : 58 ≤ o ∧ o < 82) : (sl_cs g c yy n t y st x).1 o k = g.1 o k := by
  unfold sl_cs
  rw [tp_sg_ne (by omega), tp_sg_ne (by omega), tp_sg_ne (by omega), tp_sg_ne (by omega), tp_sg_ne (by omega), tp_sg_ne (by omega)]
/-- the class's side -/
theorem sp_32 {g σ : tp_St} {t : Int32} {n : Nat} (h4 : σ.1 4 4 = nI n) (hn : n ≤ 200) (e : ∀ o k, (o = 15 ∨ o = 17) → k < n → σ.1 o k = g.1 o k) : tp_val 32 [.ref 4, .int t, .null] σ (ls g t n) := by
  intro post hp
  refine sg_32_0 _ ?_
  rw [h4]
  have key : ∀ m, m ≤ n → post (ls g t m) σ → tp_E 32 7 [.ref 4, .int t, .int (nI m - 1)] [] σ post := by
    intro m
    induction m with
    | zero =>
      intro _ h
      refine sg_32_7 _ _ ?_
      rw [tp_neg1]
      exact ⟨fun _ => h, fun z => absurd (by decide) z⟩
    | succ m ih =>
      intro hle h
      refine sg_32_7 _ _ ?_
      rw [nI_pred, tp_m1, tp_c (show m < 1000000 by omega), e 15 m (Or.inl rfl) (by omega), e 17 m (Or.inr rfl) (by omega)]
      unfold ls at h
      refine ⟨fun z => absurd z (by rw [tp_lt, tp_t (by omega)]; show ¬ (m : Int) < 0; omega), fun _ => ⟨tp_vi (by omega) (by omega), fun z => ⟨tp_vi (by omega) (by omega), ?_⟩, fun z => ih (by omega) ?_⟩⟩
      · rw [if_pos z] at h; exact h
      · rw [if_neg z] at h; exact h
  exact key n (Nat.le_refl _) hp
theorem sp_57 {σ : tp_St} {t : Nat} {s : Int32} (ht : t < 16) : tp_val 57 [.ref 3, .int (nI t), .int s] σ (if σ.1 13 t = 0 then 9 - s else s) := by
  intro post hp
  refine sg_57_0 _ _ ?_
  rw [tp_c (show t < 1000000 by omega)]
  refine ⟨tp_vi ht (by omega), fun z => ?_, fun z => ?_⟩
  · rw [if_pos z] at hp; exact hp
  · rw [if_neg z] at hp; exact hp
theorem sp_30 {σ : tp_St} {n : Nat} (h4 : σ.1 4 4 = nI n) (hn : n ≤ 200) : tp_bool 30 [.ref 4] σ (n = 200) := by
  intro post h1 h0
  refine sg_30_0 ?_
  rw [h4, tp_lt, tp_t (by omega)]
  refine ⟨fun z => h0 (fun w => ?_), fun z => h1 ?_⟩
  · have : (n : Int) < 200 := z
    omega
  · have : ¬ (n : Int) < 200 := z
    omega
theorem sp_66 {g σ : tp_St} {nT nR n : Nat} {t y s : Int32} {post : Int32 → tp_St → Prop} (hT : RT g nT) (hP : RP g) (hR : RR g nR) (hS : RS g nT nR n) (hw : wc n g σ) (hf : ∀ e, sl_f g nT nR n t y s (some e) → post e σ) (hk : sl_f g nT nR n t y s none → ∀ σ', wc (n + 1) (sl_b g n t y s) σ' → tp_ag σ σ' → post (sl_x g t y) σ') : tp_E 66 0 [.ref 0, .int t, .int y, .int s, .null, .null, .null] [] σ post := by
  obtain ⟨s1, s2, s3, s4⟩ := id hS
  have h33 : σ.1 3 3 = nI nR := (hw.1 3 3 (by omega) (by omega)).trans hR.2.1
  have h12 : σ.1 1 2 = nI nT := (hw.1 1 2 (by omega) (by omega)).trans hT.2.1
  have h44 : σ.1 4 4 = nI n := (hw.1 4 4 (by omega) (by omega)).trans s2
  have r16 := hR.1
  have t5 := hT.1
  have bad : ¬ sl_ok nT nR t y s → post (-1) σ := fun z => hf _ (Or.inl ⟨z, rfl⟩)
  refine sg_66_0 _ _ _ (tp_if (sp_53 h33 (by omega)) (fun q1 => tp_if (sp_59 h12 (by omega)) (fun q2 => tp_if (sp_91 (l := 0) rfl (h := 9) rfl) (fun q3 => bad (fun z => by have := z.2.2; omega)) (fun q3 => ?_)) (fun q2 => bad (fun z => q2 z.2.1))) (fun q1 => bad (fun z => q1 z.1)))
  have hok : sl_ok nT nR t y s := ⟨q1, q2, by omega, by omega⟩
  obtain ⟨tt, ht, rfl⟩ := tp_rg_nI (x := t) (hi := nR - 1) ⟨q1.1, by omega⟩ (by omega)
  have htR : tt < nR := by have := q1.2; rw [tp_t (by omega)] at this; omega
  obtain ⟨yy, hy, rfl⟩ := tp_rg_nI (x := y) (hi := nT - 1) ⟨q2.1, by omega⟩ (by omega)
  have hyT : yy < nT := by have := q2.2; rw [tp_t (by omega)] at this; omega
  obtain ⟨-, -, -, ⟨c, hc, ec⟩, -, -⟩ := hR.2.2.2 tt htR
  have ecc : sl_c g (nI tt) = c := by unfold sl_c; rw [tp_c (show tt < 1000000 by omega), ec, tp_c (by omega)]
  obtain ⟨-, -, p3, p4, p5⟩ := hP c yy hc (by omega)
  have fail : ∀ e, sl_no g n (nI tt) (nI yy) s = some e → post e σ := fun e z => hf e (Or.inr ⟨hok, z.symm⟩)
  have good : sl_no g n (nI tt) (nI yy) s = none → ∀ σ', wc (n + 1) (sl_b g n (nI tt) (nI yy) s) σ' → tp_ag σ σ' → post (sl_x g (nI tt) (nI yy)) σ' := fun z => hk (Or.inr ⟨hok, z.symm⟩)
  unfold sl_no at fail good
  have est : sl_st g (nI tt) s = if σ.1 13 tt = 0 then 9 - s else s := by unfold sl_st; rw [tp_c (show tt < 1000000 by omega), hw.1 13 tt (by omega) (by omega)]
  have e14 := hw.1 14 tt (by omega) (by omega)
  have e12 := (hw.1 12 tt (by omega) (by omega)).trans ec
  have e46 := hw.1 (46 + c) yy (by omega) (by omega)
  have e52 := hw.1 (52 + c) yy (by omega) (by omega)
  have ex : sl_x g (nI tt) (nI yy) = σ.1 (46 + c) yy := by unfold sl_x; rw [ecc, tp_c (show yy < 1000000 by omega), e46]
  refine sp_57 (by omega) _ ?_
  rw [← est, tp_c (show tt < 1000000 by omega), e14]
  rw [ecc, tp_c (show tt < 1000000 by omega), tp_c (show yy < 1000000 by omega), ex, ← e52] at fail good
  refine ⟨tp_vi (by omega) (by omega), fun z => fail _ (by rw [if_pos z]), fun z1 => sp_32 h44 s1 (fun o k ho hk => hw.1 o k (by omega) (by omega)) _ ⟨fun z => fail _ (by rw [if_neg z1, if_pos z]), fun z2 => ⟨fun z => fail _ (by rw [if_neg z1, if_neg z2, if_pos z]), fun z3 => tp_if (sp_30 h44 s1) (fun z => fail _ (by rw [if_neg z1, if_neg z2, if_neg z3, if_pos z])) (fun z4 => ⟨tp_vi (by omega) (by omega), ?_⟩)⟩⟩⟩
  rw [e12]
  refine sp_14 hc (by omega) _ ⟨fun z => fail _ (by rw [if_neg z1, if_neg z2, if_neg z3, if_neg z4, if_pos (tp_sub0 z)]), fun z5 => ?_⟩
  have z6 : ¬ σ.1 (52 + c) yy = σ.1 (46 + c) yy := fun w => z5 (by rw [w, Int32.sub_self])
  refine sg_16_0 _ _ ?_
  rw [tp_c (show c < 1000000 by omega), tp_c (show yy < 1000000 by omega)]
  refine ⟨tp_vi hc (by omega), tp_vi (by omega) (by omega), tp_vi (by omega) (by omega), ?_⟩
  refine sg_31_0 _ _ _ _ (tp_if (sp_30 (n := n) (by rw [tp_sg_ne (by omega)]; exact h44) s1) (fun z => absurd z z4) (fun _ => ?_))
  rw [tp_sg_ne (by omega), h44, tp_c (show n < 1000000 by omega), nI_1]
  have hv := tp_vi (show n < 200 by omega) (by omega)
  refine ⟨hv, hv, hv, hv, ?_⟩
  have g2 := good (by rw [if_neg z1, if_neg z2, if_neg z3, if_neg z4, if_neg z6])
  refine g2 _ ⟨fun o k h1 h2 => ?_, hw.2⟩ (fun o k h1 h2 => ?_)
  · unfold sl_b
    rw [sl_ms_c h1, ecc, tp_c (show yy < 1000000 by omega), ex]
    unfold sl_cs
    exact sg_cg (fun a1 => sg_cg (fun a2 => sg_cg (fun a3 => sg_cg (fun a4 => sg_cg (fun a5 => sg_cg (fun a6 => hw.1 o k h1 (by omega)))))))
  · rw [tp_sg_ne (by omega), tp_sg_ne (by omega), tp_sg_ne (by omega), tp_sg_ne (by omega), tp_sg_ne (by omega), tp_sg_ne (by omega)]
/-- the reference's side -/
theorem sp_110g {g υ : tp_St} {t : Nat} {s : Int32} (ht : t < 16) (e : υ.1 64 t = g.1 13 t) : tp_val 110 [.ref 58, .int (nI t), .int s] υ (if g.1 13 t = 0 then 9 - s else s) := by
  intro post hp
  refine sg_110_0 _ _ ?_
  rw [tp_c (show t < 1000000 by omega), e]
  refine ⟨tp_vi (by omega) (by omega), fun z => ?_, fun z => ?_⟩
  · rw [if_pos z] at hp; exact hp
  · rw [if_neg z] at hp; exact hp
theorem sp_111 {g υ : tp_St} {t nT nR n : Nat} (hR : RR g nR) (hS : RS g nT nR n) (hw : wr n g υ) (ht : t < nR) : tp_val 111 [.ref 58, .int (nI t), .null, .null] υ (ls g (nI t) n) := by
  intro post hp
  have r16 := hR.1
  obtain ⟨s1, s2, s3, s4⟩ := id hS
  have h59 : υ.1 58 9 = nI n := (hw 58 9 (by omega) (by omega)).trans s3
  refine sg_111_0 _ ?_
  refine tp_up_loop (E := fun i => tp_E 111 4 [.ref 58, .int (nI t), .int (ls g (nI t) i), .int (nI i)] [] υ post) (n := n) (fun i hi h => ?_) ?_ 0 (Nat.zero_le _)
  · obtain ⟨⟨u, u1, u2, u3, u4⟩, -⟩ := s4 i hi
    refine sg_111_4 _ _ _ ?_
    rw [tp_c (show i < 1000000 by omega), h59, hw 66 i (by omega) (by omega), hw 68 i (by omega) (by omega), u3, nI_1]
    unfold ls at h
    rw [u2] at h
    refine ⟨fun z => absurd z (tp_nle hi (by omega)), fun _ => ⟨tp_vi (by omega) (by omega), fun z => ⟨tp_vi (by omega) (by omega), sp_110g (g := g) (by omega) ((hw 64 t (by omega) (by omega)).trans (hR.2.2.2 t ht).2.1) _ ?_⟩, fun z => ?_⟩⟩
    · have zt : u = t := (tp_ne (by omega) (by omega)).mp z
      subst zt
      rw [← u4]
      rw [if_pos z] at h
      exact h
    · rw [if_neg z] at h; exact h
  · refine sg_111_4 _ _ _ ?_
    rw [h59]
    exact ⟨fun _ => hp, fun z => absurd (tp_le.mpr (Int.le_refl _)) z⟩
theorem sp_112 {g υ : tp_St} {nT nR n : Nat} {t y s : Int32} {post : Int32 → tp_St → Prop} (hT : RT g nT) (hP : RP g) (hR : RR g nR) (hS : RS g nT nR n) (hw : wr n g υ) (hf : ∀ e, sl_f g nT nR n t y s (some e) → post e υ) (hk : sl_f g nT nR n t y s none → ∀ υ', wr (n + 1) (sl_b g n t y s) υ' → sc υ υ' → post (sl_x g t y) υ') : tp_E 112 0 [.ref 58, .int t, .int y, .int s, .null] [] υ post := by
  obtain ⟨s1, s2, s3, s4⟩ := id hS
  have h33 : υ.1 58 5 = nI nR := (hw 58 5 (by omega) (by omega)).trans hR.2.2.1
  have h12 : υ.1 58 0 = nI nT := (hw 58 0 (by omega) (by omega)).trans hT.2.2.1
  have h44 : υ.1 58 9 = nI n := (hw 58 9 (by omega) (by omega)).trans s3
  have r16 := hR.1
  have t5 := hT.1
  have bad : ¬ sl_ok nT nR t y s → post (-1) υ := fun z => hf _ (Or.inl ⟨z, rfl⟩)
  refine sg_112_0 _ _ _ (tp_if (sp_107 h33 (by omega)) (fun q1 => tp_if (sp_101 tp_i64 (l := 0) rfl (h := (nT : Int) - 1) (by rw [tp_i64, h12, tp_pred (by omega)])) (fun q2 => tp_if (sp_101 tp_i64 (l := 0) rfl (h := 9) rfl) (fun q3 => ?_) (fun q3 => bad (fun z => q3 z.2.2))) (fun q2 => bad (fun z => by have := z.2.1; omega))) (fun q1 => bad (fun z => q1 z.1)))
  have q2' : 0 ≤ y.toInt ∧ y.toInt < nT := by omega
  have hok : sl_ok nT nR t y s := ⟨q1, q2', by omega, by omega⟩
  obtain ⟨tt, ht, rfl⟩ := tp_rg_nI (x := t) (hi := nR - 1) ⟨q1.1, by omega⟩ (by omega)
  have htR : tt < nR := by have := q1.2; rw [tp_t (by omega)] at this; omega
  obtain ⟨yy, hy, rfl⟩ := tp_rg_nI (x := y) (hi := nT - 1) ⟨q2.1, by omega⟩ (by omega)
  have hyT : yy < nT := by have := q2'.2; rw [tp_t (by omega)] at this; omega
  obtain ⟨k1, k2, k3, ⟨c, hc, ec⟩, -, -⟩ := hR.2.2.2 tt htR
  have ecc : sl_c g (nI tt) = c := by unfold sl_c; rw [tp_c (show tt < 1000000 by omega), ec, tp_c (by omega)]
  obtain ⟨p1, p2, p3, p4, p5⟩ := hP c yy hc (by omega)
  have fail : ∀ e, sl_no g n (nI tt) (nI yy) s = some e → post e υ := fun e z => hf e (Or.inr ⟨hok, z.symm⟩)
  have good : sl_no g n (nI tt) (nI yy) s = none → ∀ υ', wr (n + 1) (sl_b g n (nI tt) (nI yy) s) υ' → sc υ υ' → post (sl_x g (nI tt) (nI yy)) υ' := fun z => hk (Or.inr ⟨hok, z.symm⟩)
  unfold sl_no at fail good
  have est : sl_st g (nI tt) s = if g.1 13 tt = 0 then 9 - s else s := by unfold sl_st; rw [tp_c (show tt < 1000000 by omega)]
  have e65 := (hw 65 tt (by omega) (by omega)).trans k3
  have e64 := (hw 64 tt (by omega) (by omega)).trans k2
  have e63 := (hw 63 tt (by omega) (by omega)).trans (k1.trans ec)
  have e61 := (hw 61 (5 * c + yy) (by omega) (by omega)).trans p1
  have e62 := (hw 62 (5 * c + yy) (by omega) (by omega)).trans p2
  have ex : sl_x g (nI tt) (nI yy) = g.1 (46 + c) yy := by unfold sl_x; rw [ecc, tp_c (show yy < 1000000 by omega)]
  rw [ecc, tp_c (show tt < 1000000 by omega), tp_c (show yy < 1000000 by omega), ex] at fail good
  rw [tp_c (show tt < 1000000 by omega), e65]
  refine ⟨tp_vi (by omega) (by omega), fun z => fail _ (by rw [if_pos z]), fun z1 => sp_110g (g := g) (by omega) e64 _ (sp_111 hR hS hw htR _ ?_)⟩
  rw [← est]
  refine ⟨fun z => fail _ (by rw [if_neg z1, if_pos z]), fun z2 => sp_110g (g := g) (by omega) e64 _ ?_⟩
  rw [← est]
  refine ⟨fun z => fail _ (by rw [if_neg z1, if_neg z2, if_pos z]), fun z3 => ?_⟩
  rw [h44, e63, tp_5c, tp_c (show 5 * c + yy < 1000000 by omega), e61, e62, tp_c (show n < 1000000 by omega), nI_1, nI_pred, tp_c (show n < 1000000 by omega)]
  have hv30 := tp_vi (show 5 * c + yy < 30 by omega) (by omega)
  refine ⟨fun z => ?_, fun z => ⟨tp_vi (by omega) (by omega), hv30, hv30, fun w => ?_, fun w => ?_⟩⟩
  · have zn : n = 200 := by rw [tp_eq, tp_t (by omega)] at z; have : (n : Int) = 200 := z; omega
    exact fail _ (by rw [if_neg z1, if_neg z2, if_neg z3, if_pos zn])
  · have zn : ¬ n = 200 := fun q => z (by rw [q]; rfl)
    exact fail _ (by rw [if_neg z1, if_neg z2, if_neg z3, if_neg zn, if_pos w.symm])
  · have zn : ¬ n = 200 := fun q => z (by rw [q]; rfl)
    have hv := tp_vi (show n < 200 by omega) (by omega)
    refine ⟨hv, hv, hv, hv30, hv, hv30, hv30, hv, ?_⟩
    rw [tp_sg_ne (o' := 69) (by omega), tp_sg_ne (o' := 69) (by omega), tp_sg_eq (o := 69)]
    refine good (by rw [if_neg z1, if_neg z2, if_neg z3, if_neg zn, if_neg (fun q => w q.symm)]) _ (fun o k h1 h2 => ?_) ⟨fun o k h1 => ?_, rfl⟩
    · unfold sl_b
      rw [ecc, tp_c (show yy < 1000000 by omega), ex]
      unfold sl_ms
      refine sg_cg (fun a1 => sg_cg (fun a2 => sg_cg (fun a3 => sg_cg (fun a4 => sg_cg (fun a5 => sg_cg (fun a6 => ?_))))))
      rw [sl_cs_r hc h1]
      exact hw o k h1 (by omega)
    · rw [tp_sg_ne (by omega), tp_sg_ne (by omega), tp_sg_ne (by omega), tp_sg_ne (by omega), tp_sg_ne (by omega), tp_sg_ne (by omega)]
end
section
/-! sales by sheets, and sales taken back -/
theorem sl_f_u {g : tp_St} {nT nR n : Nat} {t y s : Int32} {r r' : Option Int32} (h : sl_f g nT nR n t y s r) (h' : sl_f g nT nR n t y s r') : r = r' := by
  rcases h with ⟨h1, h2⟩ | ⟨h1, h2⟩ <;> rcases h' with ⟨k1, k2⟩ | ⟨k1, k2⟩
  · rw [h2, k2]
  · exact absurd k1 h1
  · exact absurd h1 k1
  · rw [h2, k2]
theorem sl_f_neg {g : tp_St} {nT nR n : Nat} {t y s e : Int32} (h : sl_f g nT nR n t y s (some e)) : e = -1 ∨ e = -2 ∨ e = -3 ∨ e = -4 := by
  rcases h with ⟨h1, h2⟩ | ⟨h1, h2⟩
  · cases h2; exact Or.inl rfl
  · unfold sl_no at h2
    split at h2
    · cases h2; exact Or.inr (Or.inl rfl)
    · split at h2
      · cases h2; exact Or.inr (Or.inl rfl)
      · split at h2
        · cases h2; exact Or.inr (Or.inl rfl)
        · split at h2
          · cases h2; exact Or.inr (Or.inr (Or.inl rfl))
          · split at h2
            · cases h2; exact Or.inr (Or.inr (Or.inr rfl))
            · cases h2
/-- what a sale that is made knows -/
def sl_k (g : tp_St) (nT nR n : Nat) (t y s : Int32) (tt yy c v : Nat) : Prop := t = nI tt ∧ tt < nR ∧ y = nI yy ∧ yy < nT ∧ c < 6 ∧ g.1 12 tt = nI c ∧ sl_c g t = c ∧ sl_x g t y = nI v ∧ g.1 (46 + c) yy = nI v ∧ v < 101000 ∧ (v : Int) < (g.1 (52 + c) yy).toInt ∧ ¬ g.1 14 tt = 0 ∧ sl_st g t s = (if g.1 13 tt = 0 then 9 - s else s) ∧ ¬ sl_st g t s = 9 ∧ n < 200 ∧ 0 ≤ s.toInt ∧ s.toInt ≤ 9
theorem sl_know {g : tp_St} {nT nR n : Nat} {t y s : Int32} (H : RRn g nT nR n) (h : sl_f g nT nR n t y s none) : ∃ tt yy c v, sl_k g nT nR n t y s tt yy c v := by
  obtain ⟨hT, hP, hR, hS, -⟩ := H
  rcases h with ⟨h1, h2⟩ | ⟨⟨q1, q2, q3⟩, h2⟩
  · cases h2
  have r16 := hR.1
  have t5 := hT.1
  obtain ⟨tt, ht, rfl⟩ := tp_rg_nI (x := t) (hi := nR - 1) ⟨q1.1, by omega⟩ (by omega)
  have htR : tt < nR := by have := q1.2; rw [tp_t (by omega)] at this; omega
  obtain ⟨yy, hy, rfl⟩ := tp_rg_nI (x := y) (hi := nT - 1) ⟨q2.1, by omega⟩ (by omega)
  have hyT : yy < nT := by have := q2.2; rw [tp_t (by omega)] at this; omega
  obtain ⟨-, -, -, ⟨c, hc, ec⟩, -, -⟩ := hR.2.2.2 tt htR
  have ecc : sl_c g (nI tt) = c := by unfold sl_c; rw [tp_c (show tt < 1000000 by omega), ec, tp_c (by omega)]
  obtain ⟨-, -, p3, p4, p5⟩ := hP c yy hc (by omega)
  have ex : sl_x g (nI tt) (nI yy) = g.1 (46 + c) yy := by unfold sl_x; rw [ecc, tp_c (show yy < 1000000 by omega)]
  obtain ⟨v, hv, ev⟩ := tp_rg_of (hi := 101000) (x := g.1 (46 + c) yy) p3 (by omega) (by omega)
  have est : sl_st g (nI tt) s = if g.1 13 tt = 0 then 9 - s else s := by unfold sl_st; rw [tp_c (show tt < 1000000 by omega)]
  unfold sl_no at h2
  rw [ecc, tp_c (show tt < 1000000 by omega), tp_c (show yy < 1000000 by omega), ex] at h2
  split at h2
  · cases h2
  rename_i z1
  split at h2
  · cases h2
  split at h2
  · cases h2
  rename_i z3
  split at h2
  · cases h2
  rename_i z4
  split at h2
  · cases h2
  rename_i z5
  have := hS.1
  have hlt : (v : Int) < (g.1 (52 + c) yy).toInt := by
    have e1 : (g.1 (46 + c) yy).toInt = v := by rw [ev, tp_t (by omega)]
    have e2 : ¬ (g.1 (52 + c) yy).toInt = (g.1 (46 + c) yy).toInt := fun q => z5 (tp_eq.mpr q)
    omega
  exact ⟨tt, yy, c, v, rfl, htR, rfl, hyT, hc, ec, ecc, ex.trans ev, ev, by omega, hlt, z1, est, z3, by omega, q3.1, q3.2⟩
theorem sl_b_ne {g : tp_St} {nT nR n : Nat} {t y s : Int32} {tt yy c v : Nat} (K : sl_k g nT nR n t y s tt yy c v) (h5 : nT ≤ 5) {o k : Nat} (h : ¬ ((o = 46 + c ∧ k = yy) ∨ ((15 ≤ o ∧ o ≤ 18) ∧ k = n) ∨ (o = 4 ∧ k = 4) ∨ ((66 ≤ o ∧ o ≤ 69) ∧ k = n) ∨ (o = 61 ∧ k = 5 * c + yy) ∨ (o = 58 ∧ k = 9))) : (sl_b g n t y s).1 o k = g.1 o k := by
  obtain ⟨rfl, k1, rfl, k3, k4, k5, k6, k7, k8, -⟩ := K
  unfold sl_b sl_ms sl_cs
  rw [k6, tp_c (show yy < 1000000 by omega)]
  rw [tp_sg_ne (by omega), tp_sg_ne (by omega), tp_sg_ne (by omega), tp_sg_ne (by omega), tp_sg_ne (by omega), tp_sg_ne (by omega), tp_sg_ne (by omega), tp_sg_ne (by omega), tp_sg_ne (by omega), tp_sg_ne (by omega), tp_sg_ne (by omega), tp_sg_ne (by omega)]
theorem sl_b_is {g : tp_St} {nT nR n : Nat} {t y s : Int32} {tt yy c v : Nat} (K : sl_k g nT nR n t y s tt yy c v) (h5 : nT ≤ 5) : (sl_b g n t y s).1 (46 + c) yy = nI (v + 1) ∧ (sl_b g n t y s).1 15 n = nI tt ∧ (sl_b g n t y s).1 16 n = nI yy ∧ (sl_b g n t y s).1 17 n = sl_st g t s ∧ (sl_b g n t y s).1 18 n = nI v ∧ (sl_b g n t y s).1 4 4 = nI (n + 1) ∧ (sl_b g n t y s).1 66 n = nI tt ∧ (sl_b g n t y s).1 67 n = nI yy ∧ (sl_b g n t y s).1 68 n = s ∧ (sl_b g n t y s).1 69 n = nI v ∧ (sl_b g n t y s).1 61 (5 * c + yy) = nI (v + 1) ∧ (sl_b g n t y s).1 58 9 = nI (n + 1) := by
  obtain ⟨rfl, k1, rfl, k3, k4, k5, k6, k7, k8, -⟩ := K
  unfold sl_b
  rw [k6, tp_c (show yy < 1000000 by omega), k7]
  refine ⟨?_, ?_, ?_, ?_, ?_, ?_, ?_, ?_, ?_, ?_, ?_, ?_⟩
  · rw [sl_ms_c (by omega)]; unfold sl_cs; rw [tp_sg_ne (by omega), tp_sg_ne (by omega), tp_sg_ne (by omega), tp_sg_ne (by omega), tp_sg_ne (by omega), tp_sg_eq, nI_1]
  · rw [sl_ms_c (by omega)]; unfold sl_cs; rw [tp_sg_ne (by omega), tp_sg_ne (by omega), tp_sg_ne (by omega), tp_sg_ne (by omega), tp_sg_eq]
  · rw [sl_ms_c (by omega)]; unfold sl_cs; rw [tp_sg_ne (by omega), tp_sg_ne (by omega), tp_sg_ne (by omega), tp_sg_eq]
  · rw [sl_ms_c (by omega)]; unfold sl_cs; rw [tp_sg_ne (by omega), tp_sg_ne (by omega), tp_sg_eq]
  · rw [sl_ms_c (by omega)]; unfold sl_cs; rw [tp_sg_ne (by omega), tp_sg_eq]
  · rw [sl_ms_c (by omega)]; unfold sl_cs; rw [tp_sg_eq]
  · unfold sl_ms; rw [tp_sg_ne (by omega), tp_sg_ne (by omega), tp_sg_ne (by omega), tp_sg_ne (by omega), tp_sg_ne (by omega), tp_sg_eq]
  · unfold sl_ms; rw [tp_sg_ne (by omega), tp_sg_ne (by omega), tp_sg_ne (by omega), tp_sg_ne (by omega), tp_sg_eq]
  · unfold sl_ms; rw [tp_sg_ne (by omega), tp_sg_ne (by omega), tp_sg_ne (by omega), tp_sg_eq]
  · unfold sl_ms; rw [tp_sg_ne (by omega), tp_sg_ne (by omega), tp_sg_eq]
  · unfold sl_ms; rw [tp_sg_ne (by omega), tp_sg_eq, nI_1]
  · unfold sl_ms; rw [tp_sg_eq]
theorem sl_RR {g : tp_St} {nT nR n : Nat} {t y s : Int32} (H : RRn g nT nR n) (h : sl_f g nT nR n t y s none) : RRn (sl_b g n t y s) nT nR (n + 1) := by
  obtain ⟨tt, yy, c, v, K⟩ := sl_know H h
  obtain ⟨hT, hP, hR, hS, hH, ⟨nB, hA⟩, hL, ⟨nD, hD⟩, hK⟩ := H
  have t5 := hT.1
  have ne := fun {o k : Nat} => sl_b_ne (o := o) (k := k) K t5
  obtain ⟨b1, b2, b3, b4, b5, b6, b7, b8, b9, b10, b11, b12⟩ := sl_b_is K t5
  obtain ⟨k0, k1, k2, k3, k4, k5, k6, k7, k8, k9, k10, k11, k12, k13, k14, k15, k16⟩ := K
  refine ⟨RT_fr hT (fun o k hd => ne (by omega)), ?_, RR_fr hR (fun o k hd => ne (by omega)), ⟨by omega, b6, b12, fun k hk => ?_⟩, RH_fr hH (fun o k hd => ne (by omega)), ⟨nB, RA_fr hA (fun o k hd => ne (by omega))⟩, RLw_fr hL rfl (fun o k hd => ne (by omega)), ⟨nD, RD_fr hD (fun o k hd => ne (by omega))⟩, RK_fr hK (fun o k hd => ne (by omega))⟩
  · intro c' t' hc' ht'
    by_cases e : c' = c ∧ t' = yy
    · obtain ⟨rfl, rfl⟩ := e
      obtain ⟨p1, p2, p3, p4, p5⟩ := hP c' t' hc' ht'
      rw [b11, b1, ne (o := 62) (by omega), ne (o := 52 + c') (by omega), tp_t (by omega)]
      exact ⟨rfl, p2, by omega, by omega, p5⟩
    · rw [ne (o := 61) (by omega), ne (o := 62) (by omega), ne (o := 46 + c') (by omega), ne (o := 52 + c') (by omega)]
      exact hP c' t' hc' ht'
  · by_cases e : k = n
    · subst e
      refine ⟨⟨tt, k1, b2, b7, ?_⟩, ⟨yy, k3, b3, b8⟩, by rw [b10, b5], ?_, ?_⟩
      · rw [b4, b9, ne (o := 13) (by omega), k12]
      · rw [b4]
        rw [k12] at k13 ⊢
        split
        · rename_i hz
          rw [if_pos hz] at k13
          have e9 : (9 - s).toInt = 9 - s.toInt := by
            rw [Int32.toInt_sub, show (9 : Int32).toInt = 9 from rfl]
            simp only [Int.bmod_def]
            omega
          have : ¬ (9 - s).toInt = 9 := fun w => k13 (tp_eq.mpr w)
          exact ⟨by omega, by omega⟩
        · rename_i hz
          rw [if_neg hz] at k13
          have : ¬ s.toInt = 9 := fun w => k13 (tp_eq.mpr w)
          exact ⟨by omega, by omega⟩
      · rw [b5]
        exact ⟨by rw [tp_t (by omega)]; omega, by rw [tp_t (by omega)]; omega⟩
    · exact RS1_fr (hS.2.2.2 k (by omega)) (Nat.le_refl _) (Nat.le_refl _) (fun o j hj => ne (by omega))
theorem op_sell {σ : tp_St} {a b s : Int32} (h : RR_all σ) : tp_E 66 0 [.ref 0, .int a, .int b, .int s, .null, .null, .null] [] σ (tp_Res 112 [.ref 58, .int a, .int b, .int s, .null]) := by
  obtain ⟨nT, nR, nS, nB, nD, hT, hP, hR, hS, hH, hA, hL, hD, hK⟩ := id h
  have H : RRn σ nT nR nS := ⟨hT, hP, hR, hS, hH, ⟨nB, hA⟩, hL, ⟨nD, hD⟩, hK⟩
  refine sp_66 hT hP hR hS wc_rf (fun e he => ?_) (fun he σ' hw ha => ?_)
  · refine sp_112 hT hP hR hS wr_rf (fun e' he' => ?_) (fun he' => ?_)
    · cases sl_f_u he he'
      exact ⟨rfl, h⟩
    · cases sl_f_u he he'
  · refine sp_112 hT hP hR hS (wr_ag wr_rf ha) (fun e' he' => ?_) (fun he' υ' hr hs => ?_)
    · cases sl_f_u he he'
    · exact ⟨rfl, RR_wk (sl_RR H he) (wc_sc hw hs) hr⟩
theorem sp_99 {g σ : tp_St} {nT nR n : Nat} {t y s : Int32} {post : Int32 → tp_St → Prop} (H : RRn g nT nR n) (h : sl_f g nT nR n t y s none) (hw : wc (n + 1) (sl_b g n t y s) σ) (hp : ∀ σ', wc n g σ' → tp_ag σ σ' → post 0 σ') : tp_E 99 0 [.ref 0, .null, .null] [] σ post := by
  obtain ⟨tt, yy, c, v, K⟩ := sl_know H h
  have t5 := H.1.1
  have r16 := H.2.2.1.1
  have ne := fun {o k : Nat} => sl_b_ne (o := o) (k := k) K t5
  obtain ⟨b1, b2, b3, b4, b5, b6, b7, b8, b9, b10, b11, b12⟩ := sl_b_is K t5
  obtain ⟨k0, k1, k2, k3, k4, k5, k6, k7, k8, k9, k10, k11, k12, k13, k14, k15, k16⟩ := K
  have e44 := (hw.1 4 4 (by omega) (by omega)).trans b6
  have e15 := (hw.1 15 n (by omega) (by omega)).trans b2
  have e16 := (hw.1 16 n (by omega) (by omega)).trans b3
  have e18 := (hw.1 18 n (by omega) (by omega)).trans b5
  have e12 := ((hw.1 12 tt (by omega) (by omega)).trans (ne (by omega))).trans k5
  refine sg_99_0 ?_
  rw [e44, nI_pred, tp_c (show n < 1000000 by omega), e15, tp_c (show tt < 1000000 by omega), e12, tp_c (show c < 1000000 by omega), e16, tp_c (show yy < 1000000 by omega), e18]
  have hv := tp_vi (show n < 200 by omega) (by omega)
  refine ⟨hv, tp_vi (by omega) (by omega), tp_vi k4 (by omega), hv, hv, tp_vi (by omega) (by omega), hp _ ⟨fun o k h1 h2 => ?_, hw.2⟩ (fun o k h1 h2 => by rw [tp_sg_ne (by omega), tp_sg_ne (by omega)])⟩
  by_cases a1 : o = 4 ∧ k = 4
  · obtain ⟨rfl, rfl⟩ := a1
    rw [tp_sg_eq]
    exact H.2.2.2.1.2.1.symm
  · rw [tp_sg_ne (by omega)]
    by_cases a2 : o = 46 + c ∧ k = yy
    · obtain ⟨rfl, rfl⟩ := a2
      rw [tp_sg_eq]
      exact k8.symm
    · rw [tp_sg_ne (by omega), hw.1 o k h1 (by omega), ne (by omega)]
/-! the rows of a sheet -/
def sq_v (g : tp_St) (k : Nat) (f : Int32) (i : Nat) : Int32 := g.1 (32 + k) (f + 2 * nI i).toNatClampNeg
def sq_w (g : tp_St) (k : Nat) (f : Int32) (i : Nat) : Int32 := g.1 (32 + k) (f + 2 * nI i + 1).toNatClampNeg
def sq (g : tp_St) (n k : Nat) (t f : Int32) : Nat → tp_St
  | 0 => g
  | i + 1 => sl_b (sq g n k t f i) (n + i) t (sq_v g k f i) (sq_w g k f i)
def sq_in (m : Nat) (f : Int32) (i : Nat) : Prop := 0 ≤ f.toInt + 2 * (i : Int) ∧ f.toInt + 2 * (i : Int) + 2 ≤ m
def sq_1 (g : tp_St) (nT nR n k m : Nat) (t f : Int32) (i : Nat) : Prop := sq_in m f i ∧ sl_f (sq g n k t f i) nT nR (n + i) t (sq_v g k f i) (sq_w g k f i) none
def sq_e (g : tp_St) (nT nR n k m : Nat) (t f : Int32) (i : Nat) (e : Int32) : Prop := (¬ sq_in m f i ∧ e = -12) ∨ (sq_in m f i ∧ ∃ e', sl_f (sq g n k t f i) nT nR (n + i) t (sq_v g k f i) (sq_w g k f i) (some e') ∧ e = -20 + e')
theorem sq_R {g : tp_St} {nT nR n k m : Nat} {t f : Int32} (H : RRn g nT nR n) : ∀ {i}, (∀ j, j < i → sq_1 g nT nR n k m t f j) → RRn (sq g n k t f i) nT nR (n + i) ∧ ∀ o j, ((20 ≤ o ∧ o < 24) ∨ (32 ≤ o ∧ o < 36) ∨ (70 ≤ o ∧ o ≤ 72)) → (sq g n k t f i).1 o j = g.1 o j
  | 0, _ => ⟨H, fun _ _ _ => rfl⟩
  | i + 1, h => by
    obtain ⟨h1, h2⟩ := sq_R H (i := i) (fun j hj => h j (by omega))
    have h3 := (h i (by omega)).2
    refine ⟨sl_RR h1 h3, fun o j ho => ?_⟩
    obtain ⟨tt, yy, c, v, K⟩ := sl_know h1 h3
    have hc : c < 6 := K.2.2.2.2.1
    exact (sl_b_ne K H.1.1 (by omega)).trans (h2 o j ho)
theorem tp_2i {i : Nat} : (2 : Int32) * nI i = nI (2 * i) := by rw [show (2 : Int32) = nI 2 from rfl, pk_mul]
theorem sq_add {f : Int32} {i : Nat} (hi : i < 1000) : (f + 2 * nI i).toInt = (f.toInt + 2 * (i : Int)).bmod (2 ^ 32) := by
  rw [tp_2i, Int32.toInt_add, tp_t (by omega)]
  congr 1
theorem sq_lo (f : Int32) : -2147483648 ≤ f.toInt ∧ f.toInt ≤ 2147483647 := ⟨Int32.le_toInt f, by have := Int32.toInt_lt f; omega⟩
theorem sq_iff {f : Int32} {i m : Nat} (hi : i < 1000) (hm : m ≤ 64) : sq_in m f i ↔ (0 ≤ (f + 2 * nI i).toInt ∧ (f + 2 * nI i).toInt < m) ∧ 0 ≤ (f + 2 * nI i + 1).toInt ∧ (f + 2 * nI i + 1).toInt < m := by
  have h1 := sq_lo f
  have e2 : (f + 2 * nI i + 1).toInt = ((f + 2 * nI i).toInt + 1).bmod (2 ^ 32) := Int32.toInt_add _ _
  rw [e2, sq_add hi]
  unfold sq_in
  simp only [Int.bmod_def]
  omega
theorem sq_j {f : Int32} {i m : Nat} (hi : i < 1000) (hm : m ≤ 64) (h : sq_in m f i) : ∃ j, j + 1 < m ∧ f + 2 * nI i = nI j := by
  have h1 := sq_lo f
  have h2 := (sq_iff hi hm).mp h
  refine ⟨(f.toInt + 2 * (i : Int)).toNat, by unfold sq_in at h; omega, tp_eq.mpr ?_⟩
  have h3 := h
  unfold sq_in at h3
  rw [tp_t (by omega), sq_add hi]
  simp only [Int.bmod_def]
  omega
theorem sp_97 {g σ : tp_St} {nT nR n k m i : Nat} {t f : Int32} {post : Int32 → tp_St → Prop} (H : RRn g nT nR n) (hk : k < 4) (hm : m ≤ 64) (e2 : g.1 (20 + k) 2 = nI m) (hi : i < 1000) (ho : ∀ j, j < i → sq_1 g nT nR n k m t f j) (hw : wc (n + i) (sq g n k t f i) σ) (hf : ∀ e, sq_e g nT nR n k m t f i e → post e σ) (hp : sq_1 g nT nR n k m t f i → ∀ x σ', 0 ≤ x → wc (n + (i + 1)) (sq g n k t f (i + 1)) σ' → tp_ag σ σ' → post x σ') : tp_E 97 0 [.ref 0, .int t, .ref (20 + k), .int (f + 2 * nI i), .null] [] σ post := by
  obtain ⟨G, G2⟩ := sq_R H ho
  have s2 : σ.1 (20 + k) 2 = nI m := ((hw.1 _ _ (by omega) (by omega)).trans (G2 _ _ (by omega))).trans e2
  have cell : ∀ j, σ.1 (32 + k) j = g.1 (32 + k) j := fun j => (hw.1 _ _ (by omega) (by omega)).trans (G2 _ _ (by omega))
  refine sg_97_0 _ _ _ (tp_q20 hk) (tp_if (sp_42 hk) (fun q1 => tp_if (sp_42 hk) (fun q2 => ?_) (fun q2 => hf _ (Or.inl ⟨fun w => ?_, rfl⟩))) (fun q1 => hf _ (Or.inl ⟨fun w => ?_, rfl⟩)))
  · rw [s2, tp_t (by omega)] at q1 q2
    have hin := (sq_iff hi hm).mpr ⟨q1, q2⟩
    refine ⟨tp_vin.mpr ⟨q1.1, by have := q1.2; omega⟩, tp_vin.mpr ⟨q2.1, by have := q2.2; omega⟩, ?_⟩
    rw [tp_rr20 hk, cell, cell]
    refine sp_66 G.1 G.2.1 G.2.2.1 G.2.2.2.1 hw (fun e he => ⟨fun z => ?_, fun z => hf _ (Or.inr ⟨hin, e, he, rfl⟩)⟩) (fun he σ' hw' ha => ⟨fun z => hp ⟨hin, he⟩ _ _ z hw' ha, fun z => ?_⟩)
    · rcases sl_f_neg he with rfl | rfl | rfl | rfl <;> exact absurd z (by decide)
    · obtain ⟨tt, yy, c, v, K⟩ := sl_know G he
      refine absurd ?_ z
      have hv : v < 101000 := K.2.2.2.2.2.2.2.2.2.1
      have hx : sl_x (sq g n k t f i) t (sq_v g k f i) = nI v := K.2.2.2.2.2.2.2.1
      show 0 ≤ sl_x (sq g n k t f i) t (sq_v g k f i)
      rw [hx, tp_le, tp_t (by omega)]
      show (0 : Int) ≤ v
      omega
  · rw [s2, tp_t (by omega)] at q2
    exact q2 ((sq_iff hi hm).mp w).2
  · rw [s2, tp_t (by omega)] at q1
    exact q1 ((sq_iff hi hm).mp w).1
theorem sp_98 {g σ0 : tp_St} {nT nR n k m i : Nat} {t f : Int32} {post : Int32 → tp_St → Prop} (H : RRn g nT nR n) (hi : i < 1000) (ho : ∀ j, j < i → sq_1 g nT nR n k m t f j) (hw : wc (n + i) (sq g n k t f i) σ0) (hp : ∀ σ', wc n g σ' → tp_ag σ0 σ' → post 0 σ') : tp_E 98 0 [.ref 0, .int (nI i), .null] [] σ0 post := by
  refine sg_98_0 _ ?_
  refine tp_up_loop (E := fun q => ∀ σ, wc (n + (i - q)) (sq g n k t f (i - q)) σ → tp_ag σ0 σ → tp_E 98 2 [.ref 0, .int (nI i), .int (nI q)] [] σ post) (n := i) (fun q hq z σ h1 h2 => ?_) (fun σ h1 h2 => ?_) 0 (Nat.zero_le _) σ0 hw tp_ag_rf
  · refine sg_98_2 _ _ ?_
    simp only [nI_1]
    have ei : i - q = (i - (q + 1)) + 1 := by omega
    obtain ⟨G, -⟩ := sq_R H (i := i - (q + 1)) (fun j hj => ho j (by omega))
    have G3 := (ho (i - (q + 1)) (by omega)).2
    obtain ⟨G4, -⟩ := sq_R H (i := i - q) (fun j hj => ho j (by omega))
    have h44 : σ.1 4 4 = nI (n + (i - q)) := (h1.1 4 4 (by omega) (by omega)).trans G4.2.2.2.1.2.1
    have := G4.2.2.2.1.1
    refine ⟨fun w => absurd w (tp_nle hq (by omega)), fun _ => ⟨fun w => ?_, fun _ => ?_⟩⟩
    · rw [h44, tp_le, tp_t (by omega)] at w
      have : ((n + (i - q) : Nat) : Int) ≤ 0 := w
      omega
    · rw [ei] at h1
      exact sp_99 G G3 h1 (fun σ' h3 h4 => z σ' h3 (ag_tr h2 h4))
  · refine sg_98_2 _ _ ?_
    rw [Nat.sub_self] at h1
    exact ⟨fun _ => hp σ h1 h2, fun w => absurd (tp_le.mpr (Int.le_refl _)) w⟩
theorem sp_scan {g σ0 : tp_St} {nT nR n k m N : Nat} {t f : Int32} {post : Int32 → tp_St → Prop} (H : RRn g nT nR n) (hk : k < 4) (hm : m ≤ 64) (e2 : g.1 (20 + k) 2 = nI m) (hN : N ≤ 32) (hd : (∀ j, j < N → sq_1 g nT nR n k m t f j) → ∀ σ', wc (n + N) (sq g n k t f N) σ' → tp_ag σ0 σ' → post (nI N) σ') (hf : ∀ i e, i < N → (∀ j, j < i → sq_1 g nT nR n k m t f j) → sq_e g nT nR n k m t f i e → ∀ σ', wc n g σ' → tp_ag σ0 σ' → post e σ') : ∀ d i σ, i + d = N → (∀ j, j < i → sq_1 g nT nR n k m t f j) → wc (n + i) (sq g n k t f i) σ → tp_ag σ0 σ → tp_E 70 76 [.ref 0, .int t, .null, .null, .int f, .int (nI N), .ref (20 + k), .int (nI i), .null] [] σ post := by
  intro d
  induction d with
  | zero =>
    intro i σ hid ho hw ha
    have ei : i = N := by omega
    subst ei
    exact sg_70_76 _ _ _ _ _ (tp_q20 hk) ⟨fun _ => hd ho σ hw ha, fun w => absurd (tp_le.mpr (Int.le_refl _)) w⟩
  | succ d ih =>
    intro i σ hid ho hw ha
    refine sg_70_76 _ _ _ _ _ (tp_q20 hk) ⟨fun w => absurd w (tp_nle (by omega) (by omega)), fun _ => ?_⟩
    simp only [nI_1]
    refine sp_97 H hk hm e2 (by omega) ho hw (fun e he => ⟨fun w => ?_, fun _ => ?_⟩) (fun h1 x σ' hx hw' ha' => ⟨fun _ => ih (i + 1) σ' (by omega) (fun j hj => ?_) hw' (ag_tr ha ha'), fun w => absurd hx w⟩)
    · rcases he with ⟨-, rfl⟩ | ⟨-, e', he', rfl⟩
      · exact absurd w (by decide)
      · rcases sl_f_neg he' with rfl | rfl | rfl | rfl <;> exact absurd w (by decide)
    · exact sp_98 H (by omega) ho hw (fun σ' h1 h2 => hf i e (by omega) ho he σ' h1 (ag_tr ha h2))
    · by_cases ej : j = i
      · rw [ej]; exact h1
      · exact ho j (by omega)
end
