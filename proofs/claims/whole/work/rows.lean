section
-- ===== PART A: goes FIRST, ahead of the names: the tables' words, and 'selects' of the private methods out of them =====
/-- a private method of a class that the tables say can be made, by its rows of tables_1 -/
def lw_okq (q : MethodName × Nat) : Prop := (q.1.cls ≠ "java/lang/invoke/MethodHandle" ∧ q.1.cls ≠ "java/lang/invoke/VarHandle") ∧ Cond.instantiable q.1.cls q.2 ∈ tables_1 ∧ Cond.privateMethod q.1 ∈ tables_1 ∧ Cond.instanceMethod q.1 ∈ tables_1
theorem lw_p0 : lw_okq (⟨"HearingDesk$Teams", "markAble", "(ILHearingDesk$Hearing;LHearingDesk$People;LHearingDesk$Papers;)V"⟩, 5) := ⟨⟨by decide +kernel, by decide +kernel⟩, List.mem_of_getElem? (i := 113) (by decide +kernel), List.mem_of_getElem? (i := 519) (by decide +kernel), List.mem_of_getElem? (i := 520) (by decide +kernel)⟩
theorem lw_p1 : lw_okq (⟨"HearingDesk$Teams", "addPairs", "(I)V"⟩, 5) := ⟨⟨by decide +kernel, by decide +kernel⟩, List.mem_of_getElem? (i := 113) (by decide +kernel), List.mem_of_getElem? (i := 533) (by decide +kernel), List.mem_of_getElem? (i := 534) (by decide +kernel)⟩
theorem lw_p2 : lw_okq (⟨"HearingDesk$Teams", "isAble", "(III)Z"⟩, 5) := ⟨⟨by decide +kernel, by decide +kernel⟩, List.mem_of_getElem? (i := 113) (by decide +kernel), List.mem_of_getElem? (i := 537) (by decide +kernel), List.mem_of_getElem? (i := 538) (by decide +kernel)⟩
theorem lw_p3 : lw_okq (⟨"HearingDesk$Teams", "add", "(III)V"⟩, 5) := ⟨⟨by decide +kernel, by decide +kernel⟩, List.mem_of_getElem? (i := 113) (by decide +kernel), List.mem_of_getElem? (i := 541) (by decide +kernel), List.mem_of_getElem? (i := 542) (by decide +kernel)⟩
theorem lw_p4 : lw_okq (⟨"HearingDesk$Teams", "addSingles", "(I)V"⟩, 5) := ⟨⟨by decide +kernel, by decide +kernel⟩, List.mem_of_getElem? (i := 113) (by decide +kernel), List.mem_of_getElem? (i := 545) (by decide +kernel), List.mem_of_getElem? (i := 546) (by decide +kernel)⟩
theorem lw_p5 : lw_okq (⟨"HearingDesk$Teams", "addRelays", "(I)V"⟩, 5) := ⟨⟨by decide +kernel, by decide +kernel⟩, List.mem_of_getElem? (i := 113) (by decide +kernel), List.mem_of_getElem? (i := 549) (by decide +kernel), List.mem_of_getElem? (i := 550) (by decide +kernel)⟩
theorem lw_p6 : lw_okq (⟨"HearingDesk$Teams", "relayTongue", "(III)I"⟩, 5) := ⟨⟨by decide +kernel, by decide +kernel⟩, List.mem_of_getElem? (i := 113) (by decide +kernel), List.mem_of_getElem? (i := 553) (by decide +kernel), List.mem_of_getElem? (i := 554) (by decide +kernel)⟩
theorem lw_p7 : lw_okq (⟨"HearingDesk$Teams", "has", "(I)Z"⟩, 5) := ⟨⟨by decide +kernel, by decide +kernel⟩, List.mem_of_getElem? (i := 113) (by decide +kernel), List.mem_of_getElem? (i := 565) (by decide +kernel), List.mem_of_getElem? (i := 566) (by decide +kernel)⟩
theorem lw_p8 : lw_okq (⟨"HearingDesk$DaySheet", "placeByBegin", "(I)V"⟩, 3) := ⟨⟨by decide +kernel, by decide +kernel⟩, List.mem_of_getElem? (i := 137) (by decide +kernel), List.mem_of_getElem? (i := 586) (by decide +kernel), List.mem_of_getElem? (i := 587) (by decide +kernel)⟩
theorem lw_p9 : lw_okq (⟨"HearingDesk$DaySheet", "memberAt", "(II)LHearingDesk$Hearing;"⟩, 3) := ⟨⟨by decide +kernel, by decide +kernel⟩, List.mem_of_getElem? (i := 137) (by decide +kernel), List.mem_of_getElem? (i := 605) (by decide +kernel), List.mem_of_getElem? (i := 606) (by decide +kernel)⟩
theorem lw_p10 : lw_okq (⟨"HearingDesk$Planner", "isPastBest", "(II)Z"⟩, 12) := ⟨⟨by decide +kernel, by decide +kernel⟩, List.mem_of_getElem? (i := 155) (by decide +kernel), List.mem_of_getElem? (i := 630) (by decide +kernel), List.mem_of_getElem? (i := 631) (by decide +kernel)⟩
theorem lw_p11 : lw_okq (⟨"HearingDesk$Planner", "weigh", "(III)V"⟩, 12) := ⟨⟨by decide +kernel, by decide +kernel⟩, List.mem_of_getElem? (i := 155) (by decide +kernel), List.mem_of_getElem? (i := 634) (by decide +kernel), List.mem_of_getElem? (i := 635) (by decide +kernel)⟩
theorem lw_p12 : lw_okq (⟨"HearingDesk$Planner", "isBetter", "(III)Z"⟩, 12) := ⟨⟨by decide +kernel, by decide +kernel⟩, List.mem_of_getElem? (i := 155) (by decide +kernel), List.mem_of_getElem? (i := 638) (by decide +kernel), List.mem_of_getElem? (i := 639) (by decide +kernel)⟩
theorem lw_p13 : lw_okq (⟨"HearingDesk$Planner", "setsOf", "(II)I"⟩, 12) := ⟨⟨by decide +kernel, by decide +kernel⟩, List.mem_of_getElem? (i := 155) (by decide +kernel), List.mem_of_getElem? (i := 645) (by decide +kernel), List.mem_of_getElem? (i := 646) (by decide +kernel)⟩
theorem lw_p14 : lw_okq (⟨"HearingDesk$Planner", "changesAt", "(II)I"⟩, 12) := ⟨⟨by decide +kernel, by decide +kernel⟩, List.mem_of_getElem? (i := 155) (by decide +kernel), List.mem_of_getElem? (i := 654) (by decide +kernel), List.mem_of_getElem? (i := 655) (by decide +kernel)⟩
theorem lw_p15 : lw_okq (⟨"HearingDesk$Tape", "skipBlanks", "()V"⟩, 4) := ⟨⟨by decide +kernel, by decide +kernel⟩, List.mem_of_getElem? (i := 206) (by decide +kernel), List.mem_of_getElem? (i := 716) (by decide +kernel), List.mem_of_getElem? (i := 717) (by decide +kernel)⟩
def lw_privs_1 : List (MethodName × Nat) := [(⟨"HearingDesk$Teams", "markAble", "(ILHearingDesk$Hearing;LHearingDesk$People;LHearingDesk$Papers;)V"⟩, 5), (⟨"HearingDesk$Teams", "addPairs", "(I)V"⟩, 5), (⟨"HearingDesk$Teams", "isAble", "(III)Z"⟩, 5), (⟨"HearingDesk$Teams", "add", "(III)V"⟩, 5), (⟨"HearingDesk$Teams", "addSingles", "(I)V"⟩, 5), (⟨"HearingDesk$Teams", "addRelays", "(I)V"⟩, 5), (⟨"HearingDesk$Teams", "relayTongue", "(III)I"⟩, 5), (⟨"HearingDesk$Teams", "has", "(I)Z"⟩, 5), (⟨"HearingDesk$DaySheet", "placeByBegin", "(I)V"⟩, 3), (⟨"HearingDesk$DaySheet", "memberAt", "(II)LHearingDesk$Hearing;"⟩, 3), (⟨"HearingDesk$Planner", "isPastBest", "(II)Z"⟩, 12), (⟨"HearingDesk$Planner", "weigh", "(III)V"⟩, 12), (⟨"HearingDesk$Planner", "isBetter", "(III)Z"⟩, 12), (⟨"HearingDesk$Planner", "setsOf", "(II)I"⟩, 12), (⟨"HearingDesk$Planner", "changesAt", "(II)I"⟩, 12), (⟨"HearingDesk$Tape", "skipBlanks", "()V"⟩, 4)]
theorem lw_r1 : ∀ q ∈ lw_privs_1, lw_okq q := List.forall_mem_cons.mpr ⟨lw_p0, List.forall_mem_cons.mpr ⟨lw_p1, List.forall_mem_cons.mpr ⟨lw_p2, List.forall_mem_cons.mpr ⟨lw_p3, List.forall_mem_cons.mpr ⟨lw_p4, List.forall_mem_cons.mpr ⟨lw_p5, List.forall_mem_cons.mpr ⟨lw_p6, List.forall_mem_cons.mpr ⟨lw_p7, List.forall_mem_cons.mpr ⟨lw_p8, List.forall_mem_cons.mpr ⟨lw_p9, List.forall_mem_cons.mpr ⟨lw_p10, List.forall_mem_cons.mpr ⟨lw_p11, List.forall_mem_cons.mpr ⟨lw_p12, List.forall_mem_cons.mpr ⟨lw_p13, List.forall_mem_cons.mpr ⟨lw_p14, List.forall_mem_cons.mpr ⟨lw_p15, fun _ h => absurd h List.not_mem_nil⟩⟩⟩⟩⟩⟩⟩⟩⟩⟩⟩⟩⟩⟩⟩⟩
theorem lw_p16 : lw_okq (⟨"HearingDesk$Tape", "byteAt", "(I)I"⟩, 4) := ⟨⟨by decide +kernel, by decide +kernel⟩, List.mem_of_getElem? (i := 206) (by decide +kernel), List.mem_of_getElem? (i := 720) (by decide +kernel), List.mem_of_getElem? (i := 721) (by decide +kernel)⟩
theorem lw_p17 : lw_okq (⟨"HearingDesk$Tape", "readClause", "(LHearingDesk$FeeText;)V"⟩, 4) := ⟨⟨by decide +kernel, by decide +kernel⟩, List.mem_of_getElem? (i := 206) (by decide +kernel), List.mem_of_getElem? (i := 724) (by decide +kernel), List.mem_of_getElem? (i := 725) (by decide +kernel)⟩
theorem lw_p18 : lw_okq (⟨"HearingDesk$Tape", "readFrom", "()V"⟩, 4) := ⟨⟨by decide +kernel, by decide +kernel⟩, List.mem_of_getElem? (i := 206) (by decide +kernel), List.mem_of_getElem? (i := 728) (by decide +kernel), List.mem_of_getElem? (i := 729) (by decide +kernel)⟩
theorem lw_p19 : lw_okq (⟨"HearingDesk$Tape", "passLetters", "()I"⟩, 4) := ⟨⟨by decide +kernel, by decide +kernel⟩, List.mem_of_getElem? (i := 206) (by decide +kernel), List.mem_of_getElem? (i := 732) (by decide +kernel), List.mem_of_getElem? (i := 733) (by decide +kernel)⟩
theorem lw_p20 : lw_okq (⟨"HearingDesk$Tape", "isWord", "(Ljava/lang/String;I)Z"⟩, 4) := ⟨⟨by decide +kernel, by decide +kernel⟩, List.mem_of_getElem? (i := 206) (by decide +kernel), List.mem_of_getElem? (i := 741) (by decide +kernel), List.mem_of_getElem? (i := 742) (by decide +kernel)⟩
theorem lw_p21 : lw_okq (⟨"HearingDesk$Tape", "blame", "(II)V"⟩, 4) := ⟨⟨by decide +kernel, by decide +kernel⟩, List.mem_of_getElem? (i := 206) (by decide +kernel), List.mem_of_getElem? (i := 793) (by decide +kernel), List.mem_of_getElem? (i := 794) (by decide +kernel)⟩
theorem lw_p22 : lw_okq (⟨"HearingDesk$Tape", "readNumber", "(II)I"⟩, 4) := ⟨⟨by decide +kernel, by decide +kernel⟩, List.mem_of_getElem? (i := 206) (by decide +kernel), List.mem_of_getElem? (i := 797) (by decide +kernel), List.mem_of_getElem? (i := 798) (by decide +kernel)⟩
theorem lw_p23 : lw_okq (⟨"HearingDesk$Tape", "readKind", "()I"⟩, 4) := ⟨⟨by decide +kernel, by decide +kernel⟩, List.mem_of_getElem? (i := 206) (by decide +kernel), List.mem_of_getElem? (i := 804) (by decide +kernel), List.mem_of_getElem? (i := 805) (by decide +kernel)⟩
theorem lw_p24 : lw_okq (⟨"HearingDesk$Tape", "readSemicolon", "()Z"⟩, 4) := ⟨⟨by decide +kernel, by decide +kernel⟩, List.mem_of_getElem? (i := 206) (by decide +kernel), List.mem_of_getElem? (i := 827) (by decide +kernel), List.mem_of_getElem? (i := 828) (by decide +kernel)⟩
theorem lw_p25 : lw_okq (⟨"HearingDeskModel", "isPerson", "(I)Z"⟩, 62) := ⟨⟨by decide +kernel, by decide +kernel⟩, List.mem_of_getElem? (i := 901) (by decide +kernel), List.mem_of_getElem? (i := 1113) (by decide +kernel), List.mem_of_getElem? (i := 1114) (by decide +kernel)⟩
theorem lw_p26 : lw_okq (⟨"HearingDeskModel", "gradeIn", "(III)I"⟩, 62) := ⟨⟨by decide +kernel, by decide +kernel⟩, List.mem_of_getElem? (i := 901) (by decide +kernel), List.mem_of_getElem? (i := 1128) (by decide +kernel), List.mem_of_getElem? (i := 1129) (by decide +kernel)⟩
theorem lw_p27 : lw_okq (⟨"HearingDeskModel", "ofDay", "(II)I"⟩, 62) := ⟨⟨by decide +kernel, by decide +kernel⟩, List.mem_of_getElem? (i := 901) (by decide +kernel), List.mem_of_getElem? (i := 1144) (by decide +kernel), List.mem_of_getElem? (i := 1145) (by decide +kernel)⟩
theorem lw_p28 : lw_okq (⟨"HearingDeskModel", "isHearing", "(I)Z"⟩, 62) := ⟨⟨by decide +kernel, by decide +kernel⟩, List.mem_of_getElem? (i := 901) (by decide +kernel), List.mem_of_getElem? (i := 1152) (by decide +kernel), List.mem_of_getElem? (i := 1153) (by decide +kernel)⟩
theorem lw_p29 : lw_okq (⟨"HearingDeskModel", "teamsOf", "(II)V"⟩, 62) := ⟨⟨by decide +kernel, by decide +kernel⟩, List.mem_of_getElem? (i := 901) (by decide +kernel), List.mem_of_getElem? (i := 1165) (by decide +kernel), List.mem_of_getElem? (i := 1166) (by decide +kernel)⟩
theorem lw_p30 : lw_okq (⟨"HearingDeskModel", "isFit", "(II)Z"⟩, 62) := ⟨⟨by decide +kernel, by decide +kernel⟩, List.mem_of_getElem? (i := 901) (by decide +kernel), List.mem_of_getElem? (i := 1169) (by decide +kernel), List.mem_of_getElem? (i := 1170) (by decide +kernel)⟩
theorem lw_p31 : lw_okq (⟨"HearingDeskModel", "isOf", "(III)Z"⟩, 62) := ⟨⟨by decide +kernel, by decide +kernel⟩, List.mem_of_getElem? (i := 901) (by decide +kernel), List.mem_of_getElem? (i := 1173) (by decide +kernel), List.mem_of_getElem? (i := 1174) (by decide +kernel)⟩
def lw_privs_2 : List (MethodName × Nat) := [(⟨"HearingDesk$Tape", "byteAt", "(I)I"⟩, 4), (⟨"HearingDesk$Tape", "readClause", "(LHearingDesk$FeeText;)V"⟩, 4), (⟨"HearingDesk$Tape", "readFrom", "()V"⟩, 4), (⟨"HearingDesk$Tape", "passLetters", "()I"⟩, 4), (⟨"HearingDesk$Tape", "isWord", "(Ljava/lang/String;I)Z"⟩, 4), (⟨"HearingDesk$Tape", "blame", "(II)V"⟩, 4), (⟨"HearingDesk$Tape", "readNumber", "(II)I"⟩, 4), (⟨"HearingDesk$Tape", "readKind", "()I"⟩, 4), (⟨"HearingDesk$Tape", "readSemicolon", "()Z"⟩, 4), (⟨"HearingDeskModel", "isPerson", "(I)Z"⟩, 62), (⟨"HearingDeskModel", "gradeIn", "(III)I"⟩, 62), (⟨"HearingDeskModel", "ofDay", "(II)I"⟩, 62), (⟨"HearingDeskModel", "isHearing", "(I)Z"⟩, 62), (⟨"HearingDeskModel", "teamsOf", "(II)V"⟩, 62), (⟨"HearingDeskModel", "isFit", "(II)Z"⟩, 62), (⟨"HearingDeskModel", "isOf", "(III)Z"⟩, 62)]
theorem lw_r2 : ∀ q ∈ lw_privs_2, lw_okq q := List.forall_mem_cons.mpr ⟨lw_p16, List.forall_mem_cons.mpr ⟨lw_p17, List.forall_mem_cons.mpr ⟨lw_p18, List.forall_mem_cons.mpr ⟨lw_p19, List.forall_mem_cons.mpr ⟨lw_p20, List.forall_mem_cons.mpr ⟨lw_p21, List.forall_mem_cons.mpr ⟨lw_p22, List.forall_mem_cons.mpr ⟨lw_p23, List.forall_mem_cons.mpr ⟨lw_p24, List.forall_mem_cons.mpr ⟨lw_p25, List.forall_mem_cons.mpr ⟨lw_p26, List.forall_mem_cons.mpr ⟨lw_p27, List.forall_mem_cons.mpr ⟨lw_p28, List.forall_mem_cons.mpr ⟨lw_p29, List.forall_mem_cons.mpr ⟨lw_p30, List.forall_mem_cons.mpr ⟨lw_p31, fun _ h => absurd h List.not_mem_nil⟩⟩⟩⟩⟩⟩⟩⟩⟩⟩⟩⟩⟩⟩⟩⟩
theorem lw_p32 : lw_okq (⟨"HearingDeskModel", "comes", "(IIII)V"⟩, 62) := ⟨⟨by decide +kernel, by decide +kernel⟩, List.mem_of_getElem? (i := 901) (by decide +kernel), List.mem_of_getElem? (i := 1177) (by decide +kernel), List.mem_of_getElem? (i := 1178) (by decide +kernel)⟩
theorem lw_p33 : lw_okq (⟨"HearingDeskModel", "relay", "(III)I"⟩, 62) := ⟨⟨by decide +kernel, by decide +kernel⟩, List.mem_of_getElem? (i := 901) (by decide +kernel), List.mem_of_getElem? (i := 1181) (by decide +kernel), List.mem_of_getElem? (i := 1182) (by decide +kernel)⟩
theorem lw_p34 : lw_okq (⟨"HearingDeskModel", "weighs", "(IZ)V"⟩, 62) := ⟨⟨by decide +kernel, by decide +kernel⟩, List.mem_of_getElem? (i := 901) (by decide +kernel), List.mem_of_getElem? (i := 1193) (by decide +kernel), List.mem_of_getElem? (i := 1194) (by decide +kernel)⟩
theorem lw_p35 : lw_okq (⟨"HearingDeskModel", "changes", "()I"⟩, 62) := ⟨⟨by decide +kernel, by decide +kernel⟩, List.mem_of_getElem? (i := 901) (by decide +kernel), List.mem_of_getElem? (i := 1197) (by decide +kernel), List.mem_of_getElem? (i := 1198) (by decide +kernel)⟩
theorem lw_p36 : lw_okq (⟨"HearingDeskModel", "sits", "(II)Z"⟩, 62) := ⟨⟨by decide +kernel, by decide +kernel⟩, List.mem_of_getElem? (i := 901) (by decide +kernel), List.mem_of_getElem? (i := 1201) (by decide +kernel), List.mem_of_getElem? (i := 1202) (by decide +kernel)⟩
theorem lw_p37 : lw_okq (⟨"HearingDeskModel", "collects", "(II)V"⟩, 62) := ⟨⟨by decide +kernel, by decide +kernel⟩, List.mem_of_getElem? (i := 901) (by decide +kernel), List.mem_of_getElem? (i := 1205) (by decide +kernel), List.mem_of_getElem? (i := 1206) (by decide +kernel)⟩
theorem lw_p38 : lw_okq (⟨"HearingDeskModel", "joins", "(I)V"⟩, 62) := ⟨⟨by decide +kernel, by decide +kernel⟩, List.mem_of_getElem? (i := 901) (by decide +kernel), List.mem_of_getElem? (i := 1209) (by decide +kernel), List.mem_of_getElem? (i := 1210) (by decide +kernel)⟩
theorem lw_p39 : lw_okq (⟨"HearingDeskModel", "holds", "()Z"⟩, 62) := ⟨⟨by decide +kernel, by decide +kernel⟩, List.mem_of_getElem? (i := 901) (by decide +kernel), List.mem_of_getElem? (i := 1213) (by decide +kernel), List.mem_of_getElem? (i := 1214) (by decide +kernel)⟩
theorem lw_p40 : lw_okq (⟨"HearingDeskModel", "journeysOf", "(I)I"⟩, 62) := ⟨⟨by decide +kernel, by decide +kernel⟩, List.mem_of_getElem? (i := 901) (by decide +kernel), List.mem_of_getElem? (i := 1217) (by decide +kernel), List.mem_of_getElem? (i := 1218) (by decide +kernel)⟩
theorem lw_p41 : lw_okq (⟨"HearingDeskModel", "clashes", "(I)Z"⟩, 62) := ⟨⟨by decide +kernel, by decide +kernel⟩, List.mem_of_getElem? (i := 901) (by decide +kernel), List.mem_of_getElem? (i := 1221) (by decide +kernel), List.mem_of_getElem? (i := 1222) (by decide +kernel)⟩
theorem lw_p42 : lw_okq (⟨"HearingDeskModel", "isSeated", "(II)Z"⟩, 62) := ⟨⟨by decide +kernel, by decide +kernel⟩, List.mem_of_getElem? (i := 901) (by decide +kernel), List.mem_of_getElem? (i := 1241) (by decide +kernel), List.mem_of_getElem? (i := 1242) (by decide +kernel)⟩
theorem lw_p43 : lw_okq (⟨"HearingDeskModel", "four", "(I)V"⟩, 62) := ⟨⟨by decide +kernel, by decide +kernel⟩, List.mem_of_getElem? (i := 901) (by decide +kernel), List.mem_of_getElem? (i := 1249) (by decide +kernel), List.mem_of_getElem? (i := 1250) (by decide +kernel)⟩
theorem lw_p44 : lw_okq (⟨"HearingDeskModel", "see", "()I"⟩, 62) := ⟨⟨by decide +kernel, by decide +kernel⟩, List.mem_of_getElem? (i := 901) (by decide +kernel), List.mem_of_getElem? (i := 1261) (by decide +kernel), List.mem_of_getElem? (i := 1262) (by decide +kernel)⟩
theorem lw_p45 : lw_okq (⟨"HearingDeskModel", "clause", "()Z"⟩, 62) := ⟨⟨by decide +kernel, by decide +kernel⟩, List.mem_of_getElem? (i := 901) (by decide +kernel), List.mem_of_getElem? (i := 1265) (by decide +kernel), List.mem_of_getElem? (i := 1266) (by decide +kernel)⟩
theorem lw_p46 : lw_okq (⟨"HearingDeskModel", "word", "()I"⟩, 62) := ⟨⟨by decide +kernel, by decide +kernel⟩, List.mem_of_getElem? (i := 901) (by decide +kernel), List.mem_of_getElem? (i := 1269) (by decide +kernel), List.mem_of_getElem? (i := 1270) (by decide +kernel)⟩
theorem lw_p47 : lw_okq (⟨"HearingDeskModel", "fails", "(II)Z"⟩, 62) := ⟨⟨by decide +kernel, by decide +kernel⟩, List.mem_of_getElem? (i := 901) (by decide +kernel), List.mem_of_getElem? (i := 1273) (by decide +kernel), List.mem_of_getElem? (i := 1274) (by decide +kernel)⟩
def lw_privs_3 : List (MethodName × Nat) := [(⟨"HearingDeskModel", "comes", "(IIII)V"⟩, 62), (⟨"HearingDeskModel", "relay", "(III)I"⟩, 62), (⟨"HearingDeskModel", "weighs", "(IZ)V"⟩, 62), (⟨"HearingDeskModel", "changes", "()I"⟩, 62), (⟨"HearingDeskModel", "sits", "(II)Z"⟩, 62), (⟨"HearingDeskModel", "collects", "(II)V"⟩, 62), (⟨"HearingDeskModel", "joins", "(I)V"⟩, 62), (⟨"HearingDeskModel", "holds", "()Z"⟩, 62), (⟨"HearingDeskModel", "journeysOf", "(I)I"⟩, 62), (⟨"HearingDeskModel", "clashes", "(I)Z"⟩, 62), (⟨"HearingDeskModel", "isSeated", "(II)Z"⟩, 62), (⟨"HearingDeskModel", "four", "(I)V"⟩, 62), (⟨"HearingDeskModel", "see", "()I"⟩, 62), (⟨"HearingDeskModel", "clause", "()Z"⟩, 62), (⟨"HearingDeskModel", "word", "()I"⟩, 62), (⟨"HearingDeskModel", "fails", "(II)Z"⟩, 62)]
theorem lw_r3 : ∀ q ∈ lw_privs_3, lw_okq q := List.forall_mem_cons.mpr ⟨lw_p32, List.forall_mem_cons.mpr ⟨lw_p33, List.forall_mem_cons.mpr ⟨lw_p34, List.forall_mem_cons.mpr ⟨lw_p35, List.forall_mem_cons.mpr ⟨lw_p36, List.forall_mem_cons.mpr ⟨lw_p37, List.forall_mem_cons.mpr ⟨lw_p38, List.forall_mem_cons.mpr ⟨lw_p39, List.forall_mem_cons.mpr ⟨lw_p40, List.forall_mem_cons.mpr ⟨lw_p41, List.forall_mem_cons.mpr ⟨lw_p42, List.forall_mem_cons.mpr ⟨lw_p43, List.forall_mem_cons.mpr ⟨lw_p44, List.forall_mem_cons.mpr ⟨lw_p45, List.forall_mem_cons.mpr ⟨lw_p46, List.forall_mem_cons.mpr ⟨lw_p47, fun _ h => absurd h List.not_mem_nil⟩⟩⟩⟩⟩⟩⟩⟩⟩⟩⟩⟩⟩⟩⟩⟩
theorem lw_p48 : lw_okq (⟨"HearingDeskModel", "number", "(II)Z"⟩, 62) := ⟨⟨by decide +kernel, by decide +kernel⟩, List.mem_of_getElem? (i := 901) (by decide +kernel), List.mem_of_getElem? (i := 1277) (by decide +kernel), List.mem_of_getElem? (i := 1278) (by decide +kernel)⟩
theorem lw_p49 : lw_okq (⟨"HearingDeskModel", "tellsOf", "(II)I"⟩, 62) := ⟨⟨by decide +kernel, by decide +kernel⟩, List.mem_of_getElem? (i := 901) (by decide +kernel), List.mem_of_getElem? (i := 1285) (by decide +kernel), List.mem_of_getElem? (i := 1286) (by decide +kernel)⟩
theorem lw_p50 : lw_okq (⟨"HearingDeskModel", "clauseOf", "(II)I"⟩, 62) := ⟨⟨by decide +kernel, by decide +kernel⟩, List.mem_of_getElem? (i := 901) (by decide +kernel), List.mem_of_getElem? (i := 1289) (by decide +kernel), List.mem_of_getElem? (i := 1290) (by decide +kernel)⟩
def lw_privs_4 : List (MethodName × Nat) := [(⟨"HearingDeskModel", "number", "(II)Z"⟩, 62), (⟨"HearingDeskModel", "tellsOf", "(II)I"⟩, 62), (⟨"HearingDeskModel", "clauseOf", "(II)I"⟩, 62)]
theorem lw_r4 : ∀ q ∈ lw_privs_4, lw_okq q := List.forall_mem_cons.mpr ⟨lw_p48, List.forall_mem_cons.mpr ⟨lw_p49, List.forall_mem_cons.mpr ⟨lw_p50, fun _ h => absurd h List.not_mem_nil⟩⟩⟩
def lw_privs : List (MethodName × Nat) := lw_privs_1 ++ (lw_privs_2 ++ (lw_privs_3 ++ (lw_privs_4)))
def lw_tbl : List Cond := k2_sels lw_privs ++ tables_1
theorem lw_privs_ok : ∀ q ∈ lw_privs, lw_okq q := by
  show ∀ q ∈ lw_privs_1 ++ (lw_privs_2 ++ (lw_privs_3 ++ (lw_privs_4))), lw_okq q
  exact List.forall_mem_append.mpr ⟨lw_r1, List.forall_mem_append.mpr ⟨lw_r2, List.forall_mem_append.mpr ⟨lw_r3, lw_r4⟩⟩⟩
end
section
/-! printed by gen.py out of the claim: classes, fields, methods -/
def RX0 : String := "HearingDesk$DaySheet"
def TX0 : u_T := fun k => match k with
  | 0 => ("HearingDesk$DaySheet", "byNumber", "[LHearingDesk$Hearing;", true)
  | 1 => ("HearingDesk$DaySheet", "byBegin", "[I", true)
  | _ => ("HearingDesk$DaySheet", "size", "I", false)
def tyX0 : Nat → FieldType := fun k => match k with
  | 0 => .array (.object "HearingDesk$Hearing")
  | 1 => .array .int
  | _ => .int
abbrev wsX00 : List Cond := u_ws RX0 TX0 3
theorem nmX0 : ∀ a, a < 3 → ∀ b, b < 3 → a ≠ b → (TX0 a).2.1 ≠ (TX0 b).2.1 := by decide +kernel
theorem tyX0_ok : ∀ k, k < 3 → parseFieldDescriptor (TX0 k).2.2.1 = some (tyX0 k) := by decide +kernel
def RX1 : String := "HearingDesk$Docket"
def TX1 : u_T := fun k => match k with
  | 0 => ("HearingDesk$Docket", "all", "[LHearingDesk$Hearing;", true)
  | _ => ("HearingDesk$Docket", "size", "I", false)
def tyX1 : Nat → FieldType := fun k => match k with
  | 0 => .array (.object "HearingDesk$Hearing")
  | _ => .int
abbrev wsX10 : List Cond := u_ws RX1 TX1 2
theorem nmX1 : ∀ a, a < 2 → ∀ b, b < 2 → a ≠ b → (TX1 a).2.1 ≠ (TX1 b).2.1 := by decide +kernel
theorem tyX1_ok : ∀ k, k < 2 → parseFieldDescriptor (TX1 k).2.2.1 = some (tyX1 k) := by decide +kernel
def RX2 : String := "HearingDesk$FeeText"
def TX2 : u_T := fun k => match k with
  | 0 => ("HearingDesk$FeeText", "day", "[I", true)
  | 1 => ("HearingDesk$FeeText", "key", "[I", true)
  | 2 => ("HearingDesk$FeeText", "number", "[I", true)
  | 3 => ("HearingDesk$FeeText", "share", "[I", true)
  | _ => ("HearingDesk$FeeText", "size", "I", false)
def tyX2 : Nat → FieldType := fun k => match k with
  | 0 => .array .int
  | 1 => .array .int
  | 2 => .array .int
  | 3 => .array .int
  | _ => .int
abbrev wsX20 : List Cond := u_ws RX2 TX2 5
theorem nmX2 : ∀ a, a < 5 → ∀ b, b < 5 → a ≠ b → (TX2 a).2.1 ≠ (TX2 b).2.1 := by decide +kernel
theorem tyX2_ok : ∀ k, k < 5 → parseFieldDescriptor (TX2 k).2.2.1 = some (tyX2 k) := by decide +kernel
def RX3 : String := "HearingDesk$Hearing"
def TX3 : u_T := fun k => match k with
  | 0 => ("HearingDesk$Hearing", "which", "I", true)
  | 1 => ("HearingDesk$Hearing", "length", "I", true)
  | 2 => ("HearingDesk$Hearing", "town", "I", true)
  | 3 => ("HearingDesk$Hearing", "tongue", "I", true)
  | 4 => ("HearingDesk$Hearing", "grade", "I", true)
  | 5 => ("HearingDesk$Hearing", "day", "I", false)
  | 6 => ("HearingDesk$Hearing", "begin", "I", false)
  | 7 => ("HearingDesk$Hearing", "cancelled", "Z", false)
  | 8 => ("HearingDesk$Hearing", "ahead", "I", false)
  | 9 => ("HearingDesk$Hearing", "firstSeat", "I", false)
  | _ => ("HearingDesk$Hearing", "secondSeat", "I", false)
def tyX3 : Nat → FieldType := fun k => match k with
  | 0 => .int
  | 1 => .int
  | 2 => .int
  | 3 => .int
  | 4 => .int
  | 5 => .int
  | 6 => .int
  | 7 => .boolean
  | 8 => .int
  | 9 => .int
  | _ => .int
abbrev wsX30 : List Cond := u_ws RX3 TX3 11
theorem nmX3 : ∀ a, a < 11 → ∀ b, b < 11 → a ≠ b → (TX3 a).2.1 ≠ (TX3 b).2.1 := by decide +kernel
theorem tyX3_ok : ∀ k, k < 11 → parseFieldDescriptor (TX3 k).2.2.1 = some (tyX3 k) := by decide +kernel
def RX4 : String := "HearingDesk$Inquiries"
def TX4 : u_T := fun k => match k with
  | 0 => ("HearingDesk$Inquiries", "hearing", "[I", true)
  | 1 => ("HearingDesk$Inquiries", "person", "[I", true)
  | 2 => ("HearingDesk$Inquiries", "askDay", "[I", true)
  | 3 => ("HearingDesk$Inquiries", "said", "[I", true)
  | 4 => ("HearingDesk$Inquiries", "reason", "[I", true)
  | 5 => ("HearingDesk$Inquiries", "answerDay", "[I", true)
  | _ => ("HearingDesk$Inquiries", "size", "I", false)
def tyX4 : Nat → FieldType := fun k => match k with
  | 0 => .array .int
  | 1 => .array .int
  | 2 => .array .int
  | 3 => .array .int
  | 4 => .array .int
  | 5 => .array .int
  | _ => .int
abbrev wsX40 : List Cond := u_ws RX4 TX4 7
theorem nmX4 : ∀ a, a < 7 → ∀ b, b < 7 → a ≠ b → (TX4 a).2.1 ≠ (TX4 b).2.1 := by decide +kernel
theorem tyX4_ok : ∀ k, k < 7 → parseFieldDescriptor (TX4 k).2.2.1 = some (tyX4 k) := by decide +kernel
def RX5 : String := "HearingDesk$Papers"
def TX5 : u_T := fun k => match k with
  | 0 => ("HearingDesk$Papers", "parent", "[I", true)
  | 1 => ("HearingDesk$Papers", "person", "[I", true)
  | 2 => ("HearingDesk$Papers", "tongue", "[I", true)
  | 3 => ("HearingDesk$Papers", "grade", "[I", true)
  | 4 => ("HearingDesk$Papers", "first", "[I", true)
  | 5 => ("HearingDesk$Papers", "last", "[I", true)
  | 6 => ("HearingDesk$Papers", "grades", "[I", true)
  | _ => ("HearingDesk$Papers", "size", "I", false)
def tyX5 : Nat → FieldType := fun k => match k with
  | 0 => .array .int
  | 1 => .array .int
  | 2 => .array .int
  | 3 => .array .int
  | 4 => .array .int
  | 5 => .array .int
  | 6 => .array .int
  | _ => .int
abbrev wsX50 : List Cond := u_ws RX5 TX5 8
theorem nmX5 : ∀ a, a < 8 → ∀ b, b < 8 → a ≠ b → (TX5 a).2.1 ≠ (TX5 b).2.1 := by decide +kernel
theorem tyX5_ok : ∀ k, k < 8 → parseFieldDescriptor (TX5 k).2.2.1 = some (tyX5 k) := by decide +kernel
def RX6 : String := "HearingDesk$People"
def TX6 : u_T := fun k => match k with
  | 0 => ("HearingDesk$People", "homes", "[I", true)
  | 1 => ("HearingDesk$People", "barred", "[Z", true)
  | _ => ("HearingDesk$People", "size", "I", false)
def tyX6 : Nat → FieldType := fun k => match k with
  | 0 => .array .int
  | 1 => .array .boolean
  | _ => .int
abbrev wsX60 : List Cond := u_ws RX6 TX6 3
theorem nmX6 : ∀ a, a < 3 → ∀ b, b < 3 → a ≠ b → (TX6 a).2.1 ≠ (TX6 b).2.1 := by decide +kernel
theorem tyX6_ok : ∀ k, k < 3 → parseFieldDescriptor (TX6 k).2.2.1 = some (tyX6 k) := by decide +kernel
def RX7 : String := "HearingDesk$Planner"
def TX7 : u_T := fun k => match k with
  | 0 => ("HearingDesk$Planner", "sheet", "LHearingDesk$DaySheet;", true)
  | 1 => ("HearingDesk$Planner", "teams", "[LHearingDesk$Teams;", true)
  | 2 => ("HearingDesk$Planner", "holding", "[Z", true)
  | 3 => ("HearingDesk$Planner", "trip", "[I", true)
  | 4 => ("HearingDesk$Planner", "pick", "[I", true)
  | 5 => ("HearingDesk$Planner", "best", "[I", true)
  | 6 => ("HearingDesk$Planner", "keeps", "Z", false)
  | 7 => ("HearingDesk$Planner", "done", "Z", false)
  | 8 => ("HearingDesk$Planner", "size", "I", false)
  | 9 => ("HearingDesk$Planner", "without", "I", false)
  | 10 => ("HearingDesk$Planner", "changes", "I", false)
  | _ => ("HearingDesk$Planner", "trips", "I", false)
def tyX7 : Nat → FieldType := fun k => match k with
  | 0 => .object "HearingDesk$DaySheet"
  | 1 => .array (.object "HearingDesk$Teams")
  | 2 => .array .boolean
  | 3 => .array .int
  | 4 => .array .int
  | 5 => .array .int
  | 6 => .boolean
  | 7 => .boolean
  | 8 => .int
  | 9 => .int
  | 10 => .int
  | _ => .int
abbrev wsX70 : List Cond := u_ws RX7 TX7 12
theorem nmX7 : ∀ a, a < 12 → ∀ b, b < 12 → a ≠ b → (TX7 a).2.1 ≠ (TX7 b).2.1 := by decide +kernel
theorem tyX7_ok : ∀ k, k < 12 → parseFieldDescriptor (TX7 k).2.2.1 = some (tyX7 k) := by decide +kernel
def RX8 : String := "HearingDesk$Tape"
def TX8 : u_T := fun k => match k with
  | 0 => ("HearingDesk$Tape", "bytes", "[B", true)
  | 1 => ("HearingDesk$Tape", "at", "I", false)
  | 2 => ("HearingDesk$Tape", "fault", "I", false)
  | _ => ("HearingDesk$Tape", "size", "I", false)
def tyX8 : Nat → FieldType := fun k => match k with
  | 0 => .array .byte
  | 1 => .int
  | 2 => .int
  | _ => .int
abbrev wsX80 : List Cond := u_ws RX8 TX8 4
theorem nmX8 : ∀ a, a < 4 → ∀ b, b < 4 → a ≠ b → (TX8 a).2.1 ≠ (TX8 b).2.1 := by decide +kernel
theorem tyX8_ok : ∀ k, k < 4 → parseFieldDescriptor (TX8 k).2.2.1 = some (tyX8 k) := by decide +kernel
def RX9 : String := "HearingDesk$Teams"
def TX9 : u_T := fun k => match k with
  | 0 => ("HearingDesk$Teams", "first", "[I", true)
  | 1 => ("HearingDesk$Teams", "second", "[I", true)
  | 2 => ("HearingDesk$Teams", "relay", "[I", true)
  | 3 => ("HearingDesk$Teams", "able", "[Z", true)
  | _ => ("HearingDesk$Teams", "size", "I", false)
def tyX9 : Nat → FieldType := fun k => match k with
  | 0 => .array .int
  | 1 => .array .int
  | 2 => .array .int
  | 3 => .array .boolean
  | _ => .int
abbrev wsX90 : List Cond := u_ws RX9 TX9 5
theorem nmX9 : ∀ a, a < 5 → ∀ b, b < 5 → a ≠ b → (TX9 a).2.1 ≠ (TX9 b).2.1 := by decide +kernel
theorem tyX9_ok : ∀ k, k < 5 → parseFieldDescriptor (TX9 k).2.2.1 = some (tyX9 k) := by decide +kernel
def RX10 : String := "HearingDesk$Travel"
def TX10 : u_T := fun k => match k with
  | 0 => ("HearingDesk$Travel", "ways", "[I", true)
  | _ => ("HearingDesk$Travel", "rest", "I", false)
def tyX10 : Nat → FieldType := fun k => match k with
  | 0 => .array .int
  | _ => .int
abbrev wsX100 : List Cond := u_ws RX10 TX10 2
theorem nmX10 : ∀ a, a < 2 → ∀ b, b < 2 → a ≠ b → (TX10 a).2.1 ≠ (TX10 b).2.1 := by decide +kernel
theorem tyX10_ok : ∀ k, k < 2 → parseFieldDescriptor (TX10 k).2.2.1 = some (tyX10 k) := by decide +kernel
def RX11 : String := "HearingDesk"
def TX11 : u_T := fun k => match k with
  | 0 => ("HearingDesk", "travel", "LHearingDesk$Travel;", true)
  | 1 => ("HearingDesk", "people", "LHearingDesk$People;", true)
  | 2 => ("HearingDesk", "papers", "LHearingDesk$Papers;", true)
  | 3 => ("HearingDesk", "docket", "LHearingDesk$Docket;", true)
  | 4 => ("HearingDesk", "found", "LHearingDesk$Teams;", true)
  | 5 => ("HearingDesk", "sheet", "LHearingDesk$DaySheet;", true)
  | 6 => ("HearingDesk", "planner", "LHearingDesk$Planner;", true)
  | 7 => ("HearingDesk", "tape", "LHearingDesk$Tape;", true)
  | 8 => ("HearingDesk", "inquiries", "LHearingDesk$Inquiries;", true)
  | 9 => ("HearingDesk", "text", "LHearingDesk$FeeText;", false)
  | _ => ("HearingDesk", "spare", "LHearingDesk$FeeText;", false)
def tyX11 : Nat → FieldType := fun k => match k with
  | 0 => .object "HearingDesk$Travel"
  | 1 => .object "HearingDesk$People"
  | 2 => .object "HearingDesk$Papers"
  | 3 => .object "HearingDesk$Docket"
  | 4 => .object "HearingDesk$Teams"
  | 5 => .object "HearingDesk$DaySheet"
  | 6 => .object "HearingDesk$Planner"
  | 7 => .object "HearingDesk$Tape"
  | 8 => .object "HearingDesk$Inquiries"
  | 9 => .object "HearingDesk$FeeText"
  | _ => .object "HearingDesk$FeeText"
abbrev wsX110 : List Cond := u_ws RX11 TX11 11
theorem nmX11 : ∀ a, a < 11 → ∀ b, b < 11 → a ≠ b → (TX11 a).2.1 ≠ (TX11 b).2.1 := by decide +kernel
theorem tyX11_ok : ∀ k, k < 11 → parseFieldDescriptor (TX11 k).2.2.1 = some (tyX11 k) := by decide +kernel
def RX12 : String := "HearingDeskModel"
def TX12 : u_T := fun k => match k with
  | 0 => ("HearingDeskModel", "ways", "[I", true)
  | 1 => ("HearingDeskModel", "dialectOf", "[I", true)
  | 2 => ("HearingDeskModel", "persons", "I", false)
  | 3 => ("HearingDeskModel", "home", "[I", true)
  | 4 => ("HearingDeskModel", "papers", "I", false)
  | 5 => ("HearingDeskModel", "paperOf", "[I", true)
  | 6 => ("HearingDeskModel", "paperTongue", "[I", true)
  | 7 => ("HearingDeskModel", "paperGrade", "[I", true)
  | 8 => ("HearingDeskModel", "paperFirst", "[I", true)
  | 9 => ("HearingDeskModel", "paperLast", "[I", true)
  | 10 => ("HearingDeskModel", "isBarred", "[Z", true)
  | 11 => ("HearingDeskModel", "rest", "I", false)
  | 12 => ("HearingDeskModel", "hearings", "I", false)
  | 13 => ("HearingDeskModel", "caseOf", "[I", true)
  | 14 => ("HearingDeskModel", "dayOf", "[I", true)
  | 15 => ("HearingDeskModel", "begin", "[I", true)
  | 16 => ("HearingDeskModel", "length", "[I", true)
  | 17 => ("HearingDeskModel", "town", "[I", true)
  | 18 => ("HearingDeskModel", "tongueOf", "[I", true)
  | 19 => ("HearingDeskModel", "gradeOf", "[I", true)
  | 20 => ("HearingDeskModel", "cancelled", "[I", true)
  | 21 => ("HearingDeskModel", "seatOne", "[I", true)
  | 22 => ("HearingDeskModel", "seatTwo", "[I", true)
  | 23 => ("HearingDeskModel", "seatBy", "[I", true)
  | 24 => ("HearingDeskModel", "teamOne", "[I", true)
  | 25 => ("HearingDeskModel", "teamTwo", "[I", true)
  | 26 => ("HearingDeskModel", "teamBy", "[I", true)
  | 27 => ("HearingDeskModel", "teamMany", "[I", true)
  | 28 => ("HearingDeskModel", "many", "I", false)
  | 29 => ("HearingDeskModel", "slot", "[I", true)
  | 30 => ("HearingDeskModel", "choice", "[I", true)
  | 31 => ("HearingDeskModel", "best", "[I", true)
  | 32 => ("HearingDeskModel", "mine", "[I", true)
  | 33 => ("HearingDeskModel", "mineMany", "I", false)
  | 34 => ("HearingDeskModel", "bestWithout", "I", false)
  | 35 => ("HearingDeskModel", "bestChanges", "I", false)
  | 36 => ("HearingDeskModel", "bestJourneys", "I", false)
  | 37 => ("HearingDeskModel", "hasPlanned", "Z", false)
  | 38 => ("HearingDeskModel", "plannedMany", "I", false)
  | 39 => ("HearingDeskModel", "tape", "[B", true)
  | 40 => ("HearingDeskModel", "taped", "I", false)
  | 41 => ("HearingDeskModel", "next", "I", false)
  | 42 => ("HearingDeskModel", "fault", "I", false)
  | 43 => ("HearingDeskModel", "clauses", "I", false)
  | 44 => ("HearingDeskModel", "clauseKind", "[I", true)
  | 45 => ("HearingDeskModel", "clauseFrom", "[I", true)
  | 46 => ("HearingDeskModel", "clauseN", "[I", true)
  | 47 => ("HearingDeskModel", "clauseM", "[I", true)
  | 48 => ("HearingDeskModel", "read", "I", false)
  | 49 => ("HearingDeskModel", "readKind", "[I", true)
  | 50 => ("HearingDeskModel", "readFrom", "[I", true)
  | 51 => ("HearingDeskModel", "readN", "[I", true)
  | 52 => ("HearingDeskModel", "readM", "[I", true)
  | 53 => ("HearingDeskModel", "words", "[B", true)
  | 54 => ("HearingDeskModel", "said", "I", false)
  | 55 => ("HearingDeskModel", "asked", "I", false)
  | 56 => ("HearingDeskModel", "askedHearing", "[I", true)
  | 57 => ("HearingDeskModel", "askedPerson", "[I", true)
  | 58 => ("HearingDeskModel", "askedOn", "[I", true)
  | 59 => ("HearingDeskModel", "answeredOn", "[I", true)
  | 60 => ("HearingDeskModel", "saidYes", "[Z", true)
  | _ => ("HearingDeskModel", "whyOf", "[I", true)
def tyX12 : Nat → FieldType := fun k => match k with
  | 0 => .array .int
  | 1 => .array .int
  | 2 => .int
  | 3 => .array .int
  | 4 => .int
  | 5 => .array .int
  | 6 => .array .int
  | 7 => .array .int
  | 8 => .array .int
  | 9 => .array .int
  | 10 => .array .boolean
  | 11 => .int
  | 12 => .int
  | 13 => .array .int
  | 14 => .array .int
  | 15 => .array .int
  | 16 => .array .int
  | 17 => .array .int
  | 18 => .array .int
  | 19 => .array .int
  | 20 => .array .int
  | 21 => .array .int
  | 22 => .array .int
  | 23 => .array .int
  | 24 => .array .int
  | 25 => .array .int
  | 26 => .array .int
  | 27 => .array .int
  | 28 => .int
  | 29 => .array .int
  | 30 => .array .int
  | 31 => .array .int
  | 32 => .array .int
  | 33 => .int
  | 34 => .int
  | 35 => .int
  | 36 => .int
  | 37 => .boolean
  | 38 => .int
  | 39 => .array .byte
  | 40 => .int
  | 41 => .int
  | 42 => .int
  | 43 => .int
  | 44 => .array .int
  | 45 => .array .int
  | 46 => .array .int
  | 47 => .array .int
  | 48 => .int
  | 49 => .array .int
  | 50 => .array .int
  | 51 => .array .int
  | 52 => .array .int
  | 53 => .array .byte
  | 54 => .int
  | 55 => .int
  | 56 => .array .int
  | 57 => .array .int
  | 58 => .array .int
  | 59 => .array .int
  | 60 => .array .boolean
  | _ => .array .int
abbrev wsX120 : List Cond := u_ws RX12 TX12 62
theorem nmX12 : ∀ a, a < 62 → ∀ b, b < 62 → a ≠ b → (TX12 a).2.1 ≠ (TX12 b).2.1 := by decide +kernel
theorem tyX12_ok : ∀ k, k < 62 → parseFieldDescriptor (TX12 k).2.2.1 = some (tyX12 k) := by decide +kernel
abbrev cl13 : List vw_C := [(RX0, TX0, 3), (RX1, TX1, 2), (RX2, TX2, 5), (RX3, TX3, 11), (RX4, TX4, 7), (RX5, TX5, 8), (RX6, TX6, 3), (RX7, TX7, 12), (RX8, TX8, 4), (RX9, TX9, 5), (RX10, TX10, 2), (RX11, TX11, 11), (RX12, TX12, 62)]
def tyF (c : Nat) : Nat → FieldType := match c with
  | 0 => tyX0
  | 1 => tyX1
  | 2 => tyX2
  | 3 => tyX3
  | 4 => tyX4
  | 5 => tyX5
  | 6 => tyX6
  | 7 => tyX7
  | 8 => tyX8
  | 9 => tyX9
  | 10 => tyX10
  | 11 => tyX11
  | _ => tyX12
def ownL : List String := ["HearingDesk$DaySheet", "HearingDesk$Docket", "HearingDesk$FeeText", "HearingDesk$Hearing", "HearingDesk$Inquiries", "HearingDesk$Papers", "HearingDesk$People", "HearingDesk$Planner", "HearingDesk$Tape", "HearingDesk$Teams", "HearingDesk$Travel", "HearingDesk", "HearingDeskModel", "HearingDeskLaw", "java/util/Arrays"]
def ownF (c : Nat) : String := ownL.getD c ""
def ftL : List (List Nat) := [[53, 50, 0], [53, 0], [50, 50, 50, 50, 0], [0, 0, 0, 0, 0, 0, 0, 7, 0, 0, 0], [50, 50, 50, 50, 50, 50, 0], [50, 50, 50, 50, 50, 50, 50, 0], [50, 52, 0], [10, 54, 52, 50, 50, 50, 7, 7, 0, 0, 0, 0], [51, 0, 0, 0], [50, 50, 50, 52, 0], [50, 0], [20, 16, 15, 11, 19, 10, 17, 18, 14, 12, 12], [50, 50, 0, 50, 0, 50, 50, 50, 50, 50, 52, 0, 0, 50, 50, 50, 50, 50, 50, 50, 50, 50, 50, 50, 50, 50, 50, 50, 0, 50, 50, 50, 50, 0, 0, 0, 0, 7, 0, 51, 0, 0, 0, 0, 50, 50, 50, 50, 0, 50, 50, 50, 50, 51, 0, 0, 50, 50, 50, 50, 52, 50]]
def ftF (c j : Nat) : Nat := (ftL.getD c []).getD j 0
def nfL : List Nat := [3, 2, 5, 11, 7, 8, 3, 12, 4, 5, 2, 11, 62]
def nfF (c : Nat) : Nat := nfL.getD c 0
def shL : List Nat := [21, 20, 50, 16, 50, 52, 15, 50, 50, 50, 50, 50, 50, 50, 11, 53, 19, 50, 50, 50, 52, 10, 53, 50, 17, 54, 19, 50, 50, 50, 52, 19, 50, 50, 50, 52, 19, 50, 50, 50, 52, 19, 50, 50, 50, 52, 52, 50, 50, 50, 18, 51, 14, 50, 50, 50, 50, 50, 50, 12, 50, 50, 50, 50, 12, 50, 50, 50, 50, 22, 50, 50, 50, 50, 50, 50, 50, 50, 52, 50, 50, 50, 50, 50, 50, 50, 50, 50, 50, 50, 50, 50, 50, 50, 50, 50, 50, 50, 51, 50, 50, 50, 50, 50, 50, 50, 50, 51, 50, 50, 50, 50, 52, 50, 13, 13, 13, 13, 13, 13, 13, 13, 13, 13, 13, 13, 13, 13, 13, 13, 13, 13, 13, 13, 13, 13, 13, 13]
def shF (k : Nat) : Nat := shL.getD k 0
def lnL : List Int := [0, 0, 36, 0, 5, 100, 0, 10, 40, 40, 40, 40, 40, 10, 0, 24, 0, 20, 20, 20, 50, 0, 4, 4, 0, 4, 0, 20, 20, 20, 50, 0, 20, 20, 20, 50, 0, 20, 20, 20, 50, 0, 20, 20, 20, 50, 16, 80, 4, 4, 0, 600, 0, 60, 60, 60, 60, 60, 60, 0, 60, 60, 60, 60, 0, 60, 60, 60, 60, 0, 36, 10, 6, 40, 40, 40, 40, 40, 120, 24, 24, 24, 24, 24, 24, 24, 24, 24, 24, 24, 150, 150, 150, 5, 4, 4, 4, 24, 600, 64, 64, 64, 64, 64, 64, 64, 64, 37, 60, 60, 60, 60, 60, 60, 0, 0, 0, 0, 0, 0, 0, 0, 0, 0, 0, 0, 0, 0, 0, 0, 0, 0, 0, 0, 0, 0, 0, 0]
def lnF (k : Int) : Int := lnL.getD k.toNat 0
def strL : List (List Int) := [[102, 114, 111, 109], [108, 101, 97, 115, 116], [119, 97, 121], [112, 97, 105, 114], [114, 101, 108, 97, 121], [108, 97, 116, 101], [114, 97, 116, 101]]
def slF (k : Int) : Int := (strL.getD k.toNat []).length
def scF (k i : Int) : Int := (strL.getD k.toNat []).getD i.toNat 0
def mtL : List (MethodName × ByteArray × Nat × Option FieldType × Nat) := [
  (⟨"HearingDesk$DaySheet", "<init>", "()V"⟩, prog_2_method_1_code, 1, (none : Option FieldType), 0),
  (⟨"HearingDesk$DaySheet", "gather", "(LHearingDesk$Docket;I)V"⟩, prog_2_method_2_code, 5, (none : Option FieldType), 0),
  (⟨"HearingDesk$DaySheet", "placeByBegin", "(I)V"⟩, prog_2_method_3_code, 5, (none : Option FieldType), 0),
  (⟨"HearingDesk$DaySheet", "get", "(I)LHearingDesk$Hearing;"⟩, prog_2_method_4_code, 2, (some (FieldType.object "HearingDesk$Hearing")), 0),
  (⟨"HearingDesk$DaySheet", "seatedSet", "(I)I"⟩, prog_2_method_5_code, 5, (some FieldType.int), 0),
  (⟨"HearingDesk$DaySheet", "holds", "(ILHearingDesk$Travel;)Z"⟩, prog_2_method_6_code, 6, (some FieldType.boolean), 0),
  (⟨"HearingDesk$DaySheet", "tripOf", "(IILHearingDesk$Travel;)I"⟩, prog_2_method_7_code, 8, (some FieldType.int), 0),
  (⟨"HearingDesk$DaySheet", "memberAt", "(II)LHearingDesk$Hearing;"⟩, prog_2_method_8_code, 4, (some (FieldType.object "HearingDesk$Hearing")), 0),
  (⟨"HearingDesk$Docket", "<init>", "()V"⟩, prog_3_method_1_code, 1, (none : Option FieldType), 1),
  (⟨"HearingDesk$Docket", "isFull", "()Z"⟩, prog_3_method_2_code, 1, (some FieldType.boolean), 1),
  (⟨"HearingDesk$Docket", "add", "(LHearingDesk$Hearing;)I"⟩, prog_3_method_3_code, 2, (some FieldType.int), 1),
  (⟨"HearingDesk$Docket", "get", "(I)LHearingDesk$Hearing;"⟩, prog_3_method_4_code, 2, (some (FieldType.object "HearingDesk$Hearing")), 1),
  (⟨"HearingDesk$Docket", "liveOn", "(ILHearingDesk$Hearing;)I"⟩, prog_3_method_5_code, 6, (some FieldType.int), 1),
  (⟨"HearingDesk$Docket", "cancelledSize", "()I"⟩, prog_3_method_6_code, 4, (some FieldType.int), 1),
  (⟨"HearingDesk$FeeText", "<init>", "()V"⟩, prog_4_method_1_code, 1, (none : Option FieldType), 2),
  (⟨"HearingDesk$FeeText", "add", "(IIII)V"⟩, prog_4_method_2_code, 5, (none : Option FieldType), 2),
  (⟨"HearingDesk$FeeText", "told", "(II)I"⟩, prog_4_method_3_code, 6, (some FieldType.int), 2),
  (⟨"HearingDesk$FeeText", "earnedIn", "(LHearingDesk$Hearing;)J"⟩, prog_4_method_4_code, 7, (some FieldType.long), 2),
  (⟨"HearingDesk$Hearing", "<init>", "(IIIII)V"⟩, prog_5_method_1_code, 6, (none : Option FieldType), 3),
  (⟨"HearingDesk$Hearing", "isLong", "()Z"⟩, prog_5_method_2_code, 1, (some FieldType.boolean), 3),
  (⟨"HearingDesk$Hearing", "isSeated", "(I)Z"⟩, prog_5_method_3_code, 2, (some FieldType.boolean), 3),
  (⟨"HearingDesk$Hearing", "changesTo", "(II)I"⟩, prog_5_method_4_code, 3, (some FieldType.int), 3),
  (⟨"HearingDesk$Hearing", "leaves", "(III)I"⟩, prog_5_method_5_code, 3, (some FieldType.int), 3),
  (⟨"HearingDesk$Inquiries", "<init>", "()V"⟩, prog_6_method_1_code, 1, (none : Option FieldType), 4),
  (⟨"HearingDesk$Inquiries", "add", "(III)I"⟩, prog_6_method_2_code, 4, (some FieldType.int), 4),
  (⟨"HearingDesk$Inquiries", "close", "(IIZI)Z"⟩, prog_6_method_3_code, 5, (some FieldType.boolean), 4),
  (⟨"HearingDesk$Inquiries", "isAskedBy", "(II)Z"⟩, prog_6_method_4_code, 3, (some FieldType.boolean), 4),
  (⟨"HearingDesk$Inquiries", "isAnsweredBy", "(II)Z"⟩, prog_6_method_5_code, 3, (some FieldType.boolean), 4),
  (⟨"HearingDesk$Inquiries", "refusedBy", "(II)I"⟩, prog_6_method_6_code, 6, (some FieldType.int), 4),
  (⟨"HearingDesk$Papers", "<init>", "()V"⟩, prog_7_method_1_code, 1, (none : Option FieldType), 5),
  (⟨"HearingDesk$Papers", "add", "(IIIII)I"⟩, prog_7_method_2_code, 6, (some FieldType.int), 5),
  (⟨"HearingDesk$Papers", "shorten", "(II)Z"⟩, prog_7_method_3_code, 3, (some FieldType.boolean), 5),
  (⟨"HearingDesk$Papers", "gradesOf", "(II)[I"⟩, prog_7_method_4_code, 4, (some (FieldType.array FieldType.int)), 5),
  (⟨"HearingDesk$People", "<init>", "()V"⟩, prog_8_method_1_code, 1, (none : Option FieldType), 6),
  (⟨"HearingDesk$People", "has", "(I)Z"⟩, prog_8_method_2_code, 2, (some FieldType.boolean), 6),
  (⟨"HearingDesk$People", "add", "(I)I"⟩, prog_8_method_3_code, 2, (some FieldType.int), 6),
  (⟨"HearingDesk$People", "homeOf", "(I)I"⟩, prog_8_method_4_code, 2, (some FieldType.int), 6),
  (⟨"HearingDesk$People", "isBarred", "(II)Z"⟩, prog_8_method_5_code, 3, (some FieldType.boolean), 6),
  (⟨"HearingDesk$People", "setBarred", "(IIZ)Z"⟩, prog_8_method_6_code, 4, (some FieldType.boolean), 6),
  (⟨"HearingDesk$Planner", "<init>", "(LHearingDesk$DaySheet;)V"⟩, prog_9_method_1_code, 3, (none : Option FieldType), 7),
  (⟨"HearingDesk$Planner", "prepare", "(LHearingDesk$People;LHearingDesk$Papers;LHearingDesk$Travel;)V"⟩, prog_9_method_2_code, 6, (none : Option FieldType), 7),
  (⟨"HearingDesk$Planner", "layOut", "(Z)V"⟩, prog_9_method_3_code, 4, (none : Option FieldType), 7),
  (⟨"HearingDesk$Planner", "search", "(LHearingDesk$Planner;IIII)V"⟩, prog_9_method_4_code, 8, (none : Option FieldType), 7),
  (⟨"HearingDesk$Planner", "isPastBest", "(II)Z"⟩, prog_9_method_5_code, 3, (some FieldType.boolean), 7),
  (⟨"HearingDesk$Planner", "setsOf", "(II)I"⟩, prog_9_method_6_code, 3, (some FieldType.int), 7),
  (⟨"HearingDesk$Planner", "setBit", "(II)I"⟩, prog_9_method_7_code, 2, (some FieldType.int), 7),
  (⟨"HearingDesk$Planner", "changesAt", "(II)I"⟩, prog_9_method_8_code, 4, (some FieldType.int), 7),
  (⟨"HearingDesk$Planner", "weigh", "(III)V"⟩, prog_9_method_9_code, 7, (none : Option FieldType), 7),
  (⟨"HearingDesk$Planner", "isBetter", "(III)Z"⟩, prog_9_method_10_code, 4, (some FieldType.boolean), 7),
  (⟨"HearingDesk$Tape", "<init>", "()V"⟩, prog_10_method_1_code, 1, (none : Option FieldType), 8),
  (⟨"HearingDesk$Tape", "hasRoomFor", "(I)Z"⟩, prog_10_method_2_code, 2, (some FieldType.boolean), 8),
  (⟨"HearingDesk$Tape", "append", "(I)V"⟩, prog_10_method_3_code, 3, (none : Option FieldType), 8),
  (⟨"HearingDesk$Tape", "readInto", "(LHearingDesk$FeeText;)I"⟩, prog_10_method_4_code, 4, (some FieldType.int), 8),
  (⟨"HearingDesk$Tape", "readClause", "(LHearingDesk$FeeText;)V"⟩, prog_10_method_5_code, 7, (none : Option FieldType), 8),
  (⟨"HearingDesk$Tape", "readSemicolon", "()Z"⟩, prog_10_method_6_code, 1, (some FieldType.boolean), 8),
  (⟨"HearingDesk$Tape", "readFrom", "()V"⟩, prog_10_method_7_code, 2, (none : Option FieldType), 8),
  (⟨"HearingDesk$Tape", "readKind", "()I"⟩, prog_10_method_8_code, 3, (some FieldType.int), 8),
  (⟨"HearingDesk$Tape", "readNumber", "(II)I"⟩, prog_10_method_9_code, 5, (some FieldType.int), 8),
  (⟨"HearingDesk$Tape", "skipBlanks", "()V"⟩, prog_10_method_10_code, 1, (none : Option FieldType), 8),
  (⟨"HearingDesk$Tape", "passLetters", "()I"⟩, prog_10_method_11_code, 2, (some FieldType.int), 8),
  (⟨"HearingDesk$Tape", "isWord", "(Ljava/lang/String;I)Z"⟩, prog_10_method_12_code, 4, (some FieldType.boolean), 8),
  (⟨"HearingDesk$Tape", "byteAt", "(I)I"⟩, prog_10_method_13_code, 2, (some FieldType.int), 8),
  (⟨"HearingDesk$Tape", "blame", "(II)V"⟩, prog_10_method_14_code, 3, (none : Option FieldType), 8),
  (⟨"HearingDesk$Tape", "isDigit", "(I)Z"⟩, prog_10_method_15_code, 1, (some FieldType.boolean), 8),
  (⟨"HearingDesk$Tape", "isLetter", "(I)Z"⟩, prog_10_method_16_code, 1, (some FieldType.boolean), 8),
  (⟨"HearingDesk$Tape", "wordOf", "(I)Ljava/lang/String;"⟩, prog_10_method_17_code, 1, (some (FieldType.object "java/lang/String")), 8),
  (⟨"HearingDesk$Tape", "lowest", "(I)I"⟩, prog_10_method_18_code, 1, (some FieldType.int), 8),
  (⟨"HearingDesk$Tape", "highest", "(I)I"⟩, prog_10_method_19_code, 1, (some FieldType.int), 8),
  (⟨"HearingDesk$Teams", "<init>", "()V"⟩, prog_11_method_1_code, 1, (none : Option FieldType), 9),
  (⟨"HearingDesk$Teams", "find", "(LHearingDesk$Hearing;LHearingDesk$People;LHearingDesk$Papers;)V"⟩, prog_11_method_2_code, 5, (none : Option FieldType), 9),
  (⟨"HearingDesk$Teams", "firstOf", "(I)I"⟩, prog_11_method_3_code, 2, (some FieldType.int), 9),
  (⟨"HearingDesk$Teams", "secondOf", "(I)I"⟩, prog_11_method_4_code, 2, (some FieldType.int), 9),
  (⟨"HearingDesk$Teams", "relayOf", "(I)I"⟩, prog_11_method_5_code, 2, (some FieldType.int), 9),
  (⟨"HearingDesk$Teams", "has", "(I)Z"⟩, prog_11_method_6_code, 2, (some FieldType.boolean), 9),
  (⟨"HearingDesk$Teams", "markAble", "(ILHearingDesk$Hearing;LHearingDesk$People;LHearingDesk$Papers;)V"⟩, prog_11_method_7_code, 8, (none : Option FieldType), 9),
  (⟨"HearingDesk$Teams", "isAble", "(III)Z"⟩, prog_11_method_8_code, 4, (some FieldType.boolean), 9),
  (⟨"HearingDesk$Teams", "addPairs", "(I)V"⟩, prog_11_method_9_code, 4, (none : Option FieldType), 9),
  (⟨"HearingDesk$Teams", "addSingles", "(I)V"⟩, prog_11_method_10_code, 3, (none : Option FieldType), 9),
  (⟨"HearingDesk$Teams", "addRelays", "(I)V"⟩, prog_11_method_11_code, 5, (none : Option FieldType), 9),
  (⟨"HearingDesk$Teams", "relayTongue", "(III)I"⟩, prog_11_method_12_code, 5, (some FieldType.int), 9),
  (⟨"HearingDesk$Teams", "add", "(III)V"⟩, prog_11_method_13_code, 4, (none : Option FieldType), 9),
  (⟨"HearingDesk$Travel", "<init>", "()V"⟩, prog_12_method_1_code, 2, (none : Option FieldType), 10),
  (⟨"HearingDesk$Travel", "between", "(II)I"⟩, prog_12_method_2_code, 3, (some FieldType.int), 10),
  (⟨"HearingDesk$Travel", "setWay", "(III)V"⟩, prog_12_method_3_code, 4, (none : Option FieldType), 10),
  (⟨"HearingDesk$Travel", "allows", "(LHearingDesk$Hearing;LHearingDesk$Hearing;)Z"⟩, prog_12_method_4_code, 4, (some FieldType.boolean), 10),
  (⟨"HearingDesk", "<init>", "()V"⟩, prog_1_method_1_code, 1, (none : Option FieldType), 11),
  (⟨"HearingDesk", "way", "(III)I"⟩, prog_1_method_2_code, 5, (some FieldType.int), 11),
  (⟨"HearingDesk", "dialect", "(II)Z"⟩, prog_1_method_3_code, 3, (some FieldType.boolean), 11),
  (⟨"HearingDesk", "person", "(I)I"⟩, prog_1_method_4_code, 2, (some FieldType.int), 11),
  (⟨"HearingDesk", "paper", "(IIIII)I"⟩, prog_1_method_5_code, 7, (some FieldType.int), 11),
  (⟨"HearingDesk", "withdraw", "(II)Z"⟩, prog_1_method_6_code, 3, (some FieldType.boolean), 11),
  (⟨"HearingDesk", "grade", "(III)I"⟩, prog_1_method_7_code, 4, (some FieldType.int), 11),
  (⟨"HearingDesk", "bar", "(IIZ)Z"⟩, prog_1_method_8_code, 4, (some FieldType.boolean), 11),
  (⟨"HearingDesk", "rest", "(I)I"⟩, prog_1_method_9_code, 3, (some FieldType.int), 11),
  (⟨"HearingDesk", "hearing", "(IIIIIII)I"⟩, prog_1_method_10_code, 10, (some FieldType.int), 11),
  (⟨"HearingDesk", "move", "(III)Z"⟩, prog_1_method_11_code, 5, (some FieldType.boolean), 11),
  (⟨"HearingDesk", "cancel", "(II)Z"⟩, prog_1_method_12_code, 4, (some FieldType.boolean), 11),
  (⟨"HearingDesk", "teams", "(I)I"⟩, prog_1_method_13_code, 3, (some FieldType.int), 11),
  (⟨"HearingDesk", "team", "(III)I"⟩, prog_1_method_14_code, 5, (some FieldType.int), 11),
  (⟨"HearingDesk", "plan", "(IZ)I"⟩, prog_1_method_15_code, 3, (some FieldType.int), 11),
  (⟨"HearingDesk", "planned", "(I)I"⟩, prog_1_method_16_code, 2, (some FieldType.int), 11),
  (⟨"HearingDesk", "seat", "(II)I"⟩, prog_1_method_17_code, 4, (some FieldType.int), 11),
  (⟨"HearingDesk", "turn", "(II)I"⟩, prog_1_method_18_code, 5, (some FieldType.int), 11),
  (⟨"HearingDesk", "journeys", "(II)I"⟩, prog_1_method_19_code, 3, (some FieldType.int), 11),
  (⟨"HearingDesk", "feed", "(IIIII)I"⟩, prog_1_method_20_code, 6, (some FieldType.int), 11),
  (⟨"HearingDesk", "end", "(I)I"⟩, prog_1_method_21_code, 2, (some FieldType.int), 11),
  (⟨"HearingDesk", "fees", "()I"⟩, prog_1_method_22_code, 3, (some FieldType.int), 11),
  (⟨"HearingDesk", "tells", "(II)I"⟩, prog_1_method_23_code, 4, (some FieldType.int), 11),
  (⟨"HearingDesk", "fee", "(II)J"⟩, prog_1_method_24_code, 7, (some FieldType.long), 11),
  (⟨"HearingDesk", "ask", "(III)I"⟩, prog_1_method_25_code, 4, (some FieldType.int), 11),
  (⟨"HearingDesk", "answer", "(IIZI)Z"⟩, prog_1_method_26_code, 5, (some FieldType.boolean), 11),
  (⟨"HearingDesk", "known", "(III)I"⟩, prog_1_method_27_code, 5, (some FieldType.int), 11),
  (⟨"HearingDesk", "refusals", "(II)I"⟩, prog_1_method_28_code, 4, (some FieldType.int), 11),
  (⟨"HearingDesk", "count", "(I)I"⟩, prog_1_method_29_code, 2, (some FieldType.int), 11),
  (⟨"HearingDesk", "within", "(III)Z"⟩, prog_1_method_30_code, 3, (some FieldType.boolean), 11),
  (⟨"HearingDesk", "isDay", "(I)Z"⟩, prog_1_method_31_code, 1, (some FieldType.boolean), 11),
  (⟨"HearingDesk", "isTown", "(I)Z"⟩, prog_1_method_32_code, 1, (some FieldType.boolean), 11),
  (⟨"HearingDesk", "isTongue", "(I)Z"⟩, prog_1_method_33_code, 1, (some FieldType.boolean), 11),
  (⟨"HearingDesk", "isGrade", "(I)Z"⟩, prog_1_method_34_code, 1, (some FieldType.boolean), 11),
  (⟨"HearingDesk", "isCase", "(I)Z"⟩, prog_1_method_35_code, 1, (some FieldType.boolean), 11),
  (⟨"HearingDesk", "isSpan", "(III)Z"⟩, prog_1_method_36_code, 3, (some FieldType.boolean), 11),
  (⟨"HearingDeskModel", "<init>", "()V"⟩, prog_14_method_1_code, 3, (none : Option FieldType), 12),
  (⟨"HearingDeskModel", "in", "(III)Z"⟩, prog_14_method_2_code, 3, (some FieldType.boolean), 12),
  (⟨"HearingDeskModel", "way", "(III)I"⟩, prog_14_method_3_code, 5, (some FieldType.int), 12),
  (⟨"HearingDeskModel", "dialect", "(II)Z"⟩, prog_14_method_4_code, 3, (some FieldType.boolean), 12),
  (⟨"HearingDeskModel", "person", "(I)I"⟩, prog_14_method_5_code, 2, (some FieldType.int), 12),
  (⟨"HearingDeskModel", "isPerson", "(I)Z"⟩, prog_14_method_6_code, 2, (some FieldType.boolean), 12),
  (⟨"HearingDeskModel", "isDay", "(I)Z"⟩, prog_14_method_7_code, 1, (some FieldType.boolean), 12),
  (⟨"HearingDeskModel", "paper", "(IIIII)I"⟩, prog_14_method_8_code, 6, (some FieldType.int), 12),
  (⟨"HearingDeskModel", "withdraw", "(II)Z"⟩, prog_14_method_9_code, 3, (some FieldType.boolean), 12),
  (⟨"HearingDeskModel", "gradeIn", "(III)I"⟩, prog_14_method_10_code, 8, (some FieldType.int), 12),
  (⟨"HearingDeskModel", "grade", "(III)I"⟩, prog_14_method_11_code, 4, (some FieldType.int), 12),
  (⟨"HearingDeskModel", "bar", "(IIZ)Z"⟩, prog_14_method_12_code, 5, (some FieldType.boolean), 12),
  (⟨"HearingDeskModel", "rest", "(I)I"⟩, prog_14_method_13_code, 3, (some FieldType.int), 12),
  (⟨"HearingDeskModel", "ofDay", "(II)I"⟩, prog_14_method_14_code, 5, (some FieldType.int), 12),
  (⟨"HearingDeskModel", "hearing", "(IIIIIII)I"⟩, prog_14_method_15_code, 9, (some FieldType.int), 12),
  (⟨"HearingDeskModel", "isHearing", "(I)Z"⟩, prog_14_method_16_code, 2, (some FieldType.boolean), 12),
  (⟨"HearingDeskModel", "move", "(III)Z"⟩, prog_14_method_17_code, 4, (some FieldType.boolean), 12),
  (⟨"HearingDeskModel", "cancel", "(II)Z"⟩, prog_14_method_18_code, 3, (some FieldType.boolean), 12),
  (⟨"HearingDeskModel", "isOf", "(III)Z"⟩, prog_14_method_19_code, 4, (some FieldType.boolean), 12),
  (⟨"HearingDeskModel", "isFit", "(II)Z"⟩, prog_14_method_20_code, 3, (some FieldType.boolean), 12),
  (⟨"HearingDeskModel", "comes", "(IIII)V"⟩, prog_14_method_21_code, 6, (none : Option FieldType), 12),
  (⟨"HearingDeskModel", "relay", "(III)I"⟩, prog_14_method_22_code, 5, (some FieldType.int), 12),
  (⟨"HearingDeskModel", "teamsOf", "(II)V"⟩, prog_14_method_23_code, 7, (none : Option FieldType), 12),
  (⟨"HearingDeskModel", "teams", "(I)I"⟩, prog_14_method_24_code, 2, (some FieldType.int), 12),
  (⟨"HearingDeskModel", "team", "(III)I"⟩, prog_14_method_25_code, 4, (some FieldType.int), 12),
  (⟨"HearingDeskModel", "joins", "(I)V"⟩, prog_14_method_26_code, 3, (none : Option FieldType), 12),
  (⟨"HearingDeskModel", "journeysOf", "(I)I"⟩, prog_14_method_27_code, 5, (some FieldType.int), 12),
  (⟨"HearingDeskModel", "holds", "()Z"⟩, prog_14_method_28_code, 5, (some FieldType.boolean), 12),
  (⟨"HearingDeskModel", "sits", "(II)Z"⟩, prog_14_method_29_code, 4, (some FieldType.boolean), 12),
  (⟨"HearingDeskModel", "collects", "(II)V"⟩, prog_14_method_30_code, 4, (none : Option FieldType), 12),
  (⟨"HearingDeskModel", "clashes", "(I)Z"⟩, prog_14_method_31_code, 6, (some FieldType.boolean), 12),
  (⟨"HearingDeskModel", "changes", "()I"⟩, prog_14_method_32_code, 4, (some FieldType.int), 12),
  (⟨"HearingDeskModel", "weighs", "(IZ)V"⟩, prog_14_method_33_code, 7, (none : Option FieldType), 12),
  (⟨"HearingDeskModel", "plan", "(IZ)I"⟩, prog_14_method_34_code, 8, (some FieldType.int), 12),
  (⟨"HearingDeskModel", "planned", "(I)I"⟩, prog_14_method_35_code, 2, (some FieldType.int), 12),
  (⟨"HearingDeskModel", "seat", "(II)I"⟩, prog_14_method_36_code, 3, (some FieldType.int), 12),
  (⟨"HearingDeskModel", "turn", "(II)I"⟩, prog_14_method_37_code, 3, (some FieldType.int), 12),
  (⟨"HearingDeskModel", "isSeated", "(II)Z"⟩, prog_14_method_38_code, 3, (some FieldType.boolean), 12),
  (⟨"HearingDeskModel", "journeys", "(II)I"⟩, prog_14_method_39_code, 4, (some FieldType.int), 12),
  (⟨"HearingDeskModel", "four", "(I)V"⟩, prog_14_method_40_code, 3, (none : Option FieldType), 12),
  (⟨"HearingDeskModel", "feed", "(IIIII)I"⟩, prog_14_method_41_code, 6, (some FieldType.int), 12),
  (⟨"HearingDeskModel", "end", "(I)I"⟩, prog_14_method_42_code, 2, (some FieldType.int), 12),
  (⟨"HearingDeskModel", "see", "()I"⟩, prog_14_method_43_code, 1, (some FieldType.int), 12),
  (⟨"HearingDeskModel", "fails", "(II)Z"⟩, prog_14_method_44_code, 3, (some FieldType.boolean), 12),
  (⟨"HearingDeskModel", "word", "()I"⟩, prog_14_method_45_code, 6, (some FieldType.int), 12),
  (⟨"HearingDeskModel", "number", "(II)Z"⟩, prog_14_method_46_code, 7, (some FieldType.boolean), 12),
  (⟨"HearingDeskModel", "clause", "()Z"⟩, prog_14_method_47_code, 8, (some FieldType.boolean), 12),
  (⟨"HearingDeskModel", "fees", "()I"⟩, prog_14_method_48_code, 3, (some FieldType.int), 12),
  (⟨"HearingDeskModel", "clauseOf", "(II)I"⟩, prog_14_method_49_code, 5, (some FieldType.int), 12),
  (⟨"HearingDeskModel", "tellsOf", "(II)I"⟩, prog_14_method_50_code, 4, (some FieldType.int), 12),
  (⟨"HearingDeskModel", "tells", "(II)I"⟩, prog_14_method_51_code, 3, (some FieldType.int), 12),
  (⟨"HearingDeskModel", "fee", "(II)J"⟩, prog_14_method_52_code, 10, (some FieldType.long), 12),
  (⟨"HearingDeskModel", "ask", "(III)I"⟩, prog_14_method_53_code, 4, (some FieldType.int), 12),
  (⟨"HearingDeskModel", "answer", "(IIZI)Z"⟩, prog_14_method_54_code, 5, (some FieldType.boolean), 12),
  (⟨"HearingDeskModel", "known", "(III)I"⟩, prog_14_method_55_code, 5, (some FieldType.int), 12),
  (⟨"HearingDeskModel", "refusals", "(II)I"⟩, prog_14_method_56_code, 5, (some FieldType.int), 12),
  (⟨"HearingDeskModel", "count", "(I)I"⟩, prog_14_method_57_code, 4, (some FieldType.int), 12),
  (⟨"java/util/Arrays", "fill", "([II)V"⟩, prog_20_method_103_code, 4, (none : Option FieldType), 14),
  (⟨"HearingDeskLaw", "law", "([I)Z"⟩, code, 4, (some .boolean), 13)]
def mtF (m : Nat) : MethodName × ByteArray × Nat × Option FieldType × Nat := mtL.getD m (⟨"", "", ""⟩, ⟨#[]⟩, 0, none, 0)
def myF (m : Nat) : MethodName := (mtF m).1
def mcF (m : Nat) : ByteArray := (mtF m).2.1
def mlF (m : Nat) : Nat := (mtF m).2.2.1
def mrF (m : Nat) : Option FieldType := (mtF m).2.2.2.1
def moF (m : Nat) : Nat := (mtF m).2.2.2.2
/-- does the method keep longs in its locals -/
def mgL : List Nat := [17, 108, 172]
end
section
/-! The small machine over Int: values are (kind, number); kinds 0 int, 2 long, 3 a String constant, 5 the script, 9 unset, 10 + c an object of class c (number -1: null), 50 int[], 51 byte[], 52 boolean[], 53 Hearing[], 54 Teams[]. Cells are numbered in the order of their making. -/
abbrev AV : Type := Nat × Int
abbrev Mem : Type := Int → Int → Int
abbrev Ins : Type := Nat × Nat × Nat × Nat × Int × List (Int × Nat)
abbrev Cfg : Type := Nat × List AV × List AV × Mem × Nat
abbrev Out : Type := Option AV × Mem × Nat
def wrM (σ : Mem) (k j v : Int) : Mem := fun a b => if a = k ∧ b = j then v else σ a b
def mkM (σ : Mem) (k : Int) (f : Int → Int) : Mem := fun a b => if a = k then f b else σ a b
def cpM (σ : Mem) (a sp b dp n : Int) : Mem := fun x y => if x = b ∧ dp ≤ y ∧ y < dp + n then σ a (sp + (y - dp)) else σ x y
def Zadd (a b : Int) : Int := (Int32.ofInt a + Int32.ofInt b).toInt
def Zsub (a b : Int) : Int := (Int32.ofInt a - Int32.ofInt b).toInt
def Zmul (a b : Int) : Int := (Int32.ofInt a * Int32.ofInt b).toInt
def Zand (a b : Int) : Int := (Int32.ofInt a &&& Int32.ofInt b).toInt
def Zor (a b : Int) : Int := (Int32.ofInt a ||| Int32.ofInt b).toInt
def Zshl (a b : Int) : Int := (Int32.ofInt a <<< (Int32.ofInt b &&& 31)).toInt
def Zshr (a b : Int) : Int := (Int32.ofInt a >>> (Int32.ofInt b &&& 31)).toInt
def Zdiv (a b : Int) : Int := (Int32.ofInt a / Int32.ofInt b).toInt
def Zrem (a b : Int) : Int := (Int32.ofInt a - Int32.ofInt a / Int32.ofInt b * Int32.ofInt b).toInt
def Zi2b (a : Int) : Int := (Int32.ofInt a).toInt8.toInt32.toInt
def Zladd (a b : Int) : Int := (Int64.ofInt a + Int64.ofInt b).toInt
def Zlmul (a b : Int) : Int := (Int64.ofInt a * Int64.ofInt b).toInt
def Zldiv (a b : Int) : Int := (Int64.ofInt a / Int64.ofInt b).toInt
def Zlcmp (a b : Int) : Int := if b < a then 1 else if a = b then 0 else -1
def Zbnar (v : Int) : Int := (vp_nar .byte (Int32.ofInt v)).toInt
def Zznar (v : Int) : Int := (vp_nar .boolean (Int32.ofInt v)).toInt
def binM (k : Nat) (a b : Int) : Option Int := match k with
  | 0 => some (Zadd a b)
  | 1 => some (Zsub a b)
  | 2 => some (Zmul a b)
  | 3 => some (Zand a b)
  | 4 => some (Zor a b)
  | 5 => some (Zshl a b)
  | 6 => some (Zshr a b)
  | 7 => if b = 0 then none else some (Zdiv a b)
  | 8 => if b = 0 then none else some (Zrem a b)
  | _ => none
def lbinM (k : Nat) (a b : Int) : Option Int := match k with
  | 0 => some (Zladd a b)
  | 1 => some (Zlmul a b)
  | 2 => if b = 0 then none else some (Zldiv a b)
  | _ => none
def cmpM (k : Nat) (a b : Int) : Bool := match k with
  | 0 => decide (a = b)
  | 1 => decide (¬ a = b)
  | 2 => decide (a < b)
  | 3 => decide (b ≤ a)
  | 4 => decide (b < a)
  | _ => decide (a ≤ b)
/-- a local's kind: 0 int, 1 reference, 2 long, 9 none -/
def kdM (t : Nat) : Nat := if t = 0 then 0 else if t = 2 then 2 else if t = 9 then 9 else 1
def catM (x : AV) : Nat := if x.1 = 2 then 2 else 1
/-- no long in the place ahead -/
def noLM (L : List AV) (a : Nat) : Bool := match a with
  | 0 => true
  | a + 1 => match L[a]? with
    | some x => decide (¬ x.1 = 2)
    | none => true
def stoM (L : List AV) (a : Nat) (x : AV) : List AV := if x.1 = 2 then (L.set a x).set (a + 1) (9, 0) else L.set a x
/-- shapes: the kind of each cell, the length of arrays; fields' kinds of a class; String constants -/
abbrev ShM : Type := (Nat → Nat) × (Int → Int) × (Nat → Nat → Nat) × (Int → Int) × (Int → Int → Int)
def dfl (c : Nat) (ft : Nat → Nat → Nat) : Int → Int := fun j => if 10 ≤ ft c j.toNat then -1 else 0
def stpM (S : ShM) (op nx a b : Nat) (v : Int) (ts : List (Int × Nat)) (L st : List AV) (σ : Mem) (n : Nat) : Option Cfg :=
  match op with
  | 0 => some (nx, L, (0, v) :: st, σ, n)
  | 1 => some (nx, L, (2, v) :: st, σ, n)
  | 2 => some (nx, L, (b, -1) :: st, σ, n)
  | 3 => match L[a]? with
    | some x => if kdM x.1 = b then some (nx, L, x :: st, σ, n) else none
    | none => none
  | 4 => match st with
    | x :: st => if kdM x.1 = b ∧ a + b < L.length + 1 ∧ (v = 0 ∨ noLM L a = true) then some (nx, stoM L a x, st, σ, n) else none
    | [] => none
  | 5 => match L[a]? with
    | some x => if x.1 = 0 ∧ (b = 0 ∨ noLM L a = true) then some (nx, L.set a (0, Zadd x.2 v), st, σ, n) else none
    | none => none
  | 6 => match st with
    | (0, y) :: (0, x) :: st => match binM b x y with
      | some z => some (nx, L, (0, z) :: st, σ, n)
      | none => none
    | _ => none
  | 7 => match st with
    | (2, y) :: (2, x) :: st => match lbinM b x y with
      | some z => some (nx, L, (2, z) :: st, σ, n)
      | none => none
    | _ => none
  | 8 => match st with
    | (0, x) :: st => some (nx, L, (2, x) :: st, σ, n)
    | _ => none
  | 9 => match st with
    | (0, x) :: st => some (nx, L, (0, Zi2b x) :: st, σ, n)
    | _ => none
  | 10 => match st with
    | (2, y) :: (2, x) :: st => some (nx, L, (0, Zlcmp x y) :: st, σ, n)
    | _ => none
  | 11 => match st with
    | x :: st => if x.1 = 2 then none else some (nx, L, x :: x :: st, σ, n)
    | _ => none
  | 12 => match st with
    | x :: y :: st => if x.1 = 2 ∨ y.1 = 2 then none else some (nx, L, x :: y :: x :: y :: st, σ, n)
    | _ => none
  | 13 => match st with
    | (0, x) :: st => some (if cmpM b x 0 = true then a else nx, L, st, σ, n)
    | _ => none
  | 14 => match st with
    | (0, y) :: (0, x) :: st => some (if cmpM b x y = true then a else nx, L, st, σ, n)
    | _ => none
  | 15 => match st with
    | x :: st => if 10 ≤ x.1 then some (if x.2 < 0 then a else nx, L, st, σ, n) else none
    | _ => none
  | 16 => match st with
    | x :: st => if 10 ≤ x.1 then some (if x.2 < 0 then nx else a, L, st, σ, n) else none
    | _ => none
  | 17 => match st with
    | y :: x :: st => if 10 ≤ x.1 ∧ 10 ≤ y.1 then some (if x.2 = y.2 then a else nx, L, st, σ, n) else none
    | _ => none
  | 18 => some (a, L, st, σ, n)
  | 19 => match st with
    | (0, x) :: st => some ((ts.lookup x).getD a, L, st, σ, n)
    | _ => none
  | 21 => match st with
    | (t, k) :: st => if t = 10 + a ∧ 0 ≤ k then some (nx, L, (if S.2.2.1 a b = 7 then 0 else S.2.2.1 a b, σ k b) :: st, σ, n) else none
    | _ => none
  | 22 => match st with
    | (t', x) :: (t, k) :: st => if t = 10 + a ∧ 0 ≤ k ∧ t' = S.2.2.1 a b then some (nx, L, st, wrM σ k b x, n) else none
    | _ => none
  | 23 => match st with
    | (0, x) :: (t, k) :: st => if t = 10 + a ∧ 0 ≤ k ∧ (x = 0 ∨ x = 1) then some (nx, L, st, wrM σ k b x, n) else none
    | _ => none
  | 24 => match st with
    | (0, i) :: (t, k) :: st => if t = a ∧ 0 ≤ k ∧ 0 ≤ i ∧ i < S.2.1 k then some (nx, L, (b, σ k i) :: st, σ, n) else none
    | _ => none
  | 28 => match st with
    | (0, x) :: (0, i) :: (50, k) :: st => if 0 ≤ k ∧ 0 ≤ i ∧ i < S.2.1 k then some (nx, L, st, wrM σ k i x, n) else none
    | _ => none
  | 29 => match st with
    | (0, x) :: (0, i) :: (51, k) :: st => if 0 ≤ k ∧ 0 ≤ i ∧ i < S.2.1 k then some (nx, L, st, wrM σ k i (Zbnar x), n) else none
    | _ => none
  | 30 => match st with
    | (0, x) :: (0, i) :: (52, k) :: st => if 0 ≤ k ∧ 0 ≤ i ∧ i < S.2.1 k then some (nx, L, st, wrM σ k i (Zznar x), n) else none
    | _ => none
  | 31 => match st with
    | (t', x) :: (0, i) :: (t, k) :: st => if t = a ∧ t' = b ∧ 0 ≤ x ∧ 0 ≤ k ∧ 0 ≤ i ∧ i < S.2.1 k then some (nx, L, st, wrM σ k i x, n) else none
    | _ => none
  | 32 => match st with
    | (50, k) :: st => if 0 ≤ k then some (nx, L, (0, S.2.1 k) :: st, σ, n) else none
    | _ => none
  | 33 => if S.1 n = 10 + a then some (nx, L, (10 + a, (n : Int)) :: st, mkM σ n (dfl a S.2.2.1), n + 1) else none
  | 34 => match st with
    | (0, x) :: st => if S.1 n = a ∧ S.2.1 n = x ∧ 0 ≤ x ∧ x ≤ 1000 then some (nx, L, (a, (n : Int)) :: st, mkM σ n (fun _ => 0), n + 1) else none
    | _ => none
  | 35 => match st with
    | (0, x) :: st => if S.1 n = a ∧ S.2.1 n = x ∧ 0 ≤ x ∧ x ≤ 1000 then some (nx, L, (a, (n : Int)) :: st, mkM σ n (fun _ => -1), n + 1) else none
    | _ => none
  | 37 => match st with
    | (t, k) :: st => if 10 ≤ t ∧ 0 ≤ k ∧ (st.map catM).sum ≤ 8 then some (nx, L, st, σ, n) else none
    | _ => none
  | 43 => some (nx, L, (3, v) :: st, σ, n)
  | 44 => match st with
    | (3, k) :: st => if (st.map catM).sum ≤ 8 then some (nx, L, (0, S.2.2.2.1 k) :: st, σ, n) else none
    | _ => none
  | 45 => match st with
    | (0, i) :: (3, k) :: st => if 0 ≤ i ∧ i < S.2.2.2.1 k ∧ (st.map catM).sum ≤ 8 then some (nx, L, (0, S.2.2.2.2 k i) :: st, σ, n) else none
    | _ => none
  | 46 => match st with
    | (0, c) :: (0, dp) :: (50, k2) :: (0, sp) :: (50, k1) :: st => if 0 ≤ k1 ∧ 0 ≤ k2 ∧ ¬ k1 = k2 ∧ 0 ≤ c ∧ 0 ≤ sp ∧ 0 ≤ dp ∧ sp + c ≤ S.2.1 k1 ∧ dp + c ≤ S.2.1 k2 ∧ (st.map catM).sum ≤ 8 then some (nx, L, st, cpM σ k1 sp k2 dp c, n) else none
    | _ => none
  | 47 => match st with
    | (0, i) :: (5, _) :: st => if 0 ≤ i ∧ i < σ (-2) (-1) then some (nx, L, (0, σ (-2) i) :: st, σ, n) else none
    | _ => none
  | 48 => match st with
    | (5, _) :: st => some (nx, L, (0, σ (-2) (-1)) :: st, σ, n)
    | _ => none
  | 49 => match st with
    | (0, y) :: (0, x) :: st => if (st.map catM).sum ≤ 8 then some (nx, L, (0, if b = 0 then (if x < y then y else x) else (if y < x then y else x)) :: st, σ, n) else none
    | _ => none
  | _ => none
/-- a return: the answer -/
def retM (op : Nat) (st : List AV) : Option (Option AV) := match op with
  | 38 => match st with
    | [] => some none
    | _ => none
  | 39 => match st with
    | [(0, x)] => some (some (0, x))
    | _ => none
  | 40 => match st with
    | [(0, x)] => if x = 0 ∨ x = 1 then some (some (0, x)) else none
    | _ => none
  | 41 => match st with
    | [(2, x)] => some (some (2, x))
    | _ => none
  | 42 => match st with
    | [(t, x)] => if 10 ≤ t ∨ t = 3 then some (some (t, x)) else none
    | _ => none
  | _ => none
/-- the locals at a method's entry -/
def entM (nL : Nat) (as : List AV) : List AV := as ++ List.replicate (nL - as.length) (9, 0)
/-- a call's arguments are as its callee wants them: kind 0 static, 1 on an object of class c, 2 a constructor of it -/
def argM (kd c nL : Nat) (as : List AV) : Bool := (match kd with
  | 0 => true
  | _ => match as with
    | (t, k) :: _ => decide (t = 10 + c ∧ 0 ≤ k)
    | [] => false) && decide (as.length ≤ nL) && as.all (fun x => decide (¬ x.1 = 2) && decide (¬ x.1 = 9))
/-- methods: their locals, their class, their instructions -/
abbrev MtM : Type := (Nat → Nat) × (Nat → Nat) × (Nat → Nat → Ins)
def runM (S : ShM) (M : MtM) : Nat → Nat → Nat → Nat → List AV → List AV → Mem → Nat → Option Out
  | 0, _, _, _, _, _, _, _ => none
  | f + 1, d, m, pc, L, st, σ, n =>
    match M.2.2 m pc with
    | (op, nx, a, b, v, ts) =>
      if op = 36 then
        if b ≤ st.length ∧ ((st.drop b).map catM).sum ≤ 8 ∧ argM v.toNat (M.2.1 a) (M.1 a) (st.take b).reverse = true then
          match d with
          | 0 => none
          | d + 1 => match runM S M f d a 0 (entM (M.1 a) (st.take b).reverse) [] σ n with
            | none => none
            | some (r, σ1, n1) => runM S M f (d + 1) m nx L (r.toList ++ st.drop b) σ1 n1
        else none
      else match retM op st with
        | some r => some (r, σ, n)
        | none => match stpM S op nx a b v ts L st σ n with
          | none => none
          | some (pc', L', st', σ', n') => runM S M f d m pc' L' st' σ' n'
end
section
/-! printed by gen.py out of the claim: the instructions of each method, for the small machine -/
/-- HearingDesk$DaySheet.<init>()V -/
def k0 : List (Nat × Ins) := [(0, (3, 1, 0, 1, 1, [])), (1, (37, 4, 0, 0, 3, [])), (4, (3, 5, 0, 1, 1, [])), (5, (0, 6, 0, 0, 4, [])), (6, (35, 9, 53, 0, 9, [])), (9, (22, 12, 0, 0, 11, [])), (12, (3, 13, 0, 1, 1, [])), (13, (0, 14, 0, 0, 4, [])), (14, (34, 16, 50, 0, 0, [])), (16, (22, 19, 0, 1, 17, [])), (19, (38, 20, 0, 0, 0, []))]
/-- HearingDesk$DaySheet.gather(LHearingDesk$Docket;I)V -/
def k1 : List (Nat × Ins) := [(0, (3, 1, 0, 1, 1, [])), (1, (0, 2, 0, 0, 0, [])), (2, (22, 5, 0, 2, 21, [])), (5, (0, 6, 0, 0, 0, [])), (6, (4, 7, 3, 0, 0, [(1, 0)])), (7, (3, 8, 3, 0, 1, [])), (8, (3, 9, 1, 1, 1, [])), (9, (21, 12, 1, 1, 25, [])), (12, (14, 15, 88, 3, 0, [])), (15, (3, 16, 1, 1, 1, [])), (16, (3, 17, 3, 0, 1, [])), (17, (36, 20, 11, 2, 1, [(28, 0)])), (20, (4, 22, 4, 1, 0, [(0, 0)])), (22, (3, 24, 4, 1, 0, [])), (24, (15, 27, 82, 0, 0, [])), (27, (3, 29, 4, 1, 0, [])), (29, (21, 32, 3, 5, 32, [])), (32, (3, 33, 2, 0, 1, [])), (33, (14, 36, 82, 1, 0, [])), (36, (3, 38, 4, 1, 0, [])), (38, (21, 41, 3, 7, 35, [])), (41, (13, 44, 82, 1, 0, [])), (44, (3, 45, 0, 1, 1, [])), (45, (21, 48, 0, 2, 21, [])), (48, (0, 49, 0, 0, 4, [])), (49, (14, 52, 82, 3, 0, [])), (52, (3, 53, 0, 1, 1, [])), (53, (21, 56, 0, 0, 11, [])), (56, (3, 57, 0, 1, 1, [])), (57, (21, 60, 0, 2, 21, [])), (60, (3, 62, 4, 1, 0, [])), (62, (31, 63, 53, 13, 0, [])), (63, (3, 64, 0, 1, 1, [])), (64, (3, 66, 4, 1, 0, [])), (66, (21, 69, 3, 6, 39, [])), (69, (36, 72, 2, 2, 1, [(42, 0)])), (72, (3, 73, 0, 1, 1, [])), (73, (11, 74, 0, 0, 0, [])), (74, (21, 77, 0, 2, 21, [])), (77, (0, 78, 0, 0, 1, [])), (78, (6, 79, 0, 0, 0, [])), (79, (22, 82, 0, 2, 21, [])), (82, (5, 85, 3, 0, 1, [])), (85, (18, 0, 7, 0, 0, [])), (88, (38, 89, 0, 0, 0, []))]
/-- HearingDesk$DaySheet.placeByBegin(I)V -/
def k2 : List (Nat × Ins) := [(0, (3, 1, 0, 1, 1, [])), (1, (21, 4, 0, 2, 21, [])), (4, (4, 5, 2, 0, 0, [(1, 0)])), (5, (3, 6, 0, 1, 1, [])), (6, (21, 9, 0, 2, 21, [])), (9, (0, 10, 0, 0, 1, [])), (10, (6, 11, 0, 1, 0, [])), (11, (4, 12, 3, 0, 0, [(1, 0)])), (12, (3, 13, 3, 0, 1, [])), (13, (13, 16, 67, 2, 0, [])), (16, (3, 17, 0, 1, 1, [])), (17, (3, 18, 0, 1, 1, [])), (18, (21, 21, 0, 1, 17, [])), (21, (3, 22, 3, 0, 1, [])), (22, (24, 23, 50, 0, 0, [])), (23, (36, 26, 3, 2, 1, [(46, 0)])), (26, (4, 28, 4, 1, 0, [(0, 0)])), (28, (3, 30, 4, 1, 0, [])), (30, (15, 33, 67, 0, 0, [])), (33, (3, 35, 4, 1, 0, [])), (35, (21, 38, 3, 6, 39, [])), (38, (3, 39, 1, 0, 1, [])), (39, (14, 42, 45, 4, 0, [])), (42, (18, 0, 67, 0, 0, [])), (45, (3, 46, 0, 1, 1, [])), (46, (21, 49, 0, 1, 17, [])), (49, (3, 50, 3, 0, 1, [])), (50, (0, 51, 0, 0, 1, [])), (51, (6, 52, 0, 0, 0, [])), (52, (3, 53, 0, 1, 1, [])), (53, (21, 56, 0, 1, 17, [])), (56, (3, 57, 3, 0, 1, [])), (57, (24, 58, 50, 0, 0, [])), (58, (28, 59, 0, 0, 0, [])), (59, (3, 60, 3, 0, 1, [])), (60, (4, 61, 2, 0, 0, [(1, 0)])), (61, (5, 64, 3, 0, (-1), [])), (64, (18, 0, 12, 0, 0, [])), (67, (3, 68, 0, 1, 1, [])), (68, (21, 71, 0, 1, 17, [])), (71, (3, 72, 2, 0, 1, [])), (72, (3, 73, 0, 1, 1, [])), (73, (21, 76, 0, 2, 21, [])), (76, (28, 77, 0, 0, 0, [])), (77, (38, 78, 0, 0, 0, []))]
/-- HearingDesk$DaySheet.get(I)LHearingDesk$Hearing; -/
def k3 : List (Nat × Ins) := [(0, (3, 1, 1, 0, 1, [])), (1, (13, 4, 26, 2, 0, [])), (4, (3, 5, 1, 0, 1, [])), (5, (3, 6, 0, 1, 1, [])), (6, (21, 9, 0, 2, 21, [])), (9, (14, 12, 26, 3, 0, [])), (12, (3, 13, 1, 0, 1, [])), (13, (0, 14, 0, 0, 4, [])), (14, (14, 17, 26, 3, 0, [])), (17, (3, 18, 0, 1, 1, [])), (18, (21, 21, 0, 0, 11, [])), (21, (3, 22, 1, 0, 1, [])), (22, (24, 23, 53, 13, 0, [])), (23, (18, 0, 27, 0, 0, [])), (26, (2, 27, 0, 13, 0, [])), (27, (42, 28, 0, 0, 0, []))]
/-- HearingDesk$DaySheet.seatedSet(I)I -/
def k4 : List (Nat × Ins) := [(0, (0, 1, 0, 0, 0, [])), (1, (4, 2, 2, 0, 0, [(1, 0)])), (2, (0, 3, 0, 0, 0, [])), (3, (4, 4, 3, 0, 0, [(1, 0)])), (4, (3, 5, 3, 0, 1, [])), (5, (3, 6, 0, 1, 1, [])), (6, (21, 9, 0, 2, 21, [])), (9, (14, 12, 45, 3, 0, [])), (12, (3, 13, 0, 1, 1, [])), (13, (3, 14, 3, 0, 1, [])), (14, (36, 17, 3, 2, 1, [(46, 0)])), (17, (4, 19, 4, 1, 0, [(0, 0)])), (19, (3, 21, 4, 1, 0, [])), (21, (15, 24, 39, 0, 0, [])), (24, (3, 26, 4, 1, 0, [])), (26, (3, 27, 1, 0, 1, [])), (27, (36, 30, 20, 2, 1, [(47, 0)])), (30, (13, 33, 39, 0, 0, [])), (33, (3, 34, 2, 0, 1, [])), (34, (0, 35, 0, 0, 1, [])), (35, (3, 36, 3, 0, 1, [])), (36, (6, 37, 0, 5, 0, [])), (37, (6, 38, 0, 4, 0, [])), (38, (4, 39, 2, 0, 0, [(1, 0)])), (39, (5, 42, 3, 0, 1, [])), (42, (18, 0, 4, 0, 0, [])), (45, (3, 46, 2, 0, 1, [])), (46, (39, 47, 0, 0, 0, []))]
/-- HearingDesk$DaySheet.holds(ILHearingDesk$Travel;)Z -/
def k5 : List (Nat × Ins) := [(0, (2, 1, 0, 13, 0, [])), (1, (4, 2, 3, 1, 0, [(1, 0)])), (2, (0, 3, 0, 0, 0, [])), (3, (4, 5, 4, 0, 0, [(0, 0)])), (5, (3, 7, 4, 0, 0, [])), (7, (3, 8, 0, 1, 1, [])), (8, (21, 11, 0, 2, 21, [])), (11, (14, 14, 59, 3, 0, [])), (14, (3, 16, 4, 0, 0, [])), (16, (0, 17, 0, 0, 4, [])), (17, (14, 20, 59, 3, 0, [])), (20, (3, 21, 0, 1, 1, [])), (21, (3, 23, 4, 0, 0, [])), (23, (3, 24, 1, 0, 1, [])), (24, (36, 27, 7, 3, 1, [(51, 0)])), (27, (4, 29, 5, 1, 0, [(0, 0)])), (29, (3, 31, 5, 1, 0, [])), (31, (15, 34, 53, 0, 0, [])), (34, (3, 35, 3, 1, 1, [])), (35, (15, 38, 50, 0, 0, [])), (38, (3, 39, 2, 1, 1, [])), (39, (3, 40, 3, 1, 1, [])), (40, (3, 42, 5, 1, 0, [])), (42, (36, 45, 84, 3, 1, [(55, 0)])), (45, (13, 48, 50, 1, 0, [])), (48, (0, 49, 0, 0, 0, [])), (49, (40, 50, 0, 0, 0, [])), (50, (3, 52, 5, 1, 0, [])), (52, (4, 53, 3, 1, 0, [(1, 0)])), (53, (5, 56, 4, 0, 1, [])), (56, (18, 0, 5, 0, 0, [])), (59, (0, 60, 0, 0, 1, [])), (60, (40, 61, 0, 0, 0, []))]
/-- HearingDesk$DaySheet.tripOf(IILHearingDesk$Travel;)I -/
def k6 : List (Nat × Ins) := [(0, (3, 1, 1, 0, 1, [])), (1, (4, 3, 4, 0, 0, [(0, 0)])), (3, (0, 4, 0, 0, 0, [])), (4, (4, 6, 5, 0, 0, [(0, 0)])), (6, (0, 7, 0, 0, 0, [])), (7, (4, 9, 6, 0, 0, [(0, 0)])), (9, (3, 11, 6, 0, 0, [])), (11, (3, 12, 0, 1, 1, [])), (12, (21, 15, 0, 2, 21, [])), (15, (14, 18, 67, 3, 0, [])), (18, (3, 20, 6, 0, 0, [])), (20, (0, 21, 0, 0, 4, [])), (21, (14, 24, 67, 3, 0, [])), (24, (3, 25, 0, 1, 1, [])), (25, (3, 27, 6, 0, 0, [])), (27, (3, 28, 2, 0, 1, [])), (28, (36, 31, 7, 3, 1, [(51, 0)])), (31, (4, 33, 7, 1, 0, [(0, 0)])), (33, (3, 35, 7, 1, 0, [])), (35, (15, 38, 61, 0, 0, [])), (38, (3, 40, 5, 0, 0, [])), (40, (3, 41, 3, 1, 1, [])), (41, (3, 43, 4, 0, 0, [])), (43, (3, 45, 7, 1, 0, [])), (45, (21, 48, 3, 2, 61, [])), (48, (36, 51, 82, 3, 1, [(64, 0)])), (51, (6, 52, 0, 0, 0, [])), (52, (4, 54, 5, 0, 0, [(0, 0)])), (54, (3, 56, 7, 1, 0, [])), (56, (21, 59, 3, 2, 61, [])), (59, (4, 61, 4, 0, 0, [(0, 0)])), (61, (5, 64, 6, 0, 1, [])), (64, (18, 0, 9, 0, 0, [])), (67, (3, 69, 5, 0, 0, [])), (69, (3, 70, 3, 1, 1, [])), (70, (3, 72, 4, 0, 0, [])), (72, (3, 73, 1, 0, 1, [])), (73, (36, 76, 82, 3, 1, [(64, 0)])), (76, (6, 77, 0, 0, 0, [])), (77, (39, 78, 0, 0, 0, []))]
/-- HearingDesk$DaySheet.memberAt(II)LHearingDesk$Hearing; -/
def k7 : List (Nat × Ins) := [(0, (3, 1, 0, 1, 1, [])), (1, (21, 4, 0, 1, 17, [])), (4, (3, 5, 1, 0, 1, [])), (5, (24, 6, 50, 0, 0, [])), (6, (4, 7, 3, 0, 0, [(1, 0)])), (7, (3, 8, 2, 0, 1, [])), (8, (3, 9, 3, 0, 1, [])), (9, (6, 10, 0, 6, 0, [])), (10, (0, 11, 0, 0, 1, [])), (11, (6, 12, 0, 3, 0, [])), (12, (0, 13, 0, 0, 1, [])), (13, (14, 16, 24, 1, 0, [])), (16, (3, 17, 0, 1, 1, [])), (17, (3, 18, 3, 0, 1, [])), (18, (36, 21, 3, 2, 1, [(46, 0)])), (21, (18, 0, 25, 0, 0, [])), (24, (2, 25, 0, 13, 0, [])), (25, (42, 26, 0, 0, 0, []))]
/-- HearingDesk$Docket.<init>()V -/
def k8 : List (Nat × Ins) := [(0, (3, 1, 0, 1, 1, [])), (1, (37, 4, 0, 0, 3, [])), (4, (3, 5, 0, 1, 1, [])), (5, (0, 7, 0, 1, 24, [])), (7, (35, 10, 53, 0, 9, [])), (10, (22, 13, 1, 0, 11, [])), (13, (38, 14, 0, 0, 0, []))]
/-- HearingDesk$Docket.isFull()Z -/
def k9 : List (Nat × Ins) := [(0, (3, 1, 0, 1, 1, [])), (1, (21, 4, 1, 1, 17, [])), (4, (0, 6, 0, 1, 24, [])), (6, (14, 9, 13, 2, 0, [])), (9, (0, 10, 0, 0, 1, [])), (10, (18, 0, 14, 0, 0, [])), (13, (0, 14, 0, 0, 0, [])), (14, (40, 15, 0, 0, 0, []))]
/-- HearingDesk$Docket.add(LHearingDesk$Hearing;)I -/
def k10 : List (Nat × Ins) := [(0, (3, 1, 0, 1, 1, [])), (1, (36, 4, 9, 1, 1, [(21, 0)])), (4, (13, 7, 9, 0, 0, [])), (7, (0, 8, 0, 0, (-1), [])), (8, (39, 9, 0, 0, 0, [])), (9, (3, 10, 0, 1, 1, [])), (10, (21, 13, 1, 0, 11, [])), (13, (3, 14, 0, 1, 1, [])), (14, (21, 17, 1, 1, 17, [])), (17, (3, 18, 1, 1, 1, [])), (18, (31, 19, 53, 13, 0, [])), (19, (3, 20, 0, 1, 1, [])), (20, (11, 21, 0, 0, 0, [])), (21, (21, 24, 1, 1, 17, [])), (24, (0, 25, 0, 0, 1, [])), (25, (6, 26, 0, 0, 0, [])), (26, (22, 29, 1, 1, 17, [])), (29, (3, 30, 0, 1, 1, [])), (30, (21, 33, 1, 1, 17, [])), (33, (0, 34, 0, 0, 1, [])), (34, (6, 35, 0, 1, 0, [])), (35, (39, 36, 0, 0, 0, []))]
/-- HearingDesk$Docket.get(I)LHearingDesk$Hearing; -/
def k11 : List (Nat × Ins) := [(0, (3, 1, 1, 0, 1, [])), (1, (13, 4, 27, 2, 0, [])), (4, (3, 5, 1, 0, 1, [])), (5, (3, 6, 0, 1, 1, [])), (6, (21, 9, 1, 1, 17, [])), (9, (14, 12, 27, 3, 0, [])), (12, (3, 13, 1, 0, 1, [])), (13, (0, 15, 0, 1, 24, [])), (15, (14, 18, 27, 3, 0, [])), (18, (3, 19, 0, 1, 1, [])), (19, (21, 22, 1, 0, 11, [])), (22, (3, 23, 1, 0, 1, [])), (23, (24, 24, 53, 13, 0, [])), (24, (18, 0, 28, 0, 0, [])), (27, (2, 28, 0, 13, 0, [])), (28, (42, 29, 0, 0, 0, []))]
/-- HearingDesk$Docket.liveOn(ILHearingDesk$Hearing;)I -/
def k12 : List (Nat × Ins) := [(0, (0, 1, 0, 0, 0, [])), (1, (4, 2, 3, 0, 0, [(1, 0)])), (2, (0, 3, 0, 0, 0, [])), (3, (4, 5, 4, 0, 0, [(0, 0)])), (5, (3, 7, 4, 0, 0, [])), (7, (3, 8, 0, 1, 1, [])), (8, (21, 11, 1, 1, 17, [])), (11, (14, 14, 59, 3, 0, [])), (14, (3, 15, 0, 1, 1, [])), (15, (3, 17, 4, 0, 0, [])), (17, (36, 20, 11, 2, 1, [(25, 0)])), (20, (4, 22, 5, 1, 0, [(0, 0)])), (22, (3, 24, 5, 1, 0, [])), (24, (15, 27, 53, 0, 0, [])), (27, (3, 29, 5, 1, 0, [])), (29, (3, 30, 2, 1, 1, [])), (30, (17, 33, 53, 0, 0, [])), (33, (3, 35, 5, 1, 0, [])), (35, (21, 38, 3, 5, 29, [])), (38, (3, 39, 1, 0, 1, [])), (39, (14, 42, 53, 1, 0, [])), (42, (3, 44, 5, 1, 0, [])), (44, (21, 47, 3, 7, 32, [])), (47, (13, 50, 53, 1, 0, [])), (50, (5, 53, 3, 0, 1, [])), (53, (5, 56, 4, 0, 1, [])), (56, (18, 0, 5, 0, 0, [])), (59, (3, 60, 3, 0, 1, [])), (60, (39, 61, 0, 0, 0, []))]
/-- HearingDesk$Docket.cancelledSize()I -/
def k13 : List (Nat × Ins) := [(0, (0, 1, 0, 0, 0, [])), (1, (4, 2, 1, 0, 0, [(1, 0)])), (2, (0, 3, 0, 0, 0, [])), (3, (4, 4, 2, 0, 0, [(1, 0)])), (4, (3, 5, 2, 0, 1, [])), (5, (3, 6, 0, 1, 1, [])), (6, (21, 9, 1, 1, 17, [])), (9, (14, 12, 38, 3, 0, [])), (12, (3, 13, 0, 1, 1, [])), (13, (3, 14, 2, 0, 1, [])), (14, (36, 17, 11, 2, 1, [(25, 0)])), (17, (4, 18, 3, 1, 0, [(1, 0)])), (18, (3, 19, 3, 1, 1, [])), (19, (15, 22, 32, 0, 0, [])), (22, (3, 23, 3, 1, 1, [])), (23, (21, 26, 3, 7, 32, [])), (26, (13, 29, 32, 0, 0, [])), (29, (5, 32, 1, 0, 1, [])), (32, (5, 35, 2, 0, 1, [])), (35, (18, 0, 4, 0, 0, [])), (38, (3, 39, 1, 0, 1, [])), (39, (39, 40, 0, 0, 0, []))]
/-- HearingDesk$FeeText.<init>()V -/
def k14 : List (Nat × Ins) := [(0, (3, 1, 0, 1, 1, [])), (1, (37, 4, 0, 0, 3, [])), (4, (3, 5, 0, 1, 1, [])), (5, (0, 7, 0, 1, 60, [])), (7, (34, 9, 50, 0, 0, [])), (9, (22, 12, 2, 0, 9, [])), (12, (3, 13, 0, 1, 1, [])), (13, (0, 15, 0, 1, 60, [])), (15, (34, 17, 50, 0, 0, [])), (17, (22, 20, 2, 1, 15, [])), (20, (3, 21, 0, 1, 1, [])), (21, (0, 23, 0, 1, 60, [])), (23, (34, 25, 50, 0, 0, [])), (25, (22, 28, 2, 2, 18, [])), (28, (3, 29, 0, 1, 1, [])), (29, (0, 31, 0, 1, 60, [])), (31, (34, 33, 50, 0, 0, [])), (33, (22, 36, 2, 3, 21, [])), (36, (38, 37, 0, 0, 0, []))]
/-- HearingDesk$FeeText.add(IIII)V -/
def k15 : List (Nat × Ins) := [(0, (3, 1, 0, 1, 1, [])), (1, (21, 4, 2, 4, 24, [])), (4, (0, 6, 0, 1, 60, [])), (6, (14, 9, 60, 3, 0, [])), (9, (3, 10, 0, 1, 1, [])), (10, (21, 13, 2, 0, 9, [])), (13, (3, 14, 0, 1, 1, [])), (14, (21, 17, 2, 4, 24, [])), (17, (3, 18, 1, 0, 1, [])), (18, (28, 19, 0, 0, 0, [])), (19, (3, 20, 0, 1, 1, [])), (20, (21, 23, 2, 1, 15, [])), (23, (3, 24, 0, 1, 1, [])), (24, (21, 27, 2, 4, 24, [])), (27, (3, 28, 2, 0, 1, [])), (28, (28, 29, 0, 0, 0, [])), (29, (3, 30, 0, 1, 1, [])), (30, (21, 33, 2, 2, 18, [])), (33, (3, 34, 0, 1, 1, [])), (34, (21, 37, 2, 4, 24, [])), (37, (3, 38, 3, 0, 1, [])), (38, (28, 39, 0, 0, 0, [])), (39, (3, 40, 0, 1, 1, [])), (40, (21, 43, 2, 3, 21, [])), (43, (3, 44, 0, 1, 1, [])), (44, (21, 47, 2, 4, 24, [])), (47, (3, 49, 4, 0, 0, [])), (49, (28, 50, 0, 0, 0, [])), (50, (3, 51, 0, 1, 1, [])), (51, (11, 52, 0, 0, 0, [])), (52, (21, 55, 2, 4, 24, [])), (55, (0, 56, 0, 0, 1, [])), (56, (6, 57, 0, 0, 0, [])), (57, (22, 60, 2, 4, 24, [])), (60, (38, 61, 0, 0, 0, []))]
/-- HearingDesk$FeeText.told(II)I -/
def k16 : List (Nat × Ins) := [(0, (3, 1, 2, 0, 1, [])), (1, (0, 2, 0, 0, 5, [])), (2, (14, 5, 9, 1, 0, [])), (5, (0, 6, 0, 0, 4, [])), (6, (18, 0, 10, 0, 0, [])), (9, (3, 10, 2, 0, 1, [])), (10, (4, 11, 3, 0, 0, [(1, 0)])), (11, (0, 12, 0, 0, (-1), [])), (12, (4, 14, 4, 0, 0, [(0, 0)])), (14, (0, 15, 0, 0, 0, [])), (15, (4, 17, 5, 0, 0, [(0, 0)])), (17, (3, 19, 5, 0, 0, [])), (19, (3, 20, 0, 1, 1, [])), (20, (21, 23, 2, 4, 24, [])), (23, (14, 26, 88, 3, 0, [])), (26, (3, 28, 5, 0, 0, [])), (28, (0, 30, 0, 1, 60, [])), (30, (14, 33, 88, 3, 0, [])), (33, (3, 34, 0, 1, 1, [])), (34, (21, 37, 2, 1, 15, [])), (37, (3, 39, 5, 0, 0, [])), (39, (24, 40, 50, 0, 0, [])), (40, (3, 41, 3, 0, 1, [])), (41, (14, 44, 82, 1, 0, [])), (44, (3, 45, 0, 1, 1, [])), (45, (21, 48, 2, 0, 9, [])), (48, (3, 50, 5, 0, 0, [])), (50, (24, 51, 50, 0, 0, [])), (51, (3, 52, 1, 0, 1, [])), (52, (14, 55, 82, 4, 0, [])), (55, (3, 57, 4, 0, 0, [])), (57, (0, 58, 0, 0, (-1), [])), (58, (14, 61, 78, 0, 0, [])), (61, (3, 62, 0, 1, 1, [])), (62, (21, 65, 2, 0, 9, [])), (65, (3, 67, 5, 0, 0, [])), (67, (24, 68, 50, 0, 0, [])), (68, (3, 69, 0, 1, 1, [])), (69, (21, 72, 2, 0, 9, [])), (72, (3, 74, 4, 0, 0, [])), (74, (24, 75, 50, 0, 0, [])), (75, (14, 78, 82, 2, 0, [])), (78, (3, 80, 5, 0, 0, [])), (80, (4, 82, 4, 0, 0, [(0, 0)])), (82, (5, 85, 5, 0, 1, [])), (85, (18, 0, 17, 0, 0, [])), (88, (3, 90, 4, 0, 0, [])), (90, (0, 91, 0, 0, (-1), [])), (91, (14, 94, 111, 1, 0, [])), (94, (3, 95, 3, 0, 1, [])), (95, (0, 96, 0, 0, 2, [])), (96, (14, 99, 104, 0, 0, [])), (99, (3, 100, 3, 0, 1, [])), (100, (0, 101, 0, 0, 3, [])), (101, (14, 104, 109, 1, 0, [])), (104, (0, 106, 0, 1, 100, [])), (106, (18, 0, 110, 0, 0, [])), (109, (0, 110, 0, 0, 0, [])), (110, (39, 111, 0, 0, 0, [])), (111, (3, 112, 2, 0, 1, [])), (112, (0, 113, 0, 0, 5, [])), (113, (14, 116, 126, 1, 0, [])), (116, (3, 117, 0, 1, 1, [])), (117, (21, 120, 2, 3, 21, [])), (120, (3, 122, 4, 0, 0, [])), (122, (24, 123, 50, 0, 0, [])), (123, (18, 0, 133, 0, 0, [])), (126, (3, 127, 0, 1, 1, [])), (127, (21, 130, 2, 2, 18, [])), (130, (3, 132, 4, 0, 0, [])), (132, (24, 133, 50, 0, 0, [])), (133, (39, 134, 0, 0, 0, []))]
/-- HearingDesk$FeeText.earnedIn(LHearingDesk$Hearing;)J -/
def k17 : List (Nat × Ins) := [(0, (3, 1, 1, 1, 1, [])), (1, (21, 4, 3, 5, 28, [])), (4, (4, 5, 2, 0, 1, [(1, 0)])), (5, (3, 6, 1, 1, 1, [])), (6, (21, 9, 3, 1, 32, [])), (9, (3, 10, 0, 1, 1, [])), (10, (3, 11, 2, 0, 1, [])), (11, (0, 12, 0, 0, 0, [])), (12, (36, 15, 16, 3, 1, [(35, 0)])), (15, (49, 18, 0, 0, 39, [])), (18, (8, 19, 0, 0, 0, [])), (19, (4, 20, 3, 2, 1, [(1, 0)])), (20, (3, 21, 3, 2, 1, [])), (21, (3, 22, 0, 1, 1, [])), (22, (3, 23, 2, 0, 1, [])), (23, (0, 25, 0, 1, 10, [])), (25, (3, 26, 1, 1, 1, [])), (26, (21, 29, 3, 4, 44, [])), (29, (6, 30, 0, 0, 0, [])), (30, (36, 33, 16, 3, 1, [(35, 0)])), (33, (8, 34, 0, 0, 0, [])), (34, (7, 35, 0, 1, 0, [])), (35, (1, 38, 47, 1, 60, [])), (38, (7, 39, 0, 2, 0, [])), (39, (4, 41, 5, 2, 1, [(0, 0)])), (41, (3, 42, 1, 1, 1, [])), (42, (21, 45, 3, 10, 49, [])), (45, (0, 46, 0, 0, (-1), [])), (46, (14, 49, 76, 0, 0, [])), (49, (3, 51, 5, 2, 0, [])), (51, (3, 52, 0, 1, 1, [])), (52, (3, 53, 2, 0, 1, [])), (53, (3, 54, 1, 1, 1, [])), (54, (36, 57, 19, 1, 1, [(52, 0)])), (57, (13, 60, 64, 0, 0, [])), (60, (0, 61, 0, 0, 2, [])), (61, (18, 0, 65, 0, 0, [])), (64, (0, 65, 0, 0, 3, [])), (65, (36, 68, 16, 3, 1, [(35, 0)])), (68, (8, 69, 0, 0, 0, [])), (69, (7, 70, 0, 1, 0, [])), (70, (1, 73, 56, 1, 100, [])), (73, (7, 74, 0, 2, 0, [])), (74, (4, 76, 5, 2, 1, [(0, 0)])), (76, (3, 77, 1, 1, 1, [])), (77, (21, 80, 3, 7, 58, [])), (80, (13, 83, 86, 1, 0, [])), (83, (3, 85, 5, 2, 0, [])), (85, (41, 86, 0, 0, 0, [])), (86, (3, 87, 1, 1, 1, [])), (87, (21, 90, 3, 8, 62, [])), (90, (3, 91, 0, 1, 1, [])), (91, (3, 92, 2, 0, 1, [])), (92, (0, 93, 0, 0, 4, [])), (93, (36, 96, 16, 3, 1, [(35, 0)])), (96, (14, 99, 116, 3, 0, [])), (99, (3, 101, 5, 2, 0, [])), (101, (3, 102, 0, 1, 1, [])), (102, (3, 103, 2, 0, 1, [])), (103, (0, 104, 0, 0, 5, [])), (104, (36, 107, 16, 3, 1, [(35, 0)])), (107, (8, 108, 0, 0, 0, [])), (108, (7, 109, 0, 1, 0, [])), (109, (1, 112, 56, 1, 100, [])), (112, (7, 113, 0, 2, 0, [])), (113, (18, 0, 117, 0, 0, [])), (116, (1, 117, 0, 0, 0, [])), (117, (41, 118, 0, 0, 0, []))]
/-- HearingDesk$Hearing.<init>(IIIII)V -/
def k18 : List (Nat × Ins) := [(0, (3, 1, 0, 1, 1, [])), (1, (37, 4, 0, 0, 3, [])), (4, (3, 5, 0, 1, 1, [])), (5, (3, 6, 1, 0, 1, [])), (6, (22, 9, 3, 0, 9, [])), (9, (3, 10, 0, 1, 1, [])), (10, (3, 11, 2, 0, 1, [])), (11, (22, 14, 3, 1, 15, [])), (14, (3, 15, 0, 1, 1, [])), (15, (3, 16, 3, 0, 1, [])), (16, (22, 19, 3, 2, 18, [])), (19, (3, 20, 0, 1, 1, [])), (20, (3, 22, 4, 0, 0, [])), (22, (22, 25, 3, 3, 21, [])), (25, (3, 26, 0, 1, 1, [])), (26, (3, 28, 5, 0, 0, [])), (28, (22, 31, 3, 4, 24, [])), (31, (3, 32, 0, 1, 1, [])), (32, (0, 33, 0, 0, (-1), [])), (33, (22, 36, 3, 9, 27, [])), (36, (3, 37, 0, 1, 1, [])), (37, (0, 38, 0, 0, (-1), [])), (38, (22, 41, 3, 10, 30, [])), (41, (38, 42, 0, 0, 0, []))]
/-- HearingDesk$Hearing.isLong()Z -/
def k19 : List (Nat × Ins) := [(0, (3, 1, 0, 1, 1, [])), (1, (21, 4, 3, 1, 15, [])), (4, (0, 6, 0, 1, 90, [])), (6, (14, 9, 13, 5, 0, [])), (9, (0, 10, 0, 0, 1, [])), (10, (18, 0, 14, 0, 0, [])), (13, (0, 14, 0, 0, 0, [])), (14, (40, 15, 0, 0, 0, []))]
/-- HearingDesk$Hearing.isSeated(I)Z -/
def k20 : List (Nat × Ins) := [(0, (3, 1, 1, 0, 1, [])), (1, (0, 2, 0, 0, (-1), [])), (2, (14, 5, 25, 0, 0, [])), (5, (3, 6, 0, 1, 1, [])), (6, (21, 9, 3, 9, 27, [])), (9, (3, 10, 1, 0, 1, [])), (10, (14, 13, 21, 0, 0, [])), (13, (3, 14, 0, 1, 1, [])), (14, (21, 17, 3, 10, 30, [])), (17, (3, 18, 1, 0, 1, [])), (18, (14, 21, 25, 1, 0, [])), (21, (0, 22, 0, 0, 1, [])), (22, (18, 0, 26, 0, 0, [])), (25, (0, 26, 0, 0, 0, [])), (26, (40, 27, 0, 0, 0, []))]
/-- HearingDesk$Hearing.changesTo(II)I -/
def k21 : List (Nat × Ins) := [(0, (3, 1, 0, 1, 1, [])), (1, (21, 4, 3, 9, 27, [])), (4, (3, 5, 1, 0, 1, [])), (5, (3, 6, 2, 0, 1, [])), (6, (36, 9, 22, 3, 0, [(33, 0)])), (9, (3, 10, 0, 1, 1, [])), (10, (21, 13, 3, 10, 30, [])), (13, (3, 14, 1, 0, 1, [])), (14, (3, 15, 2, 0, 1, [])), (15, (36, 18, 22, 3, 0, [(33, 0)])), (18, (6, 19, 0, 0, 0, [])), (19, (39, 20, 0, 0, 0, []))]
/-- HearingDesk$Hearing.leaves(III)I -/
def k22 : List (Nat × Ins) := [(0, (3, 1, 0, 0, 1, [])), (1, (0, 2, 0, 0, (-1), [])), (2, (14, 5, 19, 0, 0, [])), (5, (3, 6, 0, 0, 1, [])), (6, (3, 7, 1, 0, 1, [])), (7, (14, 10, 19, 0, 0, [])), (10, (3, 11, 0, 0, 1, [])), (11, (3, 12, 2, 0, 1, [])), (12, (14, 15, 19, 0, 0, [])), (15, (0, 16, 0, 0, 1, [])), (16, (18, 0, 20, 0, 0, [])), (19, (0, 20, 0, 0, 0, [])), (20, (39, 21, 0, 0, 0, []))]
/-- HearingDesk$Inquiries.<init>()V -/
def k23 : List (Nat × Ins) := [(0, (3, 1, 0, 1, 1, [])), (1, (37, 4, 0, 0, 3, [])), (4, (3, 5, 0, 1, 1, [])), (5, (0, 7, 0, 1, 60, [])), (7, (34, 9, 50, 0, 0, [])), (9, (22, 12, 4, 0, 9, [])), (12, (3, 13, 0, 1, 1, [])), (13, (0, 15, 0, 1, 60, [])), (15, (34, 17, 50, 0, 0, [])), (17, (22, 20, 4, 1, 15, [])), (20, (3, 21, 0, 1, 1, [])), (21, (0, 23, 0, 1, 60, [])), (23, (34, 25, 50, 0, 0, [])), (25, (22, 28, 4, 2, 18, [])), (28, (3, 29, 0, 1, 1, [])), (29, (0, 31, 0, 1, 60, [])), (31, (34, 33, 50, 0, 0, [])), (33, (22, 36, 4, 3, 21, [])), (36, (3, 37, 0, 1, 1, [])), (37, (0, 39, 0, 1, 60, [])), (39, (34, 41, 50, 0, 0, [])), (41, (22, 44, 4, 4, 24, [])), (44, (3, 45, 0, 1, 1, [])), (45, (0, 47, 0, 1, 60, [])), (47, (34, 49, 50, 0, 0, [])), (49, (22, 52, 4, 5, 27, [])), (52, (38, 53, 0, 0, 0, []))]
/-- HearingDesk$Inquiries.add(III)I -/
def k24 : List (Nat × Ins) := [(0, (3, 1, 0, 1, 1, [])), (1, (21, 4, 4, 6, 30, [])), (4, (0, 6, 0, 1, 60, [])), (6, (14, 9, 31, 3, 0, [])), (9, (3, 10, 0, 1, 1, [])), (10, (21, 13, 4, 6, 30, [])), (13, (13, 16, 33, 5, 0, [])), (16, (3, 17, 3, 0, 1, [])), (17, (3, 18, 0, 1, 1, [])), (18, (21, 21, 4, 2, 18, [])), (21, (3, 22, 0, 1, 1, [])), (22, (21, 25, 4, 6, 30, [])), (25, (0, 26, 0, 0, 1, [])), (26, (6, 27, 0, 1, 0, [])), (27, (24, 28, 50, 0, 0, [])), (28, (14, 31, 33, 3, 0, [])), (31, (0, 32, 0, 0, (-1), [])), (32, (39, 33, 0, 0, 0, [])), (33, (3, 34, 0, 1, 1, [])), (34, (21, 37, 4, 0, 9, [])), (37, (3, 38, 0, 1, 1, [])), (38, (21, 41, 4, 6, 30, [])), (41, (3, 42, 1, 0, 1, [])), (42, (28, 43, 0, 0, 0, [])), (43, (3, 44, 0, 1, 1, [])), (44, (21, 47, 4, 1, 15, [])), (47, (3, 48, 0, 1, 1, [])), (48, (21, 51, 4, 6, 30, [])), (51, (3, 52, 2, 0, 1, [])), (52, (28, 53, 0, 0, 0, [])), (53, (3, 54, 0, 1, 1, [])), (54, (21, 57, 4, 2, 18, [])), (57, (3, 58, 0, 1, 1, [])), (58, (21, 61, 4, 6, 30, [])), (61, (3, 62, 3, 0, 1, [])), (62, (28, 63, 0, 0, 0, [])), (63, (3, 64, 0, 1, 1, [])), (64, (21, 67, 4, 5, 27, [])), (67, (3, 68, 0, 1, 1, [])), (68, (21, 71, 4, 6, 30, [])), (71, (0, 72, 0, 0, (-1), [])), (72, (28, 73, 0, 0, 0, [])), (73, (3, 74, 0, 1, 1, [])), (74, (11, 75, 0, 0, 0, [])), (75, (21, 78, 4, 6, 30, [])), (78, (0, 79, 0, 0, 1, [])), (79, (6, 80, 0, 0, 0, [])), (80, (22, 83, 4, 6, 30, [])), (83, (3, 84, 0, 1, 1, [])), (84, (21, 87, 4, 6, 30, [])), (87, (0, 88, 0, 0, 1, [])), (88, (6, 89, 0, 1, 0, [])), (89, (39, 90, 0, 0, 0, []))]
/-- HearingDesk$Inquiries.close(IIZI)Z -/
def k25 : List (Nat × Ins) := [(0, (3, 1, 0, 1, 1, [])), (1, (3, 2, 1, 0, 1, [])), (2, (3, 3, 2, 0, 1, [])), (3, (36, 6, 26, 3, 1, [(34, 0)])), (6, (13, 9, 19, 0, 0, [])), (9, (3, 10, 0, 1, 1, [])), (10, (21, 13, 4, 5, 27, [])), (13, (3, 14, 1, 0, 1, [])), (14, (24, 15, 50, 0, 0, [])), (15, (0, 16, 0, 0, (-1), [])), (16, (14, 19, 21, 0, 0, [])), (19, (0, 20, 0, 0, 0, [])), (20, (40, 21, 0, 0, 0, [])), (21, (3, 22, 0, 1, 1, [])), (22, (21, 25, 4, 5, 27, [])), (25, (3, 26, 1, 0, 1, [])), (26, (3, 27, 2, 0, 1, [])), (27, (28, 28, 0, 0, 0, [])), (28, (3, 29, 0, 1, 1, [])), (29, (21, 32, 4, 3, 21, [])), (32, (3, 33, 1, 0, 1, [])), (33, (3, 34, 3, 0, 1, [])), (34, (13, 37, 41, 0, 0, [])), (37, (0, 38, 0, 0, 1, [])), (38, (18, 0, 42, 0, 0, [])), (41, (0, 42, 0, 0, 0, [])), (42, (28, 43, 0, 0, 0, [])), (43, (3, 44, 0, 1, 1, [])), (44, (21, 47, 4, 4, 24, [])), (47, (3, 48, 1, 0, 1, [])), (48, (3, 50, 4, 0, 0, [])), (50, (28, 51, 0, 0, 0, [])), (51, (0, 52, 0, 0, 1, [])), (52, (40, 53, 0, 0, 0, []))]
/-- HearingDesk$Inquiries.isAskedBy(II)Z -/
def k26 : List (Nat × Ins) := [(0, (3, 1, 1, 0, 1, [])), (1, (13, 4, 32, 2, 0, [])), (4, (3, 5, 1, 0, 1, [])), (5, (3, 6, 0, 1, 1, [])), (6, (21, 9, 4, 6, 30, [])), (9, (14, 12, 32, 3, 0, [])), (12, (3, 13, 1, 0, 1, [])), (13, (0, 15, 0, 1, 60, [])), (15, (14, 18, 32, 3, 0, [])), (18, (3, 19, 0, 1, 1, [])), (19, (21, 22, 4, 2, 18, [])), (22, (3, 23, 1, 0, 1, [])), (23, (24, 24, 50, 0, 0, [])), (24, (3, 25, 2, 0, 1, [])), (25, (14, 28, 32, 4, 0, [])), (28, (0, 29, 0, 0, 1, [])), (29, (18, 0, 33, 0, 0, [])), (32, (0, 33, 0, 0, 0, [])), (33, (40, 34, 0, 0, 0, []))]
/-- HearingDesk$Inquiries.isAnsweredBy(II)Z -/
def k27 : List (Nat × Ins) := [(0, (3, 1, 0, 1, 1, [])), (1, (3, 2, 1, 0, 1, [])), (2, (3, 3, 2, 0, 1, [])), (3, (36, 6, 26, 3, 1, [(34, 0)])), (6, (13, 9, 33, 0, 0, [])), (9, (3, 10, 0, 1, 1, [])), (10, (21, 13, 4, 5, 27, [])), (13, (3, 14, 1, 0, 1, [])), (14, (24, 15, 50, 0, 0, [])), (15, (0, 16, 0, 0, (-1), [])), (16, (14, 19, 33, 0, 0, [])), (19, (3, 20, 0, 1, 1, [])), (20, (21, 23, 4, 5, 27, [])), (23, (3, 24, 1, 0, 1, [])), (24, (24, 25, 50, 0, 0, [])), (25, (3, 26, 2, 0, 1, [])), (26, (14, 29, 33, 4, 0, [])), (29, (0, 30, 0, 0, 1, [])), (30, (18, 0, 34, 0, 0, [])), (33, (0, 34, 0, 0, 0, [])), (34, (40, 35, 0, 0, 0, []))]
/-- HearingDesk$Inquiries.refusedBy(II)I -/
def k28 : List (Nat × Ins) := [(0, (0, 1, 0, 0, 0, [])), (1, (4, 2, 3, 0, 0, [(1, 0)])), (2, (0, 3, 0, 0, 0, [])), (3, (4, 5, 4, 0, 0, [(0, 0)])), (5, (3, 7, 4, 0, 0, [])), (7, (3, 8, 0, 1, 1, [])), (8, (21, 11, 4, 6, 30, [])), (11, (14, 14, 78, 3, 0, [])), (14, (3, 16, 4, 0, 0, [])), (16, (0, 18, 0, 1, 60, [])), (18, (14, 21, 78, 3, 0, [])), (21, (3, 22, 1, 0, 1, [])), (22, (0, 23, 0, 0, (-1), [])), (23, (14, 26, 37, 0, 0, [])), (26, (3, 27, 0, 1, 1, [])), (27, (21, 30, 4, 0, 9, [])), (30, (3, 32, 4, 0, 0, [])), (32, (24, 33, 50, 0, 0, [])), (33, (3, 34, 1, 0, 1, [])), (34, (14, 37, 41, 1, 0, [])), (37, (0, 38, 0, 0, 1, [])), (38, (18, 0, 42, 0, 0, [])), (41, (0, 42, 0, 0, 0, [])), (42, (4, 44, 5, 0, 0, [(0, 0)])), (44, (3, 46, 5, 0, 0, [])), (46, (13, 49, 72, 0, 0, [])), (49, (3, 50, 0, 1, 1, [])), (50, (3, 52, 4, 0, 0, [])), (52, (3, 53, 2, 0, 1, [])), (53, (36, 56, 27, 3, 1, [(38, 0)])), (56, (13, 59, 72, 0, 0, [])), (59, (3, 60, 0, 1, 1, [])), (60, (21, 63, 4, 3, 21, [])), (63, (3, 65, 4, 0, 0, [])), (65, (24, 66, 50, 0, 0, [])), (66, (13, 69, 72, 1, 0, [])), (69, (5, 72, 3, 0, 1, [])), (72, (5, 75, 4, 0, 1, [])), (75, (18, 0, 5, 0, 0, [])), (78, (3, 79, 3, 0, 1, [])), (79, (39, 80, 0, 0, 0, []))]
/-- HearingDesk$Papers.<init>()V -/
def k29 : List (Nat × Ins) := [(0, (3, 1, 0, 1, 1, [])), (1, (37, 4, 0, 0, 3, [])), (4, (3, 5, 0, 1, 1, [])), (5, (0, 7, 0, 1, 10, [])), (7, (34, 9, 50, 0, 0, [])), (9, (22, 12, 5, 0, 9, [])), (12, (3, 13, 0, 1, 1, [])), (13, (0, 15, 0, 1, 40, [])), (15, (34, 17, 50, 0, 0, [])), (17, (22, 20, 5, 1, 15, [])), (20, (3, 21, 0, 1, 1, [])), (21, (0, 23, 0, 1, 40, [])), (23, (34, 25, 50, 0, 0, [])), (25, (22, 28, 5, 2, 18, [])), (28, (3, 29, 0, 1, 1, [])), (29, (0, 31, 0, 1, 40, [])), (31, (34, 33, 50, 0, 0, [])), (33, (22, 36, 5, 3, 21, [])), (36, (3, 37, 0, 1, 1, [])), (37, (0, 39, 0, 1, 40, [])), (39, (34, 41, 50, 0, 0, [])), (41, (22, 44, 5, 4, 24, [])), (44, (3, 45, 0, 1, 1, [])), (45, (0, 47, 0, 1, 40, [])), (47, (34, 49, 50, 0, 0, [])), (49, (22, 52, 5, 5, 27, [])), (52, (3, 53, 0, 1, 1, [])), (53, (0, 55, 0, 1, 10, [])), (55, (34, 57, 50, 0, 0, [])), (57, (22, 60, 5, 6, 30, [])), (60, (38, 61, 0, 0, 0, []))]
/-- HearingDesk$Papers.add(IIIII)I -/
def k30 : List (Nat × Ins) := [(0, (3, 1, 0, 1, 1, [])), (1, (21, 4, 5, 7, 33, [])), (4, (0, 6, 0, 1, 40, [])), (6, (14, 9, 11, 2, 0, [])), (9, (0, 10, 0, 0, (-1), [])), (10, (39, 11, 0, 0, 0, [])), (11, (3, 12, 0, 1, 1, [])), (12, (21, 15, 5, 1, 15, [])), (15, (3, 16, 0, 1, 1, [])), (16, (21, 19, 5, 7, 33, [])), (19, (3, 20, 1, 0, 1, [])), (20, (28, 21, 0, 0, 0, [])), (21, (3, 22, 0, 1, 1, [])), (22, (21, 25, 5, 2, 18, [])), (25, (3, 26, 0, 1, 1, [])), (26, (21, 29, 5, 7, 33, [])), (29, (3, 30, 2, 0, 1, [])), (30, (28, 31, 0, 0, 0, [])), (31, (3, 32, 0, 1, 1, [])), (32, (21, 35, 5, 3, 21, [])), (35, (3, 36, 0, 1, 1, [])), (36, (21, 39, 5, 7, 33, [])), (39, (3, 40, 3, 0, 1, [])), (40, (28, 41, 0, 0, 0, [])), (41, (3, 42, 0, 1, 1, [])), (42, (21, 45, 5, 4, 24, [])), (45, (3, 46, 0, 1, 1, [])), (46, (21, 49, 5, 7, 33, [])), (49, (3, 51, 4, 0, 0, [])), (51, (28, 52, 0, 0, 0, [])), (52, (3, 53, 0, 1, 1, [])), (53, (21, 56, 5, 5, 27, [])), (56, (3, 57, 0, 1, 1, [])), (57, (21, 60, 5, 7, 33, [])), (60, (3, 62, 5, 0, 0, [])), (62, (28, 63, 0, 0, 0, [])), (63, (3, 64, 0, 1, 1, [])), (64, (11, 65, 0, 0, 0, [])), (65, (21, 68, 5, 7, 33, [])), (68, (0, 69, 0, 0, 1, [])), (69, (6, 70, 0, 0, 0, [])), (70, (22, 73, 5, 7, 33, [])), (73, (3, 74, 0, 1, 1, [])), (74, (21, 77, 5, 7, 33, [])), (77, (0, 78, 0, 0, 1, [])), (78, (6, 79, 0, 1, 0, [])), (79, (39, 80, 0, 0, 0, []))]
/-- HearingDesk$Papers.shorten(II)Z -/
def k31 : List (Nat × Ins) := [(0, (3, 1, 1, 0, 1, [])), (1, (13, 4, 18, 2, 0, [])), (4, (3, 5, 1, 0, 1, [])), (5, (3, 6, 0, 1, 1, [])), (6, (21, 9, 5, 7, 33, [])), (9, (14, 12, 18, 3, 0, [])), (12, (3, 13, 1, 0, 1, [])), (13, (0, 15, 0, 1, 40, [])), (15, (14, 18, 20, 2, 0, [])), (18, (0, 19, 0, 0, 0, [])), (19, (40, 20, 0, 0, 0, [])), (20, (3, 21, 0, 1, 1, [])), (21, (21, 24, 5, 5, 27, [])), (24, (3, 25, 1, 0, 1, [])), (25, (3, 26, 0, 1, 1, [])), (26, (21, 29, 5, 5, 27, [])), (29, (3, 30, 1, 0, 1, [])), (30, (24, 31, 50, 0, 0, [])), (31, (3, 32, 2, 0, 1, [])), (32, (49, 35, 0, 1, 37, [])), (35, (28, 36, 0, 0, 0, [])), (36, (0, 37, 0, 0, 1, [])), (37, (40, 38, 0, 0, 0, []))]
/-- HearingDesk$Papers.gradesOf(II)[I -/
def k32 : List (Nat × Ins) := [(0, (3, 1, 0, 1, 1, [])), (1, (21, 4, 5, 6, 30, [])), (4, (0, 5, 0, 0, 0, [])), (5, (36, 8, 178, 2, 0, [(43, 0)])), (8, (0, 9, 0, 0, 0, [])), (9, (4, 10, 3, 0, 0, [(1, 0)])), (10, (3, 11, 3, 0, 1, [])), (11, (3, 12, 0, 1, 1, [])), (12, (21, 15, 5, 7, 33, [])), (15, (14, 18, 91, 3, 0, [])), (18, (3, 19, 3, 0, 1, [])), (19, (0, 21, 0, 1, 40, [])), (21, (14, 24, 91, 3, 0, [])), (24, (3, 25, 0, 1, 1, [])), (25, (21, 28, 5, 1, 15, [])), (28, (3, 29, 3, 0, 1, [])), (29, (24, 30, 50, 0, 0, [])), (30, (3, 31, 1, 0, 1, [])), (31, (14, 34, 85, 1, 0, [])), (34, (3, 35, 0, 1, 1, [])), (35, (21, 38, 5, 4, 24, [])), (38, (3, 39, 3, 0, 1, [])), (39, (24, 40, 50, 0, 0, [])), (40, (3, 41, 2, 0, 1, [])), (41, (14, 44, 85, 4, 0, [])), (44, (3, 45, 2, 0, 1, [])), (45, (3, 46, 0, 1, 1, [])), (46, (21, 49, 5, 5, 27, [])), (49, (3, 50, 3, 0, 1, [])), (50, (24, 51, 50, 0, 0, [])), (51, (14, 54, 85, 4, 0, [])), (54, (3, 55, 0, 1, 1, [])), (55, (21, 58, 5, 6, 30, [])), (58, (3, 59, 0, 1, 1, [])), (59, (21, 62, 5, 2, 18, [])), (62, (3, 63, 3, 0, 1, [])), (63, (24, 64, 50, 0, 0, [])), (64, (3, 65, 0, 1, 1, [])), (65, (21, 68, 5, 6, 30, [])), (68, (3, 69, 0, 1, 1, [])), (69, (21, 72, 5, 2, 18, [])), (72, (3, 73, 3, 0, 1, [])), (73, (24, 74, 50, 0, 0, [])), (74, (24, 75, 50, 0, 0, [])), (75, (3, 76, 0, 1, 1, [])), (76, (21, 79, 5, 3, 21, [])), (79, (3, 80, 3, 0, 1, [])), (80, (24, 81, 50, 0, 0, [])), (81, (49, 84, 0, 0, 49, [])), (84, (28, 85, 0, 0, 0, [])), (85, (5, 88, 3, 0, 1, [])), (88, (18, 0, 10, 0, 0, [])), (91, (0, 92, 0, 0, 2, [])), (92, (4, 93, 3, 0, 0, [(1, 0)])), (93, (3, 94, 3, 0, 1, [])), (94, (0, 96, 0, 1, 10, [])), (96, (14, 99, 142, 3, 0, [])), (99, (3, 100, 0, 1, 1, [])), (100, (21, 103, 5, 0, 9, [])), (103, (3, 104, 3, 0, 1, [])), (104, (24, 105, 50, 0, 0, [])), (105, (13, 108, 136, 0, 0, [])), (108, (3, 109, 0, 1, 1, [])), (109, (21, 112, 5, 6, 30, [])), (112, (3, 113, 3, 0, 1, [])), (113, (3, 114, 0, 1, 1, [])), (114, (21, 117, 5, 6, 30, [])), (117, (3, 118, 3, 0, 1, [])), (118, (24, 119, 50, 0, 0, [])), (119, (3, 120, 0, 1, 1, [])), (120, (21, 123, 5, 6, 30, [])), (123, (3, 124, 0, 1, 1, [])), (124, (21, 127, 5, 0, 9, [])), (127, (3, 128, 3, 0, 1, [])), (128, (24, 129, 50, 0, 0, [])), (129, (24, 130, 50, 0, 0, [])), (130, (0, 131, 0, 0, 1, [])), (131, (6, 132, 0, 1, 0, [])), (132, (49, 135, 0, 0, 49, [])), (135, (28, 136, 0, 0, 0, [])), (136, (5, 139, 3, 0, 1, [])), (139, (18, 0, 93, 0, 0, [])), (142, (3, 143, 0, 1, 1, [])), (143, (21, 146, 5, 6, 30, [])), (146, (42, 147, 0, 0, 0, []))]
/-- HearingDesk$People.<init>()V -/
def k33 : List (Nat × Ins) := [(0, (3, 1, 0, 1, 1, [])), (1, (37, 4, 0, 0, 3, [])), (4, (3, 5, 0, 1, 1, [])), (5, (0, 6, 0, 0, 5, [])), (6, (34, 8, 50, 0, 0, [])), (8, (22, 11, 6, 0, 9, [])), (11, (3, 12, 0, 1, 1, [])), (12, (0, 14, 0, 1, 100, [])), (14, (34, 16, 52, 0, 0, [])), (16, (22, 19, 6, 1, 15, [])), (19, (38, 20, 0, 0, 0, []))]
/-- HearingDesk$People.has(I)Z -/
def k34 : List (Nat × Ins) := [(0, (3, 1, 1, 0, 1, [])), (1, (13, 4, 21, 2, 0, [])), (4, (3, 5, 1, 0, 1, [])), (5, (3, 6, 0, 1, 1, [])), (6, (21, 9, 6, 2, 19, [])), (9, (14, 12, 21, 3, 0, [])), (12, (3, 13, 1, 0, 1, [])), (13, (0, 14, 0, 0, 5, [])), (14, (14, 17, 21, 3, 0, [])), (17, (0, 18, 0, 0, 1, [])), (18, (18, 0, 22, 0, 0, [])), (21, (0, 22, 0, 0, 0, [])), (22, (40, 23, 0, 0, 0, []))]
/-- HearingDesk$People.add(I)I -/
def k35 : List (Nat × Ins) := [(0, (3, 1, 0, 1, 1, [])), (1, (21, 4, 6, 2, 19, [])), (4, (0, 5, 0, 0, 5, [])), (5, (14, 8, 10, 2, 0, [])), (8, (0, 9, 0, 0, (-1), [])), (9, (39, 10, 0, 0, 0, [])), (10, (3, 11, 0, 1, 1, [])), (11, (21, 14, 6, 0, 9, [])), (14, (3, 15, 0, 1, 1, [])), (15, (21, 18, 6, 2, 19, [])), (18, (3, 19, 1, 0, 1, [])), (19, (28, 20, 0, 0, 0, [])), (20, (3, 21, 0, 1, 1, [])), (21, (11, 22, 0, 0, 0, [])), (22, (21, 25, 6, 2, 19, [])), (25, (0, 26, 0, 0, 1, [])), (26, (6, 27, 0, 0, 0, [])), (27, (22, 30, 6, 2, 19, [])), (30, (3, 31, 0, 1, 1, [])), (31, (21, 34, 6, 2, 19, [])), (34, (0, 35, 0, 0, 1, [])), (35, (6, 36, 0, 1, 0, [])), (36, (39, 37, 0, 0, 0, []))]
/-- HearingDesk$People.homeOf(I)I -/
def k36 : List (Nat × Ins) := [(0, (3, 1, 0, 1, 1, [])), (1, (3, 2, 1, 0, 1, [])), (2, (36, 5, 34, 2, 1, [(23, 0)])), (5, (13, 8, 17, 0, 0, [])), (8, (3, 9, 0, 1, 1, [])), (9, (21, 12, 6, 0, 9, [])), (12, (3, 13, 1, 0, 1, [])), (13, (24, 14, 50, 0, 0, [])), (14, (18, 0, 18, 0, 0, [])), (17, (0, 18, 0, 0, (-1), [])), (18, (39, 19, 0, 0, 0, []))]
/-- HearingDesk$People.isBarred(II)Z -/
def k37 : List (Nat × Ins) := [(0, (3, 1, 0, 1, 1, [])), (1, (3, 2, 1, 0, 1, [])), (2, (36, 5, 34, 2, 1, [(23, 0)])), (5, (13, 8, 33, 0, 0, [])), (8, (3, 9, 2, 0, 1, [])), (9, (36, 12, 119, 1, 0, [(27, 1)])), (12, (13, 15, 33, 0, 0, [])), (15, (3, 16, 0, 1, 1, [])), (16, (21, 19, 6, 1, 15, [])), (19, (3, 20, 1, 0, 1, [])), (20, (0, 22, 0, 1, 20, [])), (22, (6, 23, 0, 2, 0, [])), (23, (3, 24, 2, 0, 1, [])), (24, (6, 25, 0, 0, 0, [])), (25, (24, 26, 52, 0, 0, [])), (26, (13, 29, 33, 0, 0, [])), (29, (0, 30, 0, 0, 1, [])), (30, (18, 0, 34, 0, 0, [])), (33, (0, 34, 0, 0, 0, [])), (34, (40, 35, 0, 0, 0, []))]
/-- HearingDesk$People.setBarred(IIZ)Z -/
def k38 : List (Nat × Ins) := [(0, (3, 1, 0, 1, 1, [])), (1, (3, 2, 1, 0, 1, [])), (2, (36, 5, 34, 2, 1, [(23, 0)])), (5, (13, 8, 30, 0, 0, [])), (8, (3, 9, 2, 0, 1, [])), (9, (36, 12, 119, 1, 0, [(27, 1)])), (12, (13, 15, 30, 0, 0, [])), (15, (3, 16, 0, 1, 1, [])), (16, (21, 19, 6, 1, 15, [])), (19, (3, 20, 1, 0, 1, [])), (20, (0, 22, 0, 1, 20, [])), (22, (6, 23, 0, 2, 0, [])), (23, (3, 24, 2, 0, 1, [])), (24, (6, 25, 0, 0, 0, [])), (25, (24, 26, 52, 0, 0, [])), (26, (3, 27, 3, 0, 1, [])), (27, (14, 30, 32, 1, 0, [])), (30, (0, 31, 0, 0, 0, [])), (31, (40, 32, 0, 0, 0, [])), (32, (3, 33, 0, 1, 1, [])), (33, (21, 36, 6, 1, 15, [])), (36, (3, 37, 1, 0, 1, [])), (37, (0, 39, 0, 1, 20, [])), (39, (6, 40, 0, 2, 0, [])), (40, (3, 41, 2, 0, 1, [])), (41, (6, 42, 0, 0, 0, [])), (42, (3, 43, 3, 0, 1, [])), (43, (30, 44, 0, 0, 0, [])), (44, (0, 45, 0, 0, 1, [])), (45, (40, 46, 0, 0, 0, []))]
/-- HearingDesk$Planner.<init>(LHearingDesk$DaySheet;)V -/
def k39 : List (Nat × Ins) := [(0, (3, 1, 0, 1, 1, [])), (1, (37, 4, 0, 0, 3, [])), (4, (3, 5, 0, 1, 1, [])), (5, (3, 6, 1, 1, 1, [])), (6, (22, 9, 7, 0, 9, [])), (9, (3, 10, 0, 1, 1, [])), (10, (0, 11, 0, 0, 4, [])), (11, (35, 14, 54, 0, 15, [])), (14, (22, 17, 7, 1, 17, [])), (17, (0, 18, 0, 0, 0, [])), (18, (4, 19, 2, 0, 0, [(1, 0)])), (19, (3, 20, 2, 0, 1, [])), (20, (0, 21, 0, 0, 4, [])), (21, (14, 24, 43, 3, 0, [])), (24, (3, 25, 0, 1, 1, [])), (25, (21, 28, 7, 1, 17, [])), (28, (3, 29, 2, 0, 1, [])), (29, (33, 32, 9, 0, 15, [])), (32, (11, 33, 0, 0, 0, [])), (33, (36, 36, 68, 1, 2, [(21, 0)])), (36, (31, 37, 54, 19, 0, [])), (37, (5, 40, 2, 0, 1, [])), (40, (18, 0, 19, 0, 0, [])), (43, (3, 44, 0, 1, 1, [])), (44, (0, 46, 0, 1, 16, [])), (46, (34, 48, 52, 0, 0, [])), (48, (22, 51, 7, 2, 22, [])), (51, (3, 52, 0, 1, 1, [])), (52, (0, 54, 0, 1, 80, [])), (54, (34, 56, 50, 0, 0, [])), (56, (22, 59, 7, 3, 26, [])), (59, (3, 60, 0, 1, 1, [])), (60, (0, 61, 0, 0, 4, [])), (61, (34, 63, 50, 0, 0, [])), (63, (22, 66, 7, 4, 30, [])), (66, (3, 67, 0, 1, 1, [])), (67, (0, 68, 0, 0, 4, [])), (68, (34, 70, 50, 0, 0, [])), (70, (22, 73, 7, 5, 33, [])), (73, (38, 74, 0, 0, 0, []))]
/-- HearingDesk$Planner.prepare(LHearingDesk$People;LHearingDesk$Papers;LHearingDesk$Travel;)V -/
def k40 : List (Nat × Ins) := [(0, (3, 1, 0, 1, 1, [])), (1, (3, 2, 0, 1, 1, [])), (2, (21, 5, 7, 0, 9, [])), (5, (21, 8, 0, 2, 36, [])), (8, (0, 9, 0, 0, 4, [])), (9, (49, 12, 0, 1, 42, [])), (12, (22, 15, 7, 8, 48, [])), (15, (0, 16, 0, 0, 0, [])), (16, (4, 18, 4, 0, 0, [(0, 0)])), (18, (3, 20, 4, 0, 0, [])), (20, (3, 21, 0, 1, 1, [])), (21, (21, 24, 7, 8, 48, [])), (24, (14, 27, 63, 3, 0, [])), (27, (3, 28, 0, 1, 1, [])), (28, (21, 31, 7, 0, 9, [])), (31, (3, 33, 4, 0, 0, [])), (33, (36, 36, 3, 2, 1, [(49, 0)])), (36, (4, 38, 5, 1, 0, [(0, 0)])), (38, (3, 40, 5, 1, 0, [])), (40, (15, 43, 57, 0, 0, [])), (43, (3, 44, 0, 1, 1, [])), (44, (21, 47, 7, 1, 17, [])), (47, (3, 49, 4, 0, 0, [])), (49, (24, 50, 54, 19, 0, [])), (50, (3, 52, 5, 1, 0, [])), (52, (3, 53, 1, 1, 1, [])), (53, (3, 54, 2, 1, 1, [])), (54, (36, 57, 69, 4, 1, [(53, 0)])), (57, (5, 60, 4, 0, 1, [])), (60, (18, 0, 18, 0, 0, [])), (63, (0, 64, 0, 0, 0, [])), (64, (4, 66, 4, 0, 0, [(0, 0)])), (66, (3, 68, 4, 0, 0, [])), (68, (0, 69, 0, 0, 1, [])), (69, (3, 70, 0, 1, 1, [])), (70, (21, 73, 7, 8, 48, [])), (73, (6, 74, 0, 5, 0, [])), (74, (14, 77, 144, 3, 0, [])), (77, (3, 78, 0, 1, 1, [])), (78, (21, 81, 7, 2, 22, [])), (81, (3, 83, 4, 0, 0, [])), (83, (3, 84, 0, 1, 1, [])), (84, (21, 87, 7, 0, 9, [])), (87, (3, 89, 4, 0, 0, [])), (89, (3, 90, 3, 1, 1, [])), (90, (36, 93, 5, 3, 1, [(57, 0)])), (93, (30, 94, 0, 0, 0, [])), (94, (0, 95, 0, 0, 0, [])), (95, (4, 97, 5, 0, 0, [(0, 0)])), (97, (3, 99, 5, 0, 0, [])), (99, (0, 100, 0, 0, 5, [])), (100, (14, 103, 138, 3, 0, [])), (103, (3, 104, 0, 1, 1, [])), (104, (21, 107, 7, 3, 26, [])), (107, (3, 109, 5, 0, 0, [])), (109, (0, 111, 0, 1, 16, [])), (111, (6, 112, 0, 2, 0, [])), (112, (3, 114, 4, 0, 0, [])), (114, (6, 115, 0, 0, 0, [])), (115, (3, 116, 0, 1, 1, [])), (116, (21, 119, 7, 0, 9, [])), (119, (3, 120, 1, 1, 1, [])), (120, (3, 122, 5, 0, 0, [])), (122, (36, 125, 36, 2, 1, [(61, 0)])), (125, (3, 127, 4, 0, 0, [])), (127, (3, 128, 3, 1, 1, [])), (128, (36, 131, 6, 4, 1, [(67, 0)])), (131, (28, 132, 0, 0, 0, [])), (132, (5, 135, 5, 0, 1, [])), (135, (18, 0, 97, 0, 0, [])), (138, (5, 141, 4, 0, 1, [])), (141, (18, 0, 66, 0, 0, [])), (144, (38, 145, 0, 0, 0, []))]
/-- HearingDesk$Planner.layOut(Z)V -/
def k41 : List (Nat × Ins) := [(0, (3, 1, 0, 1, 1, [])), (1, (3, 2, 1, 0, 1, [])), (2, (23, 5, 7, 6, 71, [])), (5, (3, 6, 0, 1, 1, [])), (6, (0, 7, 0, 0, 1, [])), (7, (23, 10, 7, 7, 75, [])), (10, (3, 11, 0, 1, 1, [])), (11, (3, 12, 0, 1, 1, [])), (12, (21, 15, 7, 8, 48, [])), (15, (0, 16, 0, 0, 1, [])), (16, (6, 17, 0, 0, 0, [])), (17, (22, 20, 7, 9, 78, [])), (20, (3, 21, 0, 1, 1, [])), (21, (0, 22, 0, 0, 0, [])), (22, (22, 25, 7, 10, 81, [])), (25, (3, 26, 0, 1, 1, [])), (26, (0, 27, 0, 0, 0, [])), (27, (22, 30, 7, 11, 84, [])), (30, (3, 31, 0, 1, 1, [])), (31, (0, 32, 0, 0, 0, [])), (32, (0, 33, 0, 0, 0, [])), (33, (0, 34, 0, 0, 0, [])), (34, (0, 35, 0, 0, 0, [])), (35, (36, 38, 42, 5, 0, [(87, 0)])), (38, (0, 39, 0, 0, 0, [])), (39, (4, 40, 2, 0, 0, [(1, 0)])), (40, (3, 41, 2, 0, 1, [])), (41, (3, 42, 0, 1, 1, [])), (42, (21, 45, 7, 8, 48, [])), (45, (14, 48, 105, 3, 0, [])), (48, (3, 49, 0, 1, 1, [])), (49, (21, 52, 7, 0, 9, [])), (52, (3, 53, 2, 0, 1, [])), (53, (36, 56, 3, 2, 1, [(49, 0)])), (56, (4, 57, 3, 1, 0, [(1, 0)])), (57, (3, 58, 3, 1, 1, [])), (58, (15, 61, 99, 0, 0, [])), (61, (3, 62, 3, 1, 1, [])), (62, (3, 63, 0, 1, 1, [])), (63, (21, 66, 7, 1, 17, [])), (66, (3, 67, 2, 0, 1, [])), (67, (24, 68, 54, 19, 0, [])), (68, (3, 69, 0, 1, 1, [])), (69, (21, 72, 7, 5, 33, [])), (72, (3, 73, 2, 0, 1, [])), (73, (24, 74, 50, 0, 0, [])), (74, (36, 77, 70, 2, 1, [(91, 0)])), (77, (22, 80, 3, 9, 94, [])), (80, (3, 81, 3, 1, 1, [])), (81, (3, 82, 0, 1, 1, [])), (82, (21, 85, 7, 1, 17, [])), (85, (3, 86, 2, 0, 1, [])), (86, (24, 87, 54, 19, 0, [])), (87, (3, 88, 0, 1, 1, [])), (88, (21, 91, 7, 5, 33, [])), (91, (3, 92, 2, 0, 1, [])), (92, (24, 93, 50, 0, 0, [])), (93, (36, 96, 71, 2, 1, [(99, 0)])), (96, (22, 99, 3, 10, 102, [])), (99, (5, 102, 2, 0, 1, [])), (102, (18, 0, 40, 0, 0, [])), (105, (38, 106, 0, 0, 0, []))]
/-- HearingDesk$Planner.search(LHearingDesk$Planner;IIII)V -/
def k42 : List (Nat × Ins) := [(0, (3, 1, 0, 1, 1, [])), (1, (3, 2, 3, 0, 1, [])), (2, (3, 4, 4, 0, 0, [])), (4, (36, 7, 43, 3, 1, [(105, 0)])), (7, (13, 10, 11, 0, 0, [])), (10, (38, 11, 0, 0, 0, [])), (11, (3, 12, 1, 0, 1, [])), (12, (3, 13, 0, 1, 1, [])), (13, (21, 16, 7, 8, 48, [])), (16, (14, 19, 24, 3, 0, [])), (19, (3, 20, 1, 0, 1, [])), (20, (0, 21, 0, 0, 4, [])), (21, (14, 24, 33, 2, 0, [])), (24, (3, 25, 0, 1, 1, [])), (25, (3, 26, 2, 0, 1, [])), (26, (3, 27, 3, 0, 1, [])), (27, (3, 29, 4, 0, 0, [])), (29, (36, 32, 47, 4, 1, [(109, 0)])), (32, (38, 33, 0, 0, 0, [])), (33, (3, 34, 0, 1, 1, [])), (34, (21, 37, 7, 1, 17, [])), (37, (3, 38, 1, 0, 1, [])), (38, (24, 39, 54, 19, 0, [])), (39, (21, 42, 9, 4, 113, [])), (42, (4, 44, 5, 0, 0, [(0, 0)])), (44, (0, 45, 0, 0, 0, [])), (45, (4, 47, 6, 0, 0, [(0, 0)])), (47, (3, 49, 6, 0, 0, [])), (49, (3, 51, 5, 0, 0, [])), (51, (14, 54, 112, 4, 0, [])), (54, (3, 55, 0, 1, 1, [])), (55, (21, 58, 7, 4, 30, [])), (58, (3, 59, 1, 0, 1, [])), (59, (3, 61, 6, 0, 0, [])), (61, (28, 62, 0, 0, 0, [])), (62, (3, 63, 0, 1, 1, [])), (63, (3, 64, 1, 0, 1, [])), (64, (3, 66, 6, 0, 0, [])), (66, (36, 69, 44, 3, 1, [(114, 0)])), (69, (4, 71, 7, 0, 0, [(0, 0)])), (71, (3, 72, 0, 1, 1, [])), (72, (3, 73, 1, 0, 1, [])), (73, (0, 74, 0, 0, 1, [])), (74, (6, 75, 0, 0, 0, [])), (75, (3, 76, 2, 0, 1, [])), (76, (3, 78, 7, 0, 0, [])), (78, (6, 79, 0, 4, 0, [])), (79, (3, 81, 6, 0, 0, [])), (81, (3, 83, 5, 0, 0, [])), (83, (14, 86, 92, 1, 0, [])), (86, (3, 87, 3, 0, 1, [])), (87, (0, 88, 0, 0, 1, [])), (88, (6, 89, 0, 0, 0, [])), (89, (18, 0, 93, 0, 0, [])), (92, (3, 93, 3, 0, 1, [])), (93, (3, 95, 4, 0, 0, [])), (95, (3, 96, 0, 1, 1, [])), (96, (3, 97, 1, 0, 1, [])), (97, (3, 99, 6, 0, 0, [])), (99, (36, 102, 46, 3, 1, [(117, 0)])), (102, (6, 103, 0, 0, 0, [])), (103, (36, 106, 42, 5, 0, [(87, 0)])), (106, (5, 109, 6, 0, 1, [])), (109, (18, 0, 47, 0, 0, [])), (112, (38, 113, 0, 0, 0, []))]
/-- HearingDesk$Planner.isPastBest(II)Z -/
def k43 : List (Nat × Ins) := [(0, (3, 1, 1, 0, 1, [])), (1, (3, 2, 0, 1, 1, [])), (2, (21, 5, 7, 9, 78, [])), (5, (14, 8, 31, 4, 0, [])), (8, (3, 9, 0, 1, 1, [])), (9, (21, 12, 7, 6, 71, [])), (12, (13, 15, 35, 0, 0, [])), (15, (3, 16, 1, 0, 1, [])), (16, (3, 17, 0, 1, 1, [])), (17, (21, 20, 7, 9, 78, [])), (20, (14, 23, 35, 1, 0, [])), (23, (3, 24, 2, 0, 1, [])), (24, (3, 25, 0, 1, 1, [])), (25, (21, 28, 7, 10, 81, [])), (28, (14, 31, 35, 5, 0, [])), (31, (0, 32, 0, 0, 1, [])), (32, (18, 0, 36, 0, 0, [])), (35, (0, 36, 0, 0, 0, [])), (36, (40, 37, 0, 0, 0, []))]
/-- HearingDesk$Planner.setsOf(II)I -/
def k44 : List (Nat × Ins) := [(0, (3, 1, 0, 1, 1, [])), (1, (21, 4, 7, 1, 17, [])), (4, (3, 5, 1, 0, 1, [])), (5, (24, 6, 54, 19, 0, [])), (6, (3, 7, 2, 0, 1, [])), (7, (36, 10, 70, 2, 1, [(91, 0)])), (10, (3, 11, 1, 0, 1, [])), (11, (36, 14, 45, 2, 0, [(120, 0)])), (14, (3, 15, 0, 1, 1, [])), (15, (21, 18, 7, 1, 17, [])), (18, (3, 19, 1, 0, 1, [])), (19, (24, 20, 54, 19, 0, [])), (20, (3, 21, 2, 0, 1, [])), (21, (36, 24, 71, 2, 1, [(99, 0)])), (24, (3, 25, 1, 0, 1, [])), (25, (36, 28, 45, 2, 0, [(120, 0)])), (28, (6, 29, 0, 4, 0, [])), (29, (39, 30, 0, 0, 0, []))]
/-- HearingDesk$Planner.setBit(II)I -/
def k45 : List (Nat × Ins) := [(0, (3, 1, 0, 0, 1, [])), (1, (0, 2, 0, 0, (-1), [])), (2, (14, 5, 9, 1, 0, [])), (5, (0, 6, 0, 0, 0, [])), (6, (18, 0, 16, 0, 0, [])), (9, (0, 10, 0, 0, 1, [])), (10, (3, 11, 0, 0, 1, [])), (11, (0, 12, 0, 0, 4, [])), (12, (6, 13, 0, 2, 0, [])), (13, (3, 14, 1, 0, 1, [])), (14, (6, 15, 0, 0, 0, [])), (15, (6, 16, 0, 5, 0, [])), (16, (39, 17, 0, 0, 0, []))]
/-- HearingDesk$Planner.changesAt(II)I -/
def k46 : List (Nat × Ins) := [(0, (3, 1, 0, 1, 1, [])), (1, (21, 4, 7, 0, 9, [])), (4, (3, 5, 1, 0, 1, [])), (5, (36, 8, 3, 2, 1, [(49, 0)])), (8, (4, 9, 3, 1, 0, [(1, 0)])), (9, (3, 10, 3, 1, 1, [])), (10, (16, 13, 17, 0, 0, [])), (13, (0, 14, 0, 0, 0, [])), (14, (18, 0, 41, 0, 0, [])), (17, (3, 18, 3, 1, 1, [])), (18, (3, 19, 0, 1, 1, [])), (19, (21, 22, 7, 1, 17, [])), (22, (3, 23, 1, 0, 1, [])), (23, (24, 24, 54, 19, 0, [])), (24, (3, 25, 2, 0, 1, [])), (25, (36, 28, 70, 2, 1, [(91, 0)])), (28, (3, 29, 0, 1, 1, [])), (29, (21, 32, 7, 1, 17, [])), (32, (3, 33, 1, 0, 1, [])), (33, (24, 34, 54, 19, 0, [])), (34, (3, 35, 2, 0, 1, [])), (35, (36, 38, 71, 2, 1, [(99, 0)])), (38, (36, 41, 21, 3, 1, [(123, 0)])), (41, (39, 42, 0, 0, 0, []))]
/-- HearingDesk$Planner.weigh(III)V -/
def k47 : List (Nat × Ins) := [(0, (0, 1, 0, 0, 0, [])), (1, (4, 3, 4, 0, 0, [(0, 0)])), (3, (0, 4, 0, 0, 0, [])), (4, (4, 6, 5, 0, 0, [(0, 0)])), (6, (3, 8, 5, 0, 0, [])), (8, (0, 9, 0, 0, 5, [])), (9, (14, 12, 58, 3, 0, [])), (12, (3, 13, 1, 0, 1, [])), (13, (3, 15, 5, 0, 0, [])), (15, (0, 16, 0, 0, 4, [])), (16, (6, 17, 0, 2, 0, [])), (17, (6, 18, 0, 6, 0, [])), (18, (0, 20, 0, 1, 15, [])), (20, (6, 21, 0, 3, 0, [])), (21, (4, 23, 6, 0, 0, [(0, 0)])), (23, (3, 24, 0, 1, 1, [])), (24, (21, 27, 7, 2, 22, [])), (27, (3, 29, 6, 0, 0, [])), (29, (24, 30, 52, 0, 0, [])), (30, (13, 33, 34, 1, 0, [])), (33, (38, 34, 0, 0, 0, [])), (34, (3, 36, 4, 0, 0, [])), (36, (3, 37, 0, 1, 1, [])), (37, (21, 40, 7, 3, 26, [])), (40, (3, 42, 5, 0, 0, [])), (42, (0, 44, 0, 1, 16, [])), (44, (6, 45, 0, 2, 0, [])), (45, (3, 47, 6, 0, 0, [])), (47, (6, 48, 0, 0, 0, [])), (48, (24, 49, 50, 0, 0, [])), (49, (6, 50, 0, 0, 0, [])), (50, (4, 52, 4, 0, 0, [(0, 0)])), (52, (5, 55, 5, 0, 1, [])), (55, (18, 0, 6, 0, 0, [])), (58, (3, 59, 0, 1, 1, [])), (59, (3, 60, 2, 0, 1, [])), (60, (3, 61, 3, 0, 1, [])), (61, (3, 63, 4, 0, 0, [])), (63, (36, 66, 48, 4, 1, [(126, 0)])), (66, (13, 69, 99, 0, 0, [])), (69, (3, 70, 0, 1, 1, [])), (70, (3, 71, 2, 0, 1, [])), (71, (22, 74, 7, 9, 78, [])), (74, (3, 75, 0, 1, 1, [])), (75, (3, 76, 3, 0, 1, [])), (76, (22, 79, 7, 10, 81, [])), (79, (3, 80, 0, 1, 1, [])), (80, (3, 82, 4, 0, 0, [])), (82, (22, 85, 7, 11, 84, [])), (85, (3, 86, 0, 1, 1, [])), (86, (21, 89, 7, 4, 30, [])), (89, (0, 90, 0, 0, 0, [])), (90, (3, 91, 0, 1, 1, [])), (91, (21, 94, 7, 5, 33, [])), (94, (0, 95, 0, 0, 0, [])), (95, (0, 96, 0, 0, 4, [])), (96, (46, 99, 0, 0, 130, [])), (99, (38, 100, 0, 0, 0, []))]
/-- HearingDesk$Planner.isBetter(III)Z -/
def k48 : List (Nat × Ins) := [(0, (3, 1, 1, 0, 1, [])), (1, (3, 2, 0, 1, 1, [])), (2, (21, 5, 7, 9, 78, [])), (5, (14, 8, 22, 0, 0, [])), (8, (3, 9, 1, 0, 1, [])), (9, (3, 10, 0, 1, 1, [])), (10, (21, 13, 7, 9, 78, [])), (13, (14, 16, 20, 3, 0, [])), (16, (0, 17, 0, 0, 1, [])), (17, (18, 0, 21, 0, 0, [])), (20, (0, 21, 0, 0, 0, [])), (21, (40, 22, 0, 0, 0, [])), (22, (3, 23, 0, 1, 1, [])), (23, (21, 26, 7, 6, 71, [])), (26, (13, 29, 51, 0, 0, [])), (29, (3, 30, 2, 0, 1, [])), (30, (3, 31, 0, 1, 1, [])), (31, (21, 34, 7, 10, 81, [])), (34, (14, 37, 51, 0, 0, [])), (37, (3, 38, 2, 0, 1, [])), (38, (3, 39, 0, 1, 1, [])), (39, (21, 42, 7, 10, 81, [])), (42, (14, 45, 49, 3, 0, [])), (45, (0, 46, 0, 0, 1, [])), (46, (18, 0, 50, 0, 0, [])), (49, (0, 50, 0, 0, 0, [])), (50, (40, 51, 0, 0, 0, [])), (51, (3, 52, 3, 0, 1, [])), (52, (3, 53, 0, 1, 1, [])), (53, (21, 56, 7, 11, 84, [])), (56, (14, 59, 63, 3, 0, [])), (59, (0, 60, 0, 0, 1, [])), (60, (18, 0, 64, 0, 0, [])), (63, (0, 64, 0, 0, 0, [])), (64, (40, 65, 0, 0, 0, []))]
/-- HearingDesk$Tape.<init>()V -/
def k49 : List (Nat × Ins) := [(0, (3, 1, 0, 1, 1, [])), (1, (37, 4, 0, 0, 3, [])), (4, (3, 5, 0, 1, 1, [])), (5, (0, 8, 0, 2, 600, [])), (8, (34, 10, 51, 0, 0, [])), (10, (22, 13, 8, 0, 9, [])), (13, (38, 14, 0, 0, 0, []))]
/-- HearingDesk$Tape.hasRoomFor(I)Z -/
def k50 : List (Nat × Ins) := [(0, (3, 1, 0, 1, 1, [])), (1, (21, 4, 8, 3, 15, [])), (4, (3, 5, 1, 0, 1, [])), (5, (6, 6, 0, 0, 0, [])), (6, (0, 9, 0, 2, 600, [])), (9, (14, 12, 16, 4, 0, [])), (12, (0, 13, 0, 0, 1, [])), (13, (18, 0, 17, 0, 0, [])), (16, (0, 17, 0, 0, 0, [])), (17, (40, 18, 0, 0, 0, []))]
/-- HearingDesk$Tape.append(I)V -/
def k51 : List (Nat × Ins) := [(0, (0, 2, 0, 1, 24, [])), (2, (4, 3, 2, 0, 0, [(1, 0)])), (3, (3, 4, 2, 0, 1, [])), (4, (13, 7, 46, 2, 0, [])), (7, (3, 8, 0, 1, 1, [])), (8, (21, 11, 8, 3, 15, [])), (11, (0, 14, 0, 2, 600, [])), (14, (14, 17, 46, 3, 0, [])), (17, (3, 18, 0, 1, 1, [])), (18, (21, 21, 8, 0, 9, [])), (21, (3, 22, 0, 1, 1, [])), (22, (21, 25, 8, 3, 15, [])), (25, (3, 26, 1, 0, 1, [])), (26, (3, 27, 2, 0, 1, [])), (27, (6, 28, 0, 6, 0, [])), (28, (9, 29, 0, 0, 0, [])), (29, (29, 30, 0, 0, 0, [])), (30, (3, 31, 0, 1, 1, [])), (31, (11, 32, 0, 0, 0, [])), (32, (21, 35, 8, 3, 15, [])), (35, (0, 36, 0, 0, 1, [])), (36, (6, 37, 0, 0, 0, [])), (37, (22, 40, 8, 3, 15, [])), (40, (5, 43, 2, 0, (-8), [])), (43, (18, 0, 3, 0, 0, [])), (46, (38, 47, 0, 0, 0, []))]
/-- HearingDesk$Tape.readInto(LHearingDesk$FeeText;)I -/
def k52 : List (Nat × Ins) := [(0, (3, 1, 1, 1, 1, [])), (1, (0, 2, 0, 0, 0, [])), (2, (22, 5, 2, 4, 19, [])), (5, (3, 6, 0, 1, 1, [])), (6, (0, 7, 0, 0, 0, [])), (7, (22, 10, 8, 1, 22, [])), (10, (3, 11, 0, 1, 1, [])), (11, (0, 12, 0, 0, 0, [])), (12, (22, 15, 8, 2, 25, [])), (15, (3, 16, 0, 1, 1, [])), (16, (36, 19, 58, 1, 1, [(28, 0)])), (19, (3, 20, 0, 1, 1, [])), (20, (21, 23, 8, 1, 22, [])), (23, (3, 24, 0, 1, 1, [])), (24, (21, 27, 8, 3, 15, [])), (27, (14, 30, 34, 3, 0, [])), (30, (0, 31, 0, 0, 1, [])), (31, (18, 0, 35, 0, 0, [])), (34, (0, 35, 0, 0, 0, [])), (35, (4, 36, 2, 0, 0, [(1, 0)])), (36, (0, 37, 0, 0, 0, [])), (37, (4, 38, 3, 0, 0, [(1, 0)])), (38, (3, 39, 2, 0, 1, [])), (39, (13, 42, 80, 0, 0, [])), (42, (3, 43, 3, 0, 1, [])), (43, (0, 46, 0, 2, 600, [])), (46, (14, 49, 80, 4, 0, [])), (49, (3, 50, 0, 1, 1, [])), (50, (3, 51, 1, 1, 1, [])), (51, (36, 54, 53, 2, 1, [(31, 0)])), (54, (3, 55, 0, 1, 1, [])), (55, (21, 58, 8, 2, 25, [])), (58, (13, 61, 72, 1, 0, [])), (61, (3, 62, 0, 1, 1, [])), (62, (36, 65, 54, 1, 1, [(35, 0)])), (65, (13, 68, 72, 0, 0, [])), (68, (0, 69, 0, 0, 1, [])), (69, (18, 0, 73, 0, 0, [])), (72, (0, 73, 0, 0, 0, [])), (73, (4, 74, 2, 0, 0, [(1, 0)])), (74, (5, 77, 3, 0, 1, [])), (77, (18, 0, 38, 0, 0, [])), (80, (3, 81, 0, 1, 1, [])), (81, (21, 84, 8, 2, 25, [])), (84, (39, 85, 0, 0, 0, []))]
/-- HearingDesk$Tape.readClause(LHearingDesk$FeeText;)V -/
def k53 : List (Nat × Ins) := [(0, (3, 1, 0, 1, 1, [])), (1, (36, 4, 55, 1, 1, [(39, 0)])), (4, (3, 5, 0, 1, 1, [])), (5, (0, 6, 0, 0, 0, [])), (6, (0, 9, 0, 2, 999, [])), (9, (36, 12, 57, 3, 1, [(42, 0)])), (12, (4, 13, 2, 0, 0, [(1, 0)])), (13, (3, 14, 0, 1, 1, [])), (14, (36, 17, 56, 1, 1, [(46, 0)])), (17, (4, 18, 3, 0, 0, [(1, 0)])), (18, (3, 19, 3, 0, 1, [])), (19, (0, 20, 0, 0, 5, [])), (20, (14, 23, 32, 1, 0, [])), (23, (3, 24, 0, 1, 1, [])), (24, (0, 25, 0, 0, 1, [])), (25, (0, 26, 0, 0, 5, [])), (26, (36, 29, 57, 3, 1, [(42, 0)])), (29, (18, 0, 33, 0, 0, [])), (32, (0, 33, 0, 0, 0, [])), (33, (4, 35, 4, 0, 0, [(0, 0)])), (35, (3, 36, 0, 1, 1, [])), (36, (3, 37, 3, 0, 1, [])), (37, (36, 40, 66, 1, 0, [(50, 0)])), (40, (3, 41, 3, 0, 1, [])), (41, (36, 44, 67, 1, 0, [(54, 0)])), (44, (36, 47, 57, 3, 1, [(42, 0)])), (47, (4, 49, 5, 0, 0, [(0, 0)])), (49, (3, 50, 3, 0, 1, [])), (50, (0, 51, 0, 0, 4, [])), (51, (14, 54, 64, 1, 0, [])), (54, (3, 55, 0, 1, 1, [])), (55, (0, 56, 0, 0, 0, [])), (56, (0, 58, 0, 1, 100, [])), (58, (36, 61, 57, 3, 1, [(42, 0)])), (61, (18, 0, 65, 0, 0, [])), (64, (0, 65, 0, 0, 0, [])), (65, (4, 67, 6, 0, 0, [(0, 0)])), (67, (3, 68, 0, 1, 1, [])), (68, (21, 71, 8, 2, 25, [])), (71, (13, 74, 97, 1, 0, [])), (74, (3, 75, 1, 1, 1, [])), (75, (3, 76, 2, 0, 1, [])), (76, (3, 77, 3, 0, 1, [])), (77, (0, 78, 0, 0, 5, [])), (78, (14, 81, 89, 1, 0, [])), (81, (0, 83, 0, 1, 10, [])), (83, (3, 85, 4, 0, 0, [])), (85, (6, 86, 0, 0, 0, [])), (86, (18, 0, 90, 0, 0, [])), (89, (3, 90, 3, 0, 1, [])), (90, (3, 92, 5, 0, 0, [])), (92, (3, 94, 6, 0, 0, [])), (94, (36, 97, 15, 5, 1, [(57, 0)])), (97, (38, 98, 0, 0, 0, []))]
/-- HearingDesk$Tape.readSemicolon()Z -/
def k54 : List (Nat × Ins) := [(0, (3, 1, 0, 1, 1, [])), (1, (36, 4, 58, 1, 1, [(28, 0)])), (4, (3, 5, 0, 1, 1, [])), (5, (21, 8, 8, 1, 22, [])), (8, (3, 9, 0, 1, 1, [])), (9, (21, 12, 8, 3, 15, [])), (12, (14, 15, 17, 2, 0, [])), (15, (0, 16, 0, 0, 0, [])), (16, (40, 17, 0, 0, 0, [])), (17, (3, 18, 0, 1, 1, [])), (18, (3, 19, 0, 1, 1, [])), (19, (21, 22, 8, 1, 22, [])), (22, (36, 25, 61, 2, 1, [(61, 0)])), (25, (0, 27, 0, 1, 59, [])), (27, (14, 30, 41, 0, 0, [])), (30, (3, 31, 0, 1, 1, [])), (31, (0, 32, 0, 0, 1, [])), (32, (3, 33, 0, 1, 1, [])), (33, (21, 36, 8, 1, 22, [])), (36, (36, 39, 62, 3, 1, [(64, 0)])), (39, (0, 40, 0, 0, 0, [])), (40, (40, 41, 0, 0, 0, [])), (41, (3, 42, 0, 1, 1, [])), (42, (11, 43, 0, 0, 0, [])), (43, (21, 46, 8, 1, 22, [])), (46, (0, 47, 0, 0, 1, [])), (47, (6, 48, 0, 0, 0, [])), (48, (22, 51, 8, 1, 22, [])), (51, (0, 52, 0, 0, 1, [])), (52, (40, 53, 0, 0, 0, []))]
/-- HearingDesk$Tape.readFrom()V -/
def k55 : List (Nat × Ins) := [(0, (3, 1, 0, 1, 1, [])), (1, (36, 4, 59, 1, 1, [(68, 0)])), (4, (4, 5, 1, 0, 0, [(1, 0)])), (5, (3, 6, 0, 1, 1, [])), (6, (43, 8, 71, 0, 0, [])), (8, (3, 9, 1, 0, 1, [])), (9, (36, 12, 60, 3, 1, [(73, 0)])), (12, (13, 15, 21, 1, 0, [])), (15, (3, 16, 0, 1, 1, [])), (16, (0, 17, 0, 0, 1, [])), (17, (3, 18, 1, 0, 1, [])), (18, (36, 21, 62, 3, 1, [(64, 0)])), (21, (38, 22, 0, 0, 0, []))]
/-- HearingDesk$Tape.readKind()I -/
def k56 : List (Nat × Ins) := [(0, (3, 1, 0, 1, 1, [])), (1, (36, 4, 59, 1, 1, [(68, 0)])), (4, (4, 5, 1, 0, 0, [(1, 0)])), (5, (0, 6, 0, 0, 0, [])), (6, (4, 7, 2, 0, 0, [(1, 0)])), (7, (3, 8, 2, 0, 1, [])), (8, (0, 10, 0, 1, 6, [])), (10, (14, 13, 33, 3, 0, [])), (13, (3, 14, 0, 1, 1, [])), (14, (3, 15, 2, 0, 1, [])), (15, (36, 18, 65, 1, 0, [(77, 0)])), (18, (3, 19, 1, 0, 1, [])), (19, (36, 22, 60, 3, 1, [(73, 0)])), (22, (13, 25, 27, 0, 0, [])), (25, (3, 26, 2, 0, 1, [])), (26, (39, 27, 0, 0, 0, [])), (27, (5, 30, 2, 0, 1, [])), (30, (18, 0, 7, 0, 0, [])), (33, (3, 34, 0, 1, 1, [])), (34, (0, 35, 0, 0, 1, [])), (35, (3, 36, 1, 0, 1, [])), (36, (36, 39, 62, 3, 1, [(64, 0)])), (39, (0, 40, 0, 0, (-1), [])), (40, (39, 41, 0, 0, 0, []))]
/-- HearingDesk$Tape.readNumber(II)I -/
def k57 : List (Nat × Ins) := [(0, (3, 1, 0, 1, 1, [])), (1, (36, 4, 58, 1, 1, [(28, 0)])), (4, (3, 5, 0, 1, 1, [])), (5, (21, 8, 8, 1, 22, [])), (8, (4, 9, 3, 0, 0, [(1, 0)])), (9, (0, 10, 0, 0, 0, [])), (10, (4, 12, 4, 0, 0, [(0, 0)])), (12, (3, 13, 0, 1, 1, [])), (13, (21, 16, 8, 1, 22, [])), (16, (3, 17, 0, 1, 1, [])), (17, (21, 20, 8, 3, 15, [])), (20, (14, 23, 79, 3, 0, [])), (23, (3, 24, 0, 1, 1, [])), (24, (3, 25, 0, 1, 1, [])), (25, (21, 28, 8, 1, 22, [])), (28, (36, 31, 61, 2, 1, [(61, 0)])), (31, (36, 34, 63, 1, 0, [(81, 0)])), (34, (13, 37, 79, 0, 0, [])), (37, (3, 38, 0, 1, 1, [])), (38, (21, 41, 8, 1, 22, [])), (41, (3, 42, 3, 0, 1, [])), (42, (6, 43, 0, 1, 0, [])), (43, (0, 44, 0, 0, 5, [])), (44, (14, 47, 66, 3, 0, [])), (47, (3, 49, 4, 0, 0, [])), (49, (0, 51, 0, 1, 10, [])), (51, (6, 52, 0, 2, 0, [])), (52, (3, 53, 0, 1, 1, [])), (53, (3, 54, 0, 1, 1, [])), (54, (21, 57, 8, 1, 22, [])), (57, (36, 60, 61, 2, 1, [(61, 0)])), (60, (6, 61, 0, 0, 0, [])), (61, (0, 63, 0, 1, 48, [])), (63, (6, 64, 0, 1, 0, [])), (64, (4, 66, 4, 0, 0, [(0, 0)])), (66, (3, 67, 0, 1, 1, [])), (67, (11, 68, 0, 0, 0, [])), (68, (21, 71, 8, 1, 22, [])), (71, (0, 72, 0, 0, 1, [])), (72, (6, 73, 0, 0, 0, [])), (73, (22, 76, 8, 1, 22, [])), (76, (18, 0, 12, 0, 0, [])), (79, (3, 80, 0, 1, 1, [])), (80, (21, 83, 8, 1, 22, [])), (83, (3, 84, 3, 0, 1, [])), (84, (14, 87, 96, 1, 0, [])), (87, (3, 88, 0, 1, 1, [])), (88, (0, 89, 0, 0, 1, [])), (89, (3, 90, 3, 0, 1, [])), (90, (36, 93, 62, 3, 1, [(64, 0)])), (93, (18, 0, 122, 0, 0, [])), (96, (3, 97, 0, 1, 1, [])), (97, (21, 100, 8, 1, 22, [])), (100, (3, 101, 3, 0, 1, [])), (101, (6, 102, 0, 1, 0, [])), (102, (0, 103, 0, 0, 5, [])), (103, (14, 106, 116, 4, 0, [])), (106, (3, 108, 4, 0, 0, [])), (108, (3, 109, 1, 0, 1, [])), (109, (3, 110, 2, 0, 1, [])), (110, (36, 113, 114, 3, 0, [(85, 1)])), (113, (13, 116, 122, 1, 0, [])), (116, (3, 117, 0, 1, 1, [])), (117, (0, 118, 0, 0, 2, [])), (118, (3, 119, 3, 0, 1, [])), (119, (36, 122, 62, 3, 1, [(64, 0)])), (122, (3, 124, 4, 0, 0, [])), (124, (39, 125, 0, 0, 0, []))]
/-- HearingDesk$Tape.skipBlanks()V -/
def k58 : List (Nat × Ins) := [(0, (3, 1, 0, 1, 1, [])), (1, (21, 4, 8, 1, 22, [])), (4, (3, 5, 0, 1, 1, [])), (5, (21, 8, 8, 3, 15, [])), (8, (14, 11, 37, 3, 0, [])), (11, (3, 12, 0, 1, 1, [])), (12, (3, 13, 0, 1, 1, [])), (13, (21, 16, 8, 1, 22, [])), (16, (36, 19, 61, 2, 1, [(61, 0)])), (19, (0, 21, 0, 1, 32, [])), (21, (14, 24, 37, 1, 0, [])), (24, (3, 25, 0, 1, 1, [])), (25, (11, 26, 0, 0, 0, [])), (26, (21, 29, 8, 1, 22, [])), (29, (0, 30, 0, 0, 1, [])), (30, (6, 31, 0, 0, 0, [])), (31, (22, 34, 8, 1, 22, [])), (34, (18, 0, 0, 0, 0, [])), (37, (38, 38, 0, 0, 0, []))]
/-- HearingDesk$Tape.passLetters()I -/
def k59 : List (Nat × Ins) := [(0, (3, 1, 0, 1, 1, [])), (1, (36, 4, 58, 1, 1, [(28, 0)])), (4, (3, 5, 0, 1, 1, [])), (5, (21, 8, 8, 1, 22, [])), (8, (4, 9, 1, 0, 0, [(1, 0)])), (9, (3, 10, 0, 1, 1, [])), (10, (21, 13, 8, 1, 22, [])), (13, (3, 14, 0, 1, 1, [])), (14, (21, 17, 8, 3, 15, [])), (17, (14, 20, 47, 3, 0, [])), (20, (3, 21, 0, 1, 1, [])), (21, (3, 22, 0, 1, 1, [])), (22, (21, 25, 8, 1, 22, [])), (25, (36, 28, 61, 2, 1, [(61, 0)])), (28, (36, 31, 64, 1, 0, [(89, 0)])), (31, (13, 34, 47, 0, 0, [])), (34, (3, 35, 0, 1, 1, [])), (35, (11, 36, 0, 0, 0, [])), (36, (21, 39, 8, 1, 22, [])), (39, (0, 40, 0, 0, 1, [])), (40, (6, 41, 0, 0, 0, [])), (41, (22, 44, 8, 1, 22, [])), (44, (18, 0, 9, 0, 0, [])), (47, (3, 48, 1, 0, 1, [])), (48, (39, 49, 0, 0, 0, []))]
/-- HearingDesk$Tape.isWord(Ljava/lang/String;I)Z -/
def k60 : List (Nat × Ins) := [(0, (3, 1, 0, 1, 1, [])), (1, (21, 4, 8, 1, 22, [])), (4, (3, 5, 2, 0, 1, [])), (5, (6, 6, 0, 1, 0, [])), (6, (3, 7, 1, 1, 1, [])), (7, (44, 10, 0, 0, 92, [])), (10, (14, 13, 15, 0, 0, [])), (13, (0, 14, 0, 0, 0, [])), (14, (40, 15, 0, 0, 0, [])), (15, (0, 16, 0, 0, 0, [])), (16, (4, 17, 3, 0, 0, [(1, 0)])), (17, (3, 18, 3, 0, 1, [])), (18, (3, 19, 1, 1, 1, [])), (19, (44, 22, 0, 0, 92, [])), (22, (14, 25, 48, 3, 0, [])), (25, (3, 26, 0, 1, 1, [])), (26, (3, 27, 2, 0, 1, [])), (27, (3, 28, 3, 0, 1, [])), (28, (6, 29, 0, 0, 0, [])), (29, (36, 32, 61, 2, 1, [(61, 0)])), (32, (3, 33, 1, 1, 1, [])), (33, (3, 34, 3, 0, 1, [])), (34, (45, 37, 0, 0, 97, [])), (37, (14, 40, 42, 0, 0, [])), (40, (0, 41, 0, 0, 0, [])), (41, (40, 42, 0, 0, 0, [])), (42, (5, 45, 3, 0, 1, [])), (45, (18, 0, 17, 0, 0, [])), (48, (0, 49, 0, 0, 1, [])), (49, (40, 50, 0, 0, 0, []))]
/-- HearingDesk$Tape.byteAt(I)I -/
def k61 : List (Nat × Ins) := [(0, (3, 1, 1, 0, 1, [])), (1, (13, 4, 32, 2, 0, [])), (4, (3, 5, 1, 0, 1, [])), (5, (3, 6, 0, 1, 1, [])), (6, (21, 9, 8, 3, 15, [])), (9, (14, 12, 32, 3, 0, [])), (12, (3, 13, 1, 0, 1, [])), (13, (0, 16, 0, 2, 600, [])), (16, (14, 19, 32, 3, 0, [])), (19, (3, 20, 0, 1, 1, [])), (20, (21, 23, 8, 0, 9, [])), (23, (3, 24, 1, 0, 1, [])), (24, (24, 25, 51, 0, 0, [])), (25, (0, 28, 0, 2, 255, [])), (28, (6, 29, 0, 3, 0, [])), (29, (18, 0, 33, 0, 0, [])), (32, (0, 33, 0, 0, (-1), [])), (33, (39, 34, 0, 0, 0, []))]
/-- HearingDesk$Tape.blame(II)V -/
def k62 : List (Nat × Ins) := [(0, (3, 1, 0, 1, 1, [])), (1, (21, 4, 8, 2, 25, [])), (4, (13, 7, 16, 1, 0, [])), (7, (3, 8, 0, 1, 1, [])), (8, (3, 9, 1, 0, 1, [])), (9, (0, 10, 0, 0, 4, [])), (10, (3, 11, 2, 0, 1, [])), (11, (6, 12, 0, 2, 0, [])), (12, (6, 13, 0, 0, 0, [])), (13, (22, 16, 8, 2, 25, [])), (16, (38, 17, 0, 0, 0, []))]
/-- HearingDesk$Tape.isDigit(I)Z -/
def k63 : List (Nat × Ins) := [(0, (3, 1, 0, 0, 1, [])), (1, (0, 3, 0, 1, 48, [])), (3, (0, 5, 0, 1, 57, [])), (5, (36, 8, 114, 3, 0, [(85, 1)])), (8, (40, 9, 0, 0, 0, []))]
/-- HearingDesk$Tape.isLetter(I)Z -/
def k64 : List (Nat × Ins) := [(0, (3, 1, 0, 0, 1, [])), (1, (0, 3, 0, 1, 97, [])), (3, (0, 5, 0, 1, 122, [])), (5, (36, 8, 114, 3, 0, [(85, 1)])), (8, (40, 9, 0, 0, 0, []))]
/-- HearingDesk$Tape.wordOf(I)Ljava/lang/String; -/
def k65 : List (Nat × Ins) := [(0, (3, 1, 0, 0, 1, [])), (1, (19, 36, 51, 0, 0, [(0, 36), (1, 39), (2, 42), (3, 45), (4, 48)])), (36, (43, 38, 101, 0, 1, [])), (38, (42, 39, 0, 0, 0, [])), (39, (43, 41, 103, 0, 2, [])), (41, (42, 42, 0, 0, 0, [])), (42, (43, 44, 105, 0, 3, [])), (44, (42, 45, 0, 0, 0, [])), (45, (43, 47, 107, 0, 4, [])), (47, (42, 48, 0, 0, 0, [])), (48, (43, 50, 109, 0, 5, [])), (50, (42, 51, 0, 0, 0, [])), (51, (43, 53, 111, 0, 6, [])), (53, (42, 54, 0, 0, 0, []))]
/-- HearingDesk$Tape.lowest(I)I -/
def k66 : List (Nat × Ins) := [(0, (3, 1, 0, 0, 1, [])), (1, (0, 2, 0, 0, 2, [])), (2, (14, 5, 10, 0, 0, [])), (5, (3, 6, 0, 0, 1, [])), (6, (0, 7, 0, 0, 3, [])), (7, (14, 10, 15, 1, 0, [])), (10, (0, 12, 0, 1, 50, [])), (12, (18, 0, 16, 0, 0, [])), (15, (0, 16, 0, 0, 0, [])), (16, (39, 17, 0, 0, 0, []))]
/-- HearingDesk$Tape.highest(I)I -/
def k67 : List (Nat × Ins) := [(0, (3, 1, 0, 0, 1, [])), (1, (19, 36, 51, 0, 0, [(0, 36), (1, 40), (2, 43), (3, 43), (4, 47)])), (36, (0, 39, 0, 2, 480, [])), (39, (39, 40, 0, 0, 0, [])), (40, (0, 42, 0, 1, 100, [])), (42, (39, 43, 0, 0, 0, [])), (43, (0, 46, 0, 2, 300, [])), (46, (39, 47, 0, 0, 0, [])), (47, (0, 50, 0, 2, 5000, [])), (50, (39, 51, 0, 0, 0, [])), (51, (0, 54, 0, 2, 1000, [])), (54, (39, 55, 0, 0, 0, []))]
/-- HearingDesk$Teams.<init>()V -/
def k68 : List (Nat × Ins) := [(0, (3, 1, 0, 1, 1, [])), (1, (37, 4, 0, 0, 3, [])), (4, (3, 5, 0, 1, 1, [])), (5, (0, 7, 0, 1, 20, [])), (7, (34, 9, 50, 0, 0, [])), (9, (22, 12, 9, 0, 9, [])), (12, (3, 13, 0, 1, 1, [])), (13, (0, 15, 0, 1, 20, [])), (15, (34, 17, 50, 0, 0, [])), (17, (22, 20, 9, 1, 15, [])), (20, (3, 21, 0, 1, 1, [])), (21, (0, 23, 0, 1, 20, [])), (23, (34, 25, 50, 0, 0, [])), (25, (22, 28, 9, 2, 18, [])), (28, (3, 29, 0, 1, 1, [])), (29, (0, 31, 0, 1, 50, [])), (31, (34, 33, 52, 0, 0, [])), (33, (22, 36, 9, 3, 21, [])), (36, (38, 37, 0, 0, 0, []))]
/-- HearingDesk$Teams.find(LHearingDesk$Hearing;LHearingDesk$People;LHearingDesk$Papers;)V -/
def k69 : List (Nat × Ins) := [(0, (3, 1, 0, 1, 1, [])), (1, (0, 2, 0, 0, 0, [])), (2, (22, 5, 9, 4, 25, [])), (5, (0, 6, 0, 0, 0, [])), (6, (4, 8, 4, 0, 0, [(0, 0)])), (8, (3, 10, 4, 0, 0, [])), (10, (0, 11, 0, 0, 5, [])), (11, (14, 14, 29, 3, 0, [])), (14, (3, 15, 0, 1, 1, [])), (15, (3, 17, 4, 0, 0, [])), (17, (3, 18, 1, 1, 1, [])), (18, (3, 19, 2, 1, 1, [])), (19, (3, 20, 3, 1, 1, [])), (20, (36, 23, 74, 5, 1, [(29, 0)])), (23, (5, 26, 4, 0, 1, [])), (26, (18, 0, 8, 0, 0, [])), (29, (3, 30, 1, 1, 1, [])), (30, (36, 33, 19, 1, 1, [(33, 0)])), (33, (13, 36, 45, 0, 0, [])), (36, (3, 37, 0, 1, 1, [])), (37, (3, 38, 1, 1, 1, [])), (38, (21, 41, 3, 3, 39, [])), (41, (36, 44, 76, 2, 1, [(42, 0)])), (44, (38, 45, 0, 0, 0, [])), (45, (3, 46, 0, 1, 1, [])), (46, (3, 47, 1, 1, 1, [])), (47, (21, 50, 3, 3, 39, [])), (50, (36, 53, 77, 2, 1, [(46, 0)])), (53, (3, 54, 0, 1, 1, [])), (54, (21, 57, 9, 4, 25, [])), (57, (13, 60, 68, 1, 0, [])), (60, (3, 61, 0, 1, 1, [])), (61, (3, 62, 1, 1, 1, [])), (62, (21, 65, 3, 3, 39, [])), (65, (36, 68, 78, 2, 1, [(49, 0)])), (68, (38, 69, 0, 0, 0, []))]
/-- HearingDesk$Teams.firstOf(I)I -/
def k70 : List (Nat × Ins) := [(0, (3, 1, 0, 1, 1, [])), (1, (3, 2, 1, 0, 1, [])), (2, (36, 5, 73, 2, 1, [(52, 0)])), (5, (13, 8, 17, 0, 0, [])), (8, (3, 9, 0, 1, 1, [])), (9, (21, 12, 9, 0, 9, [])), (12, (3, 13, 1, 0, 1, [])), (13, (24, 14, 50, 0, 0, [])), (14, (18, 0, 18, 0, 0, [])), (17, (0, 18, 0, 0, (-1), [])), (18, (39, 19, 0, 0, 0, []))]
/-- HearingDesk$Teams.secondOf(I)I -/
def k71 : List (Nat × Ins) := [(0, (3, 1, 0, 1, 1, [])), (1, (3, 2, 1, 0, 1, [])), (2, (36, 5, 73, 2, 1, [(52, 0)])), (5, (13, 8, 17, 0, 0, [])), (8, (3, 9, 0, 1, 1, [])), (9, (21, 12, 9, 1, 15, [])), (12, (3, 13, 1, 0, 1, [])), (13, (24, 14, 50, 0, 0, [])), (14, (18, 0, 18, 0, 0, [])), (17, (0, 18, 0, 0, (-1), [])), (18, (39, 19, 0, 0, 0, []))]
/-- HearingDesk$Teams.relayOf(I)I -/
def k72 : List (Nat × Ins) := [(0, (3, 1, 0, 1, 1, [])), (1, (3, 2, 1, 0, 1, [])), (2, (36, 5, 73, 2, 1, [(52, 0)])), (5, (13, 8, 17, 0, 0, [])), (8, (3, 9, 0, 1, 1, [])), (9, (21, 12, 9, 2, 18, [])), (12, (3, 13, 1, 0, 1, [])), (13, (24, 14, 50, 0, 0, [])), (14, (18, 0, 18, 0, 0, [])), (17, (0, 18, 0, 0, (-1), [])), (18, (39, 19, 0, 0, 0, []))]
/-- HearingDesk$Teams.has(I)Z -/
def k73 : List (Nat × Ins) := [(0, (3, 1, 1, 0, 1, [])), (1, (13, 4, 22, 2, 0, [])), (4, (3, 5, 1, 0, 1, [])), (5, (3, 6, 0, 1, 1, [])), (6, (21, 9, 9, 4, 25, [])), (9, (14, 12, 22, 3, 0, [])), (12, (3, 13, 1, 0, 1, [])), (13, (0, 15, 0, 1, 20, [])), (15, (14, 18, 22, 3, 0, [])), (18, (0, 19, 0, 0, 1, [])), (19, (18, 0, 23, 0, 0, [])), (22, (0, 23, 0, 0, 0, [])), (23, (40, 24, 0, 0, 0, []))]
/-- HearingDesk$Teams.markAble(ILHearingDesk$Hearing;LHearingDesk$People;LHearingDesk$Papers;)V -/
def k74 : List (Nat × Ins) := [(0, (3, 1, 3, 1, 1, [])), (1, (3, 2, 1, 0, 1, [])), (2, (36, 5, 34, 2, 1, [(56, 0)])), (5, (13, 8, 24, 0, 0, [])), (8, (3, 9, 3, 1, 1, [])), (9, (3, 10, 1, 0, 1, [])), (10, (3, 11, 2, 1, 1, [])), (11, (21, 14, 3, 0, 59, [])), (14, (36, 17, 37, 3, 1, [(62, 0)])), (17, (13, 20, 24, 1, 0, [])), (20, (0, 21, 0, 0, 1, [])), (21, (18, 0, 25, 0, 0, [])), (24, (0, 25, 0, 0, 0, [])), (25, (4, 27, 5, 0, 0, [(0, 0)])), (27, (3, 29, 4, 1, 0, [])), (29, (3, 30, 1, 0, 1, [])), (30, (3, 31, 2, 1, 1, [])), (31, (21, 34, 3, 5, 66, [])), (34, (36, 37, 32, 3, 1, [(69, 0)])), (37, (4, 39, 6, 1, 0, [(0, 0)])), (39, (0, 40, 0, 0, 0, [])), (40, (4, 42, 7, 0, 0, [(0, 0)])), (42, (3, 44, 7, 0, 0, [])), (44, (0, 46, 0, 1, 10, [])), (46, (14, 49, 89, 3, 0, [])), (49, (3, 50, 0, 1, 1, [])), (50, (21, 53, 9, 3, 21, [])), (53, (3, 54, 1, 0, 1, [])), (54, (0, 56, 0, 1, 10, [])), (56, (6, 57, 0, 2, 0, [])), (57, (3, 59, 7, 0, 0, [])), (59, (6, 60, 0, 0, 0, [])), (60, (3, 62, 5, 0, 0, [])), (62, (13, 65, 81, 0, 0, [])), (65, (3, 67, 6, 1, 0, [])), (67, (3, 69, 7, 0, 0, [])), (69, (24, 70, 50, 0, 0, [])), (70, (3, 71, 2, 1, 1, [])), (71, (21, 74, 3, 4, 75, [])), (74, (14, 77, 81, 2, 0, [])), (77, (0, 78, 0, 0, 1, [])), (78, (18, 0, 82, 0, 0, [])), (81, (0, 82, 0, 0, 0, [])), (82, (30, 83, 0, 0, 0, [])), (83, (5, 86, 7, 0, 1, [])), (86, (18, 0, 42, 0, 0, [])), (89, (38, 90, 0, 0, 0, []))]
/-- HearingDesk$Teams.isAble(III)Z -/
def k75 : List (Nat × Ins) := [(0, (3, 1, 0, 1, 1, [])), (1, (21, 4, 9, 3, 21, [])), (4, (3, 5, 1, 0, 1, [])), (5, (0, 7, 0, 1, 10, [])), (7, (6, 8, 0, 2, 0, [])), (8, (3, 9, 2, 0, 1, [])), (9, (6, 10, 0, 0, 0, [])), (10, (24, 11, 52, 0, 0, [])), (11, (13, 14, 32, 0, 0, [])), (14, (3, 15, 0, 1, 1, [])), (15, (21, 18, 9, 3, 21, [])), (18, (3, 19, 1, 0, 1, [])), (19, (0, 21, 0, 1, 10, [])), (21, (6, 22, 0, 2, 0, [])), (22, (3, 23, 3, 0, 1, [])), (23, (6, 24, 0, 0, 0, [])), (24, (24, 25, 52, 0, 0, [])), (25, (13, 28, 32, 0, 0, [])), (28, (0, 29, 0, 0, 1, [])), (29, (18, 0, 33, 0, 0, [])), (32, (0, 33, 0, 0, 0, [])), (33, (40, 34, 0, 0, 0, []))]
/-- HearingDesk$Teams.addPairs(I)V -/
def k76 : List (Nat × Ins) := [(0, (0, 1, 0, 0, 0, [])), (1, (4, 2, 2, 0, 0, [(1, 0)])), (2, (3, 3, 2, 0, 1, [])), (3, (0, 4, 0, 0, 5, [])), (4, (14, 7, 55, 3, 0, [])), (7, (3, 8, 2, 0, 1, [])), (8, (0, 9, 0, 0, 1, [])), (9, (6, 10, 0, 0, 0, [])), (10, (4, 11, 3, 0, 0, [(1, 0)])), (11, (3, 12, 3, 0, 1, [])), (12, (0, 13, 0, 0, 5, [])), (13, (14, 16, 49, 3, 0, [])), (16, (3, 17, 0, 1, 1, [])), (17, (3, 18, 2, 0, 1, [])), (18, (0, 19, 0, 0, 0, [])), (19, (3, 20, 1, 0, 1, [])), (20, (36, 23, 75, 4, 1, [(78, 0)])), (23, (13, 26, 43, 0, 0, [])), (26, (3, 27, 0, 1, 1, [])), (27, (3, 28, 3, 0, 1, [])), (28, (0, 29, 0, 0, 0, [])), (29, (3, 30, 1, 0, 1, [])), (30, (36, 33, 75, 4, 1, [(78, 0)])), (33, (13, 36, 43, 0, 0, [])), (36, (3, 37, 0, 1, 1, [])), (37, (3, 38, 2, 0, 1, [])), (38, (3, 39, 3, 0, 1, [])), (39, (0, 40, 0, 0, (-1), [])), (40, (36, 43, 80, 4, 1, [(82, 0)])), (43, (5, 46, 3, 0, 1, [])), (46, (18, 0, 11, 0, 0, [])), (49, (5, 52, 2, 0, 1, [])), (52, (18, 0, 2, 0, 0, [])), (55, (38, 56, 0, 0, 0, []))]
/-- HearingDesk$Teams.addSingles(I)V -/
def k77 : List (Nat × Ins) := [(0, (0, 1, 0, 0, 0, [])), (1, (4, 2, 2, 0, 0, [(1, 0)])), (2, (3, 3, 2, 0, 1, [])), (3, (0, 4, 0, 0, 5, [])), (4, (14, 7, 30, 3, 0, [])), (7, (3, 8, 0, 1, 1, [])), (8, (3, 9, 2, 0, 1, [])), (9, (0, 10, 0, 0, 0, [])), (10, (3, 11, 1, 0, 1, [])), (11, (36, 14, 75, 4, 1, [(78, 0)])), (14, (13, 17, 24, 0, 0, [])), (17, (3, 18, 0, 1, 1, [])), (18, (3, 19, 2, 0, 1, [])), (19, (0, 20, 0, 0, (-1), [])), (20, (0, 21, 0, 0, (-1), [])), (21, (36, 24, 80, 4, 1, [(82, 0)])), (24, (5, 27, 2, 0, 1, [])), (27, (18, 0, 2, 0, 0, [])), (30, (38, 31, 0, 0, 0, []))]
/-- HearingDesk$Teams.addRelays(I)V -/
def k78 : List (Nat × Ins) := [(0, (0, 1, 0, 0, 0, [])), (1, (4, 2, 2, 0, 0, [(1, 0)])), (2, (3, 3, 2, 0, 1, [])), (3, (0, 4, 0, 0, 5, [])), (4, (14, 7, 58, 3, 0, [])), (7, (0, 8, 0, 0, 0, [])), (8, (4, 9, 3, 0, 0, [(1, 0)])), (9, (3, 10, 3, 0, 1, [])), (10, (0, 11, 0, 0, 5, [])), (11, (14, 14, 52, 3, 0, [])), (14, (3, 15, 2, 0, 1, [])), (15, (3, 16, 3, 0, 1, [])), (16, (14, 19, 23, 1, 0, [])), (19, (0, 20, 0, 0, (-1), [])), (20, (18, 0, 30, 0, 0, [])), (23, (3, 24, 0, 1, 1, [])), (24, (3, 25, 2, 0, 1, [])), (25, (3, 26, 3, 0, 1, [])), (26, (3, 27, 1, 0, 1, [])), (27, (36, 30, 79, 4, 1, [(86, 0)])), (30, (4, 32, 4, 0, 0, [(0, 0)])), (32, (3, 34, 4, 0, 0, [])), (34, (0, 35, 0, 0, (-1), [])), (35, (14, 38, 46, 0, 0, [])), (38, (3, 39, 0, 1, 1, [])), (39, (3, 40, 2, 0, 1, [])), (40, (3, 41, 3, 0, 1, [])), (41, (3, 43, 4, 0, 0, [])), (43, (36, 46, 80, 4, 1, [(82, 0)])), (46, (5, 49, 3, 0, 1, [])), (49, (18, 0, 9, 0, 0, [])), (52, (5, 55, 2, 0, 1, [])), (55, (18, 0, 2, 0, 0, [])), (58, (38, 59, 0, 0, 0, []))]
/-- HearingDesk$Teams.relayTongue(III)I -/
def k79 : List (Nat × Ins) := [(0, (0, 1, 0, 0, 1, [])), (1, (4, 3, 4, 0, 0, [(0, 0)])), (3, (3, 5, 4, 0, 0, [])), (5, (0, 7, 0, 1, 10, [])), (7, (14, 10, 47, 3, 0, [])), (10, (3, 12, 4, 0, 0, [])), (12, (3, 13, 3, 0, 1, [])), (13, (14, 16, 41, 0, 0, [])), (16, (3, 17, 0, 1, 1, [])), (17, (3, 18, 1, 0, 1, [])), (18, (0, 19, 0, 0, 0, [])), (19, (3, 21, 4, 0, 0, [])), (21, (36, 24, 75, 4, 1, [(78, 0)])), (24, (13, 27, 41, 0, 0, [])), (27, (3, 28, 0, 1, 1, [])), (28, (3, 29, 2, 0, 1, [])), (29, (3, 31, 4, 0, 0, [])), (31, (3, 32, 3, 0, 1, [])), (32, (36, 35, 75, 4, 1, [(78, 0)])), (35, (13, 38, 41, 0, 0, [])), (38, (3, 40, 4, 0, 0, [])), (40, (39, 41, 0, 0, 0, [])), (41, (5, 44, 4, 0, 1, [])), (44, (18, 0, 3, 0, 0, [])), (47, (0, 48, 0, 0, (-1), [])), (48, (39, 49, 0, 0, 0, []))]
/-- HearingDesk$Teams.add(III)V -/
def k80 : List (Nat × Ins) := [(0, (3, 1, 0, 1, 1, [])), (1, (21, 4, 9, 4, 25, [])), (4, (0, 6, 0, 1, 20, [])), (6, (14, 9, 49, 3, 0, [])), (9, (3, 10, 0, 1, 1, [])), (10, (21, 13, 9, 0, 9, [])), (13, (3, 14, 0, 1, 1, [])), (14, (21, 17, 9, 4, 25, [])), (17, (3, 18, 1, 0, 1, [])), (18, (28, 19, 0, 0, 0, [])), (19, (3, 20, 0, 1, 1, [])), (20, (21, 23, 9, 1, 15, [])), (23, (3, 24, 0, 1, 1, [])), (24, (21, 27, 9, 4, 25, [])), (27, (3, 28, 2, 0, 1, [])), (28, (28, 29, 0, 0, 0, [])), (29, (3, 30, 0, 1, 1, [])), (30, (21, 33, 9, 2, 18, [])), (33, (3, 34, 0, 1, 1, [])), (34, (21, 37, 9, 4, 25, [])), (37, (3, 38, 3, 0, 1, [])), (38, (28, 39, 0, 0, 0, [])), (39, (3, 40, 0, 1, 1, [])), (40, (11, 41, 0, 0, 0, [])), (41, (21, 44, 9, 4, 25, [])), (44, (0, 45, 0, 0, 1, [])), (45, (6, 46, 0, 0, 0, [])), (46, (22, 49, 9, 4, 25, [])), (49, (38, 50, 0, 0, 0, []))]
/-- HearingDesk$Travel.<init>()V -/
def k81 : List (Nat × Ins) := [(0, (3, 1, 0, 1, 1, [])), (1, (37, 4, 0, 0, 3, [])), (4, (3, 5, 0, 1, 1, [])), (5, (0, 7, 0, 1, 36, [])), (7, (34, 9, 50, 0, 0, [])), (9, (22, 12, 10, 0, 9, [])), (12, (0, 13, 0, 0, 0, [])), (13, (4, 14, 1, 0, 0, [(1, 0)])), (14, (3, 15, 1, 0, 1, [])), (15, (0, 17, 0, 1, 36, [])), (17, (14, 20, 49, 3, 0, [])), (20, (3, 21, 0, 1, 1, [])), (21, (21, 24, 10, 0, 9, [])), (24, (3, 25, 1, 0, 1, [])), (25, (3, 26, 1, 0, 1, [])), (26, (0, 28, 0, 1, 6, [])), (28, (6, 29, 0, 7, 0, [])), (29, (3, 30, 1, 0, 1, [])), (30, (0, 32, 0, 1, 6, [])), (32, (6, 33, 0, 8, 0, [])), (33, (14, 36, 40, 1, 0, [])), (36, (0, 37, 0, 0, 0, [])), (37, (18, 0, 42, 0, 0, [])), (40, (0, 42, 0, 1, 60, [])), (42, (28, 43, 0, 0, 0, [])), (43, (5, 46, 1, 0, 1, [])), (46, (18, 0, 14, 0, 0, [])), (49, (3, 50, 0, 1, 1, [])), (50, (0, 52, 0, 1, 30, [])), (52, (22, 55, 10, 1, 15, [])), (55, (38, 56, 0, 0, 0, []))]
/-- HearingDesk$Travel.between(II)I -/
def k82 : List (Nat × Ins) := [(0, (3, 1, 1, 0, 1, [])), (1, (36, 4, 116, 1, 0, [(19, 1)])), (4, (13, 7, 28, 0, 0, [])), (7, (3, 8, 2, 0, 1, [])), (8, (36, 11, 116, 1, 0, [(19, 1)])), (11, (13, 14, 28, 0, 0, [])), (14, (3, 15, 0, 1, 1, [])), (15, (21, 18, 10, 0, 9, [])), (18, (3, 19, 1, 0, 1, [])), (19, (0, 21, 0, 1, 6, [])), (21, (6, 22, 0, 2, 0, [])), (22, (3, 23, 2, 0, 1, [])), (23, (6, 24, 0, 0, 0, [])), (24, (24, 25, 50, 0, 0, [])), (25, (18, 0, 29, 0, 0, [])), (28, (0, 29, 0, 0, 0, [])), (29, (39, 30, 0, 0, 0, []))]
/-- HearingDesk$Travel.setWay(III)V -/
def k83 : List (Nat × Ins) := [(0, (3, 1, 1, 0, 1, [])), (1, (36, 4, 116, 1, 0, [(19, 1)])), (4, (13, 7, 38, 0, 0, [])), (7, (3, 8, 2, 0, 1, [])), (8, (36, 11, 116, 1, 0, [(19, 1)])), (11, (13, 14, 38, 0, 0, [])), (14, (3, 15, 0, 1, 1, [])), (15, (21, 18, 10, 0, 9, [])), (18, (3, 19, 1, 0, 1, [])), (19, (0, 21, 0, 1, 6, [])), (21, (6, 22, 0, 2, 0, [])), (22, (3, 23, 2, 0, 1, [])), (23, (6, 24, 0, 0, 0, [])), (24, (3, 25, 3, 0, 1, [])), (25, (28, 26, 0, 0, 0, [])), (26, (3, 27, 0, 1, 1, [])), (27, (21, 30, 10, 0, 9, [])), (30, (3, 31, 2, 0, 1, [])), (31, (0, 33, 0, 1, 6, [])), (33, (6, 34, 0, 2, 0, [])), (34, (3, 35, 1, 0, 1, [])), (35, (6, 36, 0, 0, 0, [])), (36, (3, 37, 3, 0, 1, [])), (37, (28, 38, 0, 0, 0, [])), (38, (38, 39, 0, 0, 0, []))]
/-- HearingDesk$Travel.allows(LHearingDesk$Hearing;LHearingDesk$Hearing;)Z -/
def k84 : List (Nat × Ins) := [(0, (3, 1, 2, 1, 1, [])), (1, (21, 4, 3, 6, 23, [])), (4, (3, 5, 1, 1, 1, [])), (5, (21, 8, 3, 6, 23, [])), (8, (3, 9, 1, 1, 1, [])), (9, (21, 12, 3, 1, 28, [])), (12, (6, 13, 0, 0, 0, [])), (13, (6, 14, 0, 1, 0, [])), (14, (4, 15, 3, 0, 0, [(1, 0)])), (15, (3, 16, 3, 0, 1, [])), (16, (3, 17, 0, 1, 1, [])), (17, (21, 20, 10, 1, 15, [])), (20, (14, 23, 43, 2, 0, [])), (23, (3, 24, 3, 0, 1, [])), (24, (3, 25, 0, 1, 1, [])), (25, (3, 26, 1, 1, 1, [])), (26, (21, 29, 3, 2, 31, [])), (29, (3, 30, 2, 1, 1, [])), (30, (21, 33, 3, 2, 31, [])), (33, (36, 36, 82, 3, 1, [(34, 0)])), (36, (14, 39, 43, 2, 0, [])), (39, (0, 40, 0, 0, 1, [])), (40, (18, 0, 44, 0, 0, [])), (43, (0, 44, 0, 0, 0, [])), (44, (40, 45, 0, 0, 0, []))]
/-- HearingDesk.<init>()V -/
def k85 : List (Nat × Ins) := [(0, (3, 1, 0, 1, 1, [])), (1, (37, 4, 0, 0, 3, [])), (4, (3, 5, 0, 1, 1, [])), (5, (33, 8, 10, 0, 9, [])), (8, (11, 9, 0, 0, 0, [])), (9, (36, 12, 81, 1, 2, [(11, 0)])), (12, (22, 15, 11, 0, 12, [])), (15, (3, 16, 0, 1, 1, [])), (16, (33, 19, 6, 0, 16, [])), (19, (11, 20, 0, 0, 0, [])), (20, (36, 23, 33, 1, 2, [(18, 0)])), (23, (22, 26, 11, 1, 19, [])), (26, (3, 27, 0, 1, 1, [])), (27, (33, 30, 5, 0, 23, [])), (30, (11, 31, 0, 0, 0, [])), (31, (36, 34, 29, 1, 2, [(25, 0)])), (34, (22, 37, 11, 2, 26, [])), (37, (3, 38, 0, 1, 1, [])), (38, (33, 41, 1, 0, 30, [])), (41, (11, 42, 0, 0, 0, [])), (42, (36, 45, 8, 1, 2, [(32, 0)])), (45, (22, 48, 11, 3, 33, [])), (48, (3, 49, 0, 1, 1, [])), (49, (33, 52, 9, 0, 37, [])), (52, (11, 53, 0, 0, 0, [])), (53, (36, 56, 68, 1, 2, [(39, 0)])), (56, (22, 59, 11, 4, 40, [])), (59, (3, 60, 0, 1, 1, [])), (60, (33, 63, 0, 0, 44, [])), (63, (11, 64, 0, 0, 0, [])), (64, (36, 67, 0, 1, 2, [(46, 0)])), (67, (22, 70, 11, 5, 47, [])), (70, (3, 71, 0, 1, 1, [])), (71, (33, 74, 7, 0, 51, [])), (74, (11, 75, 0, 0, 0, [])), (75, (3, 76, 0, 1, 1, [])), (76, (21, 79, 11, 5, 47, [])), (79, (36, 82, 39, 2, 2, [(53, 0)])), (82, (22, 85, 11, 6, 56, [])), (85, (3, 86, 0, 1, 1, [])), (86, (33, 89, 8, 0, 60, [])), (89, (11, 90, 0, 0, 0, [])), (90, (36, 93, 49, 1, 2, [(62, 0)])), (93, (22, 96, 11, 7, 63, [])), (96, (3, 97, 0, 1, 1, [])), (97, (33, 100, 4, 0, 67, [])), (100, (11, 101, 0, 0, 0, [])), (101, (36, 104, 23, 1, 2, [(69, 0)])), (104, (22, 107, 11, 8, 70, [])), (107, (3, 108, 0, 1, 1, [])), (108, (33, 111, 2, 0, 74, [])), (111, (11, 112, 0, 0, 0, [])), (112, (36, 115, 14, 1, 2, [(76, 0)])), (115, (22, 118, 11, 9, 77, [])), (118, (3, 119, 0, 1, 1, [])), (119, (33, 122, 2, 0, 74, [])), (122, (11, 123, 0, 0, 0, [])), (123, (36, 126, 14, 1, 2, [(76, 0)])), (126, (22, 129, 11, 10, 81, [])), (129, (38, 130, 0, 0, 0, []))]
/-- HearingDesk.way(III)I -/
def k86 : List (Nat × Ins) := [(0, (3, 1, 1, 0, 1, [])), (1, (36, 4, 116, 1, 0, [(84, 0)])), (4, (13, 7, 30, 0, 0, [])), (7, (3, 8, 2, 0, 1, [])), (8, (36, 11, 116, 1, 0, [(84, 0)])), (11, (13, 14, 30, 0, 0, [])), (14, (3, 15, 1, 0, 1, [])), (15, (3, 16, 2, 0, 1, [])), (16, (14, 19, 30, 0, 0, [])), (19, (3, 20, 3, 0, 1, [])), (20, (0, 21, 0, 0, 0, [])), (21, (0, 24, 0, 2, 300, [])), (24, (36, 27, 114, 3, 0, [(88, 0)])), (27, (13, 30, 32, 1, 0, [])), (30, (0, 31, 0, 0, (-1), [])), (31, (39, 32, 0, 0, 0, [])), (32, (3, 33, 0, 1, 1, [])), (33, (21, 36, 11, 0, 12, [])), (36, (3, 37, 1, 0, 1, [])), (37, (3, 38, 2, 0, 1, [])), (38, (36, 41, 82, 3, 1, [(92, 0)])), (41, (4, 43, 4, 0, 0, [(0, 0)])), (43, (3, 44, 0, 1, 1, [])), (44, (21, 47, 11, 0, 12, [])), (47, (3, 48, 1, 0, 1, [])), (48, (3, 49, 2, 0, 1, [])), (49, (3, 50, 3, 0, 1, [])), (50, (36, 53, 83, 4, 1, [(96, 0)])), (53, (3, 55, 4, 0, 0, [])), (55, (39, 56, 0, 0, 0, []))]
/-- HearingDesk.dialect(II)Z -/
def k87 : List (Nat × Ins) := [(0, (3, 1, 1, 0, 1, [])), (1, (0, 2, 0, 0, 2, [])), (2, (0, 4, 0, 1, 9, [])), (4, (36, 7, 114, 3, 0, [(88, 0)])), (7, (13, 10, 21, 0, 0, [])), (10, (3, 11, 2, 0, 1, [])), (11, (0, 12, 0, 0, 0, [])), (12, (3, 13, 1, 0, 1, [])), (13, (0, 14, 0, 0, 1, [])), (14, (6, 15, 0, 1, 0, [])), (15, (36, 18, 114, 3, 0, [(88, 0)])), (18, (13, 21, 23, 1, 0, [])), (21, (0, 22, 0, 0, 0, [])), (22, (40, 23, 0, 0, 0, [])), (23, (3, 24, 0, 1, 1, [])), (24, (21, 27, 11, 2, 26, [])), (27, (21, 30, 5, 0, 100, [])), (30, (3, 31, 1, 0, 1, [])), (31, (3, 32, 2, 0, 1, [])), (32, (28, 33, 0, 0, 0, [])), (33, (0, 34, 0, 0, 1, [])), (34, (40, 35, 0, 0, 0, []))]
/-- HearingDesk.person(I)I -/
def k88 : List (Nat × Ins) := [(0, (3, 1, 1, 0, 1, [])), (1, (36, 4, 116, 1, 0, [(84, 0)])), (4, (13, 7, 18, 0, 0, [])), (7, (3, 8, 0, 1, 1, [])), (8, (21, 11, 11, 1, 19, [])), (11, (3, 12, 1, 0, 1, [])), (12, (36, 15, 35, 2, 1, [(104, 0)])), (15, (18, 0, 19, 0, 0, [])), (18, (0, 19, 0, 0, (-1), [])), (19, (39, 20, 0, 0, 0, []))]
/-- HearingDesk.paper(IIIII)I -/
def k89 : List (Nat × Ins) := [(0, (3, 1, 0, 1, 1, [])), (1, (21, 4, 11, 1, 19, [])), (4, (3, 5, 1, 0, 1, [])), (5, (36, 8, 34, 2, 1, [(108, 0)])), (8, (13, 11, 52, 0, 0, [])), (11, (3, 12, 2, 0, 1, [])), (12, (36, 15, 117, 1, 0, [(111, 0)])), (15, (13, 18, 52, 0, 0, [])), (18, (3, 19, 3, 0, 1, [])), (19, (36, 22, 118, 1, 0, [(114, 0)])), (22, (13, 25, 52, 0, 0, [])), (25, (3, 27, 4, 0, 0, [])), (27, (36, 30, 115, 1, 0, [(117, 0)])), (30, (13, 33, 52, 0, 0, [])), (33, (3, 35, 5, 0, 0, [])), (35, (36, 38, 115, 1, 0, [(117, 0)])), (38, (13, 41, 52, 0, 0, [])), (41, (3, 43, 4, 0, 0, [])), (43, (3, 45, 5, 0, 0, [])), (45, (14, 48, 52, 4, 0, [])), (48, (0, 49, 0, 0, 1, [])), (49, (18, 0, 53, 0, 0, [])), (52, (0, 53, 0, 0, 0, [])), (53, (4, 55, 6, 0, 0, [(0, 0)])), (55, (3, 57, 6, 0, 0, [])), (57, (13, 60, 77, 0, 0, [])), (60, (3, 61, 0, 1, 1, [])), (61, (21, 64, 11, 2, 26, [])), (64, (3, 65, 1, 0, 1, [])), (65, (3, 66, 2, 0, 1, [])), (66, (3, 67, 3, 0, 1, [])), (67, (3, 69, 4, 0, 0, [])), (69, (3, 71, 5, 0, 0, [])), (71, (36, 74, 30, 6, 1, [(120, 0)])), (74, (18, 0, 78, 0, 0, [])), (77, (0, 78, 0, 0, (-1), [])), (78, (39, 79, 0, 0, 0, []))]
/-- HearingDesk.withdraw(II)Z -/
def k90 : List (Nat × Ins) := [(0, (3, 1, 2, 0, 1, [])), (1, (36, 4, 115, 1, 0, [(117, 0)])), (4, (13, 7, 23, 0, 0, [])), (7, (3, 8, 0, 1, 1, [])), (8, (21, 11, 11, 2, 26, [])), (11, (3, 12, 1, 0, 1, [])), (12, (3, 13, 2, 0, 1, [])), (13, (36, 16, 31, 3, 1, [(123, 0)])), (16, (13, 19, 23, 0, 0, [])), (19, (0, 20, 0, 0, 1, [])), (20, (18, 0, 24, 0, 0, [])), (23, (0, 24, 0, 0, 0, [])), (24, (40, 25, 0, 0, 0, []))]
/-- HearingDesk.grade(III)I -/
def k91 : List (Nat × Ins) := [(0, (3, 1, 0, 1, 1, [])), (1, (21, 4, 11, 1, 19, [])), (4, (3, 5, 1, 0, 1, [])), (5, (36, 8, 34, 2, 1, [(108, 0)])), (8, (13, 11, 25, 0, 0, [])), (11, (3, 12, 2, 0, 1, [])), (12, (36, 15, 117, 1, 0, [(111, 0)])), (15, (13, 18, 25, 0, 0, [])), (18, (3, 19, 3, 0, 1, [])), (19, (36, 22, 115, 1, 0, [(117, 0)])), (22, (13, 25, 27, 1, 0, [])), (25, (0, 26, 0, 0, (-1), [])), (26, (39, 27, 0, 0, 0, [])), (27, (3, 28, 0, 1, 1, [])), (28, (21, 31, 11, 2, 26, [])), (31, (3, 32, 1, 0, 1, [])), (32, (3, 33, 3, 0, 1, [])), (33, (36, 36, 32, 3, 1, [(127, 0)])), (36, (3, 37, 2, 0, 1, [])), (37, (24, 38, 50, 0, 0, [])), (38, (39, 39, 0, 0, 0, []))]
/-- HearingDesk.bar(IIZ)Z -/
def k92 : List (Nat × Ins) := [(0, (3, 1, 0, 1, 1, [])), (1, (21, 4, 11, 1, 19, [])), (4, (3, 5, 1, 0, 1, [])), (5, (36, 8, 34, 2, 1, [(108, 0)])), (8, (13, 11, 35, 0, 0, [])), (11, (3, 12, 2, 0, 1, [])), (12, (36, 15, 119, 1, 0, [(131, 0)])), (15, (13, 18, 35, 0, 0, [])), (18, (3, 19, 0, 1, 1, [])), (19, (21, 22, 11, 1, 19, [])), (22, (3, 23, 1, 0, 1, [])), (23, (3, 24, 2, 0, 1, [])), (24, (3, 25, 3, 0, 1, [])), (25, (36, 28, 38, 4, 1, [(134, 0)])), (28, (13, 31, 35, 0, 0, [])), (31, (0, 32, 0, 0, 1, [])), (32, (18, 0, 36, 0, 0, [])), (35, (0, 36, 0, 0, 0, [])), (36, (40, 37, 0, 0, 0, []))]
/-- HearingDesk.rest(I)I -/
def k93 : List (Nat × Ins) := [(0, (3, 1, 1, 0, 1, [])), (1, (0, 2, 0, 0, 0, [])), (2, (0, 4, 0, 1, 120, [])), (4, (36, 7, 114, 3, 0, [(88, 0)])), (7, (13, 10, 12, 1, 0, [])), (10, (0, 11, 0, 0, (-1), [])), (11, (39, 12, 0, 0, 0, [])), (12, (3, 13, 0, 1, 1, [])), (13, (21, 16, 11, 0, 12, [])), (16, (21, 19, 10, 1, 138, [])), (19, (4, 20, 2, 0, 0, [(1, 0)])), (20, (3, 21, 0, 1, 1, [])), (21, (21, 24, 11, 0, 12, [])), (24, (3, 25, 1, 0, 1, [])), (25, (22, 28, 10, 1, 138, [])), (28, (3, 29, 2, 0, 1, [])), (29, (39, 30, 0, 0, 0, []))]
/-- HearingDesk.hearing(IIIIIII)I -/
def k94 : List (Nat × Ins) := [(0, (3, 1, 1, 0, 1, [])), (1, (36, 4, 119, 1, 0, [(131, 0)])), (4, (13, 7, 50, 0, 0, [])), (7, (3, 8, 2, 0, 1, [])), (8, (3, 9, 3, 0, 1, [])), (9, (3, 11, 4, 0, 0, [])), (11, (36, 14, 120, 3, 0, [(142, 0)])), (14, (13, 17, 50, 0, 0, [])), (17, (3, 19, 5, 0, 0, [])), (19, (36, 22, 116, 1, 0, [(84, 0)])), (22, (13, 25, 50, 0, 0, [])), (25, (3, 27, 6, 0, 0, [])), (27, (36, 30, 117, 1, 0, [(111, 0)])), (30, (13, 33, 50, 0, 0, [])), (33, (3, 35, 6, 0, 0, [])), (35, (13, 38, 50, 0, 0, [])), (38, (3, 40, 7, 0, 0, [])), (40, (36, 43, 118, 1, 0, [(114, 0)])), (43, (13, 46, 50, 0, 0, [])), (46, (0, 47, 0, 0, 1, [])), (47, (18, 0, 51, 0, 0, [])), (50, (0, 51, 0, 0, 0, [])), (51, (4, 53, 8, 0, 0, [(0, 0)])), (53, (3, 55, 8, 0, 0, [])), (55, (13, 58, 81, 0, 0, [])), (58, (3, 59, 0, 1, 1, [])), (59, (21, 62, 11, 3, 33, [])), (62, (36, 65, 9, 1, 1, [(145, 0)])), (65, (13, 68, 81, 1, 0, [])), (68, (3, 69, 0, 1, 1, [])), (69, (21, 72, 11, 3, 33, [])), (72, (3, 73, 2, 0, 1, [])), (73, (2, 74, 0, 13, 0, [])), (74, (36, 77, 12, 3, 1, [(149, 0)])), (77, (0, 78, 0, 0, 4, [])), (78, (14, 81, 83, 2, 0, [])), (81, (0, 82, 0, 0, (-1), [])), (82, (39, 83, 0, 0, 0, [])), (83, (33, 86, 3, 0, 153, [])), (86, (11, 87, 0, 0, 0, [])), (87, (3, 88, 1, 0, 1, [])), (88, (3, 90, 4, 0, 0, [])), (90, (3, 92, 5, 0, 0, [])), (92, (3, 94, 6, 0, 0, [])), (94, (3, 96, 7, 0, 0, [])), (96, (36, 99, 18, 6, 2, [(155, 0)])), (99, (4, 101, 9, 1, 0, [(0, 0)])), (101, (3, 103, 9, 1, 0, [])), (103, (3, 104, 2, 0, 1, [])), (104, (22, 107, 3, 5, 158, [])), (107, (3, 109, 9, 1, 0, [])), (109, (3, 110, 3, 0, 1, [])), (110, (22, 113, 3, 6, 161, [])), (113, (3, 114, 0, 1, 1, [])), (114, (21, 117, 11, 3, 33, [])), (117, (3, 119, 9, 1, 0, [])), (119, (36, 122, 10, 2, 1, [(164, 0)])), (122, (39, 123, 0, 0, 0, []))]
/-- HearingDesk.move(III)Z -/
def k95 : List (Nat × Ins) := [(0, (3, 1, 0, 1, 1, [])), (1, (21, 4, 11, 3, 33, [])), (4, (3, 5, 1, 0, 1, [])), (5, (36, 8, 11, 2, 1, [(167, 0)])), (8, (4, 10, 4, 1, 0, [(0, 0)])), (10, (3, 12, 4, 1, 0, [])), (12, (15, 15, 50, 0, 0, [])), (15, (3, 17, 4, 1, 0, [])), (17, (21, 20, 3, 7, 171, [])), (20, (13, 23, 50, 1, 0, [])), (23, (3, 24, 2, 0, 1, [])), (24, (3, 25, 3, 0, 1, [])), (25, (3, 27, 4, 1, 0, [])), (27, (21, 30, 3, 1, 175, [])), (30, (36, 33, 120, 3, 0, [(142, 0)])), (33, (13, 36, 50, 0, 0, [])), (36, (3, 37, 0, 1, 1, [])), (37, (21, 40, 11, 3, 33, [])), (40, (3, 41, 2, 0, 1, [])), (41, (3, 43, 4, 1, 0, [])), (43, (36, 46, 12, 3, 1, [(149, 0)])), (46, (0, 47, 0, 0, 4, [])), (47, (14, 50, 52, 2, 0, [])), (50, (0, 51, 0, 0, 0, [])), (51, (40, 52, 0, 0, 0, [])), (52, (3, 54, 4, 1, 0, [])), (54, (3, 55, 2, 0, 1, [])), (55, (22, 58, 3, 5, 158, [])), (58, (3, 60, 4, 1, 0, [])), (60, (3, 61, 3, 0, 1, [])), (61, (22, 64, 3, 6, 161, [])), (64, (0, 65, 0, 0, 1, [])), (65, (40, 66, 0, 0, 0, []))]
/-- HearingDesk.cancel(II)Z -/
def k96 : List (Nat × Ins) := [(0, (3, 1, 0, 1, 1, [])), (1, (21, 4, 11, 3, 33, [])), (4, (3, 5, 1, 0, 1, [])), (5, (36, 8, 11, 2, 1, [(167, 0)])), (8, (4, 9, 3, 1, 0, [(1, 0)])), (9, (3, 10, 3, 1, 1, [])), (10, (15, 13, 30, 0, 0, [])), (13, (3, 14, 3, 1, 1, [])), (14, (21, 17, 3, 7, 171, [])), (17, (13, 20, 30, 1, 0, [])), (20, (3, 21, 2, 0, 1, [])), (21, (0, 22, 0, 0, 0, [])), (22, (0, 24, 178, 3, 100000, [])), (24, (36, 27, 114, 3, 0, [(88, 0)])), (27, (13, 30, 32, 1, 0, [])), (30, (0, 31, 0, 0, 0, [])), (31, (40, 32, 0, 0, 0, [])), (32, (3, 33, 3, 1, 1, [])), (33, (0, 34, 0, 0, 1, [])), (34, (23, 37, 3, 7, 171, [])), (37, (3, 38, 3, 1, 1, [])), (38, (3, 39, 2, 0, 1, [])), (39, (22, 42, 3, 8, 179, [])), (42, (0, 43, 0, 0, 1, [])), (43, (40, 44, 0, 0, 0, []))]
/-- HearingDesk.teams(I)I -/
def k97 : List (Nat × Ins) := [(0, (3, 1, 0, 1, 1, [])), (1, (21, 4, 11, 3, 33, [])), (4, (3, 5, 1, 0, 1, [])), (5, (36, 8, 11, 2, 1, [(167, 0)])), (8, (4, 9, 2, 1, 0, [(1, 0)])), (9, (3, 10, 2, 1, 1, [])), (10, (16, 13, 15, 0, 0, [])), (13, (0, 14, 0, 0, (-1), [])), (14, (39, 15, 0, 0, 0, [])), (15, (3, 16, 0, 1, 1, [])), (16, (21, 19, 11, 4, 40, [])), (19, (3, 20, 2, 1, 1, [])), (20, (3, 21, 0, 1, 1, [])), (21, (21, 24, 11, 1, 19, [])), (24, (3, 25, 0, 1, 1, [])), (25, (21, 28, 11, 2, 26, [])), (28, (36, 31, 69, 4, 1, [(182, 0)])), (31, (3, 32, 0, 1, 1, [])), (32, (21, 35, 11, 4, 40, [])), (35, (21, 38, 9, 4, 186, [])), (38, (39, 39, 0, 0, 0, []))]
/-- HearingDesk.team(III)I -/
def k98 : List (Nat × Ins) := [(0, (3, 1, 0, 1, 1, [])), (1, (21, 4, 11, 3, 33, [])), (4, (3, 5, 1, 0, 1, [])), (5, (36, 8, 11, 2, 1, [(167, 0)])), (8, (4, 10, 4, 1, 0, [(0, 0)])), (10, (3, 12, 4, 1, 0, [])), (12, (16, 15, 17, 0, 0, [])), (15, (0, 16, 0, 0, (-1), [])), (16, (39, 17, 0, 0, 0, [])), (17, (3, 18, 0, 1, 1, [])), (18, (21, 21, 11, 4, 40, [])), (21, (3, 23, 4, 1, 0, [])), (23, (3, 24, 0, 1, 1, [])), (24, (21, 27, 11, 1, 19, [])), (27, (3, 28, 0, 1, 1, [])), (28, (21, 31, 11, 2, 26, [])), (31, (36, 34, 69, 4, 1, [(182, 0)])), (34, (3, 35, 3, 0, 1, [])), (35, (19, 60, 87, 0, 0, [(0, 60), (1, 69), (2, 78)])), (60, (3, 61, 0, 1, 1, [])), (61, (21, 64, 11, 4, 40, [])), (64, (3, 65, 2, 0, 1, [])), (65, (36, 68, 70, 2, 1, [(189, 0)])), (68, (39, 69, 0, 0, 0, [])), (69, (3, 70, 0, 1, 1, [])), (70, (21, 73, 11, 4, 40, [])), (73, (3, 74, 2, 0, 1, [])), (74, (36, 77, 71, 2, 1, [(192, 0)])), (77, (39, 78, 0, 0, 0, [])), (78, (3, 79, 0, 1, 1, [])), (79, (21, 82, 11, 4, 40, [])), (82, (3, 83, 2, 0, 1, [])), (83, (36, 86, 72, 2, 1, [(195, 0)])), (86, (39, 87, 0, 0, 0, [])), (87, (0, 88, 0, 0, (-1), [])), (88, (39, 89, 0, 0, 0, []))]
/-- HearingDesk.plan(IZ)I -/
def k99 : List (Nat × Ins) := [(0, (3, 1, 1, 0, 1, [])), (1, (36, 4, 115, 1, 0, [(117, 0)])), (4, (13, 7, 9, 1, 0, [])), (7, (0, 8, 0, 0, (-1), [])), (8, (39, 9, 0, 0, 0, [])), (9, (3, 10, 0, 1, 1, [])), (10, (21, 13, 11, 5, 47, [])), (13, (3, 14, 0, 1, 1, [])), (14, (21, 17, 11, 3, 33, [])), (17, (3, 18, 1, 0, 1, [])), (18, (36, 21, 1, 3, 1, [(198, 0)])), (21, (3, 22, 0, 1, 1, [])), (22, (21, 25, 11, 6, 56, [])), (25, (3, 26, 0, 1, 1, [])), (26, (21, 29, 11, 1, 19, [])), (29, (3, 30, 0, 1, 1, [])), (30, (21, 33, 11, 2, 26, [])), (33, (3, 34, 0, 1, 1, [])), (34, (21, 37, 11, 0, 12, [])), (37, (36, 40, 40, 4, 1, [(202, 0)])), (40, (3, 41, 0, 1, 1, [])), (41, (21, 44, 11, 6, 56, [])), (44, (3, 45, 2, 0, 1, [])), (45, (36, 48, 41, 2, 1, [(206, 0)])), (48, (3, 49, 0, 1, 1, [])), (49, (21, 52, 11, 6, 56, [])), (52, (21, 55, 7, 9, 210, [])), (55, (39, 56, 0, 0, 0, []))]
/-- HearingDesk.planned(I)I -/
def k100 : List (Nat × Ins) := [(0, (3, 1, 0, 1, 1, [])), (1, (21, 4, 11, 6, 56, [])), (4, (21, 7, 7, 7, 213, [])), (7, (13, 10, 12, 1, 0, [])), (10, (0, 11, 0, 0, (-1), [])), (11, (39, 12, 0, 0, 0, [])), (12, (3, 13, 1, 0, 1, [])), (13, (19, 44, 76, 0, 0, [(0, 44), (1, 52), (2, 60), (3, 68)])), (44, (3, 45, 0, 1, 1, [])), (45, (21, 48, 11, 6, 56, [])), (48, (21, 51, 7, 8, 216, [])), (51, (39, 52, 0, 0, 0, [])), (52, (3, 53, 0, 1, 1, [])), (53, (21, 56, 11, 6, 56, [])), (56, (21, 59, 7, 9, 210, [])), (59, (39, 60, 0, 0, 0, [])), (60, (3, 61, 0, 1, 1, [])), (61, (21, 64, 11, 6, 56, [])), (64, (21, 67, 7, 10, 217, [])), (67, (39, 68, 0, 0, 0, [])), (68, (3, 69, 0, 1, 1, [])), (69, (21, 72, 11, 6, 56, [])), (72, (21, 75, 7, 11, 220, [])), (75, (39, 76, 0, 0, 0, [])), (76, (0, 77, 0, 0, (-1), [])), (77, (39, 78, 0, 0, 0, []))]
/-- HearingDesk.seat(II)I -/
def k101 : List (Nat × Ins) := [(0, (3, 1, 0, 1, 1, [])), (1, (21, 4, 11, 3, 33, [])), (4, (3, 5, 1, 0, 1, [])), (5, (36, 8, 11, 2, 1, [(167, 0)])), (8, (4, 9, 3, 1, 0, [(1, 0)])), (9, (3, 10, 3, 1, 1, [])), (10, (15, 13, 22, 0, 0, [])), (13, (3, 14, 2, 0, 1, [])), (14, (0, 15, 0, 0, 0, [])), (15, (0, 16, 0, 0, 1, [])), (16, (36, 19, 114, 3, 0, [(88, 0)])), (19, (13, 22, 24, 1, 0, [])), (22, (0, 23, 0, 0, (-1), [])), (23, (39, 24, 0, 0, 0, [])), (24, (3, 25, 2, 0, 1, [])), (25, (13, 28, 35, 1, 0, [])), (28, (3, 29, 3, 1, 1, [])), (29, (21, 32, 3, 9, 223, [])), (32, (18, 0, 39, 0, 0, [])), (35, (3, 36, 3, 1, 1, [])), (36, (21, 39, 3, 10, 226, [])), (39, (39, 40, 0, 0, 0, []))]
/-- HearingDesk.turn(II)I -/
def k102 : List (Nat × Ins) := [(0, (3, 1, 0, 1, 1, [])), (1, (21, 4, 11, 3, 33, [])), (4, (3, 5, 1, 0, 1, [])), (5, (36, 8, 11, 2, 1, [(167, 0)])), (8, (4, 9, 3, 1, 0, [(1, 0)])), (9, (3, 10, 3, 1, 1, [])), (10, (15, 13, 27, 0, 0, [])), (13, (3, 14, 2, 0, 1, [])), (14, (0, 15, 0, 0, 0, [])), (15, (3, 16, 3, 1, 1, [])), (16, (21, 19, 3, 1, 175, [])), (19, (0, 20, 0, 0, 1, [])), (20, (6, 21, 0, 1, 0, [])), (21, (36, 24, 114, 3, 0, [(88, 0)])), (24, (13, 27, 29, 1, 0, [])), (27, (0, 28, 0, 0, (-1), [])), (28, (39, 29, 0, 0, 0, [])), (29, (3, 30, 3, 1, 1, [])), (30, (36, 33, 19, 1, 1, [(229, 0)])), (33, (13, 36, 50, 0, 0, [])), (36, (3, 37, 2, 0, 1, [])), (37, (0, 39, 0, 1, 30, [])), (39, (6, 40, 0, 7, 0, [])), (40, (0, 41, 0, 0, 2, [])), (41, (6, 42, 0, 8, 0, [])), (42, (0, 43, 0, 0, 1, [])), (43, (14, 46, 50, 1, 0, [])), (46, (0, 47, 0, 0, 1, [])), (47, (18, 0, 51, 0, 0, [])), (50, (0, 51, 0, 0, 0, [])), (51, (4, 53, 4, 0, 0, [(0, 0)])), (53, (3, 55, 4, 0, 0, [])), (55, (13, 58, 65, 0, 0, [])), (58, (3, 59, 3, 1, 1, [])), (59, (21, 62, 3, 10, 226, [])), (62, (18, 0, 69, 0, 0, [])), (65, (3, 66, 3, 1, 1, [])), (66, (21, 69, 3, 9, 223, [])), (69, (39, 70, 0, 0, 0, []))]
/-- HearingDesk.journeys(II)I -/
def k103 : List (Nat × Ins) := [(0, (3, 1, 0, 1, 1, [])), (1, (21, 4, 11, 1, 19, [])), (4, (3, 5, 1, 0, 1, [])), (5, (36, 8, 34, 2, 1, [(108, 0)])), (8, (13, 11, 18, 0, 0, [])), (11, (3, 12, 2, 0, 1, [])), (12, (36, 15, 115, 1, 0, [(117, 0)])), (15, (13, 18, 20, 1, 0, [])), (18, (0, 19, 0, 0, (-1), [])), (19, (39, 20, 0, 0, 0, [])), (20, (3, 21, 0, 1, 1, [])), (21, (21, 24, 11, 5, 47, [])), (24, (3, 25, 0, 1, 1, [])), (25, (21, 28, 11, 3, 33, [])), (28, (3, 29, 2, 0, 1, [])), (29, (36, 32, 1, 3, 1, [(198, 0)])), (32, (3, 33, 0, 1, 1, [])), (33, (21, 36, 11, 5, 47, [])), (36, (3, 37, 0, 1, 1, [])), (37, (21, 40, 11, 1, 19, [])), (40, (3, 41, 1, 0, 1, [])), (41, (36, 44, 36, 2, 1, [(232, 0)])), (44, (3, 45, 0, 1, 1, [])), (45, (21, 48, 11, 5, 47, [])), (48, (3, 49, 1, 0, 1, [])), (49, (36, 52, 4, 2, 1, [(235, 0)])), (52, (3, 53, 0, 1, 1, [])), (53, (21, 56, 11, 0, 12, [])), (56, (36, 59, 6, 4, 1, [(238, 0)])), (59, (39, 60, 0, 0, 0, []))]
/-- HearingDesk.feed(IIIII)I -/
def k104 : List (Nat × Ins) := [(0, (3, 1, 0, 1, 1, [])), (1, (21, 4, 11, 7, 63, [])), (4, (0, 6, 0, 1, 20, [])), (6, (36, 9, 50, 2, 1, [(242, 0)])), (9, (13, 12, 14, 1, 0, [])), (12, (0, 13, 0, 0, (-1), [])), (13, (39, 14, 0, 0, 0, [])), (14, (3, 15, 0, 1, 1, [])), (15, (21, 18, 11, 7, 63, [])), (18, (3, 19, 1, 0, 1, [])), (19, (36, 22, 51, 2, 1, [(245, 0)])), (22, (3, 23, 0, 1, 1, [])), (23, (21, 26, 11, 7, 63, [])), (26, (3, 27, 2, 0, 1, [])), (27, (36, 30, 51, 2, 1, [(245, 0)])), (30, (3, 31, 0, 1, 1, [])), (31, (21, 34, 11, 7, 63, [])), (34, (3, 35, 3, 0, 1, [])), (35, (36, 38, 51, 2, 1, [(245, 0)])), (38, (3, 39, 0, 1, 1, [])), (39, (21, 42, 11, 7, 63, [])), (42, (3, 44, 4, 0, 0, [])), (44, (36, 47, 51, 2, 1, [(245, 0)])), (47, (3, 48, 0, 1, 1, [])), (48, (21, 51, 11, 7, 63, [])), (51, (3, 53, 5, 0, 0, [])), (53, (36, 56, 51, 2, 1, [(245, 0)])), (56, (3, 57, 0, 1, 1, [])), (57, (21, 60, 11, 7, 63, [])), (60, (21, 63, 8, 3, 249, [])), (63, (39, 64, 0, 0, 0, []))]
/-- HearingDesk.end(I)I -/
def k105 : List (Nat × Ins) := [(0, (3, 1, 1, 0, 1, [])), (1, (0, 2, 0, 0, 0, [])), (2, (3, 3, 0, 1, 1, [])), (3, (21, 6, 11, 7, 63, [])), (6, (21, 9, 8, 3, 249, [])), (9, (36, 12, 114, 3, 0, [(88, 0)])), (12, (13, 15, 17, 1, 0, [])), (15, (0, 16, 0, 0, (-1), [])), (16, (39, 17, 0, 0, 0, [])), (17, (3, 18, 0, 1, 1, [])), (18, (21, 21, 11, 7, 63, [])), (21, (3, 22, 1, 0, 1, [])), (22, (22, 25, 8, 3, 249, [])), (25, (3, 26, 1, 0, 1, [])), (26, (39, 27, 0, 0, 0, []))]
/-- HearingDesk.fees()I -/
def k106 : List (Nat × Ins) := [(0, (3, 1, 0, 1, 1, [])), (1, (21, 4, 11, 7, 63, [])), (4, (3, 5, 0, 1, 1, [])), (5, (21, 8, 11, 10, 81, [])), (8, (36, 11, 52, 2, 1, [(250, 0)])), (11, (4, 12, 1, 0, 0, [(1, 0)])), (12, (3, 13, 0, 1, 1, [])), (13, (21, 16, 11, 7, 63, [])), (16, (0, 17, 0, 0, 0, [])), (17, (22, 20, 8, 3, 249, [])), (20, (3, 21, 1, 0, 1, [])), (21, (13, 24, 42, 1, 0, [])), (24, (3, 25, 0, 1, 1, [])), (25, (21, 28, 11, 9, 77, [])), (28, (4, 29, 2, 1, 0, [(1, 0)])), (29, (3, 30, 0, 1, 1, [])), (30, (3, 31, 0, 1, 1, [])), (31, (21, 34, 11, 10, 81, [])), (34, (22, 37, 11, 9, 77, [])), (37, (3, 38, 0, 1, 1, [])), (38, (3, 39, 2, 1, 1, [])), (39, (22, 42, 11, 10, 81, [])), (42, (3, 43, 1, 0, 1, [])), (43, (39, 44, 0, 0, 0, []))]
/-- HearingDesk.tells(II)I -/
def k107 : List (Nat × Ins) := [(0, (3, 1, 2, 0, 1, [])), (1, (0, 3, 0, 1, 11, [])), (3, (0, 5, 0, 1, 15, [])), (5, (36, 8, 114, 3, 0, [(88, 0)])), (8, (4, 9, 3, 0, 0, [(1, 0)])), (9, (3, 10, 1, 0, 1, [])), (10, (36, 13, 115, 1, 0, [(117, 0)])), (13, (13, 16, 29, 0, 0, [])), (16, (3, 17, 3, 0, 1, [])), (17, (13, 20, 31, 1, 0, [])), (20, (3, 21, 2, 0, 1, [])), (21, (0, 22, 0, 0, 0, [])), (22, (0, 23, 0, 0, 5, [])), (23, (36, 26, 114, 3, 0, [(88, 0)])), (26, (13, 29, 31, 1, 0, [])), (29, (0, 30, 0, 0, (-1), [])), (30, (39, 31, 0, 0, 0, [])), (31, (3, 32, 0, 1, 1, [])), (32, (21, 35, 11, 9, 77, [])), (35, (3, 36, 1, 0, 1, [])), (36, (3, 37, 2, 0, 1, [])), (37, (36, 40, 16, 3, 1, [(254, 0)])), (40, (39, 41, 0, 0, 0, []))]
/-- HearingDesk.fee(II)J -/
def k108 : List (Nat × Ins) := [(0, (3, 1, 0, 1, 1, [])), (1, (21, 4, 11, 1, 19, [])), (4, (3, 5, 1, 0, 1, [])), (5, (36, 8, 34, 2, 1, [(108, 0)])), (8, (13, 11, 18, 0, 0, [])), (11, (3, 12, 2, 0, 1, [])), (12, (36, 15, 115, 1, 0, [(117, 0)])), (15, (13, 18, 22, 1, 0, [])), (18, (1, 21, 257, 1, (-1), [])), (21, (41, 22, 0, 0, 0, [])), (22, (1, 23, 0, 0, 0, [])), (23, (4, 24, 3, 2, 1, [(1, 0)])), (24, (0, 25, 0, 0, 0, [])), (25, (4, 27, 5, 0, 1, [(0, 0)])), (27, (3, 29, 5, 0, 0, [])), (29, (3, 30, 0, 1, 1, [])), (30, (21, 33, 11, 3, 33, [])), (33, (21, 36, 1, 1, 259, [])), (36, (14, 39, 91, 3, 0, [])), (39, (3, 40, 0, 1, 1, [])), (40, (21, 43, 11, 3, 33, [])), (43, (3, 45, 5, 0, 0, [])), (45, (36, 48, 11, 2, 1, [(167, 0)])), (48, (4, 50, 6, 1, 1, [(0, 0)])), (50, (3, 52, 6, 1, 0, [])), (52, (15, 55, 85, 0, 0, [])), (55, (3, 57, 6, 1, 0, [])), (57, (21, 60, 3, 5, 158, [])), (60, (3, 61, 2, 0, 1, [])), (61, (14, 64, 85, 1, 0, [])), (64, (3, 66, 6, 1, 0, [])), (66, (3, 67, 1, 0, 1, [])), (67, (36, 70, 20, 2, 1, [(260, 0)])), (70, (13, 73, 85, 0, 0, [])), (73, (3, 74, 3, 2, 1, [])), (74, (3, 75, 0, 1, 1, [])), (75, (21, 78, 11, 9, 77, [])), (78, (3, 80, 6, 1, 0, [])), (80, (36, 83, 17, 2, 1, [(263, 0)])), (83, (7, 84, 0, 0, 0, [])), (84, (4, 85, 3, 2, 1, [(1, 0)])), (85, (5, 88, 5, 1, 1, [])), (88, (18, 0, 27, 0, 0, [])), (91, (3, 92, 0, 1, 1, [])), (92, (21, 95, 11, 5, 47, [])), (95, (3, 96, 0, 1, 1, [])), (96, (21, 99, 11, 3, 33, [])), (99, (3, 100, 2, 0, 1, [])), (100, (36, 103, 1, 3, 1, [(198, 0)])), (103, (3, 104, 0, 1, 1, [])), (104, (21, 107, 11, 5, 47, [])), (107, (3, 108, 0, 1, 1, [])), (108, (21, 111, 11, 1, 19, [])), (111, (3, 112, 1, 0, 1, [])), (112, (36, 115, 36, 2, 1, [(232, 0)])), (115, (3, 116, 0, 1, 1, [])), (116, (21, 119, 11, 5, 47, [])), (119, (3, 120, 1, 0, 1, [])), (120, (36, 123, 4, 2, 1, [(235, 0)])), (123, (3, 124, 0, 1, 1, [])), (124, (21, 127, 11, 0, 12, [])), (127, (36, 130, 6, 4, 1, [(238, 0)])), (130, (8, 131, 0, 0, 0, [])), (131, (4, 133, 5, 2, 1, [(0, 0)])), (133, (3, 134, 3, 2, 1, [])), (134, (3, 136, 5, 2, 0, [])), (136, (1, 139, 267, 1, 10, [])), (139, (7, 140, 0, 2, 0, [])), (140, (3, 141, 0, 1, 1, [])), (141, (21, 144, 11, 9, 77, [])), (144, (3, 145, 2, 0, 1, [])), (145, (0, 146, 0, 0, 1, [])), (146, (36, 149, 16, 3, 1, [(254, 0)])), (149, (8, 150, 0, 0, 0, [])), (150, (7, 151, 0, 1, 0, [])), (151, (7, 152, 0, 0, 0, [])), (152, (41, 153, 0, 0, 0, []))]
/-- HearingDesk.ask(III)I -/
def k109 : List (Nat × Ins) := [(0, (3, 1, 0, 1, 1, [])), (1, (21, 4, 11, 3, 33, [])), (4, (3, 5, 1, 0, 1, [])), (5, (36, 8, 11, 2, 1, [(167, 0)])), (8, (15, 11, 29, 0, 0, [])), (11, (3, 12, 0, 1, 1, [])), (12, (21, 15, 11, 1, 19, [])), (15, (3, 16, 2, 0, 1, [])), (16, (36, 19, 34, 2, 1, [(108, 0)])), (19, (13, 22, 29, 0, 0, [])), (22, (3, 23, 3, 0, 1, [])), (23, (36, 26, 115, 1, 0, [(117, 0)])), (26, (13, 29, 31, 1, 0, [])), (29, (0, 30, 0, 0, (-1), [])), (30, (39, 31, 0, 0, 0, [])), (31, (3, 32, 0, 1, 1, [])), (32, (21, 35, 11, 8, 70, [])), (35, (3, 36, 1, 0, 1, [])), (36, (3, 37, 2, 0, 1, [])), (37, (3, 38, 3, 0, 1, [])), (38, (36, 41, 24, 4, 1, [(269, 0)])), (41, (39, 42, 0, 0, 0, []))]
/-- HearingDesk.answer(IIZI)Z -/
def k110 : List (Nat × Ins) := [(0, (3, 1, 2, 0, 1, [])), (1, (36, 4, 115, 1, 0, [(117, 0)])), (4, (13, 7, 37, 0, 0, [])), (7, (3, 9, 4, 0, 0, [])), (9, (0, 10, 0, 0, 0, [])), (10, (0, 12, 0, 1, 9, [])), (12, (36, 15, 114, 3, 0, [(88, 0)])), (15, (13, 18, 37, 0, 0, [])), (18, (3, 19, 0, 1, 1, [])), (19, (21, 22, 11, 8, 70, [])), (22, (3, 23, 1, 0, 1, [])), (23, (3, 24, 2, 0, 1, [])), (24, (3, 25, 3, 0, 1, [])), (25, (3, 27, 4, 0, 0, [])), (27, (36, 30, 25, 5, 1, [(272, 0)])), (30, (13, 33, 37, 0, 0, [])), (33, (0, 34, 0, 0, 1, [])), (34, (18, 0, 38, 0, 0, [])), (37, (0, 38, 0, 0, 0, [])), (38, (40, 39, 0, 0, 0, []))]
/-- HearingDesk.known(III)I -/
def k111 : List (Nat × Ins) := [(0, (3, 1, 2, 0, 1, [])), (1, (36, 4, 115, 1, 0, [(117, 0)])), (4, (13, 7, 19, 0, 0, [])), (7, (3, 8, 0, 1, 1, [])), (8, (21, 11, 11, 8, 70, [])), (11, (3, 12, 1, 0, 1, [])), (12, (3, 13, 2, 0, 1, [])), (13, (36, 16, 26, 3, 1, [(276, 0)])), (16, (13, 19, 21, 1, 0, [])), (19, (0, 20, 0, 0, (-1), [])), (20, (39, 21, 0, 0, 0, [])), (21, (3, 22, 0, 1, 1, [])), (22, (21, 25, 11, 8, 70, [])), (25, (3, 26, 1, 0, 1, [])), (26, (3, 27, 2, 0, 1, [])), (27, (36, 30, 27, 3, 1, [(279, 0)])), (30, (4, 32, 4, 0, 0, [(0, 0)])), (32, (3, 33, 3, 0, 1, [])), (33, (19, 68, 136, 0, 0, [(0, 68), (1, 78), (2, 88), (3, 98), (4, 117)])), (68, (3, 69, 0, 1, 1, [])), (69, (21, 72, 11, 8, 70, [])), (72, (21, 75, 4, 0, 282, [])), (75, (3, 76, 1, 0, 1, [])), (76, (24, 77, 50, 0, 0, [])), (77, (39, 78, 0, 0, 0, [])), (78, (3, 79, 0, 1, 1, [])), (79, (21, 82, 11, 8, 70, [])), (82, (21, 85, 4, 1, 285, [])), (85, (3, 86, 1, 0, 1, [])), (86, (24, 87, 50, 0, 0, [])), (87, (39, 88, 0, 0, 0, [])), (88, (3, 89, 0, 1, 1, [])), (89, (21, 92, 11, 8, 70, [])), (92, (21, 95, 4, 2, 288, [])), (95, (3, 96, 1, 0, 1, [])), (96, (24, 97, 50, 0, 0, [])), (97, (39, 98, 0, 0, 0, [])), (98, (3, 100, 4, 0, 0, [])), (100, (13, 103, 115, 0, 0, [])), (103, (3, 104, 0, 1, 1, [])), (104, (21, 107, 11, 8, 70, [])), (107, (21, 110, 4, 3, 291, [])), (110, (3, 111, 1, 0, 1, [])), (111, (24, 112, 50, 0, 0, [])), (112, (18, 0, 116, 0, 0, [])), (115, (0, 116, 0, 0, (-1), [])), (116, (39, 117, 0, 0, 0, [])), (117, (3, 119, 4, 0, 0, [])), (119, (13, 122, 134, 0, 0, [])), (122, (3, 123, 0, 1, 1, [])), (123, (21, 126, 11, 8, 70, [])), (126, (21, 129, 4, 4, 294, [])), (129, (3, 130, 1, 0, 1, [])), (130, (24, 131, 50, 0, 0, [])), (131, (18, 0, 135, 0, 0, [])), (134, (0, 135, 0, 0, (-1), [])), (135, (39, 136, 0, 0, 0, [])), (136, (0, 137, 0, 0, (-1), [])), (137, (39, 138, 0, 0, 0, []))]
/-- HearingDesk.refusals(II)I -/
def k112 : List (Nat × Ins) := [(0, (3, 1, 1, 0, 1, [])), (1, (0, 2, 0, 0, (-1), [])), (2, (14, 5, 16, 0, 0, [])), (5, (3, 6, 0, 1, 1, [])), (6, (21, 9, 11, 3, 33, [])), (9, (3, 10, 1, 0, 1, [])), (10, (36, 13, 11, 2, 1, [(167, 0)])), (13, (15, 16, 20, 0, 0, [])), (16, (0, 17, 0, 0, 1, [])), (17, (18, 0, 21, 0, 0, [])), (20, (0, 21, 0, 0, 0, [])), (21, (4, 22, 3, 0, 0, [(1, 0)])), (22, (3, 23, 3, 0, 1, [])), (23, (13, 26, 45, 0, 0, [])), (26, (3, 27, 2, 0, 1, [])), (27, (36, 30, 115, 1, 0, [(117, 0)])), (30, (13, 33, 45, 0, 0, [])), (33, (3, 34, 0, 1, 1, [])), (34, (21, 37, 11, 8, 70, [])), (37, (3, 38, 1, 0, 1, [])), (38, (3, 39, 2, 0, 1, [])), (39, (36, 42, 28, 3, 1, [(297, 0)])), (42, (18, 0, 46, 0, 0, [])), (45, (0, 46, 0, 0, (-1), [])), (46, (39, 47, 0, 0, 0, []))]
/-- HearingDesk.count(I)I -/
def k113 : List (Nat × Ins) := [(0, (3, 1, 1, 0, 1, [])), (1, (19, 48, 112, 0, 0, [(0, 48), (1, 56), (2, 64), (3, 72), (4, 80), (5, 88), (6, 96), (7, 104)])), (48, (3, 49, 0, 1, 1, [])), (49, (21, 52, 11, 1, 19, [])), (52, (21, 55, 6, 2, 300, [])), (55, (39, 56, 0, 0, 0, [])), (56, (3, 57, 0, 1, 1, [])), (57, (21, 60, 11, 2, 26, [])), (60, (21, 63, 5, 7, 301, [])), (63, (39, 64, 0, 0, 0, [])), (64, (3, 65, 0, 1, 1, [])), (65, (21, 68, 11, 3, 33, [])), (68, (21, 71, 1, 1, 259, [])), (71, (39, 72, 0, 0, 0, [])), (72, (3, 73, 0, 1, 1, [])), (73, (21, 76, 11, 3, 33, [])), (76, (36, 79, 13, 1, 1, [(302, 0)])), (79, (39, 80, 0, 0, 0, [])), (80, (3, 81, 0, 1, 1, [])), (81, (21, 84, 11, 8, 70, [])), (84, (21, 87, 4, 6, 306, [])), (87, (39, 88, 0, 0, 0, [])), (88, (3, 89, 0, 1, 1, [])), (89, (21, 92, 11, 7, 63, [])), (92, (21, 95, 8, 3, 249, [])), (95, (39, 96, 0, 0, 0, [])), (96, (3, 97, 0, 1, 1, [])), (97, (21, 100, 11, 9, 77, [])), (100, (21, 103, 2, 4, 307, [])), (103, (39, 104, 0, 0, 0, [])), (104, (3, 105, 0, 1, 1, [])), (105, (21, 108, 11, 0, 12, [])), (108, (21, 111, 10, 1, 138, [])), (111, (39, 112, 0, 0, 0, [])), (112, (0, 113, 0, 0, (-1), [])), (113, (39, 114, 0, 0, 0, []))]
/-- HearingDesk.within(III)Z -/
def k114 : List (Nat × Ins) := [(0, (3, 1, 0, 0, 1, [])), (1, (3, 2, 1, 0, 1, [])), (2, (14, 5, 14, 2, 0, [])), (5, (3, 6, 0, 0, 1, [])), (6, (3, 7, 2, 0, 1, [])), (7, (14, 10, 14, 4, 0, [])), (10, (0, 11, 0, 0, 1, [])), (11, (18, 0, 15, 0, 0, [])), (14, (0, 15, 0, 0, 0, [])), (15, (40, 16, 0, 0, 0, []))]
/-- HearingDesk.isDay(I)Z -/
def k115 : List (Nat × Ins) := [(0, (3, 1, 0, 0, 1, [])), (1, (0, 2, 0, 0, 0, [])), (2, (0, 5, 0, 2, 999, [])), (5, (36, 8, 114, 3, 0, [(88, 0)])), (8, (40, 9, 0, 0, 0, []))]
/-- HearingDesk.isTown(I)Z -/
def k116 : List (Nat × Ins) := [(0, (3, 1, 0, 0, 1, [])), (1, (0, 2, 0, 0, 0, [])), (2, (0, 3, 0, 0, 5, [])), (3, (36, 6, 114, 3, 0, [(88, 0)])), (6, (40, 7, 0, 0, 0, []))]
/-- HearingDesk.isTongue(I)Z -/
def k117 : List (Nat × Ins) := [(0, (3, 1, 0, 0, 1, [])), (1, (0, 2, 0, 0, 0, [])), (2, (0, 4, 0, 1, 9, [])), (4, (36, 7, 114, 3, 0, [(88, 0)])), (7, (40, 8, 0, 0, 0, []))]
/-- HearingDesk.isGrade(I)Z -/
def k118 : List (Nat × Ins) := [(0, (3, 1, 0, 0, 1, [])), (1, (0, 2, 0, 0, 1, [])), (2, (0, 3, 0, 0, 5, [])), (3, (36, 6, 114, 3, 0, [(88, 0)])), (6, (40, 7, 0, 0, 0, []))]
/-- HearingDesk.isCase(I)Z -/
def k119 : List (Nat × Ins) := [(0, (3, 1, 0, 0, 1, [])), (1, (0, 2, 0, 0, 0, [])), (2, (0, 4, 0, 1, 19, [])), (4, (36, 7, 114, 3, 0, [(88, 0)])), (7, (40, 8, 0, 0, 0, []))]
/-- HearingDesk.isSpan(III)Z -/
def k120 : List (Nat × Ins) := [(0, (3, 1, 0, 0, 1, [])), (1, (36, 4, 115, 1, 0, [(117, 0)])), (4, (13, 7, 43, 0, 0, [])), (7, (3, 8, 1, 0, 1, [])), (8, (0, 9, 0, 0, 0, [])), (9, (0, 12, 0, 2, 1439, [])), (12, (36, 15, 114, 3, 0, [(88, 0)])), (15, (13, 18, 43, 0, 0, [])), (18, (3, 19, 2, 0, 1, [])), (19, (0, 21, 0, 1, 10, [])), (21, (0, 24, 0, 2, 240, [])), (24, (36, 27, 114, 3, 0, [(88, 0)])), (27, (13, 30, 43, 0, 0, [])), (30, (3, 31, 1, 0, 1, [])), (31, (3, 32, 2, 0, 1, [])), (32, (6, 33, 0, 0, 0, [])), (33, (0, 36, 0, 2, 1440, [])), (36, (14, 39, 43, 4, 0, [])), (39, (0, 40, 0, 0, 1, [])), (40, (18, 0, 44, 0, 0, [])), (43, (0, 44, 0, 0, 0, [])), (44, (40, 45, 0, 0, 0, []))]
/-- HearingDeskModel.<init>()V -/
def k121 : List (Nat × Ins) := [(0, (3, 1, 0, 1, 1, [])), (1, (37, 4, 0, 0, 1, [])), (4, (3, 5, 0, 1, 1, [])), (5, (0, 7, 0, 1, 36, [])), (7, (34, 9, 50, 0, 0, [])), (9, (22, 12, 12, 0, 7, [])), (12, (3, 13, 0, 1, 1, [])), (13, (0, 15, 0, 1, 10, [])), (15, (34, 17, 50, 0, 0, [])), (17, (22, 20, 12, 1, 13, [])), (20, (3, 21, 0, 1, 1, [])), (21, (0, 23, 0, 1, 6, [])), (23, (34, 25, 50, 0, 0, [])), (25, (22, 28, 12, 3, 16, [])), (28, (3, 29, 0, 1, 1, [])), (29, (0, 31, 0, 1, 40, [])), (31, (34, 33, 50, 0, 0, [])), (33, (22, 36, 12, 5, 19, [])), (36, (3, 37, 0, 1, 1, [])), (37, (0, 39, 0, 1, 40, [])), (39, (34, 41, 50, 0, 0, [])), (41, (22, 44, 12, 6, 22, [])), (44, (3, 45, 0, 1, 1, [])), (45, (0, 47, 0, 1, 40, [])), (47, (34, 49, 50, 0, 0, [])), (49, (22, 52, 12, 7, 25, [])), (52, (3, 53, 0, 1, 1, [])), (53, (0, 55, 0, 1, 40, [])), (55, (34, 57, 50, 0, 0, [])), (57, (22, 60, 12, 8, 28, [])), (60, (3, 61, 0, 1, 1, [])), (61, (0, 63, 0, 1, 40, [])), (63, (34, 65, 50, 0, 0, [])), (65, (22, 68, 12, 9, 31, [])), (68, (3, 69, 0, 1, 1, [])), (69, (0, 71, 0, 1, 120, [])), (71, (34, 73, 52, 0, 0, [])), (73, (22, 76, 12, 10, 34, [])), (76, (3, 77, 0, 1, 1, [])), (77, (0, 79, 0, 1, 30, [])), (79, (22, 82, 12, 11, 38, [])), (82, (3, 83, 0, 1, 1, [])), (83, (0, 85, 0, 1, 24, [])), (85, (34, 87, 50, 0, 0, [])), (87, (22, 90, 12, 13, 42, [])), (90, (3, 91, 0, 1, 1, [])), (91, (0, 93, 0, 1, 24, [])), (93, (34, 95, 50, 0, 0, [])), (95, (22, 98, 12, 14, 45, [])), (98, (3, 99, 0, 1, 1, [])), (99, (0, 101, 0, 1, 24, [])), (101, (34, 103, 50, 0, 0, [])), (103, (22, 106, 12, 15, 48, [])), (106, (3, 107, 0, 1, 1, [])), (107, (0, 109, 0, 1, 24, [])), (109, (34, 111, 50, 0, 0, [])), (111, (22, 114, 12, 16, 51, [])), (114, (3, 115, 0, 1, 1, [])), (115, (0, 117, 0, 1, 24, [])), (117, (34, 119, 50, 0, 0, [])), (119, (22, 122, 12, 17, 54, [])), (122, (3, 123, 0, 1, 1, [])), (123, (0, 125, 0, 1, 24, [])), (125, (34, 127, 50, 0, 0, [])), (127, (22, 130, 12, 18, 57, [])), (130, (3, 131, 0, 1, 1, [])), (131, (0, 133, 0, 1, 24, [])), (133, (34, 135, 50, 0, 0, [])), (135, (22, 138, 12, 19, 60, [])), (138, (3, 139, 0, 1, 1, [])), (139, (0, 141, 0, 1, 24, [])), (141, (34, 143, 50, 0, 0, [])), (143, (22, 146, 12, 20, 63, [])), (146, (3, 147, 0, 1, 1, [])), (147, (0, 149, 0, 1, 24, [])), (149, (34, 151, 50, 0, 0, [])), (151, (22, 154, 12, 21, 66, [])), (154, (3, 155, 0, 1, 1, [])), (155, (0, 157, 0, 1, 24, [])), (157, (34, 159, 50, 0, 0, [])), (159, (22, 162, 12, 22, 69, [])), (162, (3, 163, 0, 1, 1, [])), (163, (0, 165, 0, 1, 24, [])), (165, (34, 167, 50, 0, 0, [])), (167, (22, 170, 12, 23, 72, [])), (170, (3, 171, 0, 1, 1, [])), (171, (0, 174, 0, 2, 150, [])), (174, (34, 176, 50, 0, 0, [])), (176, (22, 179, 12, 24, 75, [])), (179, (3, 180, 0, 1, 1, [])), (180, (0, 183, 0, 2, 150, [])), (183, (34, 185, 50, 0, 0, [])), (185, (22, 188, 12, 25, 78, [])), (188, (3, 189, 0, 1, 1, [])), (189, (0, 192, 0, 2, 150, [])), (192, (34, 194, 50, 0, 0, [])), (194, (22, 197, 12, 26, 81, [])), (197, (3, 198, 0, 1, 1, [])), (198, (0, 199, 0, 0, 5, [])), (199, (34, 201, 50, 0, 0, [])), (201, (22, 204, 12, 27, 84, [])), (204, (3, 205, 0, 1, 1, [])), (205, (0, 206, 0, 0, 4, [])), (206, (34, 208, 50, 0, 0, [])), (208, (22, 211, 12, 29, 87, [])), (211, (3, 212, 0, 1, 1, [])), (212, (0, 213, 0, 0, 4, [])), (213, (34, 215, 50, 0, 0, [])), (215, (22, 218, 12, 30, 90, [])), (218, (3, 219, 0, 1, 1, [])), (219, (0, 220, 0, 0, 4, [])), (220, (34, 222, 50, 0, 0, [])), (222, (22, 225, 12, 31, 93, [])), (225, (3, 226, 0, 1, 1, [])), (226, (0, 228, 0, 1, 24, [])), (228, (34, 230, 50, 0, 0, [])), (230, (22, 233, 12, 32, 96, [])), (233, (3, 234, 0, 1, 1, [])), (234, (0, 237, 0, 2, 600, [])), (237, (34, 239, 51, 0, 0, [])), (239, (22, 242, 12, 39, 99, [])), (242, (3, 243, 0, 1, 1, [])), (243, (0, 245, 0, 1, 64, [])), (245, (34, 247, 50, 0, 0, [])), (247, (22, 250, 12, 44, 103, [])), (250, (3, 251, 0, 1, 1, [])), (251, (0, 253, 0, 1, 64, [])), (253, (34, 255, 50, 0, 0, [])), (255, (22, 258, 12, 45, 106, [])), (258, (3, 259, 0, 1, 1, [])), (259, (0, 261, 0, 1, 64, [])), (261, (34, 263, 50, 0, 0, [])), (263, (22, 266, 12, 46, 109, [])), (266, (3, 267, 0, 1, 1, [])), (267, (0, 269, 0, 1, 64, [])), (269, (34, 271, 50, 0, 0, [])), (271, (22, 274, 12, 47, 112, [])), (274, (3, 275, 0, 1, 1, [])), (275, (0, 277, 0, 1, 64, [])), (277, (34, 279, 50, 0, 0, [])), (279, (22, 282, 12, 49, 115, [])), (282, (3, 283, 0, 1, 1, [])), (283, (0, 285, 0, 1, 64, [])), (285, (34, 287, 50, 0, 0, [])), (287, (22, 290, 12, 50, 118, [])), (290, (3, 291, 0, 1, 1, [])), (291, (0, 293, 0, 1, 64, [])), (293, (34, 295, 50, 0, 0, [])), (295, (22, 298, 12, 51, 121, [])), (298, (3, 299, 0, 1, 1, [])), (299, (0, 301, 0, 1, 64, [])), (301, (34, 303, 50, 0, 0, [])), (303, (22, 306, 12, 52, 124, [])), (306, (3, 307, 0, 1, 1, [])), (307, (0, 309, 0, 1, 37, [])), (309, (34, 311, 51, 0, 0, [])), (311, (11, 312, 0, 0, 0, [])), (312, (0, 313, 0, 0, 0, [])), (313, (0, 315, 0, 1, 32, [])), (315, (29, 316, 0, 0, 0, [])), (316, (11, 317, 0, 0, 0, [])), (317, (0, 318, 0, 0, 1, [])), (318, (0, 320, 0, 1, 102, [])), (320, (29, 321, 0, 0, 0, [])), (321, (11, 322, 0, 0, 0, [])), (322, (0, 323, 0, 0, 2, [])), (323, (0, 325, 0, 1, 114, [])), (325, (29, 326, 0, 0, 0, [])), (326, (11, 327, 0, 0, 0, [])), (327, (0, 328, 0, 0, 3, [])), (328, (0, 330, 0, 1, 111, [])), (330, (29, 331, 0, 0, 0, [])), (331, (11, 332, 0, 0, 0, [])), (332, (0, 333, 0, 0, 4, [])), (333, (0, 335, 0, 1, 109, [])), (335, (29, 336, 0, 0, 0, [])), (336, (11, 337, 0, 0, 0, [])), (337, (0, 338, 0, 0, 5, [])), (338, (0, 340, 0, 1, 32, [])), (340, (29, 341, 0, 0, 0, [])), (341, (11, 342, 0, 0, 0, [])), (342, (0, 344, 0, 1, 6, [])), (344, (0, 346, 0, 1, 114, [])), (346, (29, 347, 0, 0, 0, [])), (347, (11, 348, 0, 0, 0, [])), (348, (0, 350, 0, 1, 7, [])), (350, (0, 352, 0, 1, 97, [])), (352, (29, 353, 0, 0, 0, [])), (353, (11, 354, 0, 0, 0, [])), (354, (0, 356, 0, 1, 8, [])), (356, (0, 358, 0, 1, 116, [])), (358, (29, 359, 0, 0, 0, [])), (359, (11, 360, 0, 0, 0, [])), (360, (0, 362, 0, 1, 9, [])), (362, (0, 364, 0, 1, 101, [])), (364, (29, 365, 0, 0, 0, [])), (365, (11, 366, 0, 0, 0, [])), (366, (0, 368, 0, 1, 10, [])), (368, (0, 370, 0, 1, 32, [])), (370, (29, 371, 0, 0, 0, [])), (371, (11, 372, 0, 0, 0, [])), (372, (0, 374, 0, 1, 11, [])), (374, (0, 376, 0, 1, 108, [])), (376, (29, 377, 0, 0, 0, [])), (377, (11, 378, 0, 0, 0, [])), (378, (0, 380, 0, 1, 12, [])), (380, (0, 382, 0, 1, 101, [])), (382, (29, 383, 0, 0, 0, [])), (383, (11, 384, 0, 0, 0, [])), (384, (0, 386, 0, 1, 13, [])), (386, (0, 388, 0, 1, 97, [])), (388, (29, 389, 0, 0, 0, [])), (389, (11, 390, 0, 0, 0, [])), (390, (0, 392, 0, 1, 14, [])), (392, (0, 394, 0, 1, 115, [])), (394, (29, 395, 0, 0, 0, [])), (395, (11, 396, 0, 0, 0, [])), (396, (0, 398, 0, 1, 15, [])), (398, (0, 400, 0, 1, 116, [])), (400, (29, 401, 0, 0, 0, [])), (401, (11, 402, 0, 0, 0, [])), (402, (0, 404, 0, 1, 16, [])), (404, (0, 406, 0, 1, 32, [])), (406, (29, 407, 0, 0, 0, [])), (407, (11, 408, 0, 0, 0, [])), (408, (0, 410, 0, 1, 17, [])), (410, (0, 412, 0, 1, 119, [])), (412, (29, 413, 0, 0, 0, [])), (413, (11, 414, 0, 0, 0, [])), (414, (0, 416, 0, 1, 18, [])), (416, (0, 418, 0, 1, 97, [])), (418, (29, 419, 0, 0, 0, [])), (419, (11, 420, 0, 0, 0, [])), (420, (0, 422, 0, 1, 19, [])), (422, (0, 424, 0, 1, 121, [])), (424, (29, 425, 0, 0, 0, [])), (425, (11, 426, 0, 0, 0, [])), (426, (0, 428, 0, 1, 20, [])), (428, (0, 430, 0, 1, 32, [])), (430, (29, 431, 0, 0, 0, [])), (431, (11, 432, 0, 0, 0, [])), (432, (0, 434, 0, 1, 21, [])), (434, (0, 436, 0, 1, 112, [])), (436, (29, 437, 0, 0, 0, [])), (437, (11, 438, 0, 0, 0, [])), (438, (0, 440, 0, 1, 22, [])), (440, (0, 442, 0, 1, 97, [])), (442, (29, 443, 0, 0, 0, [])), (443, (11, 444, 0, 0, 0, [])), (444, (0, 446, 0, 1, 23, [])), (446, (0, 448, 0, 1, 105, [])), (448, (29, 449, 0, 0, 0, [])), (449, (11, 450, 0, 0, 0, [])), (450, (0, 452, 0, 1, 24, [])), (452, (0, 454, 0, 1, 114, [])), (454, (29, 455, 0, 0, 0, [])), (455, (11, 456, 0, 0, 0, [])), (456, (0, 458, 0, 1, 25, [])), (458, (0, 460, 0, 1, 32, [])), (460, (29, 461, 0, 0, 0, [])), (461, (11, 462, 0, 0, 0, [])), (462, (0, 464, 0, 1, 26, [])), (464, (0, 466, 0, 1, 114, [])), (466, (29, 467, 0, 0, 0, [])), (467, (11, 468, 0, 0, 0, [])), (468, (0, 470, 0, 1, 27, [])), (470, (0, 472, 0, 1, 101, [])), (472, (29, 473, 0, 0, 0, [])), (473, (11, 474, 0, 0, 0, [])), (474, (0, 476, 0, 1, 28, [])), (476, (0, 478, 0, 1, 108, [])), (478, (29, 479, 0, 0, 0, [])), (479, (11, 480, 0, 0, 0, [])), (480, (0, 482, 0, 1, 29, [])), (482, (0, 484, 0, 1, 97, [])), (484, (29, 485, 0, 0, 0, [])), (485, (11, 486, 0, 0, 0, [])), (486, (0, 488, 0, 1, 30, [])), (488, (0, 490, 0, 1, 121, [])), (490, (29, 491, 0, 0, 0, [])), (491, (11, 492, 0, 0, 0, [])), (492, (0, 494, 0, 1, 31, [])), (494, (0, 496, 0, 1, 32, [])), (496, (29, 497, 0, 0, 0, [])), (497, (11, 498, 0, 0, 0, [])), (498, (0, 500, 0, 1, 32, [])), (500, (0, 502, 0, 1, 108, [])), (502, (29, 503, 0, 0, 0, [])), (503, (11, 504, 0, 0, 0, [])), (504, (0, 506, 0, 1, 33, [])), (506, (0, 508, 0, 1, 97, [])), (508, (29, 509, 0, 0, 0, [])), (509, (11, 510, 0, 0, 0, [])), (510, (0, 512, 0, 1, 34, [])), (512, (0, 514, 0, 1, 116, [])), (514, (29, 515, 0, 0, 0, [])), (515, (11, 516, 0, 0, 0, [])), (516, (0, 518, 0, 1, 35, [])), (518, (0, 520, 0, 1, 101, [])), (520, (29, 521, 0, 0, 0, [])), (521, (11, 522, 0, 0, 0, [])), (522, (0, 524, 0, 1, 36, [])), (524, (0, 526, 0, 1, 32, [])), (526, (29, 527, 0, 0, 0, [])), (527, (22, 530, 12, 53, 127, [])), (530, (3, 531, 0, 1, 1, [])), (531, (0, 533, 0, 1, 60, [])), (533, (34, 535, 50, 0, 0, [])), (535, (22, 538, 12, 56, 130, [])), (538, (3, 539, 0, 1, 1, [])), (539, (0, 541, 0, 1, 60, [])), (541, (34, 543, 50, 0, 0, [])), (543, (22, 546, 12, 57, 133, [])), (546, (3, 547, 0, 1, 1, [])), (547, (0, 549, 0, 1, 60, [])), (549, (34, 551, 50, 0, 0, [])), (551, (22, 554, 12, 58, 136, [])), (554, (3, 555, 0, 1, 1, [])), (555, (0, 557, 0, 1, 60, [])), (557, (34, 559, 50, 0, 0, [])), (559, (22, 562, 12, 59, 139, [])), (562, (3, 563, 0, 1, 1, [])), (563, (0, 565, 0, 1, 60, [])), (565, (34, 567, 52, 0, 0, [])), (567, (22, 570, 12, 60, 142, [])), (570, (3, 571, 0, 1, 1, [])), (571, (0, 573, 0, 1, 60, [])), (573, (34, 575, 50, 0, 0, [])), (575, (22, 578, 12, 61, 145, [])), (578, (0, 579, 0, 0, 0, [])), (579, (4, 580, 1, 0, 0, [(1, 0)])), (580, (3, 581, 1, 0, 1, [])), (581, (0, 583, 0, 1, 6, [])), (583, (14, 586, 628, 3, 0, [])), (586, (0, 587, 0, 0, 0, [])), (587, (4, 588, 2, 0, 0, [(1, 0)])), (588, (3, 589, 2, 0, 1, [])), (589, (0, 591, 0, 1, 6, [])), (591, (14, 594, 622, 3, 0, [])), (594, (3, 595, 0, 1, 1, [])), (595, (21, 598, 12, 0, 7, [])), (598, (0, 600, 0, 1, 6, [])), (600, (3, 601, 1, 0, 1, [])), (601, (6, 602, 0, 2, 0, [])), (602, (3, 603, 2, 0, 1, [])), (603, (6, 604, 0, 0, 0, [])), (604, (3, 605, 1, 0, 1, [])), (605, (3, 606, 2, 0, 1, [])), (606, (14, 609, 613, 1, 0, [])), (609, (0, 610, 0, 0, 0, [])), (610, (18, 0, 615, 0, 0, [])), (613, (0, 615, 0, 1, 60, [])), (615, (28, 616, 0, 0, 0, [])), (616, (5, 619, 2, 0, 1, [])), (619, (18, 0, 588, 0, 0, [])), (622, (5, 625, 1, 0, 1, [])), (625, (18, 0, 580, 0, 0, [])), (628, (38, 629, 0, 0, 0, []))]
/-- HearingDeskModel.in(III)Z -/
def k122 : List (Nat × Ins) := [(0, (3, 1, 0, 0, 1, [])), (1, (3, 2, 1, 0, 1, [])), (2, (14, 5, 14, 2, 0, [])), (5, (3, 6, 0, 0, 1, [])), (6, (3, 7, 2, 0, 1, [])), (7, (14, 10, 14, 4, 0, [])), (10, (0, 11, 0, 0, 1, [])), (11, (18, 0, 15, 0, 0, [])), (14, (0, 15, 0, 0, 0, [])), (15, (40, 16, 0, 0, 0, []))]
/-- HearingDeskModel.way(III)I -/
def k123 : List (Nat × Ins) := [(0, (3, 1, 1, 0, 1, [])), (1, (0, 2, 0, 0, 0, [])), (2, (0, 3, 0, 0, 5, [])), (3, (36, 6, 122, 3, 0, [(148, 0)])), (6, (13, 9, 34, 0, 0, [])), (9, (3, 10, 2, 0, 1, [])), (10, (0, 11, 0, 0, 0, [])), (11, (0, 12, 0, 0, 5, [])), (12, (36, 15, 122, 3, 0, [(148, 0)])), (15, (13, 18, 34, 0, 0, [])), (18, (3, 19, 1, 0, 1, [])), (19, (3, 20, 2, 0, 1, [])), (20, (14, 23, 34, 0, 0, [])), (23, (3, 24, 3, 0, 1, [])), (24, (0, 25, 0, 0, 0, [])), (25, (0, 28, 0, 2, 300, [])), (28, (36, 31, 122, 3, 0, [(148, 0)])), (31, (13, 34, 36, 1, 0, [])), (34, (0, 35, 0, 0, (-1), [])), (35, (39, 36, 0, 0, 0, [])), (36, (3, 37, 0, 1, 1, [])), (37, (21, 40, 12, 0, 7, [])), (40, (0, 42, 0, 1, 6, [])), (42, (3, 43, 1, 0, 1, [])), (43, (6, 44, 0, 2, 0, [])), (44, (3, 45, 2, 0, 1, [])), (45, (6, 46, 0, 0, 0, [])), (46, (24, 47, 50, 0, 0, [])), (47, (4, 49, 4, 0, 0, [(0, 0)])), (49, (3, 50, 0, 1, 1, [])), (50, (21, 53, 12, 0, 7, [])), (53, (0, 55, 0, 1, 6, [])), (55, (3, 56, 1, 0, 1, [])), (56, (6, 57, 0, 2, 0, [])), (57, (3, 58, 2, 0, 1, [])), (58, (6, 59, 0, 0, 0, [])), (59, (3, 60, 3, 0, 1, [])), (60, (28, 61, 0, 0, 0, [])), (61, (3, 62, 0, 1, 1, [])), (62, (21, 65, 12, 0, 7, [])), (65, (0, 67, 0, 1, 6, [])), (67, (3, 68, 2, 0, 1, [])), (68, (6, 69, 0, 2, 0, [])), (69, (3, 70, 1, 0, 1, [])), (70, (6, 71, 0, 0, 0, [])), (71, (3, 72, 3, 0, 1, [])), (72, (28, 73, 0, 0, 0, [])), (73, (3, 75, 4, 0, 0, [])), (75, (39, 76, 0, 0, 0, []))]
/-- HearingDeskModel.dialect(II)Z -/
def k124 : List (Nat × Ins) := [(0, (3, 1, 1, 0, 1, [])), (1, (0, 2, 0, 0, 2, [])), (2, (0, 4, 0, 1, 9, [])), (4, (36, 7, 122, 3, 0, [(148, 0)])), (7, (13, 10, 21, 0, 0, [])), (10, (3, 11, 2, 0, 1, [])), (11, (0, 12, 0, 0, 0, [])), (12, (3, 13, 1, 0, 1, [])), (13, (0, 14, 0, 0, 1, [])), (14, (6, 15, 0, 1, 0, [])), (15, (36, 18, 122, 3, 0, [(148, 0)])), (18, (13, 21, 23, 1, 0, [])), (21, (0, 22, 0, 0, 0, [])), (22, (40, 23, 0, 0, 0, [])), (23, (3, 24, 0, 1, 1, [])), (24, (21, 27, 12, 1, 13, [])), (27, (3, 28, 1, 0, 1, [])), (28, (3, 29, 2, 0, 1, [])), (29, (28, 30, 0, 0, 0, [])), (30, (0, 31, 0, 0, 1, [])), (31, (40, 32, 0, 0, 0, []))]
/-- HearingDeskModel.person(I)I -/
def k125 : List (Nat × Ins) := [(0, (3, 1, 0, 1, 1, [])), (1, (21, 4, 12, 2, 152, [])), (4, (0, 5, 0, 0, 5, [])), (5, (14, 8, 17, 0, 0, [])), (8, (3, 9, 1, 0, 1, [])), (9, (0, 10, 0, 0, 0, [])), (10, (0, 11, 0, 0, 5, [])), (11, (36, 14, 122, 3, 0, [(148, 0)])), (14, (13, 17, 19, 1, 0, [])), (17, (0, 18, 0, 0, (-1), [])), (18, (39, 19, 0, 0, 0, [])), (19, (3, 20, 0, 1, 1, [])), (20, (21, 23, 12, 3, 16, [])), (23, (3, 24, 0, 1, 1, [])), (24, (21, 27, 12, 2, 152, [])), (27, (3, 28, 1, 0, 1, [])), (28, (28, 29, 0, 0, 0, [])), (29, (3, 30, 0, 1, 1, [])), (30, (11, 31, 0, 0, 0, [])), (31, (21, 34, 12, 2, 152, [])), (34, (0, 35, 0, 0, 1, [])), (35, (6, 36, 0, 0, 0, [])), (36, (22, 39, 12, 2, 152, [])), (39, (3, 40, 0, 1, 1, [])), (40, (21, 43, 12, 2, 152, [])), (43, (0, 44, 0, 0, 1, [])), (44, (6, 45, 0, 1, 0, [])), (45, (39, 46, 0, 0, 0, []))]
/-- HearingDeskModel.isPerson(I)Z -/
def k126 : List (Nat × Ins) := [(0, (3, 1, 1, 0, 1, [])), (1, (0, 2, 0, 0, 0, [])), (2, (3, 3, 0, 1, 1, [])), (3, (21, 6, 12, 2, 152, [])), (6, (0, 7, 0, 0, 1, [])), (7, (6, 8, 0, 1, 0, [])), (8, (36, 11, 122, 3, 0, [(148, 0)])), (11, (40, 12, 0, 0, 0, []))]
/-- HearingDeskModel.isDay(I)Z -/
def k127 : List (Nat × Ins) := [(0, (3, 1, 0, 0, 1, [])), (1, (0, 2, 0, 0, 0, [])), (2, (0, 5, 0, 2, 999, [])), (5, (36, 8, 122, 3, 0, [(148, 0)])), (8, (40, 9, 0, 0, 0, []))]
/-- HearingDeskModel.paper(IIIII)I -/
def k128 : List (Nat × Ins) := [(0, (3, 1, 0, 1, 1, [])), (1, (21, 4, 12, 4, 155, [])), (4, (0, 6, 0, 1, 40, [])), (6, (14, 9, 59, 0, 0, [])), (9, (3, 10, 0, 1, 1, [])), (10, (3, 11, 1, 0, 1, [])), (11, (36, 14, 126, 2, 1, [(158, 0)])), (14, (13, 17, 59, 0, 0, [])), (17, (3, 18, 2, 0, 1, [])), (18, (0, 19, 0, 0, 0, [])), (19, (0, 21, 0, 1, 9, [])), (21, (36, 24, 122, 3, 0, [(148, 0)])), (24, (13, 27, 59, 0, 0, [])), (27, (3, 28, 3, 0, 1, [])), (28, (0, 29, 0, 0, 1, [])), (29, (0, 30, 0, 0, 5, [])), (30, (36, 33, 122, 3, 0, [(148, 0)])), (33, (13, 36, 59, 0, 0, [])), (36, (3, 38, 4, 0, 0, [])), (38, (36, 41, 127, 1, 0, [(162, 0)])), (41, (13, 44, 59, 0, 0, [])), (44, (3, 46, 5, 0, 0, [])), (46, (36, 49, 127, 1, 0, [(162, 0)])), (49, (13, 52, 59, 0, 0, [])), (52, (3, 54, 4, 0, 0, [])), (54, (3, 56, 5, 0, 0, [])), (56, (14, 59, 61, 5, 0, [])), (59, (0, 60, 0, 0, (-1), [])), (60, (39, 61, 0, 0, 0, [])), (61, (3, 62, 0, 1, 1, [])), (62, (21, 65, 12, 5, 19, [])), (65, (3, 66, 0, 1, 1, [])), (66, (21, 69, 12, 4, 155, [])), (69, (3, 70, 1, 0, 1, [])), (70, (28, 71, 0, 0, 0, [])), (71, (3, 72, 0, 1, 1, [])), (72, (21, 75, 12, 6, 22, [])), (75, (3, 76, 0, 1, 1, [])), (76, (21, 79, 12, 4, 155, [])), (79, (3, 80, 2, 0, 1, [])), (80, (28, 81, 0, 0, 0, [])), (81, (3, 82, 0, 1, 1, [])), (82, (21, 85, 12, 7, 25, [])), (85, (3, 86, 0, 1, 1, [])), (86, (21, 89, 12, 4, 155, [])), (89, (3, 90, 3, 0, 1, [])), (90, (28, 91, 0, 0, 0, [])), (91, (3, 92, 0, 1, 1, [])), (92, (21, 95, 12, 8, 28, [])), (95, (3, 96, 0, 1, 1, [])), (96, (21, 99, 12, 4, 155, [])), (99, (3, 101, 4, 0, 0, [])), (101, (28, 102, 0, 0, 0, [])), (102, (3, 103, 0, 1, 1, [])), (103, (21, 106, 12, 9, 31, [])), (106, (3, 107, 0, 1, 1, [])), (107, (21, 110, 12, 4, 155, [])), (110, (3, 112, 5, 0, 0, [])), (112, (28, 113, 0, 0, 0, [])), (113, (3, 114, 0, 1, 1, [])), (114, (11, 115, 0, 0, 0, [])), (115, (21, 118, 12, 4, 155, [])), (118, (0, 119, 0, 0, 1, [])), (119, (6, 120, 0, 0, 0, [])), (120, (22, 123, 12, 4, 155, [])), (123, (3, 124, 0, 1, 1, [])), (124, (21, 127, 12, 4, 155, [])), (127, (0, 128, 0, 0, 1, [])), (128, (6, 129, 0, 1, 0, [])), (129, (39, 130, 0, 0, 0, []))]
/-- HearingDeskModel.withdraw(II)Z -/
def k129 : List (Nat × Ins) := [(0, (3, 1, 1, 0, 1, [])), (1, (0, 2, 0, 0, 0, [])), (2, (3, 3, 0, 1, 1, [])), (3, (21, 6, 12, 4, 155, [])), (6, (0, 7, 0, 0, 1, [])), (7, (6, 8, 0, 1, 0, [])), (8, (36, 11, 122, 3, 0, [(148, 0)])), (11, (13, 14, 21, 0, 0, [])), (14, (3, 15, 2, 0, 1, [])), (15, (36, 18, 127, 1, 0, [(162, 0)])), (18, (13, 21, 23, 1, 0, [])), (21, (0, 22, 0, 0, 0, [])), (22, (40, 23, 0, 0, 0, [])), (23, (3, 24, 0, 1, 1, [])), (24, (21, 27, 12, 9, 31, [])), (27, (3, 28, 1, 0, 1, [])), (28, (3, 29, 0, 1, 1, [])), (29, (21, 32, 12, 9, 31, [])), (32, (3, 33, 1, 0, 1, [])), (33, (24, 34, 50, 0, 0, [])), (34, (3, 35, 2, 0, 1, [])), (35, (14, 38, 47, 3, 0, [])), (38, (3, 39, 0, 1, 1, [])), (39, (21, 42, 12, 9, 31, [])), (42, (3, 43, 1, 0, 1, [])), (43, (24, 44, 50, 0, 0, [])), (44, (18, 0, 48, 0, 0, [])), (47, (3, 48, 2, 0, 1, [])), (48, (28, 49, 0, 0, 0, [])), (49, (0, 50, 0, 0, 1, [])), (50, (40, 51, 0, 0, 0, []))]
/-- HearingDeskModel.gradeIn(III)I -/
def k130 : List (Nat × Ins) := [(0, (0, 1, 0, 0, 0, [])), (1, (4, 3, 4, 0, 0, [(0, 0)])), (3, (0, 4, 0, 0, 0, [])), (4, (4, 6, 5, 0, 0, [(0, 0)])), (6, (3, 7, 2, 0, 1, [])), (7, (4, 9, 6, 0, 0, [(0, 0)])), (9, (0, 10, 0, 0, 0, [])), (10, (4, 12, 7, 0, 0, [(0, 0)])), (12, (3, 14, 7, 0, 0, [])), (14, (3, 15, 0, 1, 1, [])), (15, (21, 18, 12, 4, 155, [])), (18, (14, 21, 107, 3, 0, [])), (21, (3, 22, 0, 1, 1, [])), (22, (21, 25, 12, 5, 19, [])), (25, (3, 27, 7, 0, 0, [])), (27, (24, 28, 50, 0, 0, [])), (28, (3, 29, 1, 0, 1, [])), (29, (14, 32, 101, 1, 0, [])), (32, (3, 33, 0, 1, 1, [])), (33, (21, 36, 12, 6, 22, [])), (36, (3, 38, 7, 0, 0, [])), (38, (24, 39, 50, 0, 0, [])), (39, (3, 41, 6, 0, 0, [])), (41, (14, 44, 101, 1, 0, [])), (44, (3, 45, 0, 1, 1, [])), (45, (21, 48, 12, 8, 28, [])), (48, (3, 50, 7, 0, 0, [])), (50, (24, 51, 50, 0, 0, [])), (51, (3, 52, 3, 0, 1, [])), (52, (14, 55, 101, 4, 0, [])), (55, (3, 56, 0, 1, 1, [])), (56, (21, 59, 12, 9, 31, [])), (59, (3, 61, 7, 0, 0, [])), (61, (24, 62, 50, 0, 0, [])), (62, (3, 63, 3, 0, 1, [])), (63, (14, 66, 69, 3, 0, [])), (66, (18, 0, 101, 0, 0, [])), (69, (3, 70, 0, 1, 1, [])), (70, (21, 73, 12, 7, 25, [])), (73, (3, 75, 7, 0, 0, [])), (75, (24, 76, 50, 0, 0, [])), (76, (3, 78, 5, 0, 0, [])), (78, (6, 79, 0, 1, 0, [])), (79, (3, 81, 4, 0, 0, [])), (81, (14, 84, 97, 5, 0, [])), (84, (3, 85, 0, 1, 1, [])), (85, (21, 88, 12, 7, 25, [])), (88, (3, 90, 7, 0, 0, [])), (90, (24, 91, 50, 0, 0, [])), (91, (3, 93, 5, 0, 0, [])), (93, (6, 94, 0, 1, 0, [])), (94, (18, 0, 99, 0, 0, [])), (97, (3, 99, 4, 0, 0, [])), (99, (4, 101, 4, 0, 0, [(0, 0)])), (101, (5, 104, 7, 0, 1, [])), (104, (18, 0, 12, 0, 0, [])), (107, (3, 108, 0, 1, 1, [])), (108, (21, 111, 12, 1, 13, [])), (111, (3, 113, 6, 0, 0, [])), (113, (24, 114, 50, 0, 0, [])), (114, (13, 117, 120, 1, 0, [])), (117, (3, 119, 4, 0, 0, [])), (119, (39, 120, 0, 0, 0, [])), (120, (3, 121, 0, 1, 1, [])), (121, (21, 124, 12, 1, 13, [])), (124, (3, 126, 6, 0, 0, [])), (126, (24, 127, 50, 0, 0, [])), (127, (4, 129, 6, 0, 0, [(0, 0)])), (129, (5, 132, 5, 0, 1, [])), (132, (18, 0, 9, 0, 0, []))]
/-- HearingDeskModel.grade(III)I -/
def k131 : List (Nat × Ins) := [(0, (3, 1, 0, 1, 1, [])), (1, (3, 2, 1, 0, 1, [])), (2, (36, 5, 126, 2, 1, [(158, 0)])), (5, (13, 8, 35, 0, 0, [])), (8, (3, 9, 2, 0, 1, [])), (9, (0, 10, 0, 0, 0, [])), (10, (0, 12, 0, 1, 9, [])), (12, (36, 15, 122, 3, 0, [(148, 0)])), (15, (13, 18, 35, 0, 0, [])), (18, (3, 19, 3, 0, 1, [])), (19, (36, 22, 127, 1, 0, [(162, 0)])), (22, (13, 25, 35, 0, 0, [])), (25, (3, 26, 0, 1, 1, [])), (26, (3, 27, 1, 0, 1, [])), (27, (3, 28, 2, 0, 1, [])), (28, (3, 29, 3, 0, 1, [])), (29, (36, 32, 130, 4, 1, [(165, 0)])), (32, (18, 0, 36, 0, 0, [])), (35, (0, 36, 0, 0, (-1), [])), (36, (39, 37, 0, 0, 0, []))]
/-- HearingDeskModel.bar(IIZ)Z -/
def k132 : List (Nat × Ins) := [(0, (3, 1, 0, 1, 1, [])), (1, (3, 2, 1, 0, 1, [])), (2, (36, 5, 126, 2, 1, [(158, 0)])), (5, (13, 8, 18, 0, 0, [])), (8, (3, 9, 2, 0, 1, [])), (9, (0, 10, 0, 0, 0, [])), (10, (0, 12, 0, 1, 19, [])), (12, (36, 15, 122, 3, 0, [(148, 0)])), (15, (13, 18, 20, 1, 0, [])), (18, (0, 19, 0, 0, 0, [])), (19, (40, 20, 0, 0, 0, [])), (20, (3, 21, 0, 1, 1, [])), (21, (21, 24, 12, 10, 34, [])), (24, (0, 26, 0, 1, 20, [])), (26, (3, 27, 1, 0, 1, [])), (27, (6, 28, 0, 2, 0, [])), (28, (3, 29, 2, 0, 1, [])), (29, (6, 30, 0, 0, 0, [])), (30, (24, 31, 52, 0, 0, [])), (31, (4, 33, 4, 0, 0, [(0, 0)])), (33, (3, 34, 0, 1, 1, [])), (34, (21, 37, 12, 10, 34, [])), (37, (0, 39, 0, 1, 20, [])), (39, (3, 40, 1, 0, 1, [])), (40, (6, 41, 0, 2, 0, [])), (41, (3, 42, 2, 0, 1, [])), (42, (6, 43, 0, 0, 0, [])), (43, (3, 44, 3, 0, 1, [])), (44, (30, 45, 0, 0, 0, [])), (45, (3, 47, 4, 0, 0, [])), (47, (3, 48, 3, 0, 1, [])), (48, (14, 51, 55, 0, 0, [])), (51, (0, 52, 0, 0, 1, [])), (52, (18, 0, 56, 0, 0, [])), (55, (0, 56, 0, 0, 0, [])), (56, (40, 57, 0, 0, 0, []))]
/-- HearingDeskModel.rest(I)I -/
def k133 : List (Nat × Ins) := [(0, (3, 1, 1, 0, 1, [])), (1, (0, 2, 0, 0, 0, [])), (2, (0, 4, 0, 1, 120, [])), (4, (36, 7, 122, 3, 0, [(148, 0)])), (7, (13, 10, 12, 1, 0, [])), (10, (0, 11, 0, 0, (-1), [])), (11, (39, 12, 0, 0, 0, [])), (12, (3, 13, 0, 1, 1, [])), (13, (21, 16, 12, 11, 38, [])), (16, (4, 17, 2, 0, 0, [(1, 0)])), (17, (3, 18, 0, 1, 1, [])), (18, (3, 19, 1, 0, 1, [])), (19, (22, 22, 12, 11, 38, [])), (22, (3, 23, 2, 0, 1, [])), (23, (39, 24, 0, 0, 0, []))]
/-- HearingDeskModel.ofDay(II)I -/
def k134 : List (Nat × Ins) := [(0, (0, 1, 0, 0, 0, [])), (1, (4, 2, 3, 0, 0, [(1, 0)])), (2, (0, 3, 0, 0, 0, [])), (3, (4, 5, 4, 0, 0, [(0, 0)])), (5, (3, 7, 4, 0, 0, [])), (7, (3, 8, 0, 1, 1, [])), (8, (21, 11, 12, 12, 169, [])), (11, (14, 14, 55, 3, 0, [])), (14, (3, 15, 3, 0, 1, [])), (15, (3, 17, 4, 0, 0, [])), (17, (3, 18, 2, 0, 1, [])), (18, (14, 21, 46, 0, 0, [])), (21, (3, 22, 0, 1, 1, [])), (22, (21, 25, 12, 14, 45, [])), (25, (3, 27, 4, 0, 0, [])), (27, (24, 28, 50, 0, 0, [])), (28, (3, 29, 1, 0, 1, [])), (29, (14, 32, 46, 1, 0, [])), (32, (3, 33, 0, 1, 1, [])), (33, (21, 36, 12, 20, 63, [])), (36, (3, 38, 4, 0, 0, [])), (38, (24, 39, 50, 0, 0, [])), (39, (13, 42, 46, 3, 0, [])), (42, (0, 43, 0, 0, 1, [])), (43, (18, 0, 47, 0, 0, [])), (46, (0, 47, 0, 0, 0, [])), (47, (6, 48, 0, 0, 0, [])), (48, (4, 49, 3, 0, 0, [(1, 0)])), (49, (5, 52, 4, 0, 1, [])), (52, (18, 0, 5, 0, 0, [])), (55, (3, 56, 3, 0, 1, [])), (56, (39, 57, 0, 0, 0, []))]
/-- HearingDeskModel.hearing(IIIIIII)I -/
def k135 : List (Nat × Ins) := [(0, (3, 1, 0, 1, 1, [])), (1, (21, 4, 12, 12, 169, [])), (4, (0, 6, 0, 1, 24, [])), (6, (14, 9, 101, 0, 0, [])), (9, (3, 10, 1, 0, 1, [])), (10, (0, 11, 0, 0, 0, [])), (11, (0, 13, 0, 1, 19, [])), (13, (36, 16, 122, 3, 0, [(148, 0)])), (16, (13, 19, 101, 0, 0, [])), (19, (3, 20, 2, 0, 1, [])), (20, (36, 23, 127, 1, 0, [(162, 0)])), (23, (13, 26, 101, 0, 0, [])), (26, (3, 27, 3, 0, 1, [])), (27, (0, 28, 0, 0, 0, [])), (28, (0, 31, 0, 2, 1439, [])), (31, (36, 34, 122, 3, 0, [(148, 0)])), (34, (13, 37, 101, 0, 0, [])), (37, (3, 39, 4, 0, 0, [])), (39, (0, 41, 0, 1, 10, [])), (41, (0, 44, 0, 2, 240, [])), (44, (36, 47, 122, 3, 0, [(148, 0)])), (47, (13, 50, 101, 0, 0, [])), (50, (3, 51, 3, 0, 1, [])), (51, (3, 53, 4, 0, 0, [])), (53, (6, 54, 0, 0, 0, [])), (54, (0, 57, 0, 2, 1440, [])), (57, (14, 60, 101, 4, 0, [])), (60, (3, 62, 5, 0, 0, [])), (62, (0, 63, 0, 0, 0, [])), (63, (0, 64, 0, 0, 5, [])), (64, (36, 67, 122, 3, 0, [(148, 0)])), (67, (13, 70, 101, 0, 0, [])), (70, (3, 72, 6, 0, 0, [])), (72, (0, 73, 0, 0, 1, [])), (73, (0, 75, 0, 1, 9, [])), (75, (36, 78, 122, 3, 0, [(148, 0)])), (78, (13, 81, 101, 0, 0, [])), (81, (3, 83, 7, 0, 0, [])), (83, (0, 84, 0, 0, 1, [])), (84, (0, 85, 0, 0, 5, [])), (85, (36, 88, 122, 3, 0, [(148, 0)])), (88, (13, 91, 101, 0, 0, [])), (91, (3, 92, 0, 1, 1, [])), (92, (3, 93, 2, 0, 1, [])), (93, (0, 94, 0, 0, (-1), [])), (94, (36, 97, 134, 3, 1, [(172, 0)])), (97, (0, 98, 0, 0, 4, [])), (98, (14, 101, 103, 1, 0, [])), (101, (0, 102, 0, 0, (-1), [])), (102, (39, 103, 0, 0, 0, [])), (103, (3, 104, 0, 1, 1, [])), (104, (21, 107, 12, 12, 169, [])), (107, (4, 109, 8, 0, 0, [(0, 0)])), (109, (3, 110, 0, 1, 1, [])), (110, (11, 111, 0, 0, 0, [])), (111, (21, 114, 12, 12, 169, [])), (114, (0, 115, 0, 0, 1, [])), (115, (6, 116, 0, 0, 0, [])), (116, (22, 119, 12, 12, 169, [])), (119, (3, 120, 0, 1, 1, [])), (120, (21, 123, 12, 13, 42, [])), (123, (3, 125, 8, 0, 0, [])), (125, (3, 126, 1, 0, 1, [])), (126, (28, 127, 0, 0, 0, [])), (127, (3, 128, 0, 1, 1, [])), (128, (21, 131, 12, 14, 45, [])), (131, (3, 133, 8, 0, 0, [])), (133, (3, 134, 2, 0, 1, [])), (134, (28, 135, 0, 0, 0, [])), (135, (3, 136, 0, 1, 1, [])), (136, (21, 139, 12, 15, 48, [])), (139, (3, 141, 8, 0, 0, [])), (141, (3, 142, 3, 0, 1, [])), (142, (28, 143, 0, 0, 0, [])), (143, (3, 144, 0, 1, 1, [])), (144, (21, 147, 12, 16, 51, [])), (147, (3, 149, 8, 0, 0, [])), (149, (3, 151, 4, 0, 0, [])), (151, (28, 152, 0, 0, 0, [])), (152, (3, 153, 0, 1, 1, [])), (153, (21, 156, 12, 17, 54, [])), (156, (3, 158, 8, 0, 0, [])), (158, (3, 160, 5, 0, 0, [])), (160, (28, 161, 0, 0, 0, [])), (161, (3, 162, 0, 1, 1, [])), (162, (21, 165, 12, 18, 57, [])), (165, (3, 167, 8, 0, 0, [])), (167, (3, 169, 6, 0, 0, [])), (169, (28, 170, 0, 0, 0, [])), (170, (3, 171, 0, 1, 1, [])), (171, (21, 174, 12, 19, 60, [])), (174, (3, 176, 8, 0, 0, [])), (176, (3, 178, 7, 0, 0, [])), (178, (28, 179, 0, 0, 0, [])), (179, (3, 180, 0, 1, 1, [])), (180, (21, 183, 12, 20, 63, [])), (183, (3, 185, 8, 0, 0, [])), (185, (0, 186, 0, 0, (-1), [])), (186, (28, 187, 0, 0, 0, [])), (187, (3, 188, 0, 1, 1, [])), (188, (21, 191, 12, 21, 66, [])), (191, (3, 193, 8, 0, 0, [])), (193, (0, 194, 0, 0, (-1), [])), (194, (28, 195, 0, 0, 0, [])), (195, (3, 196, 0, 1, 1, [])), (196, (21, 199, 12, 22, 69, [])), (199, (3, 201, 8, 0, 0, [])), (201, (0, 202, 0, 0, (-1), [])), (202, (28, 203, 0, 0, 0, [])), (203, (3, 204, 0, 1, 1, [])), (204, (21, 207, 12, 23, 72, [])), (207, (3, 209, 8, 0, 0, [])), (209, (0, 210, 0, 0, (-1), [])), (210, (28, 211, 0, 0, 0, [])), (211, (3, 213, 8, 0, 0, [])), (213, (39, 214, 0, 0, 0, []))]
/-- HearingDeskModel.isHearing(I)Z -/
def k136 : List (Nat × Ins) := [(0, (3, 1, 1, 0, 1, [])), (1, (0, 2, 0, 0, 0, [])), (2, (3, 3, 0, 1, 1, [])), (3, (21, 6, 12, 12, 169, [])), (6, (0, 7, 0, 0, 1, [])), (7, (6, 8, 0, 1, 0, [])), (8, (36, 11, 122, 3, 0, [(148, 0)])), (11, (40, 12, 0, 0, 0, []))]
/-- HearingDeskModel.move(III)Z -/
def k137 : List (Nat × Ins) := [(0, (3, 1, 0, 1, 1, [])), (1, (3, 2, 1, 0, 1, [])), (2, (36, 5, 136, 2, 1, [(176, 0)])), (5, (13, 8, 59, 0, 0, [])), (8, (3, 9, 0, 1, 1, [])), (9, (21, 12, 12, 20, 63, [])), (12, (3, 13, 1, 0, 1, [])), (13, (24, 14, 50, 0, 0, [])), (14, (13, 17, 59, 3, 0, [])), (17, (3, 18, 2, 0, 1, [])), (18, (36, 21, 127, 1, 0, [(162, 0)])), (21, (13, 24, 59, 0, 0, [])), (24, (3, 25, 3, 0, 1, [])), (25, (0, 26, 0, 0, 0, [])), (26, (0, 29, 0, 2, 1439, [])), (29, (36, 32, 122, 3, 0, [(148, 0)])), (32, (13, 35, 59, 0, 0, [])), (35, (3, 36, 3, 0, 1, [])), (36, (3, 37, 0, 1, 1, [])), (37, (21, 40, 12, 16, 51, [])), (40, (3, 41, 1, 0, 1, [])), (41, (24, 42, 50, 0, 0, [])), (42, (6, 43, 0, 0, 0, [])), (43, (0, 46, 0, 2, 1440, [])), (46, (14, 49, 59, 4, 0, [])), (49, (3, 50, 0, 1, 1, [])), (50, (3, 51, 2, 0, 1, [])), (51, (3, 52, 1, 0, 1, [])), (52, (36, 55, 134, 3, 1, [(172, 0)])), (55, (0, 56, 0, 0, 4, [])), (56, (14, 59, 61, 2, 0, [])), (59, (0, 60, 0, 0, 0, [])), (60, (40, 61, 0, 0, 0, [])), (61, (3, 62, 0, 1, 1, [])), (62, (21, 65, 12, 14, 45, [])), (65, (3, 66, 1, 0, 1, [])), (66, (3, 67, 2, 0, 1, [])), (67, (28, 68, 0, 0, 0, [])), (68, (3, 69, 0, 1, 1, [])), (69, (21, 72, 12, 15, 48, [])), (72, (3, 73, 1, 0, 1, [])), (73, (3, 74, 3, 0, 1, [])), (74, (28, 75, 0, 0, 0, [])), (75, (0, 76, 0, 0, 1, [])), (76, (40, 77, 0, 0, 0, []))]
/-- HearingDeskModel.cancel(II)Z -/
def k138 : List (Nat × Ins) := [(0, (3, 1, 0, 1, 1, [])), (1, (3, 2, 1, 0, 1, [])), (2, (36, 5, 136, 2, 1, [(176, 0)])), (5, (13, 8, 27, 0, 0, [])), (8, (3, 9, 0, 1, 1, [])), (9, (21, 12, 12, 20, 63, [])), (12, (3, 13, 1, 0, 1, [])), (13, (24, 14, 50, 0, 0, [])), (14, (13, 17, 27, 3, 0, [])), (17, (3, 18, 2, 0, 1, [])), (18, (0, 19, 0, 0, 0, [])), (19, (0, 21, 179, 3, 100000, [])), (21, (36, 24, 122, 3, 0, [(148, 0)])), (24, (13, 27, 29, 1, 0, [])), (27, (0, 28, 0, 0, 0, [])), (28, (40, 29, 0, 0, 0, [])), (29, (3, 30, 0, 1, 1, [])), (30, (21, 33, 12, 20, 63, [])), (33, (3, 34, 1, 0, 1, [])), (34, (3, 35, 2, 0, 1, [])), (35, (28, 36, 0, 0, 0, [])), (36, (0, 37, 0, 0, 1, [])), (37, (40, 38, 0, 0, 0, []))]
/-- HearingDeskModel.isOf(III)Z -/
def k139 : List (Nat × Ins) := [(0, (3, 1, 0, 1, 1, [])), (1, (3, 2, 1, 0, 1, [])), (2, (3, 3, 2, 0, 1, [])), (3, (3, 4, 0, 1, 1, [])), (4, (21, 7, 12, 14, 45, [])), (7, (3, 8, 3, 0, 1, [])), (8, (24, 9, 50, 0, 0, [])), (9, (36, 12, 130, 4, 1, [(165, 0)])), (12, (3, 13, 0, 1, 1, [])), (13, (21, 16, 12, 19, 60, [])), (16, (3, 17, 3, 0, 1, [])), (17, (24, 18, 50, 0, 0, [])), (18, (14, 21, 25, 2, 0, [])), (21, (0, 22, 0, 0, 1, [])), (22, (18, 0, 26, 0, 0, [])), (25, (0, 26, 0, 0, 0, [])), (26, (40, 27, 0, 0, 0, []))]
/-- HearingDeskModel.isFit(II)Z -/
def k140 : List (Nat × Ins) := [(0, (3, 1, 0, 1, 1, [])), (1, (21, 4, 12, 10, 34, [])), (4, (0, 6, 0, 1, 20, [])), (6, (3, 7, 1, 0, 1, [])), (7, (6, 8, 0, 2, 0, [])), (8, (3, 9, 0, 1, 1, [])), (9, (21, 12, 12, 13, 42, [])), (12, (3, 13, 2, 0, 1, [])), (13, (24, 14, 50, 0, 0, [])), (14, (6, 15, 0, 0, 0, [])), (15, (24, 16, 52, 0, 0, [])), (16, (13, 19, 48, 1, 0, [])), (19, (3, 20, 0, 1, 1, [])), (20, (3, 21, 1, 0, 1, [])), (21, (0, 22, 0, 0, 0, [])), (22, (3, 23, 2, 0, 1, [])), (23, (36, 26, 139, 4, 1, [(180, 0)])), (26, (13, 29, 48, 0, 0, [])), (29, (3, 30, 0, 1, 1, [])), (30, (3, 31, 1, 0, 1, [])), (31, (3, 32, 0, 1, 1, [])), (32, (21, 35, 12, 18, 57, [])), (35, (3, 36, 2, 0, 1, [])), (36, (24, 37, 50, 0, 0, [])), (37, (3, 38, 2, 0, 1, [])), (38, (36, 41, 139, 4, 1, [(180, 0)])), (41, (13, 44, 48, 0, 0, [])), (44, (0, 45, 0, 0, 1, [])), (45, (18, 0, 49, 0, 0, [])), (48, (0, 49, 0, 0, 0, [])), (49, (40, 50, 0, 0, 0, []))]
/-- HearingDeskModel.comes(IIII)V -/
def k141 : List (Nat × Ins) := [(0, (0, 2, 0, 1, 30, [])), (2, (3, 3, 1, 0, 1, [])), (3, (6, 4, 0, 2, 0, [])), (4, (3, 5, 0, 1, 1, [])), (5, (21, 8, 12, 27, 84, [])), (8, (3, 9, 1, 0, 1, [])), (9, (24, 10, 50, 0, 0, [])), (10, (6, 11, 0, 0, 0, [])), (11, (4, 13, 5, 0, 0, [(0, 0)])), (13, (3, 14, 0, 1, 1, [])), (14, (21, 17, 12, 24, 75, [])), (17, (3, 19, 5, 0, 0, [])), (19, (3, 20, 2, 0, 1, [])), (20, (28, 21, 0, 0, 0, [])), (21, (3, 22, 0, 1, 1, [])), (22, (21, 25, 12, 25, 78, [])), (25, (3, 27, 5, 0, 0, [])), (27, (3, 28, 3, 0, 1, [])), (28, (28, 29, 0, 0, 0, [])), (29, (3, 30, 0, 1, 1, [])), (30, (21, 33, 12, 26, 81, [])), (33, (3, 35, 5, 0, 0, [])), (35, (3, 37, 4, 0, 0, [])), (37, (28, 38, 0, 0, 0, [])), (38, (3, 39, 0, 1, 1, [])), (39, (21, 42, 12, 27, 84, [])), (42, (3, 43, 1, 0, 1, [])), (43, (12, 44, 0, 0, 0, [])), (44, (24, 45, 50, 0, 0, [])), (45, (0, 46, 0, 0, 1, [])), (46, (6, 47, 0, 0, 0, [])), (47, (28, 48, 0, 0, 0, [])), (48, (38, 49, 0, 0, 0, []))]
/-- HearingDeskModel.relay(III)I -/
def k142 : List (Nat × Ins) := [(0, (3, 1, 1, 0, 1, [])), (1, (3, 2, 2, 0, 1, [])), (2, (14, 5, 68, 0, 0, [])), (5, (3, 6, 0, 1, 1, [])), (6, (21, 9, 12, 10, 34, [])), (9, (0, 11, 0, 1, 20, [])), (11, (3, 12, 1, 0, 1, [])), (12, (6, 13, 0, 2, 0, [])), (13, (3, 14, 0, 1, 1, [])), (14, (21, 17, 12, 13, 42, [])), (17, (3, 18, 3, 0, 1, [])), (18, (24, 19, 50, 0, 0, [])), (19, (6, 20, 0, 0, 0, [])), (20, (24, 21, 52, 0, 0, [])), (21, (13, 24, 68, 1, 0, [])), (24, (3, 25, 0, 1, 1, [])), (25, (21, 28, 12, 10, 34, [])), (28, (0, 30, 0, 1, 20, [])), (30, (3, 31, 2, 0, 1, [])), (31, (6, 32, 0, 2, 0, [])), (32, (3, 33, 0, 1, 1, [])), (33, (21, 36, 12, 13, 42, [])), (36, (3, 37, 3, 0, 1, [])), (37, (24, 38, 50, 0, 0, [])), (38, (6, 39, 0, 0, 0, [])), (39, (24, 40, 52, 0, 0, [])), (40, (13, 43, 68, 1, 0, [])), (43, (3, 44, 0, 1, 1, [])), (44, (3, 45, 1, 0, 1, [])), (45, (0, 46, 0, 0, 0, [])), (46, (3, 47, 3, 0, 1, [])), (47, (36, 50, 139, 4, 1, [(180, 0)])), (50, (13, 53, 68, 0, 0, [])), (53, (3, 54, 0, 1, 1, [])), (54, (3, 55, 2, 0, 1, [])), (55, (3, 56, 0, 1, 1, [])), (56, (21, 59, 12, 18, 57, [])), (59, (3, 60, 3, 0, 1, [])), (60, (24, 61, 50, 0, 0, [])), (61, (3, 62, 3, 0, 1, [])), (62, (36, 65, 139, 4, 1, [(180, 0)])), (65, (13, 68, 70, 1, 0, [])), (68, (0, 69, 0, 0, (-1), [])), (69, (39, 70, 0, 0, 0, [])), (70, (0, 71, 0, 0, 1, [])), (71, (4, 73, 4, 0, 0, [(0, 0)])), (73, (3, 75, 4, 0, 0, [])), (75, (0, 77, 0, 1, 10, [])), (77, (14, 80, 122, 3, 0, [])), (80, (3, 82, 4, 0, 0, [])), (82, (3, 83, 0, 1, 1, [])), (83, (21, 86, 12, 18, 57, [])), (86, (3, 87, 3, 0, 1, [])), (87, (24, 88, 50, 0, 0, [])), (88, (14, 91, 116, 0, 0, [])), (91, (3, 92, 0, 1, 1, [])), (92, (3, 93, 1, 0, 1, [])), (93, (3, 95, 4, 0, 0, [])), (95, (3, 96, 3, 0, 1, [])), (96, (36, 99, 139, 4, 1, [(180, 0)])), (99, (13, 102, 116, 0, 0, [])), (102, (3, 103, 0, 1, 1, [])), (103, (3, 104, 2, 0, 1, [])), (104, (3, 106, 4, 0, 0, [])), (106, (3, 107, 3, 0, 1, [])), (107, (36, 110, 139, 4, 1, [(180, 0)])), (110, (13, 113, 116, 0, 0, [])), (113, (3, 115, 4, 0, 0, [])), (115, (39, 116, 0, 0, 0, [])), (116, (5, 119, 4, 0, 1, [])), (119, (18, 0, 73, 0, 0, [])), (122, (0, 123, 0, 0, (-1), [])), (123, (39, 124, 0, 0, 0, []))]
/-- HearingDeskModel.teamsOf(II)V -/
def k143 : List (Nat × Ins) := [(0, (3, 1, 0, 1, 1, [])), (1, (21, 4, 12, 27, 84, [])), (4, (3, 5, 2, 0, 1, [])), (5, (0, 6, 0, 0, 0, [])), (6, (28, 7, 0, 0, 0, [])), (7, (3, 8, 0, 1, 1, [])), (8, (21, 11, 12, 16, 51, [])), (11, (3, 12, 1, 0, 1, [])), (12, (24, 13, 50, 0, 0, [])), (13, (0, 15, 0, 1, 90, [])), (15, (14, 18, 22, 5, 0, [])), (18, (0, 19, 0, 0, 1, [])), (19, (18, 0, 23, 0, 0, [])), (22, (0, 23, 0, 0, 0, [])), (23, (4, 24, 3, 0, 0, [(1, 0)])), (24, (0, 25, 0, 0, 0, [])), (25, (4, 27, 4, 0, 0, [(0, 0)])), (27, (3, 29, 4, 0, 0, [])), (29, (3, 30, 0, 1, 1, [])), (30, (21, 33, 12, 2, 152, [])), (33, (14, 36, 113, 3, 0, [])), (36, (3, 37, 0, 1, 1, [])), (37, (3, 39, 4, 0, 0, [])), (39, (3, 40, 1, 0, 1, [])), (40, (36, 43, 140, 3, 1, [(183, 0)])), (43, (13, 46, 49, 1, 0, [])), (46, (18, 0, 107, 0, 0, [])), (49, (3, 50, 3, 0, 1, [])), (50, (13, 53, 62, 1, 0, [])), (53, (3, 54, 0, 1, 1, [])), (54, (3, 55, 2, 0, 1, [])), (55, (3, 57, 4, 0, 0, [])), (57, (0, 58, 0, 0, (-1), [])), (58, (0, 59, 0, 0, (-1), [])), (59, (36, 62, 141, 5, 1, [(187, 0)])), (62, (3, 64, 4, 0, 0, [])), (64, (0, 65, 0, 0, 1, [])), (65, (6, 66, 0, 0, 0, [])), (66, (4, 68, 5, 0, 0, [(0, 0)])), (68, (3, 70, 5, 0, 0, [])), (70, (3, 71, 0, 1, 1, [])), (71, (21, 74, 12, 2, 152, [])), (74, (14, 77, 107, 3, 0, [])), (77, (3, 78, 3, 0, 1, [])), (78, (13, 81, 107, 0, 0, [])), (81, (3, 82, 0, 1, 1, [])), (82, (3, 84, 5, 0, 0, [])), (84, (3, 85, 1, 0, 1, [])), (85, (36, 88, 140, 3, 1, [(183, 0)])), (88, (13, 91, 101, 0, 0, [])), (91, (3, 92, 0, 1, 1, [])), (92, (3, 93, 2, 0, 1, [])), (93, (3, 95, 4, 0, 0, [])), (95, (3, 97, 5, 0, 0, [])), (97, (0, 98, 0, 0, (-1), [])), (98, (36, 101, 141, 5, 1, [(187, 0)])), (101, (5, 104, 5, 0, 1, [])), (104, (18, 0, 68, 0, 0, [])), (107, (5, 110, 4, 0, 1, [])), (110, (18, 0, 27, 0, 0, [])), (113, (3, 114, 3, 0, 1, [])), (114, (13, 117, 126, 1, 0, [])), (117, (3, 118, 0, 1, 1, [])), (118, (21, 121, 12, 27, 84, [])), (121, (3, 122, 2, 0, 1, [])), (122, (24, 123, 50, 0, 0, [])), (123, (13, 126, 127, 5, 0, [])), (126, (38, 127, 0, 0, 0, [])), (127, (0, 128, 0, 0, 0, [])), (128, (4, 130, 4, 0, 0, [(0, 0)])), (130, (3, 132, 4, 0, 0, [])), (132, (3, 133, 0, 1, 1, [])), (133, (21, 136, 12, 2, 152, [])), (136, (14, 139, 190, 3, 0, [])), (139, (0, 140, 0, 0, 0, [])), (140, (4, 142, 5, 0, 0, [(0, 0)])), (142, (3, 144, 5, 0, 0, [])), (144, (3, 145, 0, 1, 1, [])), (145, (21, 148, 12, 2, 152, [])), (148, (14, 151, 184, 3, 0, [])), (151, (3, 152, 0, 1, 1, [])), (152, (3, 154, 4, 0, 0, [])), (154, (3, 156, 5, 0, 0, [])), (156, (3, 157, 1, 0, 1, [])), (157, (36, 160, 142, 4, 1, [(191, 0)])), (160, (4, 162, 6, 0, 0, [(0, 0)])), (162, (3, 164, 6, 0, 0, [])), (164, (13, 167, 178, 5, 0, [])), (167, (3, 168, 0, 1, 1, [])), (168, (3, 169, 2, 0, 1, [])), (169, (3, 171, 4, 0, 0, [])), (171, (3, 173, 5, 0, 0, [])), (173, (3, 175, 6, 0, 0, [])), (175, (36, 178, 141, 5, 1, [(187, 0)])), (178, (5, 181, 5, 0, 1, [])), (181, (18, 0, 142, 0, 0, [])), (184, (5, 187, 4, 0, 1, [])), (187, (18, 0, 130, 0, 0, [])), (190, (38, 191, 0, 0, 0, []))]
/-- HearingDeskModel.teams(I)I -/
def k144 : List (Nat × Ins) := [(0, (3, 1, 0, 1, 1, [])), (1, (3, 2, 1, 0, 1, [])), (2, (36, 5, 136, 2, 1, [(176, 0)])), (5, (13, 8, 10, 1, 0, [])), (8, (0, 9, 0, 0, (-1), [])), (9, (39, 10, 0, 0, 0, [])), (10, (3, 11, 0, 1, 1, [])), (11, (3, 12, 1, 0, 1, [])), (12, (0, 13, 0, 0, 4, [])), (13, (36, 16, 143, 3, 1, [(194, 0)])), (16, (3, 17, 0, 1, 1, [])), (17, (21, 20, 12, 27, 84, [])), (20, (0, 21, 0, 0, 4, [])), (21, (24, 22, 50, 0, 0, [])), (22, (39, 23, 0, 0, 0, []))]
/-- HearingDeskModel.team(III)I -/
def k145 : List (Nat × Ins) := [(0, (3, 1, 0, 1, 1, [])), (1, (3, 2, 1, 0, 1, [])), (2, (36, 5, 136, 2, 1, [(176, 0)])), (5, (13, 8, 10, 1, 0, [])), (8, (0, 9, 0, 0, (-1), [])), (9, (39, 10, 0, 0, 0, [])), (10, (3, 11, 0, 1, 1, [])), (11, (3, 12, 1, 0, 1, [])), (12, (0, 13, 0, 0, 4, [])), (13, (36, 16, 143, 3, 1, [(194, 0)])), (16, (3, 17, 2, 0, 1, [])), (17, (0, 18, 0, 0, 0, [])), (18, (3, 19, 0, 1, 1, [])), (19, (21, 22, 12, 27, 84, [])), (22, (0, 23, 0, 0, 4, [])), (23, (24, 24, 50, 0, 0, [])), (24, (0, 25, 0, 0, 1, [])), (25, (6, 26, 0, 1, 0, [])), (26, (36, 29, 122, 3, 0, [(148, 0)])), (29, (13, 32, 34, 1, 0, [])), (32, (0, 33, 0, 0, (-1), [])), (33, (39, 34, 0, 0, 0, [])), (34, (3, 35, 3, 0, 1, [])), (35, (13, 38, 50, 1, 0, [])), (38, (3, 39, 0, 1, 1, [])), (39, (21, 42, 12, 24, 75, [])), (42, (0, 44, 0, 1, 120, [])), (44, (3, 45, 2, 0, 1, [])), (45, (6, 46, 0, 0, 0, [])), (46, (24, 47, 50, 0, 0, [])), (47, (18, 0, 85, 0, 0, [])), (50, (3, 51, 3, 0, 1, [])), (51, (0, 52, 0, 0, 1, [])), (52, (14, 55, 67, 1, 0, [])), (55, (3, 56, 0, 1, 1, [])), (56, (21, 59, 12, 25, 78, [])), (59, (0, 61, 0, 1, 120, [])), (61, (3, 62, 2, 0, 1, [])), (62, (6, 63, 0, 0, 0, [])), (63, (24, 64, 50, 0, 0, [])), (64, (18, 0, 85, 0, 0, [])), (67, (3, 68, 3, 0, 1, [])), (68, (0, 69, 0, 0, 2, [])), (69, (14, 72, 84, 1, 0, [])), (72, (3, 73, 0, 1, 1, [])), (73, (21, 76, 12, 26, 81, [])), (76, (0, 78, 0, 1, 120, [])), (78, (3, 79, 2, 0, 1, [])), (79, (6, 80, 0, 0, 0, [])), (80, (24, 81, 50, 0, 0, [])), (81, (18, 0, 85, 0, 0, [])), (84, (0, 85, 0, 0, (-1), [])), (85, (39, 86, 0, 0, 0, []))]
/-- HearingDeskModel.joins(I)V -/
def k146 : List (Nat × Ins) := [(0, (3, 1, 0, 1, 1, [])), (1, (21, 4, 12, 33, 198, [])), (4, (4, 5, 2, 0, 0, [(1, 0)])), (5, (3, 6, 2, 0, 1, [])), (6, (13, 9, 51, 5, 0, [])), (9, (3, 10, 0, 1, 1, [])), (10, (21, 13, 12, 15, 48, [])), (13, (3, 14, 0, 1, 1, [])), (14, (21, 17, 12, 32, 96, [])), (17, (3, 18, 2, 0, 1, [])), (18, (0, 19, 0, 0, 1, [])), (19, (6, 20, 0, 1, 0, [])), (20, (24, 21, 50, 0, 0, [])), (21, (24, 22, 50, 0, 0, [])), (22, (3, 23, 0, 1, 1, [])), (23, (21, 26, 12, 15, 48, [])), (26, (3, 27, 1, 0, 1, [])), (27, (24, 28, 50, 0, 0, [])), (28, (14, 31, 51, 5, 0, [])), (31, (3, 32, 0, 1, 1, [])), (32, (21, 35, 12, 32, 96, [])), (35, (3, 36, 2, 0, 1, [])), (36, (3, 37, 0, 1, 1, [])), (37, (21, 40, 12, 32, 96, [])), (40, (3, 41, 2, 0, 1, [])), (41, (0, 42, 0, 0, 1, [])), (42, (6, 43, 0, 1, 0, [])), (43, (24, 44, 50, 0, 0, [])), (44, (28, 45, 0, 0, 0, [])), (45, (5, 48, 2, 0, (-1), [])), (48, (18, 0, 5, 0, 0, [])), (51, (3, 52, 0, 1, 1, [])), (52, (21, 55, 12, 32, 96, [])), (55, (3, 56, 2, 0, 1, [])), (56, (3, 57, 1, 0, 1, [])), (57, (28, 58, 0, 0, 0, [])), (58, (3, 59, 0, 1, 1, [])), (59, (11, 60, 0, 0, 0, [])), (60, (21, 63, 12, 33, 198, [])), (63, (0, 64, 0, 0, 1, [])), (64, (6, 65, 0, 0, 0, [])), (65, (22, 68, 12, 33, 198, [])), (68, (38, 69, 0, 0, 0, []))]
/-- HearingDeskModel.journeysOf(I)I -/
def k147 : List (Nat × Ins) := [(0, (0, 1, 0, 0, 0, [])), (1, (4, 2, 2, 0, 0, [(1, 0)])), (2, (3, 3, 0, 1, 1, [])), (3, (21, 6, 12, 3, 16, [])), (6, (3, 7, 1, 0, 1, [])), (7, (24, 8, 50, 0, 0, [])), (8, (4, 9, 3, 0, 0, [(1, 0)])), (9, (0, 10, 0, 0, 0, [])), (10, (4, 12, 4, 0, 0, [(0, 0)])), (12, (3, 14, 4, 0, 0, [])), (14, (3, 15, 0, 1, 1, [])), (15, (21, 18, 12, 33, 198, [])), (18, (14, 21, 65, 3, 0, [])), (21, (3, 22, 2, 0, 1, [])), (22, (3, 23, 0, 1, 1, [])), (23, (21, 26, 12, 0, 7, [])), (26, (0, 28, 0, 1, 6, [])), (28, (3, 29, 3, 0, 1, [])), (29, (6, 30, 0, 2, 0, [])), (30, (3, 31, 0, 1, 1, [])), (31, (21, 34, 12, 17, 54, [])), (34, (3, 35, 0, 1, 1, [])), (35, (21, 38, 12, 32, 96, [])), (38, (3, 40, 4, 0, 0, [])), (40, (24, 41, 50, 0, 0, [])), (41, (24, 42, 50, 0, 0, [])), (42, (6, 43, 0, 0, 0, [])), (43, (24, 44, 50, 0, 0, [])), (44, (6, 45, 0, 0, 0, [])), (45, (4, 46, 2, 0, 0, [(1, 0)])), (46, (3, 47, 0, 1, 1, [])), (47, (21, 50, 12, 17, 54, [])), (50, (3, 51, 0, 1, 1, [])), (51, (21, 54, 12, 32, 96, [])), (54, (3, 56, 4, 0, 0, [])), (56, (24, 57, 50, 0, 0, [])), (57, (24, 58, 50, 0, 0, [])), (58, (4, 59, 3, 0, 0, [(1, 0)])), (59, (5, 62, 4, 0, 1, [])), (62, (18, 0, 12, 0, 0, [])), (65, (3, 66, 2, 0, 1, [])), (66, (3, 67, 0, 1, 1, [])), (67, (21, 70, 12, 0, 7, [])), (70, (0, 72, 0, 1, 6, [])), (72, (3, 73, 3, 0, 1, [])), (73, (6, 74, 0, 2, 0, [])), (74, (3, 75, 0, 1, 1, [])), (75, (21, 78, 12, 3, 16, [])), (78, (3, 79, 1, 0, 1, [])), (79, (24, 80, 50, 0, 0, [])), (80, (6, 81, 0, 0, 0, [])), (81, (24, 82, 50, 0, 0, [])), (82, (6, 83, 0, 0, 0, [])), (83, (39, 84, 0, 0, 0, []))]
/-- HearingDeskModel.holds()Z -/
def k148 : List (Nat × Ins) := [(0, (0, 1, 0, 0, 1, [])), (1, (4, 2, 1, 0, 0, [(1, 0)])), (2, (3, 3, 1, 0, 1, [])), (3, (3, 4, 0, 1, 1, [])), (4, (21, 7, 12, 33, 198, [])), (7, (14, 10, 91, 3, 0, [])), (10, (3, 11, 0, 1, 1, [])), (11, (21, 14, 12, 32, 96, [])), (14, (3, 15, 1, 0, 1, [])), (15, (0, 16, 0, 0, 1, [])), (16, (6, 17, 0, 1, 0, [])), (17, (24, 18, 50, 0, 0, [])), (18, (4, 19, 2, 0, 0, [(1, 0)])), (19, (3, 20, 0, 1, 1, [])), (20, (21, 23, 12, 32, 96, [])), (23, (3, 24, 1, 0, 1, [])), (24, (24, 25, 50, 0, 0, [])), (25, (4, 26, 3, 0, 0, [(1, 0)])), (26, (3, 27, 0, 1, 1, [])), (27, (21, 30, 12, 15, 48, [])), (30, (3, 31, 3, 0, 1, [])), (31, (24, 32, 50, 0, 0, [])), (32, (3, 33, 0, 1, 1, [])), (33, (21, 36, 12, 15, 48, [])), (36, (3, 37, 2, 0, 1, [])), (37, (24, 38, 50, 0, 0, [])), (38, (6, 39, 0, 1, 0, [])), (39, (3, 40, 0, 1, 1, [])), (40, (21, 43, 12, 16, 51, [])), (43, (3, 44, 2, 0, 1, [])), (44, (24, 45, 50, 0, 0, [])), (45, (6, 46, 0, 1, 0, [])), (46, (4, 48, 4, 0, 0, [(0, 0)])), (48, (3, 50, 4, 0, 0, [])), (50, (3, 51, 0, 1, 1, [])), (51, (21, 54, 12, 11, 38, [])), (54, (14, 57, 83, 2, 0, [])), (57, (3, 59, 4, 0, 0, [])), (59, (3, 60, 0, 1, 1, [])), (60, (21, 63, 12, 0, 7, [])), (63, (0, 65, 0, 1, 6, [])), (65, (3, 66, 0, 1, 1, [])), (66, (21, 69, 12, 17, 54, [])), (69, (3, 70, 2, 0, 1, [])), (70, (24, 71, 50, 0, 0, [])), (71, (6, 72, 0, 2, 0, [])), (72, (3, 73, 0, 1, 1, [])), (73, (21, 76, 12, 17, 54, [])), (76, (3, 77, 3, 0, 1, [])), (77, (24, 78, 50, 0, 0, [])), (78, (6, 79, 0, 0, 0, [])), (79, (24, 80, 50, 0, 0, [])), (80, (14, 83, 85, 3, 0, [])), (83, (0, 84, 0, 0, 0, [])), (84, (40, 85, 0, 0, 0, [])), (85, (5, 88, 1, 0, 1, [])), (88, (18, 0, 2, 0, 0, [])), (91, (0, 92, 0, 0, 1, [])), (92, (40, 93, 0, 0, 0, []))]
/-- HearingDeskModel.sits(II)Z -/
def k149 : List (Nat × Ins) := [(0, (3, 1, 0, 1, 1, [])), (1, (21, 4, 12, 30, 90, [])), (4, (3, 5, 1, 0, 1, [])), (5, (24, 6, 50, 0, 0, [])), (6, (4, 7, 3, 0, 0, [(1, 0)])), (7, (3, 8, 3, 0, 1, [])), (8, (3, 9, 0, 1, 1, [])), (9, (21, 12, 12, 27, 84, [])), (12, (3, 13, 1, 0, 1, [])), (13, (24, 14, 50, 0, 0, [])), (14, (14, 17, 51, 3, 0, [])), (17, (3, 18, 0, 1, 1, [])), (18, (21, 21, 12, 24, 75, [])), (21, (0, 23, 0, 1, 30, [])), (23, (3, 24, 1, 0, 1, [])), (24, (6, 25, 0, 2, 0, [])), (25, (3, 26, 3, 0, 1, [])), (26, (6, 27, 0, 0, 0, [])), (27, (24, 28, 50, 0, 0, [])), (28, (3, 29, 2, 0, 1, [])), (29, (14, 32, 47, 0, 0, [])), (32, (3, 33, 0, 1, 1, [])), (33, (21, 36, 12, 25, 78, [])), (36, (0, 38, 0, 1, 30, [])), (38, (3, 39, 1, 0, 1, [])), (39, (6, 40, 0, 2, 0, [])), (40, (3, 41, 3, 0, 1, [])), (41, (6, 42, 0, 0, 0, [])), (42, (24, 43, 50, 0, 0, [])), (43, (3, 44, 2, 0, 1, [])), (44, (14, 47, 51, 1, 0, [])), (47, (0, 48, 0, 0, 1, [])), (48, (18, 0, 52, 0, 0, [])), (51, (0, 52, 0, 0, 0, [])), (52, (40, 53, 0, 0, 0, []))]
/-- HearingDeskModel.collects(II)V -/
def k150 : List (Nat × Ins) := [(0, (3, 1, 0, 1, 1, [])), (1, (0, 2, 0, 0, 0, [])), (2, (22, 5, 12, 33, 198, [])), (5, (0, 6, 0, 0, 0, [])), (6, (4, 7, 3, 0, 0, [(1, 0)])), (7, (3, 8, 3, 0, 1, [])), (8, (3, 9, 2, 0, 1, [])), (9, (14, 12, 37, 3, 0, [])), (12, (3, 13, 0, 1, 1, [])), (13, (3, 14, 3, 0, 1, [])), (14, (3, 15, 1, 0, 1, [])), (15, (36, 18, 149, 3, 1, [(201, 0)])), (18, (13, 21, 31, 0, 0, [])), (21, (3, 22, 0, 1, 1, [])), (22, (3, 23, 0, 1, 1, [])), (23, (21, 26, 12, 29, 87, [])), (26, (3, 27, 3, 0, 1, [])), (27, (24, 28, 50, 0, 0, [])), (28, (36, 31, 146, 2, 1, [(204, 0)])), (31, (5, 34, 3, 0, 1, [])), (34, (18, 0, 7, 0, 0, [])), (37, (38, 38, 0, 0, 0, []))]
/-- HearingDeskModel.clashes(I)Z -/
def k151 : List (Nat × Ins) := [(0, (0, 1, 0, 0, 0, [])), (1, (4, 2, 2, 0, 0, [(1, 0)])), (2, (3, 3, 2, 0, 1, [])), (3, (3, 4, 1, 0, 1, [])), (4, (14, 7, 152, 3, 0, [])), (7, (3, 8, 0, 1, 1, [])), (8, (21, 11, 12, 15, 48, [])), (11, (3, 12, 0, 1, 1, [])), (12, (21, 15, 12, 29, 87, [])), (15, (3, 16, 2, 0, 1, [])), (16, (24, 17, 50, 0, 0, [])), (17, (24, 18, 50, 0, 0, [])), (18, (3, 19, 0, 1, 1, [])), (19, (21, 22, 12, 15, 48, [])), (22, (3, 23, 0, 1, 1, [])), (23, (21, 26, 12, 29, 87, [])), (26, (3, 27, 1, 0, 1, [])), (27, (24, 28, 50, 0, 0, [])), (28, (24, 29, 50, 0, 0, [])), (29, (14, 32, 41, 4, 0, [])), (32, (3, 33, 0, 1, 1, [])), (33, (21, 36, 12, 29, 87, [])), (36, (3, 37, 2, 0, 1, [])), (37, (24, 38, 50, 0, 0, [])), (38, (18, 0, 47, 0, 0, [])), (41, (3, 42, 0, 1, 1, [])), (42, (21, 45, 12, 29, 87, [])), (45, (3, 46, 1, 0, 1, [])), (46, (24, 47, 50, 0, 0, [])), (47, (4, 48, 3, 0, 0, [(1, 0)])), (48, (3, 49, 3, 0, 1, [])), (49, (3, 50, 0, 1, 1, [])), (50, (21, 53, 12, 29, 87, [])), (53, (3, 54, 2, 0, 1, [])), (54, (24, 55, 50, 0, 0, [])), (55, (14, 58, 67, 1, 0, [])), (58, (3, 59, 0, 1, 1, [])), (59, (21, 62, 12, 29, 87, [])), (62, (3, 63, 1, 0, 1, [])), (63, (24, 64, 50, 0, 0, [])), (64, (18, 0, 73, 0, 0, [])), (67, (3, 68, 0, 1, 1, [])), (68, (21, 71, 12, 29, 87, [])), (71, (3, 72, 2, 0, 1, [])), (72, (24, 73, 50, 0, 0, [])), (73, (4, 75, 4, 0, 0, [(0, 0)])), (75, (3, 76, 0, 1, 1, [])), (76, (21, 79, 12, 15, 48, [])), (79, (3, 81, 4, 0, 0, [])), (81, (24, 82, 50, 0, 0, [])), (82, (3, 83, 0, 1, 1, [])), (83, (21, 86, 12, 15, 48, [])), (86, (3, 87, 3, 0, 1, [])), (87, (24, 88, 50, 0, 0, [])), (88, (6, 89, 0, 1, 0, [])), (89, (3, 90, 0, 1, 1, [])), (90, (21, 93, 12, 16, 51, [])), (93, (3, 94, 3, 0, 1, [])), (94, (24, 95, 50, 0, 0, [])), (95, (6, 96, 0, 1, 0, [])), (96, (3, 97, 0, 1, 1, [])), (97, (21, 100, 12, 11, 38, [])), (100, (14, 103, 106, 2, 0, [])), (103, (18, 0, 146, 0, 0, [])), (106, (0, 107, 0, 0, 0, [])), (107, (4, 109, 5, 0, 0, [(0, 0)])), (109, (3, 111, 5, 0, 0, [])), (111, (3, 112, 0, 1, 1, [])), (112, (21, 115, 12, 2, 152, [])), (115, (14, 118, 146, 3, 0, [])), (118, (3, 119, 0, 1, 1, [])), (119, (3, 120, 2, 0, 1, [])), (120, (3, 122, 5, 0, 0, [])), (122, (36, 125, 149, 3, 1, [(201, 0)])), (125, (13, 128, 140, 0, 0, [])), (128, (3, 129, 0, 1, 1, [])), (129, (3, 130, 1, 0, 1, [])), (130, (3, 132, 5, 0, 0, [])), (132, (36, 135, 149, 3, 1, [(201, 0)])), (135, (13, 138, 140, 0, 0, [])), (138, (0, 139, 0, 0, 1, [])), (139, (40, 140, 0, 0, 0, [])), (140, (5, 143, 5, 0, 1, [])), (143, (18, 0, 109, 0, 0, [])), (146, (5, 149, 2, 0, 1, [])), (149, (18, 0, 2, 0, 0, [])), (152, (0, 153, 0, 0, 0, [])), (153, (40, 154, 0, 0, 0, []))]
/-- HearingDeskModel.changes()I -/
def k152 : List (Nat × Ins) := [(0, (0, 1, 0, 0, 0, [])), (1, (4, 2, 1, 0, 0, [(1, 0)])), (2, (0, 3, 0, 0, 0, [])), (3, (4, 4, 2, 0, 0, [(1, 0)])), (4, (3, 5, 2, 0, 1, [])), (5, (3, 6, 0, 1, 1, [])), (6, (21, 9, 12, 28, 208, [])), (9, (14, 12, 89, 3, 0, [])), (12, (3, 13, 0, 1, 1, [])), (13, (21, 16, 12, 29, 87, [])), (16, (3, 17, 2, 0, 1, [])), (17, (24, 18, 50, 0, 0, [])), (18, (4, 19, 3, 0, 0, [(1, 0)])), (19, (3, 20, 1, 0, 1, [])), (20, (3, 21, 0, 1, 1, [])), (21, (21, 24, 12, 21, 66, [])), (24, (3, 25, 3, 0, 1, [])), (25, (24, 26, 50, 0, 0, [])), (26, (0, 27, 0, 0, (-1), [])), (27, (14, 30, 48, 0, 0, [])), (30, (3, 31, 0, 1, 1, [])), (31, (3, 32, 2, 0, 1, [])), (32, (3, 33, 0, 1, 1, [])), (33, (21, 36, 12, 21, 66, [])), (36, (3, 37, 3, 0, 1, [])), (37, (24, 38, 50, 0, 0, [])), (38, (36, 41, 149, 3, 1, [(201, 0)])), (41, (13, 44, 48, 1, 0, [])), (44, (0, 45, 0, 0, 1, [])), (45, (18, 0, 49, 0, 0, [])), (48, (0, 49, 0, 0, 0, [])), (49, (6, 50, 0, 0, 0, [])), (50, (4, 51, 1, 0, 0, [(1, 0)])), (51, (3, 52, 1, 0, 1, [])), (52, (3, 53, 0, 1, 1, [])), (53, (21, 56, 12, 22, 69, [])), (56, (3, 57, 3, 0, 1, [])), (57, (24, 58, 50, 0, 0, [])), (58, (0, 59, 0, 0, (-1), [])), (59, (14, 62, 80, 0, 0, [])), (62, (3, 63, 0, 1, 1, [])), (63, (3, 64, 2, 0, 1, [])), (64, (3, 65, 0, 1, 1, [])), (65, (21, 68, 12, 22, 69, [])), (68, (3, 69, 3, 0, 1, [])), (69, (24, 70, 50, 0, 0, [])), (70, (36, 73, 149, 3, 1, [(201, 0)])), (73, (13, 76, 80, 1, 0, [])), (76, (0, 77, 0, 0, 1, [])), (77, (18, 0, 81, 0, 0, [])), (80, (0, 81, 0, 0, 0, [])), (81, (6, 82, 0, 0, 0, [])), (82, (4, 83, 1, 0, 0, [(1, 0)])), (83, (5, 86, 2, 0, 1, [])), (86, (18, 0, 4, 0, 0, [])), (89, (3, 90, 1, 0, 1, [])), (90, (39, 91, 0, 0, 0, []))]
/-- HearingDeskModel.weighs(IZ)V -/
def k153 : List (Nat × Ins) := [(0, (3, 1, 0, 1, 1, [])), (1, (36, 4, 152, 1, 1, [(211, 0)])), (4, (4, 5, 3, 0, 0, [(1, 0)])), (5, (3, 6, 1, 0, 1, [])), (6, (3, 7, 0, 1, 1, [])), (7, (21, 10, 12, 34, 215, [])), (10, (14, 13, 26, 1, 0, [])), (13, (3, 14, 2, 0, 1, [])), (14, (13, 17, 26, 0, 0, [])), (17, (3, 18, 3, 0, 1, [])), (18, (3, 19, 0, 1, 1, [])), (19, (21, 22, 12, 35, 218, [])), (22, (14, 25, 26, 5, 0, [])), (25, (38, 26, 0, 0, 0, [])), (26, (0, 27, 0, 0, 0, [])), (27, (4, 29, 4, 0, 0, [(0, 0)])), (29, (0, 30, 0, 0, 0, [])), (30, (4, 32, 5, 0, 0, [(0, 0)])), (32, (3, 34, 5, 0, 0, [])), (34, (3, 35, 0, 1, 1, [])), (35, (21, 38, 12, 2, 152, [])), (38, (14, 41, 87, 3, 0, [])), (41, (3, 42, 0, 1, 1, [])), (42, (3, 44, 5, 0, 0, [])), (44, (3, 45, 0, 1, 1, [])), (45, (21, 48, 12, 28, 208, [])), (48, (36, 51, 150, 3, 1, [(221, 0)])), (51, (3, 52, 0, 1, 1, [])), (52, (36, 55, 148, 1, 1, [(224, 0)])), (55, (13, 58, 59, 1, 0, [])), (58, (38, 59, 0, 0, 0, [])), (59, (3, 61, 4, 0, 0, [])), (61, (3, 62, 0, 1, 1, [])), (62, (21, 65, 12, 33, 198, [])), (65, (13, 68, 72, 1, 0, [])), (68, (0, 69, 0, 0, 0, [])), (69, (18, 0, 78, 0, 0, [])), (72, (3, 73, 0, 1, 1, [])), (73, (3, 75, 5, 0, 0, [])), (75, (36, 78, 147, 2, 1, [(228, 0)])), (78, (6, 79, 0, 0, 0, [])), (79, (4, 81, 4, 0, 0, [(0, 0)])), (81, (5, 84, 5, 0, 1, [])), (84, (18, 0, 32, 0, 0, [])), (87, (3, 88, 1, 0, 1, [])), (88, (3, 89, 0, 1, 1, [])), (89, (21, 92, 12, 34, 215, [])), (92, (14, 95, 128, 2, 0, [])), (95, (3, 96, 2, 0, 1, [])), (96, (13, 99, 107, 0, 0, [])), (99, (3, 100, 3, 0, 1, [])), (100, (3, 101, 0, 1, 1, [])), (101, (21, 104, 12, 35, 218, [])), (104, (14, 107, 128, 2, 0, [])), (107, (3, 108, 2, 0, 1, [])), (108, (13, 111, 119, 0, 0, [])), (111, (3, 112, 3, 0, 1, [])), (112, (3, 113, 0, 1, 1, [])), (113, (21, 116, 12, 35, 218, [])), (116, (14, 119, 132, 1, 0, [])), (119, (3, 121, 4, 0, 0, [])), (121, (3, 122, 0, 1, 1, [])), (122, (21, 125, 12, 36, 232, [])), (125, (14, 128, 132, 3, 0, [])), (128, (0, 129, 0, 0, 1, [])), (129, (18, 0, 133, 0, 0, [])), (132, (0, 133, 0, 0, 0, [])), (133, (4, 135, 5, 0, 0, [(0, 0)])), (135, (3, 137, 5, 0, 0, [])), (137, (13, 140, 141, 1, 0, [])), (140, (38, 141, 0, 0, 0, [])), (141, (3, 142, 0, 1, 1, [])), (142, (3, 143, 1, 0, 1, [])), (143, (22, 146, 12, 34, 215, [])), (146, (3, 147, 0, 1, 1, [])), (147, (3, 148, 3, 0, 1, [])), (148, (22, 151, 12, 35, 218, [])), (151, (3, 152, 0, 1, 1, [])), (152, (3, 154, 4, 0, 0, [])), (154, (22, 157, 12, 36, 232, [])), (157, (0, 158, 0, 0, 0, [])), (158, (4, 160, 6, 0, 0, [(0, 0)])), (160, (3, 162, 6, 0, 0, [])), (162, (3, 163, 0, 1, 1, [])), (163, (21, 166, 12, 28, 208, [])), (166, (14, 169, 189, 3, 0, [])), (169, (3, 170, 0, 1, 1, [])), (170, (21, 173, 12, 31, 93, [])), (173, (3, 175, 6, 0, 0, [])), (175, (3, 176, 0, 1, 1, [])), (176, (21, 179, 12, 30, 90, [])), (179, (3, 181, 6, 0, 0, [])), (181, (24, 182, 50, 0, 0, [])), (182, (28, 183, 0, 0, 0, [])), (183, (5, 186, 6, 0, 1, [])), (186, (18, 0, 160, 0, 0, [])), (189, (38, 190, 0, 0, 0, []))]
/-- HearingDeskModel.plan(IZ)I -/
def k154 : List (Nat × Ins) := [(0, (3, 1, 1, 0, 1, [])), (1, (36, 4, 127, 1, 0, [(162, 0)])), (4, (13, 7, 9, 1, 0, [])), (7, (0, 8, 0, 0, (-1), [])), (8, (39, 9, 0, 0, 0, [])), (9, (3, 10, 0, 1, 1, [])), (10, (0, 11, 0, 0, 0, [])), (11, (22, 14, 12, 28, 208, [])), (14, (0, 15, 0, 0, 0, [])), (15, (4, 16, 3, 0, 0, [(1, 0)])), (16, (3, 17, 3, 0, 1, [])), (17, (3, 18, 0, 1, 1, [])), (18, (21, 21, 12, 12, 169, [])), (21, (14, 24, 81, 3, 0, [])), (24, (3, 25, 0, 1, 1, [])), (25, (21, 28, 12, 14, 45, [])), (28, (3, 29, 3, 0, 1, [])), (29, (24, 30, 50, 0, 0, [])), (30, (3, 31, 1, 0, 1, [])), (31, (14, 34, 75, 1, 0, [])), (34, (3, 35, 0, 1, 1, [])), (35, (21, 38, 12, 20, 63, [])), (38, (3, 39, 3, 0, 1, [])), (39, (24, 40, 50, 0, 0, [])), (40, (13, 43, 46, 2, 0, [])), (43, (18, 0, 75, 0, 0, [])), (46, (3, 47, 0, 1, 1, [])), (47, (21, 50, 12, 29, 87, [])), (50, (3, 51, 0, 1, 1, [])), (51, (21, 54, 12, 28, 208, [])), (54, (3, 55, 3, 0, 1, [])), (55, (28, 56, 0, 0, 0, [])), (56, (3, 57, 0, 1, 1, [])), (57, (3, 58, 3, 0, 1, [])), (58, (3, 59, 0, 1, 1, [])), (59, (21, 62, 12, 28, 208, [])), (62, (36, 65, 143, 3, 1, [(194, 0)])), (65, (3, 66, 0, 1, 1, [])), (66, (11, 67, 0, 0, 0, [])), (67, (21, 70, 12, 28, 208, [])), (70, (0, 71, 0, 0, 1, [])), (71, (6, 72, 0, 0, 0, [])), (72, (22, 75, 12, 28, 208, [])), (75, (5, 78, 3, 0, 1, [])), (78, (18, 0, 16, 0, 0, [])), (81, (3, 82, 0, 1, 1, [])), (82, (0, 83, 0, 0, 5, [])), (83, (22, 86, 12, 34, 215, [])), (86, (0, 87, 0, 0, 0, [])), (87, (4, 88, 3, 0, 0, [(1, 0)])), (88, (0, 89, 0, 0, 0, [])), (89, (4, 91, 4, 0, 0, [(0, 0)])), (91, (0, 92, 0, 0, 0, [])), (92, (4, 94, 5, 0, 0, [(0, 0)])), (94, (3, 96, 5, 0, 0, [])), (96, (0, 97, 0, 0, 4, [])), (97, (14, 100, 114, 3, 0, [])), (100, (3, 101, 0, 1, 1, [])), (101, (21, 104, 12, 30, 90, [])), (104, (3, 106, 5, 0, 0, [])), (106, (0, 107, 0, 0, (-1), [])), (107, (28, 108, 0, 0, 0, [])), (108, (5, 111, 5, 0, 1, [])), (111, (18, 0, 94, 0, 0, [])), (114, (3, 115, 0, 1, 1, [])), (115, (21, 118, 12, 28, 208, [])), (118, (13, 121, 127, 1, 0, [])), (121, (3, 122, 0, 1, 1, [])), (122, (0, 123, 0, 0, 0, [])), (123, (3, 124, 2, 0, 1, [])), (124, (36, 127, 153, 3, 1, [(235, 0)])), (127, (3, 128, 0, 1, 1, [])), (128, (21, 131, 12, 28, 208, [])), (131, (13, 134, 250, 5, 0, [])), (134, (3, 135, 3, 0, 1, [])), (135, (13, 138, 250, 2, 0, [])), (138, (3, 139, 0, 1, 1, [])), (139, (21, 142, 12, 30, 90, [])), (142, (3, 143, 3, 0, 1, [])), (143, (24, 144, 50, 0, 0, [])), (144, (3, 145, 0, 1, 1, [])), (145, (21, 148, 12, 27, 84, [])), (148, (3, 149, 3, 0, 1, [])), (149, (24, 150, 50, 0, 0, [])), (150, (14, 153, 169, 2, 0, [])), (153, (5, 156, 4, 0, (-1), [])), (156, (3, 157, 0, 1, 1, [])), (157, (21, 160, 12, 30, 90, [])), (160, (3, 161, 3, 0, 1, [])), (161, (0, 162, 0, 0, (-1), [])), (162, (28, 163, 0, 0, 0, [])), (163, (5, 166, 3, 0, (-1), [])), (166, (18, 0, 127, 0, 0, [])), (169, (3, 170, 0, 1, 1, [])), (170, (21, 173, 12, 30, 90, [])), (173, (3, 174, 3, 0, 1, [])), (174, (12, 175, 0, 0, 0, [])), (175, (24, 176, 50, 0, 0, [])), (176, (0, 177, 0, 0, 1, [])), (177, (6, 178, 0, 0, 0, [])), (178, (28, 179, 0, 0, 0, [])), (179, (3, 181, 4, 0, 0, [])), (181, (3, 182, 0, 1, 1, [])), (182, (21, 185, 12, 30, 90, [])), (185, (3, 186, 3, 0, 1, [])), (186, (24, 187, 50, 0, 0, [])), (187, (3, 188, 0, 1, 1, [])), (188, (21, 191, 12, 27, 84, [])), (191, (3, 192, 3, 0, 1, [])), (192, (24, 193, 50, 0, 0, [])), (193, (14, 196, 200, 1, 0, [])), (196, (0, 197, 0, 0, 1, [])), (197, (18, 0, 201, 0, 0, [])), (200, (0, 201, 0, 0, 0, [])), (201, (6, 202, 0, 0, 0, [])), (202, (4, 204, 4, 0, 0, [(0, 0)])), (204, (3, 206, 4, 0, 0, [])), (206, (3, 207, 0, 1, 1, [])), (207, (21, 210, 12, 34, 215, [])), (210, (14, 213, 127, 4, 0, [])), (213, (3, 214, 0, 1, 1, [])), (214, (3, 215, 3, 0, 1, [])), (215, (36, 218, 151, 2, 1, [(239, 0)])), (218, (13, 221, 224, 0, 0, [])), (221, (18, 0, 127, 0, 0, [])), (224, (3, 225, 3, 0, 1, [])), (225, (0, 226, 0, 0, 1, [])), (226, (6, 227, 0, 0, 0, [])), (227, (3, 228, 0, 1, 1, [])), (228, (21, 231, 12, 28, 208, [])), (231, (14, 234, 240, 3, 0, [])), (234, (5, 237, 3, 0, 1, [])), (237, (18, 0, 127, 0, 0, [])), (240, (3, 241, 0, 1, 1, [])), (241, (3, 243, 4, 0, 0, [])), (243, (3, 244, 2, 0, 1, [])), (244, (36, 247, 153, 3, 1, [(235, 0)])), (247, (18, 0, 127, 0, 0, [])), (250, (0, 251, 0, 0, 0, [])), (251, (4, 253, 5, 0, 0, [(0, 0)])), (253, (3, 255, 5, 0, 0, [])), (255, (3, 256, 0, 1, 1, [])), (256, (21, 259, 12, 28, 208, [])), (259, (14, 262, 391, 3, 0, [])), (262, (3, 263, 0, 1, 1, [])), (263, (21, 266, 12, 31, 93, [])), (266, (3, 268, 5, 0, 0, [])), (268, (24, 269, 50, 0, 0, [])), (269, (3, 270, 0, 1, 1, [])), (270, (21, 273, 12, 27, 84, [])), (273, (3, 275, 5, 0, 0, [])), (275, (24, 276, 50, 0, 0, [])), (276, (14, 279, 283, 3, 0, [])), (279, (0, 280, 0, 0, 1, [])), (280, (18, 0, 284, 0, 0, [])), (283, (0, 284, 0, 0, 0, [])), (284, (4, 286, 6, 0, 0, [(0, 0)])), (286, (0, 288, 0, 1, 30, [])), (288, (3, 290, 5, 0, 0, [])), (290, (6, 291, 0, 2, 0, [])), (291, (3, 292, 0, 1, 1, [])), (292, (21, 295, 12, 31, 93, [])), (295, (3, 297, 5, 0, 0, [])), (297, (24, 298, 50, 0, 0, [])), (298, (6, 299, 0, 0, 0, [])), (299, (4, 301, 7, 0, 0, [(0, 0)])), (301, (3, 302, 0, 1, 1, [])), (302, (21, 305, 12, 21, 66, [])), (305, (3, 306, 0, 1, 1, [])), (306, (21, 309, 12, 29, 87, [])), (309, (3, 311, 5, 0, 0, [])), (311, (24, 312, 50, 0, 0, [])), (312, (3, 314, 6, 0, 0, [])), (314, (13, 317, 327, 0, 0, [])), (317, (3, 318, 0, 1, 1, [])), (318, (21, 321, 12, 24, 75, [])), (321, (3, 323, 7, 0, 0, [])), (323, (24, 324, 50, 0, 0, [])), (324, (18, 0, 328, 0, 0, [])), (327, (0, 328, 0, 0, (-1), [])), (328, (28, 329, 0, 0, 0, [])), (329, (3, 330, 0, 1, 1, [])), (330, (21, 333, 12, 22, 69, [])), (333, (3, 334, 0, 1, 1, [])), (334, (21, 337, 12, 29, 87, [])), (337, (3, 339, 5, 0, 0, [])), (339, (24, 340, 50, 0, 0, [])), (340, (3, 342, 6, 0, 0, [])), (342, (13, 345, 355, 0, 0, [])), (345, (3, 346, 0, 1, 1, [])), (346, (21, 349, 12, 25, 78, [])), (349, (3, 351, 7, 0, 0, [])), (351, (24, 352, 50, 0, 0, [])), (352, (18, 0, 356, 0, 0, [])), (355, (0, 356, 0, 0, (-1), [])), (356, (28, 357, 0, 0, 0, [])), (357, (3, 358, 0, 1, 1, [])), (358, (21, 361, 12, 23, 72, [])), (361, (3, 362, 0, 1, 1, [])), (362, (21, 365, 12, 29, 87, [])), (365, (3, 367, 5, 0, 0, [])), (367, (24, 368, 50, 0, 0, [])), (368, (3, 370, 6, 0, 0, [])), (370, (13, 373, 383, 0, 0, [])), (373, (3, 374, 0, 1, 1, [])), (374, (21, 377, 12, 26, 81, [])), (377, (3, 379, 7, 0, 0, [])), (379, (24, 380, 50, 0, 0, [])), (380, (18, 0, 384, 0, 0, [])), (383, (0, 384, 0, 0, (-1), [])), (384, (28, 385, 0, 0, 0, [])), (385, (5, 388, 5, 0, 1, [])), (388, (18, 0, 253, 0, 0, [])), (391, (3, 392, 0, 1, 1, [])), (392, (0, 393, 0, 0, 1, [])), (393, (23, 396, 12, 37, 242, [])), (396, (3, 397, 0, 1, 1, [])), (397, (3, 398, 0, 1, 1, [])), (398, (21, 401, 12, 28, 208, [])), (401, (22, 404, 12, 38, 246, [])), (404, (3, 405, 0, 1, 1, [])), (405, (21, 408, 12, 34, 215, [])), (408, (39, 409, 0, 0, 0, []))]
/-- HearingDeskModel.planned(I)I -/
def k155 : List (Nat × Ins) := [(0, (3, 1, 0, 1, 1, [])), (1, (21, 4, 12, 37, 242, [])), (4, (13, 7, 9, 1, 0, [])), (7, (0, 8, 0, 0, (-1), [])), (8, (39, 9, 0, 0, 0, [])), (9, (3, 10, 1, 0, 1, [])), (10, (13, 13, 20, 1, 0, [])), (13, (3, 14, 0, 1, 1, [])), (14, (21, 17, 12, 38, 246, [])), (17, (18, 0, 57, 0, 0, [])), (20, (3, 21, 1, 0, 1, [])), (21, (0, 22, 0, 0, 1, [])), (22, (14, 25, 32, 1, 0, [])), (25, (3, 26, 0, 1, 1, [])), (26, (21, 29, 12, 34, 215, [])), (29, (18, 0, 57, 0, 0, [])), (32, (3, 33, 1, 0, 1, [])), (33, (0, 34, 0, 0, 2, [])), (34, (14, 37, 44, 1, 0, [])), (37, (3, 38, 0, 1, 1, [])), (38, (21, 41, 12, 35, 218, [])), (41, (18, 0, 57, 0, 0, [])), (44, (3, 45, 1, 0, 1, [])), (45, (0, 46, 0, 0, 3, [])), (46, (14, 49, 56, 1, 0, [])), (49, (3, 50, 0, 1, 1, [])), (50, (21, 53, 12, 36, 232, [])), (53, (18, 0, 57, 0, 0, [])), (56, (0, 57, 0, 0, (-1), [])), (57, (39, 58, 0, 0, 0, []))]
/-- HearingDeskModel.seat(II)I -/
def k156 : List (Nat × Ins) := [(0, (3, 1, 0, 1, 1, [])), (1, (3, 2, 1, 0, 1, [])), (2, (36, 5, 136, 2, 1, [(176, 0)])), (5, (13, 8, 12, 1, 0, [])), (8, (0, 9, 0, 0, (-1), [])), (9, (18, 0, 40, 0, 0, [])), (12, (3, 13, 2, 0, 1, [])), (13, (13, 16, 25, 1, 0, [])), (16, (3, 17, 0, 1, 1, [])), (17, (21, 20, 12, 21, 66, [])), (20, (3, 21, 1, 0, 1, [])), (21, (24, 22, 50, 0, 0, [])), (22, (18, 0, 40, 0, 0, [])), (25, (3, 26, 2, 0, 1, [])), (26, (0, 27, 0, 0, 1, [])), (27, (14, 30, 39, 1, 0, [])), (30, (3, 31, 0, 1, 1, [])), (31, (21, 34, 12, 22, 69, [])), (34, (3, 35, 1, 0, 1, [])), (35, (24, 36, 50, 0, 0, [])), (36, (18, 0, 40, 0, 0, [])), (39, (0, 40, 0, 0, (-1), [])), (40, (39, 41, 0, 0, 0, []))]
/-- HearingDeskModel.turn(II)I -/
def k157 : List (Nat × Ins) := [(0, (3, 1, 0, 1, 1, [])), (1, (3, 2, 1, 0, 1, [])), (2, (36, 5, 136, 2, 1, [(176, 0)])), (5, (13, 8, 24, 0, 0, [])), (8, (3, 9, 2, 0, 1, [])), (9, (0, 10, 0, 0, 0, [])), (10, (3, 11, 0, 1, 1, [])), (11, (21, 14, 12, 16, 51, [])), (14, (3, 15, 1, 0, 1, [])), (15, (24, 16, 50, 0, 0, [])), (16, (0, 17, 0, 0, 1, [])), (17, (6, 18, 0, 1, 0, [])), (18, (36, 21, 122, 3, 0, [(148, 0)])), (21, (13, 24, 26, 1, 0, [])), (24, (0, 25, 0, 0, (-1), [])), (25, (39, 26, 0, 0, 0, [])), (26, (3, 27, 0, 1, 1, [])), (27, (21, 30, 12, 16, 51, [])), (30, (3, 31, 1, 0, 1, [])), (31, (24, 32, 50, 0, 0, [])), (32, (0, 34, 0, 1, 90, [])), (34, (14, 37, 56, 5, 0, [])), (37, (3, 38, 2, 0, 1, [])), (38, (0, 40, 0, 1, 30, [])), (40, (6, 41, 0, 7, 0, [])), (41, (0, 42, 0, 0, 2, [])), (42, (6, 43, 0, 8, 0, [])), (43, (0, 44, 0, 0, 1, [])), (44, (14, 47, 56, 1, 0, [])), (47, (3, 48, 0, 1, 1, [])), (48, (21, 51, 12, 22, 69, [])), (51, (3, 52, 1, 0, 1, [])), (52, (24, 53, 50, 0, 0, [])), (53, (18, 0, 62, 0, 0, [])), (56, (3, 57, 0, 1, 1, [])), (57, (21, 60, 12, 21, 66, [])), (60, (3, 61, 1, 0, 1, [])), (61, (24, 62, 50, 0, 0, [])), (62, (39, 63, 0, 0, 0, []))]
/-- HearingDeskModel.isSeated(II)Z -/
def k158 : List (Nat × Ins) := [(0, (3, 1, 0, 1, 1, [])), (1, (21, 4, 12, 21, 66, [])), (4, (3, 5, 1, 0, 1, [])), (5, (24, 6, 50, 0, 0, [])), (6, (3, 7, 2, 0, 1, [])), (7, (14, 10, 20, 0, 0, [])), (10, (3, 11, 0, 1, 1, [])), (11, (21, 14, 12, 22, 69, [])), (14, (3, 15, 1, 0, 1, [])), (15, (24, 16, 50, 0, 0, [])), (16, (3, 17, 2, 0, 1, [])), (17, (14, 20, 24, 1, 0, [])), (20, (0, 21, 0, 0, 1, [])), (21, (18, 0, 25, 0, 0, [])), (24, (0, 25, 0, 0, 0, [])), (25, (40, 26, 0, 0, 0, []))]
/-- HearingDeskModel.journeys(II)I -/
def k159 : List (Nat × Ins) := [(0, (3, 1, 0, 1, 1, [])), (1, (3, 2, 1, 0, 1, [])), (2, (36, 5, 126, 2, 1, [(158, 0)])), (5, (13, 8, 15, 0, 0, [])), (8, (3, 9, 2, 0, 1, [])), (9, (36, 12, 127, 1, 0, [(162, 0)])), (12, (13, 15, 17, 1, 0, [])), (15, (0, 16, 0, 0, (-1), [])), (16, (39, 17, 0, 0, 0, [])), (17, (3, 18, 0, 1, 1, [])), (18, (0, 19, 0, 0, 0, [])), (19, (22, 22, 12, 33, 198, [])), (22, (0, 23, 0, 0, 0, [])), (23, (4, 24, 3, 0, 0, [(1, 0)])), (24, (3, 25, 3, 0, 1, [])), (25, (3, 26, 0, 1, 1, [])), (26, (21, 29, 12, 12, 169, [])), (29, (14, 32, 71, 3, 0, [])), (32, (3, 33, 0, 1, 1, [])), (33, (21, 36, 12, 14, 45, [])), (36, (3, 37, 3, 0, 1, [])), (37, (24, 38, 50, 0, 0, [])), (38, (3, 39, 2, 0, 1, [])), (39, (14, 42, 65, 1, 0, [])), (42, (3, 43, 0, 1, 1, [])), (43, (21, 46, 12, 20, 63, [])), (46, (3, 47, 3, 0, 1, [])), (47, (24, 48, 50, 0, 0, [])), (48, (13, 51, 65, 3, 0, [])), (51, (3, 52, 0, 1, 1, [])), (52, (3, 53, 3, 0, 1, [])), (53, (3, 54, 1, 0, 1, [])), (54, (36, 57, 158, 3, 1, [(249, 0)])), (57, (13, 60, 65, 0, 0, [])), (60, (3, 61, 0, 1, 1, [])), (61, (3, 62, 3, 0, 1, [])), (62, (36, 65, 146, 2, 1, [(204, 0)])), (65, (5, 68, 3, 0, 1, [])), (68, (18, 0, 24, 0, 0, [])), (71, (3, 72, 0, 1, 1, [])), (72, (21, 75, 12, 33, 198, [])), (75, (13, 78, 82, 1, 0, [])), (78, (0, 79, 0, 0, 0, [])), (79, (18, 0, 87, 0, 0, [])), (82, (3, 83, 0, 1, 1, [])), (83, (3, 84, 1, 0, 1, [])), (84, (36, 87, 147, 2, 1, [(228, 0)])), (87, (39, 88, 0, 0, 0, []))]
/-- HearingDeskModel.four(I)V -/
def k160 : List (Nat × Ins) := [(0, (0, 2, 0, 1, 24, [])), (2, (4, 3, 2, 0, 0, [(1, 0)])), (3, (3, 4, 2, 0, 1, [])), (4, (13, 7, 36, 2, 0, [])), (7, (3, 8, 0, 1, 1, [])), (8, (21, 11, 12, 39, 99, [])), (11, (3, 12, 0, 1, 1, [])), (12, (21, 15, 12, 40, 252, [])), (15, (3, 16, 1, 0, 1, [])), (16, (3, 17, 2, 0, 1, [])), (17, (6, 18, 0, 6, 0, [])), (18, (9, 19, 0, 0, 0, [])), (19, (29, 20, 0, 0, 0, [])), (20, (3, 21, 0, 1, 1, [])), (21, (11, 22, 0, 0, 0, [])), (22, (21, 25, 12, 40, 252, [])), (25, (0, 26, 0, 0, 1, [])), (26, (6, 27, 0, 0, 0, [])), (27, (22, 30, 12, 40, 252, [])), (30, (5, 33, 2, 0, (-8), [])), (33, (18, 0, 3, 0, 0, [])), (36, (38, 37, 0, 0, 0, []))]
/-- HearingDeskModel.feed(IIIII)I -/
def k161 : List (Nat × Ins) := [(0, (3, 1, 0, 1, 1, [])), (1, (21, 4, 12, 40, 252, [])), (4, (0, 6, 0, 1, 20, [])), (6, (6, 7, 0, 0, 0, [])), (7, (0, 10, 0, 2, 600, [])), (10, (14, 13, 15, 5, 0, [])), (13, (0, 14, 0, 0, (-1), [])), (14, (39, 15, 0, 0, 0, [])), (15, (3, 16, 0, 1, 1, [])), (16, (3, 17, 1, 0, 1, [])), (17, (36, 20, 160, 2, 1, [(255, 0)])), (20, (3, 21, 0, 1, 1, [])), (21, (3, 22, 2, 0, 1, [])), (22, (36, 25, 160, 2, 1, [(255, 0)])), (25, (3, 26, 0, 1, 1, [])), (26, (3, 27, 3, 0, 1, [])), (27, (36, 30, 160, 2, 1, [(255, 0)])), (30, (3, 31, 0, 1, 1, [])), (31, (3, 33, 4, 0, 0, [])), (33, (36, 36, 160, 2, 1, [(255, 0)])), (36, (3, 37, 0, 1, 1, [])), (37, (3, 39, 5, 0, 0, [])), (39, (36, 42, 160, 2, 1, [(255, 0)])), (42, (3, 43, 0, 1, 1, [])), (43, (21, 46, 12, 40, 252, [])), (46, (39, 47, 0, 0, 0, []))]
/-- HearingDeskModel.end(I)I -/
def k162 : List (Nat × Ins) := [(0, (3, 1, 1, 0, 1, [])), (1, (13, 4, 12, 2, 0, [])), (4, (3, 5, 1, 0, 1, [])), (5, (3, 6, 0, 1, 1, [])), (6, (21, 9, 12, 40, 252, [])), (9, (14, 12, 14, 5, 0, [])), (12, (0, 13, 0, 0, (-1), [])), (13, (39, 14, 0, 0, 0, [])), (14, (3, 15, 0, 1, 1, [])), (15, (3, 16, 1, 0, 1, [])), (16, (22, 19, 12, 40, 252, [])), (19, (3, 20, 1, 0, 1, [])), (20, (39, 21, 0, 0, 0, []))]
/-- HearingDeskModel.see()I -/
def k163 : List (Nat × Ins) := [(0, (3, 1, 0, 1, 1, [])), (1, (21, 4, 12, 41, 258, [])), (4, (3, 5, 0, 1, 1, [])), (5, (21, 8, 12, 40, 252, [])), (8, (14, 11, 38, 3, 0, [])), (11, (3, 12, 0, 1, 1, [])), (12, (21, 15, 12, 39, 99, [])), (15, (3, 16, 0, 1, 1, [])), (16, (21, 19, 12, 41, 258, [])), (19, (24, 20, 51, 0, 0, [])), (20, (0, 22, 0, 1, 32, [])), (22, (14, 25, 38, 1, 0, [])), (25, (3, 26, 0, 1, 1, [])), (26, (11, 27, 0, 0, 0, [])), (27, (21, 30, 12, 41, 258, [])), (30, (0, 31, 0, 0, 1, [])), (31, (6, 32, 0, 0, 0, [])), (32, (22, 35, 12, 41, 258, [])), (35, (18, 0, 0, 0, 0, [])), (38, (3, 39, 0, 1, 1, [])), (39, (21, 42, 12, 41, 258, [])), (42, (3, 43, 0, 1, 1, [])), (43, (21, 46, 12, 40, 252, [])), (46, (14, 49, 65, 3, 0, [])), (49, (3, 50, 0, 1, 1, [])), (50, (21, 53, 12, 39, 99, [])), (53, (3, 54, 0, 1, 1, [])), (54, (21, 57, 12, 41, 258, [])), (57, (24, 58, 51, 0, 0, [])), (58, (0, 61, 0, 2, 255, [])), (61, (6, 62, 0, 3, 0, [])), (62, (18, 0, 66, 0, 0, [])), (65, (0, 66, 0, 0, (-1), [])), (66, (39, 67, 0, 0, 0, []))]
/-- HearingDeskModel.fails(II)Z -/
def k164 : List (Nat × Ins) := [(0, (3, 1, 0, 1, 1, [])), (1, (21, 4, 12, 42, 261, [])), (4, (13, 7, 16, 1, 0, [])), (7, (3, 8, 0, 1, 1, [])), (8, (3, 9, 1, 0, 1, [])), (9, (0, 10, 0, 0, 4, [])), (10, (3, 11, 2, 0, 1, [])), (11, (6, 12, 0, 2, 0, [])), (12, (6, 13, 0, 0, 0, [])), (13, (22, 16, 12, 42, 261, [])), (16, (0, 17, 0, 0, 0, [])), (17, (40, 18, 0, 0, 0, []))]
/-- HearingDeskModel.word()I -/
def k165 : List (Nat × Ins) := [(0, (3, 1, 0, 1, 1, [])), (1, (36, 4, 163, 1, 1, [(264, 0)])), (4, (4, 5, 1, 0, 0, [(1, 0)])), (5, (0, 6, 0, 0, 0, [])), (6, (4, 7, 2, 0, 0, [(1, 0)])), (7, (3, 8, 0, 1, 1, [])), (8, (21, 11, 12, 41, 258, [])), (11, (3, 12, 2, 0, 1, [])), (12, (6, 13, 0, 0, 0, [])), (13, (3, 14, 0, 1, 1, [])), (14, (21, 17, 12, 40, 252, [])), (17, (14, 20, 58, 3, 0, [])), (20, (3, 21, 0, 1, 1, [])), (21, (21, 24, 12, 39, 99, [])), (24, (3, 25, 0, 1, 1, [])), (25, (21, 28, 12, 41, 258, [])), (28, (3, 29, 2, 0, 1, [])), (29, (6, 30, 0, 0, 0, [])), (30, (24, 31, 51, 0, 0, [])), (31, (0, 33, 0, 1, 97, [])), (33, (14, 36, 58, 2, 0, [])), (36, (3, 37, 0, 1, 1, [])), (37, (21, 40, 12, 39, 99, [])), (40, (3, 41, 0, 1, 1, [])), (41, (21, 44, 12, 41, 258, [])), (44, (3, 45, 2, 0, 1, [])), (45, (6, 46, 0, 0, 0, [])), (46, (24, 47, 51, 0, 0, [])), (47, (0, 49, 0, 1, 122, [])), (49, (14, 52, 58, 4, 0, [])), (52, (5, 55, 2, 0, 1, [])), (55, (18, 0, 7, 0, 0, [])), (58, (0, 59, 0, 0, 0, [])), (59, (4, 60, 3, 0, 0, [(1, 0)])), (60, (3, 61, 2, 0, 1, [])), (61, (13, 64, 188, 5, 0, [])), (64, (3, 65, 3, 0, 1, [])), (65, (3, 66, 2, 0, 1, [])), (66, (6, 67, 0, 0, 0, [])), (67, (0, 68, 0, 0, 1, [])), (68, (6, 69, 0, 0, 0, [])), (69, (0, 71, 0, 1, 37, [])), (71, (14, 74, 188, 3, 0, [])), (74, (3, 75, 0, 1, 1, [])), (75, (21, 78, 12, 53, 127, [])), (78, (3, 79, 3, 0, 1, [])), (79, (24, 80, 51, 0, 0, [])), (80, (0, 82, 0, 1, 32, [])), (82, (14, 85, 104, 1, 0, [])), (85, (3, 86, 0, 1, 1, [])), (86, (21, 89, 12, 53, 127, [])), (89, (3, 90, 3, 0, 1, [])), (90, (3, 91, 2, 0, 1, [])), (91, (6, 92, 0, 0, 0, [])), (92, (0, 93, 0, 0, 1, [])), (93, (6, 94, 0, 0, 0, [])), (94, (24, 95, 51, 0, 0, [])), (95, (0, 97, 0, 1, 32, [])), (97, (14, 100, 104, 1, 0, [])), (100, (0, 101, 0, 0, 1, [])), (101, (18, 0, 105, 0, 0, [])), (104, (0, 105, 0, 0, 0, [])), (105, (4, 107, 4, 0, 0, [(0, 0)])), (107, (0, 108, 0, 0, 0, [])), (108, (4, 110, 5, 0, 0, [(0, 0)])), (110, (3, 112, 4, 0, 0, [])), (112, (13, 115, 160, 0, 0, [])), (115, (3, 117, 5, 0, 0, [])), (117, (3, 118, 2, 0, 1, [])), (118, (14, 121, 160, 3, 0, [])), (121, (3, 122, 0, 1, 1, [])), (122, (21, 125, 12, 53, 127, [])), (125, (3, 126, 3, 0, 1, [])), (126, (0, 127, 0, 0, 1, [])), (127, (6, 128, 0, 0, 0, [])), (128, (3, 130, 5, 0, 0, [])), (130, (6, 131, 0, 0, 0, [])), (131, (24, 132, 51, 0, 0, [])), (132, (3, 133, 0, 1, 1, [])), (133, (21, 136, 12, 39, 99, [])), (136, (3, 137, 0, 1, 1, [])), (137, (21, 140, 12, 41, 258, [])), (140, (3, 142, 5, 0, 0, [])), (142, (6, 143, 0, 0, 0, [])), (143, (24, 144, 51, 0, 0, [])), (144, (14, 147, 151, 1, 0, [])), (147, (0, 148, 0, 0, 1, [])), (148, (18, 0, 152, 0, 0, [])), (151, (0, 152, 0, 0, 0, [])), (152, (4, 154, 4, 0, 0, [(0, 0)])), (154, (5, 157, 5, 0, 1, [])), (157, (18, 0, 110, 0, 0, [])), (160, (3, 162, 4, 0, 0, [])), (162, (13, 165, 168, 1, 0, [])), (165, (18, 0, 182, 0, 0, [])), (168, (3, 169, 0, 1, 1, [])), (169, (11, 170, 0, 0, 0, [])), (170, (21, 173, 12, 41, 258, [])), (173, (3, 174, 2, 0, 1, [])), (174, (6, 175, 0, 0, 0, [])), (175, (22, 178, 12, 41, 258, [])), (178, (3, 179, 3, 0, 1, [])), (179, (0, 180, 0, 0, 1, [])), (180, (6, 181, 0, 0, 0, [])), (181, (39, 182, 0, 0, 0, [])), (182, (5, 185, 3, 0, 1, [])), (185, (18, 0, 60, 0, 0, [])), (188, (0, 189, 0, 0, 0, [])), (189, (39, 190, 0, 0, 0, []))]
/-- HearingDeskModel.number(II)Z -/
def k166 : List (Nat × Ins) := [(0, (3, 1, 0, 1, 1, [])), (1, (36, 4, 163, 1, 1, [(264, 0)])), (4, (4, 5, 3, 0, 0, [(1, 0)])), (5, (3, 6, 3, 0, 1, [])), (6, (0, 8, 0, 1, 48, [])), (8, (14, 11, 17, 2, 0, [])), (11, (3, 12, 3, 0, 1, [])), (12, (0, 14, 0, 1, 57, [])), (14, (14, 17, 27, 5, 0, [])), (17, (3, 18, 0, 1, 1, [])), (18, (0, 19, 0, 0, 1, [])), (19, (3, 20, 0, 1, 1, [])), (20, (21, 23, 12, 41, 258, [])), (23, (36, 26, 164, 3, 1, [(267, 0)])), (26, (40, 27, 0, 0, 0, [])), (27, (3, 28, 0, 1, 1, [])), (28, (21, 31, 12, 41, 258, [])), (31, (4, 33, 4, 0, 0, [(0, 0)])), (33, (0, 34, 0, 0, 0, [])), (34, (4, 36, 5, 0, 0, [(0, 0)])), (36, (0, 37, 0, 0, 0, [])), (37, (4, 39, 6, 0, 0, [(0, 0)])), (39, (3, 40, 0, 1, 1, [])), (40, (21, 43, 12, 41, 258, [])), (43, (3, 44, 0, 1, 1, [])), (44, (21, 47, 12, 40, 252, [])), (47, (14, 50, 120, 3, 0, [])), (50, (3, 51, 0, 1, 1, [])), (51, (21, 54, 12, 39, 99, [])), (54, (3, 55, 0, 1, 1, [])), (55, (21, 58, 12, 41, 258, [])), (58, (24, 59, 51, 0, 0, [])), (59, (0, 61, 0, 1, 48, [])), (61, (14, 64, 120, 2, 0, [])), (64, (3, 65, 0, 1, 1, [])), (65, (21, 68, 12, 39, 99, [])), (68, (3, 69, 0, 1, 1, [])), (69, (21, 72, 12, 41, 258, [])), (72, (24, 73, 51, 0, 0, [])), (73, (0, 75, 0, 1, 57, [])), (75, (14, 78, 120, 4, 0, [])), (78, (3, 80, 6, 0, 0, [])), (80, (0, 81, 0, 0, 5, [])), (81, (14, 84, 104, 3, 0, [])), (84, (0, 86, 0, 1, 10, [])), (86, (3, 88, 5, 0, 0, [])), (88, (6, 89, 0, 2, 0, [])), (89, (3, 90, 0, 1, 1, [])), (90, (21, 93, 12, 39, 99, [])), (93, (3, 94, 0, 1, 1, [])), (94, (21, 97, 12, 41, 258, [])), (97, (24, 98, 51, 0, 0, [])), (98, (6, 99, 0, 0, 0, [])), (99, (0, 101, 0, 1, 48, [])), (101, (6, 102, 0, 1, 0, [])), (102, (4, 104, 5, 0, 0, [(0, 0)])), (104, (5, 107, 6, 0, 1, [])), (107, (3, 108, 0, 1, 1, [])), (108, (11, 109, 0, 0, 0, [])), (109, (21, 112, 12, 41, 258, [])), (112, (0, 113, 0, 0, 1, [])), (113, (6, 114, 0, 0, 0, [])), (114, (22, 117, 12, 41, 258, [])), (117, (18, 0, 39, 0, 0, [])), (120, (3, 121, 0, 1, 1, [])), (121, (3, 123, 5, 0, 0, [])), (123, (22, 126, 12, 54, 270, [])), (126, (3, 128, 6, 0, 0, [])), (128, (0, 129, 0, 0, 5, [])), (129, (14, 132, 142, 4, 0, [])), (132, (3, 134, 5, 0, 0, [])), (134, (3, 135, 1, 0, 1, [])), (135, (3, 136, 2, 0, 1, [])), (136, (36, 139, 122, 3, 0, [(148, 0)])), (139, (13, 142, 152, 1, 0, [])), (142, (3, 143, 0, 1, 1, [])), (143, (0, 144, 0, 0, 2, [])), (144, (3, 146, 4, 0, 0, [])), (146, (36, 149, 164, 3, 1, [(267, 0)])), (149, (13, 152, 156, 0, 0, [])), (152, (0, 153, 0, 0, 1, [])), (153, (18, 0, 157, 0, 0, [])), (156, (0, 157, 0, 0, 0, [])), (157, (40, 158, 0, 0, 0, []))]
/-- HearingDeskModel.clause()Z -/
def k167 : List (Nat × Ins) := [(0, (3, 1, 0, 1, 1, [])), (1, (36, 4, 163, 1, 1, [(264, 0)])), (4, (4, 5, 1, 0, 0, [(1, 0)])), (5, (3, 6, 0, 1, 1, [])), (6, (21, 9, 12, 41, 258, [])), (9, (4, 10, 2, 0, 0, [(1, 0)])), (10, (3, 11, 0, 1, 1, [])), (11, (36, 14, 165, 1, 1, [(273, 0)])), (14, (0, 15, 0, 0, 1, [])), (15, (14, 18, 25, 0, 0, [])), (18, (3, 19, 0, 1, 1, [])), (19, (0, 20, 0, 0, 1, [])), (20, (3, 21, 2, 0, 1, [])), (21, (36, 24, 164, 3, 1, [(267, 0)])), (24, (40, 25, 0, 0, 0, [])), (25, (3, 26, 0, 1, 1, [])), (26, (0, 27, 0, 0, 0, [])), (27, (0, 30, 0, 2, 999, [])), (30, (36, 33, 166, 3, 1, [(276, 0)])), (33, (13, 36, 38, 1, 0, [])), (36, (0, 37, 0, 0, 0, [])), (37, (40, 38, 0, 0, 0, [])), (38, (3, 39, 0, 1, 1, [])), (39, (21, 42, 12, 54, 270, [])), (42, (4, 43, 3, 0, 0, [(1, 0)])), (43, (3, 44, 0, 1, 1, [])), (44, (36, 47, 163, 1, 1, [(264, 0)])), (47, (4, 48, 1, 0, 0, [(1, 0)])), (48, (3, 49, 0, 1, 1, [])), (49, (21, 52, 12, 41, 258, [])), (52, (4, 53, 2, 0, 0, [(1, 0)])), (53, (3, 54, 0, 1, 1, [])), (54, (36, 57, 165, 1, 1, [(273, 0)])), (57, (4, 59, 4, 0, 0, [(0, 0)])), (59, (0, 60, 0, 0, 0, [])), (60, (4, 62, 5, 0, 0, [(0, 0)])), (62, (0, 63, 0, 0, 0, [])), (63, (4, 65, 6, 0, 0, [(0, 0)])), (65, (3, 67, 4, 0, 0, [])), (67, (19, 124, 256, 1, 0, [(6, 124), (11, 157), (17, 173), (21, 188), (26, 205), (32, 222)])), (124, (3, 125, 0, 1, 1, [])), (125, (0, 126, 0, 0, 1, [])), (126, (0, 127, 0, 0, 5, [])), (127, (36, 130, 166, 3, 1, [(276, 0)])), (130, (13, 133, 135, 1, 0, [])), (133, (0, 134, 0, 0, 0, [])), (134, (40, 135, 0, 0, 0, [])), (135, (0, 137, 0, 1, 10, [])), (137, (3, 138, 0, 1, 1, [])), (138, (21, 141, 12, 54, 270, [])), (141, (6, 142, 0, 0, 0, [])), (142, (4, 144, 5, 0, 0, [(0, 0)])), (144, (3, 145, 0, 1, 1, [])), (145, (0, 146, 0, 0, 0, [])), (146, (0, 149, 0, 2, 1000, [])), (149, (36, 152, 166, 3, 1, [(276, 0)])), (152, (4, 154, 7, 0, 0, [(0, 0)])), (154, (18, 0, 263, 0, 0, [])), (157, (0, 158, 0, 0, 0, [])), (158, (4, 160, 5, 0, 0, [(0, 0)])), (160, (3, 161, 0, 1, 1, [])), (161, (0, 162, 0, 0, 0, [])), (162, (0, 165, 0, 2, 480, [])), (165, (36, 168, 166, 3, 1, [(276, 0)])), (168, (4, 170, 7, 0, 0, [(0, 0)])), (170, (18, 0, 263, 0, 0, [])), (173, (0, 174, 0, 0, 1, [])), (174, (4, 176, 5, 0, 0, [(0, 0)])), (176, (3, 177, 0, 1, 1, [])), (177, (0, 178, 0, 0, 0, [])), (178, (0, 180, 0, 1, 100, [])), (180, (36, 183, 166, 3, 1, [(276, 0)])), (183, (4, 185, 7, 0, 0, [(0, 0)])), (185, (18, 0, 263, 0, 0, [])), (188, (0, 189, 0, 0, 2, [])), (189, (4, 191, 5, 0, 0, [(0, 0)])), (191, (3, 192, 0, 1, 1, [])), (192, (0, 194, 0, 1, 50, [])), (194, (0, 197, 0, 2, 300, [])), (197, (36, 200, 166, 3, 1, [(276, 0)])), (200, (4, 202, 7, 0, 0, [(0, 0)])), (202, (18, 0, 263, 0, 0, [])), (205, (0, 206, 0, 0, 3, [])), (206, (4, 208, 5, 0, 0, [(0, 0)])), (208, (3, 209, 0, 1, 1, [])), (209, (0, 211, 0, 1, 50, [])), (211, (0, 214, 0, 2, 300, [])), (214, (36, 217, 166, 3, 1, [(276, 0)])), (217, (4, 219, 7, 0, 0, [(0, 0)])), (219, (18, 0, 263, 0, 0, [])), (222, (0, 223, 0, 0, 4, [])), (223, (4, 225, 5, 0, 0, [(0, 0)])), (225, (3, 226, 0, 1, 1, [])), (226, (0, 227, 0, 0, 0, [])), (227, (0, 230, 0, 2, 5000, [])), (230, (36, 233, 166, 3, 1, [(276, 0)])), (233, (13, 236, 238, 1, 0, [])), (236, (0, 237, 0, 0, 0, [])), (237, (40, 238, 0, 0, 0, [])), (238, (3, 239, 0, 1, 1, [])), (239, (21, 242, 12, 54, 270, [])), (242, (4, 244, 6, 0, 0, [(0, 0)])), (244, (3, 245, 0, 1, 1, [])), (245, (0, 246, 0, 0, 0, [])), (246, (0, 248, 0, 1, 100, [])), (248, (36, 251, 166, 3, 1, [(276, 0)])), (251, (4, 253, 7, 0, 0, [(0, 0)])), (253, (18, 0, 263, 0, 0, [])), (256, (3, 257, 0, 1, 1, [])), (257, (0, 258, 0, 0, 1, [])), (258, (3, 259, 2, 0, 1, [])), (259, (36, 262, 164, 3, 1, [(267, 0)])), (262, (40, 263, 0, 0, 0, [])), (263, (3, 265, 7, 0, 0, [])), (265, (13, 268, 270, 1, 0, [])), (268, (0, 269, 0, 0, 0, [])), (269, (40, 270, 0, 0, 0, [])), (270, (3, 271, 0, 1, 1, [])), (271, (21, 274, 12, 49, 115, [])), (274, (3, 275, 0, 1, 1, [])), (275, (21, 278, 12, 48, 279, [])), (278, (3, 280, 5, 0, 0, [])), (280, (28, 281, 0, 0, 0, [])), (281, (3, 282, 0, 1, 1, [])), (282, (21, 285, 12, 50, 118, [])), (285, (3, 286, 0, 1, 1, [])), (286, (21, 289, 12, 48, 279, [])), (289, (3, 290, 3, 0, 1, [])), (290, (28, 291, 0, 0, 0, [])), (291, (3, 292, 0, 1, 1, [])), (292, (21, 295, 12, 52, 124, [])), (295, (3, 296, 0, 1, 1, [])), (296, (21, 299, 12, 48, 279, [])), (299, (3, 301, 6, 0, 0, [])), (301, (28, 302, 0, 0, 0, [])), (302, (3, 303, 0, 1, 1, [])), (303, (21, 306, 12, 51, 121, [])), (306, (3, 307, 0, 1, 1, [])), (307, (21, 310, 12, 48, 279, [])), (310, (3, 311, 0, 1, 1, [])), (311, (21, 314, 12, 54, 270, [])), (314, (28, 315, 0, 0, 0, [])), (315, (3, 316, 0, 1, 1, [])), (316, (11, 317, 0, 0, 0, [])), (317, (21, 320, 12, 48, 279, [])), (320, (0, 321, 0, 0, 1, [])), (321, (6, 322, 0, 0, 0, [])), (322, (22, 325, 12, 48, 279, [])), (325, (0, 326, 0, 0, 1, [])), (326, (40, 327, 0, 0, 0, []))]
/-- HearingDeskModel.fees()I -/
def k168 : List (Nat × Ins) := [(0, (3, 1, 0, 1, 1, [])), (1, (0, 2, 0, 0, 0, [])), (2, (22, 5, 12, 41, 258, [])), (5, (3, 6, 0, 1, 1, [])), (6, (0, 7, 0, 0, 0, [])), (7, (22, 10, 12, 42, 261, [])), (10, (3, 11, 0, 1, 1, [])), (11, (0, 12, 0, 0, 0, [])), (12, (22, 15, 12, 48, 279, [])), (15, (3, 16, 0, 1, 1, [])), (16, (36, 19, 163, 1, 1, [(264, 0)])), (19, (0, 20, 0, 0, (-1), [])), (20, (14, 23, 30, 0, 0, [])), (23, (3, 24, 0, 1, 1, [])), (24, (36, 27, 167, 1, 1, [(282, 0)])), (27, (13, 30, 34, 0, 0, [])), (30, (0, 31, 0, 0, 1, [])), (31, (18, 0, 35, 0, 0, [])), (34, (0, 35, 0, 0, 0, [])), (35, (4, 36, 1, 0, 0, [(1, 0)])), (36, (3, 37, 1, 0, 1, [])), (37, (13, 40, 88, 0, 0, [])), (40, (3, 41, 0, 1, 1, [])), (41, (36, 44, 163, 1, 1, [(264, 0)])), (44, (0, 45, 0, 0, (-1), [])), (45, (14, 48, 88, 0, 0, [])), (48, (3, 49, 0, 1, 1, [])), (49, (36, 52, 163, 1, 1, [(264, 0)])), (52, (0, 54, 0, 1, 59, [])), (54, (14, 57, 75, 1, 0, [])), (57, (3, 58, 0, 1, 1, [])), (58, (11, 59, 0, 0, 0, [])), (59, (21, 62, 12, 41, 258, [])), (62, (0, 63, 0, 0, 1, [])), (63, (6, 64, 0, 0, 0, [])), (64, (22, 67, 12, 41, 258, [])), (67, (3, 68, 0, 1, 1, [])), (68, (36, 71, 167, 1, 1, [(282, 0)])), (71, (4, 72, 1, 0, 0, [(1, 0)])), (72, (18, 0, 36, 0, 0, [])), (75, (3, 76, 0, 1, 1, [])), (76, (0, 77, 0, 0, 1, [])), (77, (3, 78, 0, 1, 1, [])), (78, (21, 81, 12, 41, 258, [])), (81, (36, 84, 164, 3, 1, [(267, 0)])), (84, (4, 85, 1, 0, 0, [(1, 0)])), (85, (18, 0, 36, 0, 0, [])), (88, (3, 89, 0, 1, 1, [])), (89, (0, 90, 0, 0, 0, [])), (90, (22, 93, 12, 40, 252, [])), (93, (3, 94, 1, 0, 1, [])), (94, (13, 97, 102, 1, 0, [])), (97, (3, 98, 0, 1, 1, [])), (98, (21, 101, 12, 42, 261, [])), (101, (39, 102, 0, 0, 0, [])), (102, (3, 103, 0, 1, 1, [])), (103, (3, 104, 0, 1, 1, [])), (104, (21, 107, 12, 48, 279, [])), (107, (22, 110, 12, 43, 285, [])), (110, (0, 111, 0, 0, 0, [])), (111, (4, 112, 2, 0, 0, [(1, 0)])), (112, (3, 113, 2, 0, 1, [])), (113, (3, 114, 0, 1, 1, [])), (114, (21, 117, 12, 48, 279, [])), (117, (14, 120, 174, 3, 0, [])), (120, (3, 121, 0, 1, 1, [])), (121, (21, 124, 12, 44, 103, [])), (124, (3, 125, 2, 0, 1, [])), (125, (3, 126, 0, 1, 1, [])), (126, (21, 129, 12, 49, 115, [])), (129, (3, 130, 2, 0, 1, [])), (130, (24, 131, 50, 0, 0, [])), (131, (28, 132, 0, 0, 0, [])), (132, (3, 133, 0, 1, 1, [])), (133, (21, 136, 12, 45, 106, [])), (136, (3, 137, 2, 0, 1, [])), (137, (3, 138, 0, 1, 1, [])), (138, (21, 141, 12, 50, 118, [])), (141, (3, 142, 2, 0, 1, [])), (142, (24, 143, 50, 0, 0, [])), (143, (28, 144, 0, 0, 0, [])), (144, (3, 145, 0, 1, 1, [])), (145, (21, 148, 12, 46, 109, [])), (148, (3, 149, 2, 0, 1, [])), (149, (3, 150, 0, 1, 1, [])), (150, (21, 153, 12, 51, 121, [])), (153, (3, 154, 2, 0, 1, [])), (154, (24, 155, 50, 0, 0, [])), (155, (28, 156, 0, 0, 0, [])), (156, (3, 157, 0, 1, 1, [])), (157, (21, 160, 12, 47, 112, [])), (160, (3, 161, 2, 0, 1, [])), (161, (3, 162, 0, 1, 1, [])), (162, (21, 165, 12, 52, 124, [])), (165, (3, 166, 2, 0, 1, [])), (166, (24, 167, 50, 0, 0, [])), (167, (28, 168, 0, 0, 0, [])), (168, (5, 171, 2, 0, 1, [])), (171, (18, 0, 112, 0, 0, [])), (174, (0, 175, 0, 0, 0, [])), (175, (39, 176, 0, 0, 0, []))]
/-- HearingDeskModel.clauseOf(II)I -/
def k169 : List (Nat × Ins) := [(0, (0, 1, 0, 0, (-1), [])), (1, (4, 2, 3, 0, 0, [(1, 0)])), (2, (0, 3, 0, 0, 0, [])), (3, (4, 5, 4, 0, 0, [(0, 0)])), (5, (3, 7, 4, 0, 0, [])), (7, (3, 8, 0, 1, 1, [])), (8, (21, 11, 12, 43, 285, [])), (11, (14, 14, 65, 3, 0, [])), (14, (3, 15, 0, 1, 1, [])), (15, (21, 18, 12, 44, 103, [])), (18, (3, 20, 4, 0, 0, [])), (20, (24, 21, 50, 0, 0, [])), (21, (3, 22, 1, 0, 1, [])), (22, (14, 25, 59, 1, 0, [])), (25, (3, 26, 0, 1, 1, [])), (26, (21, 29, 12, 45, 106, [])), (29, (3, 31, 4, 0, 0, [])), (31, (24, 32, 50, 0, 0, [])), (32, (3, 33, 2, 0, 1, [])), (33, (14, 36, 59, 4, 0, [])), (36, (3, 37, 3, 0, 1, [])), (37, (13, 40, 56, 2, 0, [])), (40, (3, 41, 0, 1, 1, [])), (41, (21, 44, 12, 45, 106, [])), (44, (3, 46, 4, 0, 0, [])), (46, (24, 47, 50, 0, 0, [])), (47, (3, 48, 0, 1, 1, [])), (48, (21, 51, 12, 45, 106, [])), (51, (3, 52, 3, 0, 1, [])), (52, (24, 53, 50, 0, 0, [])), (53, (14, 56, 59, 2, 0, [])), (56, (3, 58, 4, 0, 0, [])), (58, (4, 59, 3, 0, 0, [(1, 0)])), (59, (5, 62, 4, 0, 1, [])), (62, (18, 0, 5, 0, 0, [])), (65, (3, 66, 3, 0, 1, [])), (66, (39, 67, 0, 0, 0, []))]
/-- HearingDeskModel.tellsOf(II)I -/
def k170 : List (Nat × Ins) := [(0, (3, 1, 0, 1, 1, [])), (1, (3, 2, 2, 0, 1, [])), (2, (0, 3, 0, 0, 5, [])), (3, (14, 6, 10, 1, 0, [])), (6, (0, 7, 0, 0, 4, [])), (7, (18, 0, 11, 0, 0, [])), (10, (3, 11, 2, 0, 1, [])), (11, (3, 12, 1, 0, 1, [])), (12, (36, 15, 169, 3, 1, [(288, 0)])), (15, (4, 16, 3, 0, 0, [(1, 0)])), (16, (3, 17, 3, 0, 1, [])), (17, (13, 20, 37, 3, 0, [])), (20, (3, 21, 2, 0, 1, [])), (21, (0, 22, 0, 0, 2, [])), (22, (14, 25, 30, 0, 0, [])), (25, (3, 26, 2, 0, 1, [])), (26, (0, 27, 0, 0, 3, [])), (27, (14, 30, 35, 1, 0, [])), (30, (0, 32, 0, 1, 100, [])), (32, (18, 0, 36, 0, 0, [])), (35, (0, 36, 0, 0, 0, [])), (36, (39, 37, 0, 0, 0, [])), (37, (3, 38, 2, 0, 1, [])), (38, (0, 39, 0, 0, 4, [])), (39, (14, 42, 51, 1, 0, [])), (42, (3, 43, 0, 1, 1, [])), (43, (21, 46, 12, 47, 112, [])), (46, (3, 47, 3, 0, 1, [])), (47, (24, 48, 50, 0, 0, [])), (48, (18, 0, 57, 0, 0, [])), (51, (3, 52, 0, 1, 1, [])), (52, (21, 55, 12, 46, 109, [])), (55, (3, 56, 3, 0, 1, [])), (56, (24, 57, 50, 0, 0, [])), (57, (39, 58, 0, 0, 0, []))]
/-- HearingDeskModel.tells(II)I -/
def k171 : List (Nat × Ins) := [(0, (3, 1, 1, 0, 1, [])), (1, (36, 4, 127, 1, 0, [(162, 0)])), (4, (13, 7, 36, 0, 0, [])), (7, (3, 8, 2, 0, 1, [])), (8, (0, 9, 0, 0, 0, [])), (9, (0, 10, 0, 0, 5, [])), (10, (36, 13, 122, 3, 0, [(148, 0)])), (13, (13, 16, 27, 1, 0, [])), (16, (3, 17, 2, 0, 1, [])), (17, (0, 19, 0, 1, 11, [])), (19, (0, 21, 0, 1, 15, [])), (21, (36, 24, 122, 3, 0, [(148, 0)])), (24, (13, 27, 36, 0, 0, [])), (27, (3, 28, 0, 1, 1, [])), (28, (3, 29, 1, 0, 1, [])), (29, (3, 30, 2, 0, 1, [])), (30, (36, 33, 170, 3, 1, [(291, 0)])), (33, (18, 0, 37, 0, 0, [])), (36, (0, 37, 0, 0, (-1), [])), (37, (39, 38, 0, 0, 0, []))]
/-- HearingDeskModel.fee(II)J -/
def k172 : List (Nat × Ins) := [(0, (3, 1, 0, 1, 1, [])), (1, (3, 2, 1, 0, 1, [])), (2, (36, 5, 126, 2, 1, [(158, 0)])), (5, (13, 8, 15, 0, 0, [])), (8, (3, 9, 2, 0, 1, [])), (9, (36, 12, 127, 1, 0, [(162, 0)])), (12, (13, 15, 19, 1, 0, [])), (15, (1, 18, 294, 1, (-1), [])), (18, (41, 19, 0, 0, 0, [])), (19, (1, 20, 0, 0, 0, [])), (20, (4, 21, 3, 2, 1, [(1, 0)])), (21, (0, 22, 0, 0, 0, [])), (22, (4, 24, 5, 0, 1, [(0, 0)])), (24, (0, 25, 0, 0, 0, [])), (25, (4, 27, 6, 0, 1, [(0, 0)])), (27, (3, 29, 6, 0, 0, [])), (29, (3, 30, 0, 1, 1, [])), (30, (21, 33, 12, 12, 169, [])), (33, (14, 36, 221, 3, 0, [])), (36, (3, 37, 0, 1, 1, [])), (37, (21, 40, 12, 14, 45, [])), (40, (3, 42, 6, 0, 0, [])), (42, (24, 43, 50, 0, 0, [])), (43, (3, 44, 2, 0, 1, [])), (44, (14, 47, 215, 1, 0, [])), (47, (3, 48, 0, 1, 1, [])), (48, (3, 50, 6, 0, 0, [])), (50, (3, 51, 1, 0, 1, [])), (51, (36, 54, 158, 3, 1, [(249, 0)])), (54, (13, 57, 60, 1, 0, [])), (57, (18, 0, 215, 0, 0, [])), (60, (3, 61, 0, 1, 1, [])), (61, (3, 62, 2, 0, 1, [])), (62, (0, 63, 0, 0, 0, [])), (63, (36, 66, 170, 3, 1, [(291, 0)])), (66, (4, 68, 7, 0, 1, [(0, 0)])), (68, (3, 69, 0, 1, 1, [])), (69, (21, 72, 12, 16, 51, [])), (72, (3, 74, 6, 0, 0, [])), (74, (24, 75, 50, 0, 0, [])), (75, (3, 77, 7, 0, 0, [])), (77, (14, 80, 90, 5, 0, [])), (80, (3, 81, 0, 1, 1, [])), (81, (21, 84, 12, 16, 51, [])), (84, (3, 86, 6, 0, 0, [])), (86, (24, 87, 50, 0, 0, [])), (87, (18, 0, 92, 0, 0, [])), (90, (3, 92, 7, 0, 0, [])), (92, (8, 93, 0, 0, 0, [])), (93, (3, 94, 0, 1, 1, [])), (94, (3, 95, 2, 0, 1, [])), (95, (0, 97, 0, 1, 10, [])), (97, (3, 98, 0, 1, 1, [])), (98, (21, 101, 12, 19, 60, [])), (101, (3, 103, 6, 0, 0, [])), (103, (24, 104, 50, 0, 0, [])), (104, (6, 105, 0, 0, 0, [])), (105, (36, 108, 170, 3, 1, [(291, 0)])), (108, (8, 109, 0, 0, 0, [])), (109, (7, 110, 0, 1, 0, [])), (110, (1, 113, 296, 1, 60, [])), (113, (7, 114, 0, 2, 0, [])), (114, (4, 116, 8, 2, 1, [(0, 0)])), (116, (3, 117, 0, 1, 1, [])), (117, (21, 120, 12, 22, 69, [])), (120, (3, 122, 6, 0, 0, [])), (122, (24, 123, 50, 0, 0, [])), (123, (0, 124, 0, 0, (-1), [])), (124, (14, 127, 158, 0, 0, [])), (127, (3, 129, 8, 2, 0, [])), (129, (3, 130, 0, 1, 1, [])), (130, (3, 131, 2, 0, 1, [])), (131, (3, 132, 0, 1, 1, [])), (132, (21, 135, 12, 23, 72, [])), (135, (3, 137, 6, 0, 0, [])), (137, (24, 138, 50, 0, 0, [])), (138, (0, 139, 0, 0, (-1), [])), (139, (14, 142, 146, 1, 0, [])), (142, (0, 143, 0, 0, 2, [])), (143, (18, 0, 147, 0, 0, [])), (146, (0, 147, 0, 0, 3, [])), (147, (36, 150, 170, 3, 1, [(291, 0)])), (150, (8, 151, 0, 0, 0, [])), (151, (7, 152, 0, 1, 0, [])), (152, (1, 155, 298, 1, 100, [])), (155, (7, 156, 0, 2, 0, [])), (156, (4, 158, 8, 2, 1, [(0, 0)])), (158, (3, 159, 0, 1, 1, [])), (159, (21, 162, 12, 20, 63, [])), (162, (3, 164, 6, 0, 0, [])), (164, (24, 165, 50, 0, 0, [])), (165, (13, 168, 207, 2, 0, [])), (168, (3, 169, 0, 1, 1, [])), (169, (21, 172, 12, 20, 63, [])), (172, (3, 174, 6, 0, 0, [])), (174, (24, 175, 50, 0, 0, [])), (175, (3, 176, 0, 1, 1, [])), (176, (3, 177, 2, 0, 1, [])), (177, (0, 178, 0, 0, 4, [])), (178, (36, 181, 170, 3, 1, [(291, 0)])), (181, (14, 184, 201, 3, 0, [])), (184, (3, 186, 8, 2, 0, [])), (186, (3, 187, 0, 1, 1, [])), (187, (3, 188, 2, 0, 1, [])), (188, (0, 189, 0, 0, 5, [])), (189, (36, 192, 170, 3, 1, [(291, 0)])), (192, (8, 193, 0, 0, 0, [])), (193, (7, 194, 0, 1, 0, [])), (194, (1, 197, 298, 1, 100, [])), (197, (7, 198, 0, 2, 0, [])), (198, (18, 0, 202, 0, 0, [])), (201, (1, 202, 0, 0, 0, [])), (202, (4, 204, 8, 2, 1, [(0, 0)])), (204, (18, 0, 210, 0, 0, [])), (207, (0, 208, 0, 0, 1, [])), (208, (4, 210, 5, 0, 1, [(0, 0)])), (210, (3, 211, 3, 2, 1, [])), (211, (3, 213, 8, 2, 0, [])), (213, (7, 214, 0, 0, 0, [])), (214, (4, 215, 3, 2, 1, [(1, 0)])), (215, (5, 218, 6, 1, 1, [])), (218, (18, 0, 27, 0, 0, [])), (221, (3, 223, 5, 0, 0, [])), (223, (13, 226, 249, 0, 0, [])), (226, (3, 227, 3, 2, 1, [])), (227, (3, 228, 0, 1, 1, [])), (228, (3, 229, 1, 0, 1, [])), (229, (3, 230, 2, 0, 1, [])), (230, (36, 233, 159, 3, 1, [(300, 0)])), (233, (0, 235, 0, 1, 10, [])), (235, (6, 236, 0, 7, 0, [])), (236, (8, 237, 0, 0, 0, [])), (237, (3, 238, 0, 1, 1, [])), (238, (3, 239, 2, 0, 1, [])), (239, (0, 240, 0, 0, 1, [])), (240, (36, 243, 170, 3, 1, [(291, 0)])), (243, (8, 244, 0, 0, 0, [])), (244, (7, 245, 0, 1, 0, [])), (245, (7, 246, 0, 0, 0, [])), (246, (18, 0, 250, 0, 0, [])), (249, (3, 250, 3, 2, 1, [])), (250, (41, 251, 0, 0, 0, []))]
/-- HearingDeskModel.ask(III)I -/
def k173 : List (Nat × Ins) := [(0, (3, 1, 0, 1, 1, [])), (1, (21, 4, 12, 55, 303, [])), (4, (0, 6, 0, 1, 60, [])), (6, (14, 9, 54, 0, 0, [])), (9, (3, 10, 0, 1, 1, [])), (10, (3, 11, 1, 0, 1, [])), (11, (36, 14, 136, 2, 1, [(176, 0)])), (14, (13, 17, 54, 0, 0, [])), (17, (3, 18, 0, 1, 1, [])), (18, (3, 19, 2, 0, 1, [])), (19, (36, 22, 126, 2, 1, [(158, 0)])), (22, (13, 25, 54, 0, 0, [])), (25, (3, 26, 3, 0, 1, [])), (26, (36, 29, 127, 1, 0, [(162, 0)])), (29, (13, 32, 54, 0, 0, [])), (32, (3, 33, 0, 1, 1, [])), (33, (21, 36, 12, 55, 303, [])), (36, (13, 39, 56, 5, 0, [])), (39, (3, 40, 3, 0, 1, [])), (40, (3, 41, 0, 1, 1, [])), (41, (21, 44, 12, 58, 136, [])), (44, (3, 45, 0, 1, 1, [])), (45, (21, 48, 12, 55, 303, [])), (48, (0, 49, 0, 0, 1, [])), (49, (6, 50, 0, 1, 0, [])), (50, (24, 51, 50, 0, 0, [])), (51, (14, 54, 56, 3, 0, [])), (54, (0, 55, 0, 0, (-1), [])), (55, (39, 56, 0, 0, 0, [])), (56, (3, 57, 0, 1, 1, [])), (57, (21, 60, 12, 56, 130, [])), (60, (3, 61, 0, 1, 1, [])), (61, (21, 64, 12, 55, 303, [])), (64, (3, 65, 1, 0, 1, [])), (65, (28, 66, 0, 0, 0, [])), (66, (3, 67, 0, 1, 1, [])), (67, (21, 70, 12, 57, 133, [])), (70, (3, 71, 0, 1, 1, [])), (71, (21, 74, 12, 55, 303, [])), (74, (3, 75, 2, 0, 1, [])), (75, (28, 76, 0, 0, 0, [])), (76, (3, 77, 0, 1, 1, [])), (77, (21, 80, 12, 58, 136, [])), (80, (3, 81, 0, 1, 1, [])), (81, (21, 84, 12, 55, 303, [])), (84, (3, 85, 3, 0, 1, [])), (85, (28, 86, 0, 0, 0, [])), (86, (3, 87, 0, 1, 1, [])), (87, (21, 90, 12, 59, 139, [])), (90, (3, 91, 0, 1, 1, [])), (91, (21, 94, 12, 55, 303, [])), (94, (0, 95, 0, 0, (-1), [])), (95, (28, 96, 0, 0, 0, [])), (96, (3, 97, 0, 1, 1, [])), (97, (11, 98, 0, 0, 0, [])), (98, (21, 101, 12, 55, 303, [])), (101, (0, 102, 0, 0, 1, [])), (102, (6, 103, 0, 0, 0, [])), (103, (22, 106, 12, 55, 303, [])), (106, (3, 107, 0, 1, 1, [])), (107, (21, 110, 12, 55, 303, [])), (110, (0, 111, 0, 0, 1, [])), (111, (6, 112, 0, 1, 0, [])), (112, (39, 113, 0, 0, 0, []))]
/-- HearingDeskModel.answer(IIZI)Z -/
def k174 : List (Nat × Ins) := [(0, (3, 1, 1, 0, 1, [])), (1, (0, 2, 0, 0, 0, [])), (2, (3, 3, 0, 1, 1, [])), (3, (21, 6, 12, 55, 303, [])), (6, (0, 7, 0, 0, 1, [])), (7, (6, 8, 0, 1, 0, [])), (8, (36, 11, 122, 3, 0, [(148, 0)])), (11, (13, 14, 50, 0, 0, [])), (14, (3, 15, 0, 1, 1, [])), (15, (21, 18, 12, 59, 139, [])), (18, (3, 19, 1, 0, 1, [])), (19, (24, 20, 50, 0, 0, [])), (20, (13, 23, 50, 3, 0, [])), (23, (3, 24, 2, 0, 1, [])), (24, (3, 25, 0, 1, 1, [])), (25, (21, 28, 12, 58, 136, [])), (28, (3, 29, 1, 0, 1, [])), (29, (24, 30, 50, 0, 0, [])), (30, (0, 33, 0, 2, 999, [])), (33, (36, 36, 122, 3, 0, [(148, 0)])), (36, (13, 39, 50, 0, 0, [])), (39, (3, 41, 4, 0, 0, [])), (41, (0, 42, 0, 0, 0, [])), (42, (0, 44, 0, 1, 9, [])), (44, (36, 47, 122, 3, 0, [(148, 0)])), (47, (13, 50, 52, 1, 0, [])), (50, (0, 51, 0, 0, 0, [])), (51, (40, 52, 0, 0, 0, [])), (52, (3, 53, 0, 1, 1, [])), (53, (21, 56, 12, 59, 139, [])), (56, (3, 57, 1, 0, 1, [])), (57, (3, 58, 2, 0, 1, [])), (58, (28, 59, 0, 0, 0, [])), (59, (3, 60, 0, 1, 1, [])), (60, (21, 63, 12, 60, 142, [])), (63, (3, 64, 1, 0, 1, [])), (64, (3, 65, 3, 0, 1, [])), (65, (30, 66, 0, 0, 0, [])), (66, (3, 67, 0, 1, 1, [])), (67, (21, 70, 12, 61, 145, [])), (70, (3, 71, 1, 0, 1, [])), (71, (3, 73, 4, 0, 0, [])), (73, (28, 74, 0, 0, 0, [])), (74, (0, 75, 0, 0, 1, [])), (75, (40, 76, 0, 0, 0, []))]
/-- HearingDeskModel.known(III)I -/
def k175 : List (Nat × Ins) := [(0, (3, 1, 1, 0, 1, [])), (1, (0, 2, 0, 0, 0, [])), (2, (3, 3, 0, 1, 1, [])), (3, (21, 6, 12, 55, 303, [])), (6, (0, 7, 0, 0, 1, [])), (7, (6, 8, 0, 1, 0, [])), (8, (36, 11, 122, 3, 0, [(148, 0)])), (11, (13, 14, 31, 0, 0, [])), (14, (3, 15, 2, 0, 1, [])), (15, (36, 18, 127, 1, 0, [(162, 0)])), (18, (13, 21, 31, 0, 0, [])), (21, (3, 22, 0, 1, 1, [])), (22, (21, 25, 12, 58, 136, [])), (25, (3, 26, 1, 0, 1, [])), (26, (24, 27, 50, 0, 0, [])), (27, (3, 28, 2, 0, 1, [])), (28, (14, 31, 33, 5, 0, [])), (31, (0, 32, 0, 0, (-1), [])), (32, (39, 33, 0, 0, 0, [])), (33, (3, 34, 0, 1, 1, [])), (34, (21, 37, 12, 59, 139, [])), (37, (3, 38, 1, 0, 1, [])), (38, (24, 39, 50, 0, 0, [])), (39, (13, 42, 56, 2, 0, [])), (42, (3, 43, 0, 1, 1, [])), (43, (21, 46, 12, 59, 139, [])), (46, (3, 47, 1, 0, 1, [])), (47, (24, 48, 50, 0, 0, [])), (48, (3, 49, 2, 0, 1, [])), (49, (14, 52, 56, 4, 0, [])), (52, (0, 53, 0, 0, 1, [])), (53, (18, 0, 57, 0, 0, [])), (56, (0, 57, 0, 0, 0, [])), (57, (4, 59, 4, 0, 0, [(0, 0)])), (59, (3, 60, 3, 0, 1, [])), (60, (19, 96, 157, 0, 0, [(0, 96), (1, 103), (2, 110), (3, 117), (4, 141)])), (96, (3, 97, 0, 1, 1, [])), (97, (21, 100, 12, 56, 130, [])), (100, (3, 101, 1, 0, 1, [])), (101, (24, 102, 50, 0, 0, [])), (102, (39, 103, 0, 0, 0, [])), (103, (3, 104, 0, 1, 1, [])), (104, (21, 107, 12, 57, 133, [])), (107, (3, 108, 1, 0, 1, [])), (108, (24, 109, 50, 0, 0, [])), (109, (39, 110, 0, 0, 0, [])), (110, (3, 111, 0, 1, 1, [])), (111, (21, 114, 12, 58, 136, [])), (114, (3, 115, 1, 0, 1, [])), (115, (24, 116, 50, 0, 0, [])), (116, (39, 117, 0, 0, 0, [])), (117, (3, 119, 4, 0, 0, [])), (119, (13, 122, 126, 1, 0, [])), (122, (0, 123, 0, 0, (-1), [])), (123, (18, 0, 140, 0, 0, [])), (126, (3, 127, 0, 1, 1, [])), (127, (21, 130, 12, 60, 142, [])), (130, (3, 131, 1, 0, 1, [])), (131, (24, 132, 52, 0, 0, [])), (132, (13, 135, 139, 0, 0, [])), (135, (0, 136, 0, 0, 1, [])), (136, (18, 0, 140, 0, 0, [])), (139, (0, 140, 0, 0, 0, [])), (140, (39, 141, 0, 0, 0, [])), (141, (3, 143, 4, 0, 0, [])), (143, (13, 146, 155, 0, 0, [])), (146, (3, 147, 0, 1, 1, [])), (147, (21, 150, 12, 61, 145, [])), (150, (3, 151, 1, 0, 1, [])), (151, (24, 152, 50, 0, 0, [])), (152, (18, 0, 156, 0, 0, [])), (155, (0, 156, 0, 0, (-1), [])), (156, (39, 157, 0, 0, 0, [])), (157, (0, 158, 0, 0, (-1), [])), (158, (39, 159, 0, 0, 0, []))]
/-- HearingDeskModel.refusals(II)I -/
def k176 : List (Nat × Ins) := [(0, (3, 1, 1, 0, 1, [])), (1, (0, 2, 0, 0, (-1), [])), (2, (14, 5, 13, 0, 0, [])), (5, (3, 6, 0, 1, 1, [])), (6, (3, 7, 1, 0, 1, [])), (7, (36, 10, 136, 2, 1, [(176, 0)])), (10, (13, 13, 20, 0, 0, [])), (13, (3, 14, 2, 0, 1, [])), (14, (36, 17, 127, 1, 0, [(162, 0)])), (17, (13, 20, 22, 1, 0, [])), (20, (0, 21, 0, 0, (-1), [])), (21, (39, 22, 0, 0, 0, [])), (22, (0, 23, 0, 0, 0, [])), (23, (4, 24, 3, 0, 0, [(1, 0)])), (24, (0, 25, 0, 0, 0, [])), (25, (4, 27, 4, 0, 0, [(0, 0)])), (27, (3, 29, 4, 0, 0, [])), (29, (3, 30, 0, 1, 1, [])), (30, (21, 33, 12, 55, 303, [])), (33, (14, 36, 97, 3, 0, [])), (36, (3, 37, 3, 0, 1, [])), (37, (3, 38, 1, 0, 1, [])), (38, (0, 39, 0, 0, (-1), [])), (39, (14, 42, 53, 0, 0, [])), (42, (3, 43, 0, 1, 1, [])), (43, (21, 46, 12, 56, 130, [])), (46, (3, 48, 4, 0, 0, [])), (48, (24, 49, 50, 0, 0, [])), (49, (3, 50, 1, 0, 1, [])), (50, (14, 53, 88, 1, 0, [])), (53, (3, 54, 0, 1, 1, [])), (54, (21, 57, 12, 59, 139, [])), (57, (3, 59, 4, 0, 0, [])), (59, (24, 60, 50, 0, 0, [])), (60, (13, 63, 88, 2, 0, [])), (63, (3, 64, 0, 1, 1, [])), (64, (21, 67, 12, 59, 139, [])), (67, (3, 69, 4, 0, 0, [])), (69, (24, 70, 50, 0, 0, [])), (70, (3, 71, 2, 0, 1, [])), (71, (14, 74, 88, 4, 0, [])), (74, (3, 75, 0, 1, 1, [])), (75, (21, 78, 12, 60, 142, [])), (78, (3, 80, 4, 0, 0, [])), (80, (24, 81, 52, 0, 0, [])), (81, (13, 84, 88, 1, 0, [])), (84, (0, 85, 0, 0, 1, [])), (85, (18, 0, 89, 0, 0, [])), (88, (0, 89, 0, 0, 0, [])), (89, (6, 90, 0, 0, 0, [])), (90, (4, 91, 3, 0, 0, [(1, 0)])), (91, (5, 94, 4, 0, 1, [])), (94, (18, 0, 27, 0, 0, [])), (97, (3, 98, 3, 0, 1, [])), (98, (39, 99, 0, 0, 0, []))]
/-- HearingDeskModel.count(I)I -/
def k177 : List (Nat × Ins) := [(0, (0, 1, 0, 0, 0, [])), (1, (4, 2, 2, 0, 0, [(1, 0)])), (2, (3, 3, 1, 0, 1, [])), (3, (19, 48, 118, 0, 0, [(0, 48), (1, 53), (2, 58), (3, 63), (4, 98), (5, 103), (6, 108), (7, 113)])), (48, (3, 49, 0, 1, 1, [])), (49, (21, 52, 12, 2, 152, [])), (52, (39, 53, 0, 0, 0, [])), (53, (3, 54, 0, 1, 1, [])), (54, (21, 57, 12, 4, 155, [])), (57, (39, 58, 0, 0, 0, [])), (58, (3, 59, 0, 1, 1, [])), (59, (21, 62, 12, 12, 169, [])), (62, (39, 63, 0, 0, 0, [])), (63, (0, 64, 0, 0, 0, [])), (64, (4, 65, 3, 0, 0, [(1, 0)])), (65, (3, 66, 3, 0, 1, [])), (66, (3, 67, 0, 1, 1, [])), (67, (21, 70, 12, 12, 169, [])), (70, (14, 73, 96, 3, 0, [])), (73, (3, 74, 2, 0, 1, [])), (74, (3, 75, 0, 1, 1, [])), (75, (21, 78, 12, 20, 63, [])), (78, (3, 79, 3, 0, 1, [])), (79, (24, 80, 50, 0, 0, [])), (80, (13, 83, 87, 2, 0, [])), (83, (0, 84, 0, 0, 1, [])), (84, (18, 0, 88, 0, 0, [])), (87, (0, 88, 0, 0, 0, [])), (88, (6, 89, 0, 0, 0, [])), (89, (4, 90, 2, 0, 0, [(1, 0)])), (90, (5, 93, 3, 0, 1, [])), (93, (18, 0, 65, 0, 0, [])), (96, (3, 97, 2, 0, 1, [])), (97, (39, 98, 0, 0, 0, [])), (98, (3, 99, 0, 1, 1, [])), (99, (21, 102, 12, 55, 303, [])), (102, (39, 103, 0, 0, 0, [])), (103, (3, 104, 0, 1, 1, [])), (104, (21, 107, 12, 40, 252, [])), (107, (39, 108, 0, 0, 0, [])), (108, (3, 109, 0, 1, 1, [])), (109, (21, 112, 12, 43, 285, [])), (112, (39, 113, 0, 0, 0, [])), (113, (3, 114, 0, 1, 1, [])), (114, (21, 117, 12, 11, 38, [])), (117, (39, 118, 0, 0, 0, [])), (118, (0, 119, 0, 0, (-1), [])), (119, (39, 120, 0, 0, 0, []))]
/-- java/util/Arrays.fill([II)V -/
def k178 : List (Nat × Ins) := [(0, (0, 1, 0, 0, 0, [])), (1, (4, 2, 2, 0, 0, [(1, 0)])), (2, (3, 3, 0, 1, 1, [])), (3, (32, 4, 0, 0, 0, [])), (4, (4, 5, 3, 0, 0, [(1, 0)])), (5, (3, 6, 2, 0, 1, [])), (6, (3, 7, 3, 0, 1, [])), (7, (14, 10, 20, 3, 0, [])), (10, (3, 11, 0, 1, 1, [])), (11, (3, 12, 2, 0, 1, [])), (12, (3, 13, 1, 0, 1, [])), (13, (28, 14, 0, 0, 0, [])), (14, (5, 17, 2, 0, 1, [])), (17, (18, 0, 5, 0, 0, [])), (20, (38, 21, 0, 0, 0, []))]
/-- HearingDeskLaw.law([I)Z -/
def k179_0 : List (Nat × Ins) := [(0, (33, 3, 11, 0, 7, [])), (3, (11, 4, 0, 0, 0, [])), (4, (36, 7, 85, 1, 2, [(9, 0)])), (7, (4, 8, 1, 1, 0, [(1, 0)])), (8, (33, 11, 12, 0, 10, [])), (11, (11, 12, 0, 0, 0, [])), (12, (36, 15, 121, 1, 2, [(12, 0)])), (15, (4, 16, 2, 1, 0, [(1, 0)])), (16, (0, 17, 0, 0, 0, [])), (17, (4, 18, 3, 0, 0, [(1, 0)])), (18, (3, 19, 3, 0, 1, [])), (19, (3, 20, 0, 1, 1, [])), (20, (48, 21, 0, 0, 0, [])), (21, (0, 23, 0, 1, 8, [])), (23, (6, 24, 0, 1, 0, [])), (24, (14, 27, 1263, 4, 0, [])), (27, (3, 28, 0, 1, 1, [])), (28, (3, 29, 3, 0, 1, [])), (29, (47, 30, 0, 0, 0, [])), (30, (0, 32, 0, 1, 31, [])), (32, (6, 33, 0, 3, 0, [])), (33, (19, 160, 1257, 0, 0, [(0, 160), (1, 203), (2, 236), (3, 259), (4, 322), (5, 355), (6, 398), (7, 457), (8, 480), (9, 567), (10, 610), (11, 643), (12, 666), (13, 709), (14, 758), (15, 781), (16, 814), (17, 847), (18, 880), (19, 943), (20, 966), (21, 979), (22, 1012), (23, 1046), (24, 1089), (25, 1158), (26, 1201), (27, 1234)])), (160, (3, 161, 1, 1, 1, [])), (161, (3, 162, 0, 1, 1, [])), (162, (3, 163, 3, 0, 1, [])), (163, (0, 164, 0, 0, 1, [])), (164, (6, 165, 0, 0, 0, [])), (165, (47, 166, 0, 0, 0, [])), (166, (3, 167, 0, 1, 1, [])), (167, (3, 168, 3, 0, 1, [])), (168, (0, 169, 0, 0, 2, [])), (169, (6, 170, 0, 0, 0, [])), (170, (47, 171, 0, 0, 0, [])), (171, (3, 172, 0, 1, 1, [])), (172, (3, 173, 3, 0, 1, [])), (173, (0, 174, 0, 0, 3, [])), (174, (6, 175, 0, 0, 0, [])), (175, (47, 176, 0, 0, 0, [])), (176, (36, 179, 86, 4, 1, [(13, 0)])), (179, (3, 180, 2, 1, 1, [])), (180, (3, 181, 0, 1, 1, [])), (181, (3, 182, 3, 0, 1, [])), (182, (0, 183, 0, 0, 1, [])), (183, (6, 184, 0, 0, 0, [])), (184, (47, 185, 0, 0, 0, [])), (185, (3, 186, 0, 1, 1, [])), (186, (3, 187, 3, 0, 1, [])), (187, (0, 188, 0, 0, 2, [])), (188, (6, 189, 0, 0, 0, [])), (189, (47, 190, 0, 0, 0, [])), (190, (3, 191, 0, 1, 1, [])), (191, (3, 192, 3, 0, 1, [])), (192, (0, 193, 0, 0, 3, [])), (193, (6, 194, 0, 0, 0, [])), (194, (47, 195, 0, 0, 0, [])), (195, (36, 198, 123, 4, 1, [(17, 0)])), (198, (14, 201, 1257, 0, 0, [])), (201, (0, 202, 0, 0, 0, [])), (202, (40, 203, 0, 0, 0, [])), (203, (3, 204, 1, 1, 1, []))]
def k179_1 : List (Nat × Ins) := [(204, (3, 205, 0, 1, 1, [])), (205, (3, 206, 3, 0, 1, [])), (206, (0, 207, 0, 0, 1, [])), (207, (6, 208, 0, 0, 0, [])), (208, (47, 209, 0, 0, 0, [])), (209, (3, 210, 0, 1, 1, [])), (210, (3, 211, 3, 0, 1, [])), (211, (0, 212, 0, 0, 2, [])), (212, (6, 213, 0, 0, 0, [])), (213, (47, 214, 0, 0, 0, [])), (214, (36, 217, 87, 3, 1, [(18, 0)])), (217, (3, 218, 2, 1, 1, [])), (218, (3, 219, 0, 1, 1, [])), (219, (3, 220, 3, 0, 1, [])), (220, (0, 221, 0, 0, 1, [])), (221, (6, 222, 0, 0, 0, [])), (222, (47, 223, 0, 0, 0, [])), (223, (3, 224, 0, 1, 1, [])), (224, (3, 225, 3, 0, 1, [])), (225, (0, 226, 0, 0, 2, [])), (226, (6, 227, 0, 0, 0, [])), (227, (47, 228, 0, 0, 0, [])), (228, (36, 231, 124, 3, 1, [(22, 0)])), (231, (14, 234, 1257, 0, 0, [])), (234, (0, 235, 0, 0, 0, [])), (235, (40, 236, 0, 0, 0, [])), (236, (3, 237, 1, 1, 1, [])), (237, (3, 238, 0, 1, 1, [])), (238, (3, 239, 3, 0, 1, [])), (239, (0, 240, 0, 0, 1, [])), (240, (6, 241, 0, 0, 0, [])), (241, (47, 242, 0, 0, 0, [])), (242, (36, 245, 88, 2, 1, [(23, 0)])), (245, (3, 246, 2, 1, 1, [])), (246, (3, 247, 0, 1, 1, [])), (247, (3, 248, 3, 0, 1, [])), (248, (0, 249, 0, 0, 1, [])), (249, (6, 250, 0, 0, 0, [])), (250, (47, 251, 0, 0, 0, [])), (251, (36, 254, 125, 2, 1, [(27, 0)])), (254, (14, 257, 1257, 0, 0, [])), (257, (0, 258, 0, 0, 0, [])), (258, (40, 259, 0, 0, 0, [])), (259, (3, 260, 1, 1, 1, [])), (260, (3, 261, 0, 1, 1, [])), (261, (3, 262, 3, 0, 1, [])), (262, (0, 263, 0, 0, 1, [])), (263, (6, 264, 0, 0, 0, [])), (264, (47, 265, 0, 0, 0, [])), (265, (3, 266, 0, 1, 1, [])), (266, (3, 267, 3, 0, 1, [])), (267, (0, 268, 0, 0, 2, [])), (268, (6, 269, 0, 0, 0, [])), (269, (47, 270, 0, 0, 0, [])), (270, (3, 271, 0, 1, 1, [])), (271, (3, 272, 3, 0, 1, [])), (272, (0, 273, 0, 0, 3, [])), (273, (6, 274, 0, 0, 0, [])), (274, (47, 275, 0, 0, 0, [])), (275, (3, 276, 0, 1, 1, []))]
def k179_2 : List (Nat × Ins) := [(276, (3, 277, 3, 0, 1, [])), (277, (0, 278, 0, 0, 4, [])), (278, (6, 279, 0, 0, 0, [])), (279, (47, 280, 0, 0, 0, [])), (280, (3, 281, 0, 1, 1, [])), (281, (3, 282, 3, 0, 1, [])), (282, (0, 283, 0, 0, 5, [])), (283, (6, 284, 0, 0, 0, [])), (284, (47, 285, 0, 0, 0, [])), (285, (36, 288, 89, 6, 1, [(28, 0)])), (288, (3, 289, 2, 1, 1, [])), (289, (3, 290, 0, 1, 1, [])), (290, (3, 291, 3, 0, 1, [])), (291, (0, 292, 0, 0, 1, [])), (292, (6, 293, 0, 0, 0, [])), (293, (47, 294, 0, 0, 0, [])), (294, (3, 295, 0, 1, 1, [])), (295, (3, 296, 3, 0, 1, [])), (296, (0, 297, 0, 0, 2, [])), (297, (6, 298, 0, 0, 0, [])), (298, (47, 299, 0, 0, 0, [])), (299, (3, 300, 0, 1, 1, [])), (300, (3, 301, 3, 0, 1, [])), (301, (0, 302, 0, 0, 3, [])), (302, (6, 303, 0, 0, 0, [])), (303, (47, 304, 0, 0, 0, [])), (304, (3, 305, 0, 1, 1, [])), (305, (3, 306, 3, 0, 1, [])), (306, (0, 307, 0, 0, 4, [])), (307, (6, 308, 0, 0, 0, [])), (308, (47, 309, 0, 0, 0, [])), (309, (3, 310, 0, 1, 1, [])), (310, (3, 311, 3, 0, 1, [])), (311, (0, 312, 0, 0, 5, [])), (312, (6, 313, 0, 0, 0, [])), (313, (47, 314, 0, 0, 0, [])), (314, (36, 317, 128, 6, 1, [(32, 0)])), (317, (14, 320, 1257, 0, 0, [])), (320, (0, 321, 0, 0, 0, [])), (321, (40, 322, 0, 0, 0, [])), (322, (3, 323, 1, 1, 1, [])), (323, (3, 324, 0, 1, 1, [])), (324, (3, 325, 3, 0, 1, [])), (325, (0, 326, 0, 0, 1, [])), (326, (6, 327, 0, 0, 0, [])), (327, (47, 328, 0, 0, 0, [])), (328, (3, 329, 0, 1, 1, [])), (329, (3, 330, 3, 0, 1, [])), (330, (0, 331, 0, 0, 2, [])), (331, (6, 332, 0, 0, 0, [])), (332, (47, 333, 0, 0, 0, [])), (333, (36, 336, 90, 3, 1, [(33, 0)])), (336, (3, 337, 2, 1, 1, [])), (337, (3, 338, 0, 1, 1, [])), (338, (3, 339, 3, 0, 1, [])), (339, (0, 340, 0, 0, 1, [])), (340, (6, 341, 0, 0, 0, [])), (341, (47, 342, 0, 0, 0, [])), (342, (3, 343, 0, 1, 1, [])), (343, (3, 344, 3, 0, 1, []))]
def k179_3 : List (Nat × Ins) := [(344, (0, 345, 0, 0, 2, [])), (345, (6, 346, 0, 0, 0, [])), (346, (47, 347, 0, 0, 0, [])), (347, (36, 350, 129, 3, 1, [(36, 0)])), (350, (14, 353, 1257, 0, 0, [])), (353, (0, 354, 0, 0, 0, [])), (354, (40, 355, 0, 0, 0, [])), (355, (3, 356, 1, 1, 1, [])), (356, (3, 357, 0, 1, 1, [])), (357, (3, 358, 3, 0, 1, [])), (358, (0, 359, 0, 0, 1, [])), (359, (6, 360, 0, 0, 0, [])), (360, (47, 361, 0, 0, 0, [])), (361, (3, 362, 0, 1, 1, [])), (362, (3, 363, 3, 0, 1, [])), (363, (0, 364, 0, 0, 2, [])), (364, (6, 365, 0, 0, 0, [])), (365, (47, 366, 0, 0, 0, [])), (366, (3, 367, 0, 1, 1, [])), (367, (3, 368, 3, 0, 1, [])), (368, (0, 369, 0, 0, 3, [])), (369, (6, 370, 0, 0, 0, [])), (370, (47, 371, 0, 0, 0, [])), (371, (36, 374, 91, 4, 1, [(37, 0)])), (374, (3, 375, 2, 1, 1, [])), (375, (3, 376, 0, 1, 1, [])), (376, (3, 377, 3, 0, 1, [])), (377, (0, 378, 0, 0, 1, [])), (378, (6, 379, 0, 0, 0, [])), (379, (47, 380, 0, 0, 0, [])), (380, (3, 381, 0, 1, 1, [])), (381, (3, 382, 3, 0, 1, [])), (382, (0, 383, 0, 0, 2, [])), (383, (6, 384, 0, 0, 0, [])), (384, (47, 385, 0, 0, 0, [])), (385, (3, 386, 0, 1, 1, [])), (386, (3, 387, 3, 0, 1, [])), (387, (0, 388, 0, 0, 3, [])), (388, (6, 389, 0, 0, 0, [])), (389, (47, 390, 0, 0, 0, [])), (390, (36, 393, 131, 4, 1, [(40, 0)])), (393, (14, 396, 1257, 0, 0, [])), (396, (0, 397, 0, 0, 0, [])), (397, (40, 398, 0, 0, 0, [])), (398, (3, 399, 1, 1, 1, [])), (399, (3, 400, 0, 1, 1, [])), (400, (3, 401, 3, 0, 1, [])), (401, (0, 402, 0, 0, 1, [])), (402, (6, 403, 0, 0, 0, [])), (403, (47, 404, 0, 0, 0, [])), (404, (3, 405, 0, 1, 1, [])), (405, (3, 406, 3, 0, 1, [])), (406, (0, 407, 0, 0, 2, [])), (407, (6, 408, 0, 0, 0, [])), (408, (47, 409, 0, 0, 0, [])), (409, (3, 410, 0, 1, 1, [])), (410, (3, 411, 3, 0, 1, [])), (411, (0, 412, 0, 0, 3, [])), (412, (6, 413, 0, 0, 0, [])), (413, (47, 414, 0, 0, 0, []))]
def k179_4 : List (Nat × Ins) := [(414, (13, 417, 421, 0, 0, [])), (417, (0, 418, 0, 0, 1, [])), (418, (18, 0, 422, 0, 0, [])), (421, (0, 422, 0, 0, 0, [])), (422, (36, 425, 92, 4, 1, [(41, 0)])), (425, (3, 426, 2, 1, 1, [])), (426, (3, 427, 0, 1, 1, [])), (427, (3, 428, 3, 0, 1, [])), (428, (0, 429, 0, 0, 1, [])), (429, (6, 430, 0, 0, 0, [])), (430, (47, 431, 0, 0, 0, [])), (431, (3, 432, 0, 1, 1, [])), (432, (3, 433, 3, 0, 1, [])), (433, (0, 434, 0, 0, 2, [])), (434, (6, 435, 0, 0, 0, [])), (435, (47, 436, 0, 0, 0, [])), (436, (3, 437, 0, 1, 1, [])), (437, (3, 438, 3, 0, 1, [])), (438, (0, 439, 0, 0, 3, [])), (439, (6, 440, 0, 0, 0, [])), (440, (47, 441, 0, 0, 0, [])), (441, (13, 444, 448, 0, 0, [])), (444, (0, 445, 0, 0, 1, [])), (445, (18, 0, 449, 0, 0, [])), (448, (0, 449, 0, 0, 0, [])), (449, (36, 452, 132, 4, 1, [(45, 0)])), (452, (14, 455, 1257, 0, 0, [])), (455, (0, 456, 0, 0, 0, [])), (456, (40, 457, 0, 0, 0, [])), (457, (3, 458, 1, 1, 1, [])), (458, (3, 459, 0, 1, 1, [])), (459, (3, 460, 3, 0, 1, [])), (460, (0, 461, 0, 0, 1, [])), (461, (6, 462, 0, 0, 0, [])), (462, (47, 463, 0, 0, 0, [])), (463, (36, 466, 93, 2, 1, [(46, 0)])), (466, (3, 467, 2, 1, 1, [])), (467, (3, 468, 0, 1, 1, [])), (468, (3, 469, 3, 0, 1, [])), (469, (0, 470, 0, 0, 1, [])), (470, (6, 471, 0, 0, 0, [])), (471, (47, 472, 0, 0, 0, [])), (472, (36, 475, 133, 2, 1, [(49, 0)])), (475, (14, 478, 1257, 0, 0, [])), (478, (0, 479, 0, 0, 0, [])), (479, (40, 480, 0, 0, 0, [])), (480, (3, 481, 1, 1, 1, [])), (481, (3, 482, 0, 1, 1, [])), (482, (3, 483, 3, 0, 1, [])), (483, (0, 484, 0, 0, 1, [])), (484, (6, 485, 0, 0, 0, [])), (485, (47, 486, 0, 0, 0, [])), (486, (3, 487, 0, 1, 1, [])), (487, (3, 488, 3, 0, 1, [])), (488, (0, 489, 0, 0, 2, [])), (489, (6, 490, 0, 0, 0, [])), (490, (47, 491, 0, 0, 0, [])), (491, (3, 492, 0, 1, 1, [])), (492, (3, 493, 3, 0, 1, [])), (493, (0, 494, 0, 0, 3, []))]
def k179_5 : List (Nat × Ins) := [(494, (6, 495, 0, 0, 0, [])), (495, (47, 496, 0, 0, 0, [])), (496, (3, 497, 0, 1, 1, [])), (497, (3, 498, 3, 0, 1, [])), (498, (0, 499, 0, 0, 4, [])), (499, (6, 500, 0, 0, 0, [])), (500, (47, 501, 0, 0, 0, [])), (501, (3, 502, 0, 1, 1, [])), (502, (3, 503, 3, 0, 1, [])), (503, (0, 504, 0, 0, 5, [])), (504, (6, 505, 0, 0, 0, [])), (505, (47, 506, 0, 0, 0, [])), (506, (3, 507, 0, 1, 1, [])), (507, (3, 508, 3, 0, 1, [])), (508, (0, 510, 0, 1, 6, [])), (510, (6, 511, 0, 0, 0, [])), (511, (47, 512, 0, 0, 0, [])), (512, (3, 513, 0, 1, 1, [])), (513, (3, 514, 3, 0, 1, [])), (514, (0, 516, 0, 1, 7, [])), (516, (6, 517, 0, 0, 0, [])), (517, (47, 518, 0, 0, 0, [])), (518, (36, 521, 94, 8, 1, [(50, 0)])), (521, (3, 522, 2, 1, 1, [])), (522, (3, 523, 0, 1, 1, [])), (523, (3, 524, 3, 0, 1, [])), (524, (0, 525, 0, 0, 1, [])), (525, (6, 526, 0, 0, 0, [])), (526, (47, 527, 0, 0, 0, [])), (527, (3, 528, 0, 1, 1, [])), (528, (3, 529, 3, 0, 1, [])), (529, (0, 530, 0, 0, 2, [])), (530, (6, 531, 0, 0, 0, [])), (531, (47, 532, 0, 0, 0, [])), (532, (3, 533, 0, 1, 1, [])), (533, (3, 534, 3, 0, 1, [])), (534, (0, 535, 0, 0, 3, [])), (535, (6, 536, 0, 0, 0, [])), (536, (47, 537, 0, 0, 0, [])), (537, (3, 538, 0, 1, 1, [])), (538, (3, 539, 3, 0, 1, [])), (539, (0, 540, 0, 0, 4, [])), (540, (6, 541, 0, 0, 0, [])), (541, (47, 542, 0, 0, 0, [])), (542, (3, 543, 0, 1, 1, [])), (543, (3, 544, 3, 0, 1, [])), (544, (0, 545, 0, 0, 5, [])), (545, (6, 546, 0, 0, 0, [])), (546, (47, 547, 0, 0, 0, [])), (547, (3, 548, 0, 1, 1, [])), (548, (3, 549, 3, 0, 1, [])), (549, (0, 551, 0, 1, 6, [])), (551, (6, 552, 0, 0, 0, [])), (552, (47, 553, 0, 0, 0, [])), (553, (3, 554, 0, 1, 1, [])), (554, (3, 555, 3, 0, 1, [])), (555, (0, 557, 0, 1, 7, [])), (557, (6, 558, 0, 0, 0, [])), (558, (47, 559, 0, 0, 0, [])), (559, (36, 562, 135, 8, 1, [(54, 0)]))]
def k179_6 : List (Nat × Ins) := [(562, (14, 565, 1257, 0, 0, [])), (565, (0, 566, 0, 0, 0, [])), (566, (40, 567, 0, 0, 0, [])), (567, (3, 568, 1, 1, 1, [])), (568, (3, 569, 0, 1, 1, [])), (569, (3, 570, 3, 0, 1, [])), (570, (0, 571, 0, 0, 1, [])), (571, (6, 572, 0, 0, 0, [])), (572, (47, 573, 0, 0, 0, [])), (573, (3, 574, 0, 1, 1, [])), (574, (3, 575, 3, 0, 1, [])), (575, (0, 576, 0, 0, 2, [])), (576, (6, 577, 0, 0, 0, [])), (577, (47, 578, 0, 0, 0, [])), (578, (3, 579, 0, 1, 1, [])), (579, (3, 580, 3, 0, 1, [])), (580, (0, 581, 0, 0, 3, [])), (581, (6, 582, 0, 0, 0, [])), (582, (47, 583, 0, 0, 0, [])), (583, (36, 586, 95, 4, 1, [(55, 0)])), (586, (3, 587, 2, 1, 1, [])), (587, (3, 588, 0, 1, 1, [])), (588, (3, 589, 3, 0, 1, [])), (589, (0, 590, 0, 0, 1, [])), (590, (6, 591, 0, 0, 0, [])), (591, (47, 592, 0, 0, 0, [])), (592, (3, 593, 0, 1, 1, [])), (593, (3, 594, 3, 0, 1, [])), (594, (0, 595, 0, 0, 2, [])), (595, (6, 596, 0, 0, 0, [])), (596, (47, 597, 0, 0, 0, [])), (597, (3, 598, 0, 1, 1, [])), (598, (3, 599, 3, 0, 1, [])), (599, (0, 600, 0, 0, 3, [])), (600, (6, 601, 0, 0, 0, [])), (601, (47, 602, 0, 0, 0, [])), (602, (36, 605, 137, 4, 1, [(59, 0)])), (605, (14, 608, 1257, 0, 0, [])), (608, (0, 609, 0, 0, 0, [])), (609, (40, 610, 0, 0, 0, [])), (610, (3, 611, 1, 1, 1, [])), (611, (3, 612, 0, 1, 1, [])), (612, (3, 613, 3, 0, 1, [])), (613, (0, 614, 0, 0, 1, [])), (614, (6, 615, 0, 0, 0, [])), (615, (47, 616, 0, 0, 0, [])), (616, (3, 617, 0, 1, 1, [])), (617, (3, 618, 3, 0, 1, [])), (618, (0, 619, 0, 0, 2, [])), (619, (6, 620, 0, 0, 0, [])), (620, (47, 621, 0, 0, 0, [])), (621, (36, 624, 96, 3, 1, [(60, 0)])), (624, (3, 625, 2, 1, 1, [])), (625, (3, 626, 0, 1, 1, [])), (626, (3, 627, 3, 0, 1, [])), (627, (0, 628, 0, 0, 1, [])), (628, (6, 629, 0, 0, 0, [])), (629, (47, 630, 0, 0, 0, [])), (630, (3, 631, 0, 1, 1, [])), (631, (3, 632, 3, 0, 1, []))]
def k179_7 : List (Nat × Ins) := [(632, (0, 633, 0, 0, 2, [])), (633, (6, 634, 0, 0, 0, [])), (634, (47, 635, 0, 0, 0, [])), (635, (36, 638, 138, 3, 1, [(63, 0)])), (638, (14, 641, 1257, 0, 0, [])), (641, (0, 642, 0, 0, 0, [])), (642, (40, 643, 0, 0, 0, [])), (643, (3, 644, 1, 1, 1, [])), (644, (3, 645, 0, 1, 1, [])), (645, (3, 646, 3, 0, 1, [])), (646, (0, 647, 0, 0, 1, [])), (647, (6, 648, 0, 0, 0, [])), (648, (47, 649, 0, 0, 0, [])), (649, (36, 652, 97, 2, 1, [(64, 0)])), (652, (3, 653, 2, 1, 1, [])), (653, (3, 654, 0, 1, 1, [])), (654, (3, 655, 3, 0, 1, [])), (655, (0, 656, 0, 0, 1, [])), (656, (6, 657, 0, 0, 0, [])), (657, (47, 658, 0, 0, 0, [])), (658, (36, 661, 144, 2, 1, [(67, 0)])), (661, (14, 664, 1257, 0, 0, [])), (664, (0, 665, 0, 0, 0, [])), (665, (40, 666, 0, 0, 0, [])), (666, (3, 667, 1, 1, 1, [])), (667, (3, 668, 0, 1, 1, [])), (668, (3, 669, 3, 0, 1, [])), (669, (0, 670, 0, 0, 1, [])), (670, (6, 671, 0, 0, 0, [])), (671, (47, 672, 0, 0, 0, [])), (672, (3, 673, 0, 1, 1, [])), (673, (3, 674, 3, 0, 1, [])), (674, (0, 675, 0, 0, 2, [])), (675, (6, 676, 0, 0, 0, [])), (676, (47, 677, 0, 0, 0, [])), (677, (3, 678, 0, 1, 1, [])), (678, (3, 679, 3, 0, 1, [])), (679, (0, 680, 0, 0, 3, [])), (680, (6, 681, 0, 0, 0, [])), (681, (47, 682, 0, 0, 0, [])), (682, (36, 685, 98, 4, 1, [(68, 0)])), (685, (3, 686, 2, 1, 1, [])), (686, (3, 687, 0, 1, 1, [])), (687, (3, 688, 3, 0, 1, [])), (688, (0, 689, 0, 0, 1, [])), (689, (6, 690, 0, 0, 0, [])), (690, (47, 691, 0, 0, 0, [])), (691, (3, 692, 0, 1, 1, [])), (692, (3, 693, 3, 0, 1, [])), (693, (0, 694, 0, 0, 2, [])), (694, (6, 695, 0, 0, 0, [])), (695, (47, 696, 0, 0, 0, [])), (696, (3, 697, 0, 1, 1, [])), (697, (3, 698, 3, 0, 1, [])), (698, (0, 699, 0, 0, 3, [])), (699, (6, 700, 0, 0, 0, [])), (700, (47, 701, 0, 0, 0, [])), (701, (36, 704, 145, 4, 1, [(71, 0)])), (704, (14, 707, 1257, 0, 0, [])), (707, (0, 708, 0, 0, 0, []))]
def k179_8 : List (Nat × Ins) := [(708, (40, 709, 0, 0, 0, [])), (709, (3, 710, 1, 1, 1, [])), (710, (3, 711, 0, 1, 1, [])), (711, (3, 712, 3, 0, 1, [])), (712, (0, 713, 0, 0, 1, [])), (713, (6, 714, 0, 0, 0, [])), (714, (47, 715, 0, 0, 0, [])), (715, (3, 716, 0, 1, 1, [])), (716, (3, 717, 3, 0, 1, [])), (717, (0, 718, 0, 0, 2, [])), (718, (6, 719, 0, 0, 0, [])), (719, (47, 720, 0, 0, 0, [])), (720, (13, 723, 727, 0, 0, [])), (723, (0, 724, 0, 0, 1, [])), (724, (18, 0, 728, 0, 0, [])), (727, (0, 728, 0, 0, 0, [])), (728, (36, 731, 99, 3, 1, [(72, 0)])), (731, (3, 732, 2, 1, 1, [])), (732, (3, 733, 0, 1, 1, [])), (733, (3, 734, 3, 0, 1, [])), (734, (0, 735, 0, 0, 1, [])), (735, (6, 736, 0, 0, 0, [])), (736, (47, 737, 0, 0, 0, [])), (737, (3, 738, 0, 1, 1, [])), (738, (3, 739, 3, 0, 1, [])), (739, (0, 740, 0, 0, 2, [])), (740, (6, 741, 0, 0, 0, [])), (741, (47, 742, 0, 0, 0, [])), (742, (13, 745, 749, 0, 0, [])), (745, (0, 746, 0, 0, 1, [])), (746, (18, 0, 750, 0, 0, [])), (749, (0, 750, 0, 0, 0, [])), (750, (36, 753, 154, 3, 1, [(76, 0)])), (753, (14, 756, 1257, 0, 0, [])), (756, (0, 757, 0, 0, 0, [])), (757, (40, 758, 0, 0, 0, [])), (758, (3, 759, 1, 1, 1, [])), (759, (3, 760, 0, 1, 1, [])), (760, (3, 761, 3, 0, 1, [])), (761, (0, 762, 0, 0, 1, [])), (762, (6, 763, 0, 0, 0, [])), (763, (47, 764, 0, 0, 0, [])), (764, (36, 767, 100, 2, 1, [(77, 0)])), (767, (3, 768, 2, 1, 1, [])), (768, (3, 769, 0, 1, 1, [])), (769, (3, 770, 3, 0, 1, [])), (770, (0, 771, 0, 0, 1, [])), (771, (6, 772, 0, 0, 0, [])), (772, (47, 773, 0, 0, 0, [])), (773, (36, 776, 155, 2, 1, [(80, 0)])), (776, (14, 779, 1257, 0, 0, [])), (779, (0, 780, 0, 0, 0, [])), (780, (40, 781, 0, 0, 0, [])), (781, (3, 782, 1, 1, 1, [])), (782, (3, 783, 0, 1, 1, [])), (783, (3, 784, 3, 0, 1, [])), (784, (0, 785, 0, 0, 1, [])), (785, (6, 786, 0, 0, 0, [])), (786, (47, 787, 0, 0, 0, [])), (787, (3, 788, 0, 1, 1, []))]
def k179_9 : List (Nat × Ins) := [(788, (3, 789, 3, 0, 1, [])), (789, (0, 790, 0, 0, 2, [])), (790, (6, 791, 0, 0, 0, [])), (791, (47, 792, 0, 0, 0, [])), (792, (36, 795, 101, 3, 1, [(81, 0)])), (795, (3, 796, 2, 1, 1, [])), (796, (3, 797, 0, 1, 1, [])), (797, (3, 798, 3, 0, 1, [])), (798, (0, 799, 0, 0, 1, [])), (799, (6, 800, 0, 0, 0, [])), (800, (47, 801, 0, 0, 0, [])), (801, (3, 802, 0, 1, 1, [])), (802, (3, 803, 3, 0, 1, [])), (803, (0, 804, 0, 0, 2, [])), (804, (6, 805, 0, 0, 0, [])), (805, (47, 806, 0, 0, 0, [])), (806, (36, 809, 156, 3, 1, [(85, 0)])), (809, (14, 812, 1257, 0, 0, [])), (812, (0, 813, 0, 0, 0, [])), (813, (40, 814, 0, 0, 0, [])), (814, (3, 815, 1, 1, 1, [])), (815, (3, 816, 0, 1, 1, [])), (816, (3, 817, 3, 0, 1, [])), (817, (0, 818, 0, 0, 1, [])), (818, (6, 819, 0, 0, 0, [])), (819, (47, 820, 0, 0, 0, [])), (820, (3, 821, 0, 1, 1, [])), (821, (3, 822, 3, 0, 1, [])), (822, (0, 823, 0, 0, 2, [])), (823, (6, 824, 0, 0, 0, [])), (824, (47, 825, 0, 0, 0, [])), (825, (36, 828, 102, 3, 1, [(86, 0)])), (828, (3, 829, 2, 1, 1, [])), (829, (3, 830, 0, 1, 1, [])), (830, (3, 831, 3, 0, 1, [])), (831, (0, 832, 0, 0, 1, [])), (832, (6, 833, 0, 0, 0, [])), (833, (47, 834, 0, 0, 0, [])), (834, (3, 835, 0, 1, 1, [])), (835, (3, 836, 3, 0, 1, [])), (836, (0, 837, 0, 0, 2, [])), (837, (6, 838, 0, 0, 0, [])), (838, (47, 839, 0, 0, 0, [])), (839, (36, 842, 157, 3, 1, [(89, 0)])), (842, (14, 845, 1257, 0, 0, [])), (845, (0, 846, 0, 0, 0, [])), (846, (40, 847, 0, 0, 0, [])), (847, (3, 848, 1, 1, 1, [])), (848, (3, 849, 0, 1, 1, [])), (849, (3, 850, 3, 0, 1, [])), (850, (0, 851, 0, 0, 1, [])), (851, (6, 852, 0, 0, 0, [])), (852, (47, 853, 0, 0, 0, [])), (853, (3, 854, 0, 1, 1, [])), (854, (3, 855, 3, 0, 1, [])), (855, (0, 856, 0, 0, 2, [])), (856, (6, 857, 0, 0, 0, [])), (857, (47, 858, 0, 0, 0, [])), (858, (36, 861, 103, 3, 1, [(90, 0)])), (861, (3, 862, 2, 1, 1, []))]
def k179_10 : List (Nat × Ins) := [(862, (3, 863, 0, 1, 1, [])), (863, (3, 864, 3, 0, 1, [])), (864, (0, 865, 0, 0, 1, [])), (865, (6, 866, 0, 0, 0, [])), (866, (47, 867, 0, 0, 0, [])), (867, (3, 868, 0, 1, 1, [])), (868, (3, 869, 3, 0, 1, [])), (869, (0, 870, 0, 0, 2, [])), (870, (6, 871, 0, 0, 0, [])), (871, (47, 872, 0, 0, 0, [])), (872, (36, 875, 159, 3, 1, [(93, 0)])), (875, (14, 878, 1257, 0, 0, [])), (878, (0, 879, 0, 0, 0, [])), (879, (40, 880, 0, 0, 0, [])), (880, (3, 881, 1, 1, 1, [])), (881, (3, 882, 0, 1, 1, [])), (882, (3, 883, 3, 0, 1, [])), (883, (0, 884, 0, 0, 1, [])), (884, (6, 885, 0, 0, 0, [])), (885, (47, 886, 0, 0, 0, [])), (886, (3, 887, 0, 1, 1, [])), (887, (3, 888, 3, 0, 1, [])), (888, (0, 889, 0, 0, 2, [])), (889, (6, 890, 0, 0, 0, [])), (890, (47, 891, 0, 0, 0, [])), (891, (3, 892, 0, 1, 1, [])), (892, (3, 893, 3, 0, 1, [])), (893, (0, 894, 0, 0, 3, [])), (894, (6, 895, 0, 0, 0, [])), (895, (47, 896, 0, 0, 0, [])), (896, (3, 897, 0, 1, 1, [])), (897, (3, 898, 3, 0, 1, [])), (898, (0, 899, 0, 0, 4, [])), (899, (6, 900, 0, 0, 0, [])), (900, (47, 901, 0, 0, 0, [])), (901, (3, 902, 0, 1, 1, [])), (902, (3, 903, 3, 0, 1, [])), (903, (0, 904, 0, 0, 5, [])), (904, (6, 905, 0, 0, 0, [])), (905, (47, 906, 0, 0, 0, [])), (906, (36, 909, 104, 6, 1, [(94, 0)])), (909, (3, 910, 2, 1, 1, [])), (910, (3, 911, 0, 1, 1, [])), (911, (3, 912, 3, 0, 1, [])), (912, (0, 913, 0, 0, 1, [])), (913, (6, 914, 0, 0, 0, [])), (914, (47, 915, 0, 0, 0, [])), (915, (3, 916, 0, 1, 1, [])), (916, (3, 917, 3, 0, 1, [])), (917, (0, 918, 0, 0, 2, [])), (918, (6, 919, 0, 0, 0, [])), (919, (47, 920, 0, 0, 0, [])), (920, (3, 921, 0, 1, 1, [])), (921, (3, 922, 3, 0, 1, [])), (922, (0, 923, 0, 0, 3, [])), (923, (6, 924, 0, 0, 0, [])), (924, (47, 925, 0, 0, 0, [])), (925, (3, 926, 0, 1, 1, [])), (926, (3, 927, 3, 0, 1, [])), (927, (0, 928, 0, 0, 4, []))]
def k179_11 : List (Nat × Ins) := [(928, (6, 929, 0, 0, 0, [])), (929, (47, 930, 0, 0, 0, [])), (930, (3, 931, 0, 1, 1, [])), (931, (3, 932, 3, 0, 1, [])), (932, (0, 933, 0, 0, 5, [])), (933, (6, 934, 0, 0, 0, [])), (934, (47, 935, 0, 0, 0, [])), (935, (36, 938, 161, 6, 1, [(97, 0)])), (938, (14, 941, 1257, 0, 0, [])), (941, (0, 942, 0, 0, 0, [])), (942, (40, 943, 0, 0, 0, [])), (943, (3, 944, 1, 1, 1, [])), (944, (3, 945, 0, 1, 1, [])), (945, (3, 946, 3, 0, 1, [])), (946, (0, 947, 0, 0, 1, [])), (947, (6, 948, 0, 0, 0, [])), (948, (47, 949, 0, 0, 0, [])), (949, (36, 952, 105, 2, 1, [(98, 0)])), (952, (3, 953, 2, 1, 1, [])), (953, (3, 954, 0, 1, 1, [])), (954, (3, 955, 3, 0, 1, [])), (955, (0, 956, 0, 0, 1, [])), (956, (6, 957, 0, 0, 0, [])), (957, (47, 958, 0, 0, 0, [])), (958, (36, 961, 162, 2, 1, [(101, 0)])), (961, (14, 964, 1257, 0, 0, [])), (964, (0, 965, 0, 0, 0, [])), (965, (40, 966, 0, 0, 0, [])), (966, (3, 967, 1, 1, 1, [])), (967, (36, 970, 106, 1, 1, [(102, 0)])), (970, (3, 971, 2, 1, 1, [])), (971, (36, 974, 168, 1, 1, [(106, 0)])), (974, (14, 977, 1257, 0, 0, [])), (977, (0, 978, 0, 0, 0, [])), (978, (40, 979, 0, 0, 0, [])), (979, (3, 980, 1, 1, 1, [])), (980, (3, 981, 0, 1, 1, [])), (981, (3, 982, 3, 0, 1, [])), (982, (0, 983, 0, 0, 1, [])), (983, (6, 984, 0, 0, 0, [])), (984, (47, 985, 0, 0, 0, [])), (985, (3, 986, 0, 1, 1, [])), (986, (3, 987, 3, 0, 1, [])), (987, (0, 988, 0, 0, 2, [])), (988, (6, 989, 0, 0, 0, [])), (989, (47, 990, 0, 0, 0, [])), (990, (36, 993, 107, 3, 1, [(107, 0)])), (993, (3, 994, 2, 1, 1, [])), (994, (3, 995, 0, 1, 1, [])), (995, (3, 996, 3, 0, 1, [])), (996, (0, 997, 0, 0, 1, [])), (997, (6, 998, 0, 0, 0, [])), (998, (47, 999, 0, 0, 0, [])), (999, (3, 1000, 0, 1, 1, [])), (1000, (3, 1001, 3, 0, 1, [])), (1001, (0, 1002, 0, 0, 2, [])), (1002, (6, 1003, 0, 0, 0, [])), (1003, (47, 1004, 0, 0, 0, [])), (1004, (36, 1007, 171, 3, 1, [(110, 0)])), (1007, (14, 1010, 1257, 0, 0, []))]
def k179_12 : List (Nat × Ins) := [(1010, (0, 1011, 0, 0, 0, [])), (1011, (40, 1012, 0, 0, 0, [])), (1012, (3, 1013, 1, 1, 1, [])), (1013, (3, 1014, 0, 1, 1, [])), (1014, (3, 1015, 3, 0, 1, [])), (1015, (0, 1016, 0, 0, 1, [])), (1016, (6, 1017, 0, 0, 0, [])), (1017, (47, 1018, 0, 0, 0, [])), (1018, (3, 1019, 0, 1, 1, [])), (1019, (3, 1020, 3, 0, 1, [])), (1020, (0, 1021, 0, 0, 2, [])), (1021, (6, 1022, 0, 0, 0, [])), (1022, (47, 1023, 0, 0, 0, [])), (1023, (36, 1026, 108, 3, 1, [(111, 0)])), (1026, (3, 1027, 2, 1, 1, [])), (1027, (3, 1028, 0, 1, 1, [])), (1028, (3, 1029, 3, 0, 1, [])), (1029, (0, 1030, 0, 0, 1, [])), (1030, (6, 1031, 0, 0, 0, [])), (1031, (47, 1032, 0, 0, 0, [])), (1032, (3, 1033, 0, 1, 1, [])), (1033, (3, 1034, 3, 0, 1, [])), (1034, (0, 1035, 0, 0, 2, [])), (1035, (6, 1036, 0, 0, 0, [])), (1036, (47, 1037, 0, 0, 0, [])), (1037, (36, 1040, 172, 3, 1, [(115, 0)])), (1040, (10, 1041, 0, 0, 0, [])), (1041, (13, 1044, 1257, 0, 0, [])), (1044, (0, 1045, 0, 0, 0, [])), (1045, (40, 1046, 0, 0, 0, [])), (1046, (3, 1047, 1, 1, 1, [])), (1047, (3, 1048, 0, 1, 1, [])), (1048, (3, 1049, 3, 0, 1, [])), (1049, (0, 1050, 0, 0, 1, [])), (1050, (6, 1051, 0, 0, 0, [])), (1051, (47, 1052, 0, 0, 0, [])), (1052, (3, 1053, 0, 1, 1, [])), (1053, (3, 1054, 3, 0, 1, [])), (1054, (0, 1055, 0, 0, 2, [])), (1055, (6, 1056, 0, 0, 0, [])), (1056, (47, 1057, 0, 0, 0, [])), (1057, (3, 1058, 0, 1, 1, [])), (1058, (3, 1059, 3, 0, 1, [])), (1059, (0, 1060, 0, 0, 3, [])), (1060, (6, 1061, 0, 0, 0, [])), (1061, (47, 1062, 0, 0, 0, [])), (1062, (36, 1065, 109, 4, 1, [(116, 0)])), (1065, (3, 1066, 2, 1, 1, [])), (1066, (3, 1067, 0, 1, 1, [])), (1067, (3, 1068, 3, 0, 1, [])), (1068, (0, 1069, 0, 0, 1, [])), (1069, (6, 1070, 0, 0, 0, [])), (1070, (47, 1071, 0, 0, 0, [])), (1071, (3, 1072, 0, 1, 1, [])), (1072, (3, 1073, 3, 0, 1, [])), (1073, (0, 1074, 0, 0, 2, [])), (1074, (6, 1075, 0, 0, 0, [])), (1075, (47, 1076, 0, 0, 0, [])), (1076, (3, 1077, 0, 1, 1, [])), (1077, (3, 1078, 3, 0, 1, []))]
def k179_13 : List (Nat × Ins) := [(1078, (0, 1079, 0, 0, 3, [])), (1079, (6, 1080, 0, 0, 0, [])), (1080, (47, 1081, 0, 0, 0, [])), (1081, (36, 1084, 173, 4, 1, [(119, 0)])), (1084, (14, 1087, 1257, 0, 0, [])), (1087, (0, 1088, 0, 0, 0, [])), (1088, (40, 1089, 0, 0, 0, [])), (1089, (3, 1090, 1, 1, 1, [])), (1090, (3, 1091, 0, 1, 1, [])), (1091, (3, 1092, 3, 0, 1, [])), (1092, (0, 1093, 0, 0, 1, [])), (1093, (6, 1094, 0, 0, 0, [])), (1094, (47, 1095, 0, 0, 0, [])), (1095, (3, 1096, 0, 1, 1, [])), (1096, (3, 1097, 3, 0, 1, [])), (1097, (0, 1098, 0, 0, 2, [])), (1098, (6, 1099, 0, 0, 0, [])), (1099, (47, 1100, 0, 0, 0, [])), (1100, (3, 1101, 0, 1, 1, [])), (1101, (3, 1102, 3, 0, 1, [])), (1102, (0, 1103, 0, 0, 3, [])), (1103, (6, 1104, 0, 0, 0, [])), (1104, (47, 1105, 0, 0, 0, [])), (1105, (13, 1108, 1112, 0, 0, [])), (1108, (0, 1109, 0, 0, 1, [])), (1109, (18, 0, 1113, 0, 0, [])), (1112, (0, 1113, 0, 0, 0, [])), (1113, (3, 1114, 0, 1, 1, [])), (1114, (3, 1115, 3, 0, 1, [])), (1115, (0, 1116, 0, 0, 4, [])), (1116, (6, 1117, 0, 0, 0, [])), (1117, (47, 1118, 0, 0, 0, [])), (1118, (36, 1121, 110, 5, 1, [(120, 0)])), (1121, (3, 1122, 2, 1, 1, [])), (1122, (3, 1123, 0, 1, 1, [])), (1123, (3, 1124, 3, 0, 1, [])), (1124, (0, 1125, 0, 0, 1, [])), (1125, (6, 1126, 0, 0, 0, [])), (1126, (47, 1127, 0, 0, 0, [])), (1127, (3, 1128, 0, 1, 1, [])), (1128, (3, 1129, 3, 0, 1, [])), (1129, (0, 1130, 0, 0, 2, [])), (1130, (6, 1131, 0, 0, 0, [])), (1131, (47, 1132, 0, 0, 0, [])), (1132, (3, 1133, 0, 1, 1, [])), (1133, (3, 1134, 3, 0, 1, [])), (1134, (0, 1135, 0, 0, 3, [])), (1135, (6, 1136, 0, 0, 0, [])), (1136, (47, 1137, 0, 0, 0, [])), (1137, (13, 1140, 1144, 0, 0, [])), (1140, (0, 1141, 0, 0, 1, [])), (1141, (18, 0, 1145, 0, 0, [])), (1144, (0, 1145, 0, 0, 0, [])), (1145, (3, 1146, 0, 1, 1, [])), (1146, (3, 1147, 3, 0, 1, [])), (1147, (0, 1148, 0, 0, 4, [])), (1148, (6, 1149, 0, 0, 0, [])), (1149, (47, 1150, 0, 0, 0, [])), (1150, (36, 1153, 174, 5, 1, [(124, 0)])), (1153, (14, 1156, 1257, 0, 0, []))]
def k179_14 : List (Nat × Ins) := [(1156, (0, 1157, 0, 0, 0, [])), (1157, (40, 1158, 0, 0, 0, [])), (1158, (3, 1159, 1, 1, 1, [])), (1159, (3, 1160, 0, 1, 1, [])), (1160, (3, 1161, 3, 0, 1, [])), (1161, (0, 1162, 0, 0, 1, [])), (1162, (6, 1163, 0, 0, 0, [])), (1163, (47, 1164, 0, 0, 0, [])), (1164, (3, 1165, 0, 1, 1, [])), (1165, (3, 1166, 3, 0, 1, [])), (1166, (0, 1167, 0, 0, 2, [])), (1167, (6, 1168, 0, 0, 0, [])), (1168, (47, 1169, 0, 0, 0, [])), (1169, (3, 1170, 0, 1, 1, [])), (1170, (3, 1171, 3, 0, 1, [])), (1171, (0, 1172, 0, 0, 3, [])), (1172, (6, 1173, 0, 0, 0, [])), (1173, (47, 1174, 0, 0, 0, [])), (1174, (36, 1177, 111, 4, 1, [(125, 0)])), (1177, (3, 1178, 2, 1, 1, [])), (1178, (3, 1179, 0, 1, 1, [])), (1179, (3, 1180, 3, 0, 1, [])), (1180, (0, 1181, 0, 0, 1, [])), (1181, (6, 1182, 0, 0, 0, [])), (1182, (47, 1183, 0, 0, 0, [])), (1183, (3, 1184, 0, 1, 1, [])), (1184, (3, 1185, 3, 0, 1, [])), (1185, (0, 1186, 0, 0, 2, [])), (1186, (6, 1187, 0, 0, 0, [])), (1187, (47, 1188, 0, 0, 0, [])), (1188, (3, 1189, 0, 1, 1, [])), (1189, (3, 1190, 3, 0, 1, [])), (1190, (0, 1191, 0, 0, 3, [])), (1191, (6, 1192, 0, 0, 0, [])), (1192, (47, 1193, 0, 0, 0, [])), (1193, (36, 1196, 175, 4, 1, [(128, 0)])), (1196, (14, 1199, 1257, 0, 0, [])), (1199, (0, 1200, 0, 0, 0, [])), (1200, (40, 1201, 0, 0, 0, [])), (1201, (3, 1202, 1, 1, 1, [])), (1202, (3, 1203, 0, 1, 1, [])), (1203, (3, 1204, 3, 0, 1, [])), (1204, (0, 1205, 0, 0, 1, [])), (1205, (6, 1206, 0, 0, 0, [])), (1206, (47, 1207, 0, 0, 0, [])), (1207, (3, 1208, 0, 1, 1, [])), (1208, (3, 1209, 3, 0, 1, [])), (1209, (0, 1210, 0, 0, 2, [])), (1210, (6, 1211, 0, 0, 0, [])), (1211, (47, 1212, 0, 0, 0, [])), (1212, (36, 1215, 112, 3, 1, [(129, 0)])), (1215, (3, 1216, 2, 1, 1, [])), (1216, (3, 1217, 0, 1, 1, [])), (1217, (3, 1218, 3, 0, 1, [])), (1218, (0, 1219, 0, 0, 1, [])), (1219, (6, 1220, 0, 0, 0, [])), (1220, (47, 1221, 0, 0, 0, [])), (1221, (3, 1222, 0, 1, 1, [])), (1222, (3, 1223, 3, 0, 1, [])), (1223, (0, 1224, 0, 0, 2, []))]
def k179_15 : List (Nat × Ins) := [(1224, (6, 1225, 0, 0, 0, [])), (1225, (47, 1226, 0, 0, 0, [])), (1226, (36, 1229, 176, 3, 1, [(132, 0)])), (1229, (14, 1232, 1257, 0, 0, [])), (1232, (0, 1233, 0, 0, 0, [])), (1233, (40, 1234, 0, 0, 0, [])), (1234, (3, 1235, 1, 1, 1, [])), (1235, (3, 1236, 0, 1, 1, [])), (1236, (3, 1237, 3, 0, 1, [])), (1237, (0, 1238, 0, 0, 1, [])), (1238, (6, 1239, 0, 0, 0, [])), (1239, (47, 1240, 0, 0, 0, [])), (1240, (36, 1243, 113, 2, 1, [(133, 0)])), (1243, (3, 1244, 2, 1, 1, [])), (1244, (3, 1245, 0, 1, 1, [])), (1245, (3, 1246, 3, 0, 1, [])), (1246, (0, 1247, 0, 0, 1, [])), (1247, (6, 1248, 0, 0, 0, [])), (1248, (47, 1249, 0, 0, 0, [])), (1249, (36, 1252, 177, 2, 1, [(136, 0)])), (1252, (14, 1255, 1257, 0, 0, [])), (1255, (0, 1256, 0, 0, 0, [])), (1256, (40, 1257, 0, 0, 0, [])), (1257, (5, 1260, 3, 0, 8, [])), (1260, (18, 0, 18, 0, 0, [])), (1263, (0, 1264, 0, 0, 1, [])), (1264, (40, 1265, 0, 0, 0, []))]
def k179 : List (Nat × Ins) := k179_0 ++ (k179_1 ++ (k179_2 ++ (k179_3 ++ (k179_4 ++ (k179_5 ++ (k179_6 ++ (k179_7 ++ (k179_8 ++ (k179_9 ++ (k179_10 ++ (k179_11 ++ (k179_12 ++ (k179_13 ++ (k179_14 ++ (k179_15)))))))))))))))
def insL : List (List (Nat × Ins)) := [k0, k1, k2, k3, k4, k5, k6, k7, k8, k9, k10, k11, k12, k13, k14, k15, k16, k17, k18, k19, k20, k21, k22, k23, k24, k25, k26, k27, k28, k29, k30, k31, k32, k33, k34, k35, k36, k37, k38, k39, k40, k41, k42, k43, k44, k45, k46, k47, k48, k49, k50, k51, k52, k53, k54, k55, k56, k57, k58, k59, k60, k61, k62, k63, k64, k65, k66, k67, k68, k69, k70, k71, k72, k73, k74, k75, k76, k77, k78, k79, k80, k81, k82, k83, k84, k85, k86, k87, k88, k89, k90, k91, k92, k93, k94, k95, k96, k97, k98, k99, k100, k101, k102, k103, k104, k105, k106, k107, k108, k109, k110, k111, k112, k113, k114, k115, k116, k117, k118, k119, k120, k121, k122, k123, k124, k125, k126, k127, k128, k129, k130, k131, k132, k133, k134, k135, k136, k137, k138, k139, k140, k141, k142, k143, k144, k145, k146, k147, k148, k149, k150, k151, k152, k153, k154, k155, k156, k157, k158, k159, k160, k161, k162, k163, k164, k165, k166, k167, k168, k169, k170, k171, k172, k173, k174, k175, k176, k177, k178, k179]
def insF (m pc : Nat) : Ins := ((insL.getD m []).lookup pc).getD (99, 0, 0, 0, 0, [])
def S0 : ShM := (shF, lnF, ftF, slF, scF)
def M0 : MtM := (mlF, moF, insF)
end
section
/-! printed by gen.py: links by their places in lw_tbl; each instruction of the tables is the one of the bytecode -/
def flL : List (Nat × Nat × Nat × Nat × Nat) := [(0, 11, 0, 0, 194), (0, 17, 0, 1, 195), (0, 21, 0, 2, 196), (0, 25, 1, 1, 156), (0, 32, 3, 5, 502), (0, 35, 3, 7, 510), (0, 39, 3, 6, 507), (0, 61, 3, 2, 496), (1, 11, 1, 0, 154), (1, 17, 1, 1, 155), (1, 29, 3, 5, 504), (1, 32, 3, 7, 512), (2, 9, 2, 0, 317), (2, 15, 2, 1, 318), (2, 18, 2, 2, 319), (2, 21, 2, 3, 320), (2, 24, 2, 4, 321), (2, 28, 3, 5, 503), (2, 32, 3, 1, 491), (2, 44, 3, 4, 500), (2, 49, 3, 10, 521), (2, 58, 3, 7, 511), (2, 62, 3, 8, 514), (3, 9, 3, 0, 488), (3, 15, 3, 1, 490), (3, 18, 3, 2, 494), (3, 21, 3, 3, 497), (3, 24, 3, 4, 499), (3, 27, 3, 9, 516), (3, 30, 3, 10, 519), (4, 9, 4, 0, 283), (4, 15, 4, 1, 285), (4, 18, 4, 2, 287), (4, 21, 4, 3, 289), (4, 24, 4, 4, 291), (4, 27, 4, 5, 293), (4, 30, 4, 6, 294), (5, 9, 5, 0, 119), (5, 15, 5, 1, 121), (5, 18, 5, 2, 122), (5, 21, 5, 3, 123), (5, 24, 5, 4, 124), (5, 27, 5, 5, 125), (5, 30, 5, 6, 126), (5, 33, 5, 7, 127), (6, 9, 6, 0, 101), (6, 15, 6, 1, 102), (6, 19, 6, 2, 103), (7, 9, 7, 0, 214), (7, 17, 7, 1, 215), (7, 22, 7, 2, 216), (7, 26, 7, 3, 217), (7, 30, 7, 4, 218), (7, 33, 7, 5, 219), (7, 36, 0, 2, 197), (7, 48, 7, 8, 223), (7, 71, 7, 6, 220), (7, 75, 7, 7, 221), (7, 78, 7, 9, 225), (7, 81, 7, 10, 227), (7, 84, 7, 11, 229), (7, 94, 3, 9, 517), (7, 102, 3, 10, 520), (7, 113, 9, 4, 174), (8, 9, 8, 0, 262), (8, 15, 8, 3, 265), (8, 19, 2, 4, 322), (8, 22, 8, 1, 263), (8, 25, 8, 2, 264), (9, 9, 9, 0, 169), (9, 15, 9, 1, 170), (9, 18, 9, 2, 171), (9, 21, 9, 3, 172), (9, 25, 9, 4, 173), (9, 39, 3, 3, 498), (9, 59, 3, 0, 489), (9, 66, 3, 5, 505), (9, 75, 3, 4, 501), (10, 9, 10, 0, 86), (10, 15, 10, 1, 87), (10, 23, 3, 6, 508), (10, 28, 3, 1, 492), (10, 31, 3, 2, 495), (11, 12, 11, 0, 335), (11, 19, 11, 1, 336), (11, 26, 11, 2, 337), (11, 33, 11, 3, 338), (11, 40, 11, 4, 339), (11, 47, 11, 5, 340), (11, 56, 11, 6, 341), (11, 63, 11, 7, 342), (11, 70, 11, 8, 343), (11, 77, 11, 9, 344), (11, 81, 11, 10, 345), (11, 100, 5, 0, 120), (11, 138, 10, 1, 88), (11, 158, 3, 5, 506), (11, 161, 3, 6, 509), (11, 171, 3, 7, 513), (11, 175, 3, 1, 493), (11, 179, 3, 8, 515), (11, 186, 9, 4, 175), (11, 210, 7, 9, 226), (11, 213, 7, 7, 222), (11, 216, 7, 8, 224), (11, 217, 7, 10, 228), (11, 220, 7, 11, 230), (11, 223, 3, 9, 518), (11, 226, 3, 10, 522), (11, 249, 8, 3, 266), (11, 259, 1, 1, 157), (11, 282, 4, 0, 284), (11, 285, 4, 1, 286), (11, 288, 4, 2, 288), (11, 291, 4, 3, 290), (11, 294, 4, 4, 292), (11, 300, 6, 2, 104), (11, 301, 5, 7, 128), (11, 306, 4, 6, 295), (11, 307, 2, 4, 323), (12, 7, 12, 0, 957), (12, 13, 12, 1, 958), (12, 16, 12, 3, 960), (12, 19, 12, 5, 962), (12, 22, 12, 6, 963), (12, 25, 12, 7, 964), (12, 28, 12, 8, 965), (12, 31, 12, 9, 966), (12, 34, 12, 10, 967), (12, 38, 12, 11, 968), (12, 42, 12, 13, 970), (12, 45, 12, 14, 971), (12, 48, 12, 15, 972), (12, 51, 12, 16, 973), (12, 54, 12, 17, 974), (12, 57, 12, 18, 975), (12, 60, 12, 19, 976), (12, 63, 12, 20, 977), (12, 66, 12, 21, 978), (12, 69, 12, 22, 979), (12, 72, 12, 23, 980), (12, 75, 12, 24, 981), (12, 78, 12, 25, 982), (12, 81, 12, 26, 983), (12, 84, 12, 27, 984), (12, 87, 12, 29, 986), (12, 90, 12, 30, 987), (12, 93, 12, 31, 988), (12, 96, 12, 32, 989), (12, 99, 12, 39, 996), (12, 103, 12, 44, 1001), (12, 106, 12, 45, 1002), (12, 109, 12, 46, 1003), (12, 112, 12, 47, 1004), (12, 115, 12, 49, 1006), (12, 118, 12, 50, 1007), (12, 121, 12, 51, 1008), (12, 124, 12, 52, 1009), (12, 127, 12, 53, 1010), (12, 130, 12, 56, 1013), (12, 133, 12, 57, 1014), (12, 136, 12, 58, 1015), (12, 139, 12, 59, 1016), (12, 142, 12, 60, 1017), (12, 145, 12, 61, 1018), (12, 152, 12, 2, 959), (12, 155, 12, 4, 961), (12, 169, 12, 12, 969), (12, 198, 12, 33, 990), (12, 208, 12, 28, 985), (12, 215, 12, 34, 991), (12, 218, 12, 35, 992), (12, 232, 12, 36, 993), (12, 242, 12, 37, 994), (12, 246, 12, 38, 995), (12, 252, 12, 40, 997), (12, 258, 12, 41, 998), (12, 261, 12, 42, 999), (12, 270, 12, 54, 1011), (12, 279, 12, 48, 1005), (12, 285, 12, 43, 1000), (12, 303, 12, 55, 1012)]
def mkL : List (Nat × Nat × Nat × Nat) := [(0, 28, 11, 635), (0, 42, 2, 636), (0, 46, 3, 640), (0, 47, 20, 737), (0, 51, 7, 655), (0, 55, 84, 659), (0, 64, 82, 672), (1, 21, 9, 550), (1, 25, 11, 478), (2, 35, 16, 899), (2, 52, 19, 902), (3, 33, 22, 712), (4, 34, 26, 921), (4, 38, 27, 942), (5, 43, 178, 440), (6, 23, 34, 457), (7, 21, 68, 213), (7, 49, 3, 649), (7, 53, 69, 650), (7, 57, 5, 651), (7, 61, 36, 664), (7, 67, 6, 668), (7, 87, 42, 677), (7, 91, 70, 699), (7, 99, 71, 703), (7, 105, 43, 680), (7, 109, 47, 684), (7, 114, 44, 695), (7, 117, 46, 704), (7, 120, 45, 700), (7, 123, 21, 708), (7, 126, 48, 688), (8, 28, 58, 766), (8, 31, 53, 774), (8, 35, 54, 877), (8, 39, 55, 778), (8, 42, 57, 847), (8, 46, 56, 854), (8, 50, 66, 867), (8, 54, 67, 870), (8, 57, 15, 873), (8, 61, 61, 770), (8, 64, 62, 843), (8, 68, 59, 782), (8, 73, 60, 791), (8, 77, 65, 858), (8, 81, 63, 851), (8, 89, 64, 786), (9, 29, 74, 569), (9, 33, 19, 579), (9, 42, 76, 583), (9, 46, 77, 595), (9, 49, 78, 599), (9, 52, 73, 615), (9, 56, 34, 573), (9, 62, 37, 574), (9, 69, 32, 578), (9, 78, 75, 587), (9, 82, 80, 591), (9, 86, 79, 603), (10, 34, 82, 663), (11, 11, 81, 82), (11, 18, 33, 97), (11, 25, 29, 115), (11, 32, 8, 148), (11, 39, 68, 165), (11, 46, 0, 189), (11, 53, 39, 207), (11, 62, 49, 258), (11, 69, 23, 279), (11, 76, 14, 313), (11, 84, 116, 373), (11, 88, 114, 376), (11, 92, 82, 379), (11, 96, 83, 384), (11, 104, 35, 396), (11, 108, 34, 404), (11, 111, 117, 408), (11, 114, 118, 411), (11, 117, 115, 414), (11, 120, 30, 417), (11, 123, 31, 425), (11, 127, 32, 436), (11, 131, 119, 450), (11, 134, 38, 453), (11, 142, 120, 467), (11, 145, 9, 470), (11, 149, 12, 474), (11, 155, 18, 484), (11, 164, 10, 546), (11, 167, 11, 555), (11, 182, 69, 565), (11, 189, 70, 611), (11, 192, 71, 619), (11, 195, 72, 623), (11, 198, 1, 631), (11, 202, 40, 644), (11, 206, 41, 673), (11, 229, 19, 727), (11, 232, 36, 732), (11, 235, 4, 733), (11, 238, 6, 741), (11, 242, 50, 746), (11, 245, 51, 750), (11, 250, 52, 762), (11, 254, 16, 885), (11, 260, 20, 894), (11, 263, 17, 895), (11, 269, 24, 909), (11, 272, 25, 917), (11, 276, 26, 929), (11, 279, 27, 930), (11, 297, 28, 938), (11, 302, 13, 947), (12, 148, 122, 1148), (12, 158, 126, 1163), (12, 162, 127, 1167), (12, 165, 130, 1178), (12, 172, 134, 1194), (12, 176, 136, 1202), (12, 180, 139, 1223), (12, 183, 140, 1219), (12, 187, 141, 1227), (12, 191, 142, 1231), (12, 194, 143, 1215), (12, 201, 149, 1251), (12, 204, 146, 1259), (12, 211, 152, 1247), (12, 221, 150, 1255), (12, 224, 148, 1263), (12, 228, 147, 1267), (12, 235, 153, 1243), (12, 239, 151, 1271), (12, 249, 158, 1291), (12, 255, 160, 1299), (12, 264, 163, 1311), (12, 267, 164, 1323), (12, 273, 165, 1319), (12, 276, 166, 1327), (12, 282, 167, 1315), (12, 288, 169, 1339), (12, 291, 170, 1335), (12, 300, 159, 1350), (13, 9, 85, 74), (13, 12, 121, 953), (13, 13, 86, 369), (13, 17, 123, 1144), (13, 18, 87, 388), (13, 22, 124, 1151), (13, 23, 88, 392), (13, 27, 125, 1155), (13, 28, 89, 400), (13, 32, 128, 1159), (13, 33, 90, 421), (13, 36, 129, 1170), (13, 37, 91, 432), (13, 40, 131, 1174), (13, 41, 92, 446), (13, 45, 132, 1182), (13, 46, 93, 459), (13, 49, 133, 1186), (13, 50, 94, 463), (13, 54, 135, 1190), (13, 55, 95, 551), (13, 59, 137, 1198), (13, 60, 96, 556), (13, 63, 138, 1206), (13, 64, 97, 561), (13, 67, 144, 1211), (13, 68, 98, 607), (13, 71, 145, 1235), (13, 72, 99, 627), (13, 76, 154, 1239), (13, 77, 100, 715), (13, 80, 155, 1275), (13, 81, 101, 719), (13, 85, 156, 1279), (13, 86, 102, 723), (13, 89, 157, 1283), (13, 90, 103, 728), (13, 93, 159, 1287), (13, 94, 104, 742), (13, 97, 161, 1295), (13, 98, 105, 754), (13, 101, 162, 1303), (13, 102, 106, 758), (13, 106, 168, 1307), (13, 107, 107, 881), (13, 110, 171, 1331), (13, 111, 108, 889), (13, 115, 172, 1343), (13, 116, 109, 905), (13, 119, 173, 1351), (13, 120, 110, 913), (13, 124, 174, 1355), (13, 125, 111, 925), (13, 128, 175, 1359), (13, 129, 112, 934), (13, 132, 176, 1363), (13, 133, 113, 943), (13, 136, 177, 1367)]
def nkL : List (Nat × Nat × Nat) := [(6, 27, 119), (8, 85, 114), (10, 19, 116)]
def clL : List (Nat × Nat × Nat × Nat) := [(0, 9, 3, 193), (1, 9, 3, 152), (7, 15, 9, 211), (11, 9, 10, 80), (11, 16, 6, 95), (11, 23, 5, 113), (11, 30, 1, 146), (11, 37, 9, 163), (11, 44, 0, 187), (11, 51, 7, 205), (11, 60, 8, 256), (11, 67, 4, 277), (11, 74, 2, 311), (11, 153, 3, 482), (13, 7, 11, 72), (13, 10, 12, 951)]
def ciL : List (Nat × Nat × Int × Nat) := [(11, 178, 100000, 560), (12, 179, 100000, 1210)]
def cjL : List (Nat × Nat × Int × Nat) := [(11, 257, (-1), 893), (11, 267, 10, 904), (2, 47, 60, 901), (2, 56, 100, 903), (12, 294, (-1), 1347), (12, 296, 60, 1348), (12, 298, 100, 1349)]
def obL : List (Nat × Nat × Nat) := [(0, 3, 192), (1, 3, 151), (2, 3, 316), (3, 3, 487), (4, 3, 282), (5, 3, 118), (6, 3, 100), (7, 3, 210), (8, 3, 261), (9, 3, 168), (10, 3, 85), (11, 3, 77), (12, 1, 956)]
def stL : List (Nat × Nat × Nat) := [(8, 71, 0), (8, 101, 1), (8, 103, 2), (8, 105, 3), (8, 107, 4), (8, 109, 5), (8, 111, 6)]
def slL : List (Nat × Nat × Nat) := [(8, 92, 795)]
def sgL : List (Nat × Nat × Nat) := [(8, 97, 805)]
def acL : List (Nat × Nat × Nat) := [(7, 130, 692)]
def mxL : List (Nat × Nat × Nat) := [(2, 39, 900), (5, 49, 443)]
def mnL : List (Nat × Nat × Nat) := [(5, 37, 429), (7, 42, 648)]
/-- of each method: places of its words in lw_tbl; 0 static, 1 an object's, 2 a constructor, 9 the law -/
def pwL : List (Nat × Nat × Nat × Nat × Nat) := [(191, 58, 190, 0, 2), (634, 58, 632, 633, 1), (639, 58, 638, 8, 1), (643, 58, 641, 642, 1), (736, 58, 734, 735, 1), (654, 58, 652, 653, 1), (671, 58, 669, 670, 1), (658, 58, 657, 9, 1), (150, 56, 149, 0, 2), (473, 56, 471, 472, 1), (549, 56, 547, 548, 1), (481, 56, 479, 480, 1), (477, 56, 475, 476, 1), (950, 56, 948, 949, 1), (315, 62, 314, 0, 2), (876, 62, 874, 875, 1), (888, 62, 886, 887, 1), (898, 62, 896, 897, 1), (486, 66, 485, 0, 2), (582, 66, 580, 581, 1), (740, 66, 738, 739, 1), (711, 66, 709, 710, 1), (714, 66, 713, 0, 0), (281, 61, 280, 0, 2), (912, 61, 910, 911, 1), (920, 61, 918, 919, 1), (924, 61, 922, 923, 1), (933, 61, 931, 932, 1), (941, 61, 939, 940, 1), (117, 55, 116, 0, 2), (420, 55, 418, 419, 1), (428, 55, 426, 427, 1), (439, 55, 437, 438, 1), (99, 54, 98, 0, 2), (407, 54, 405, 406, 1), (399, 54, 397, 398, 1), (667, 54, 665, 666, 1), (577, 54, 575, 576, 1), (456, 54, 454, 455, 1), (209, 59, 208, 0, 2), (647, 59, 645, 646, 1), (676, 59, 674, 675, 1), (679, 59, 678, 0, 0), (683, 59, 682, 10, 1), (698, 59, 697, 13, 1), (702, 59, 701, 0, 0), (707, 59, 706, 14, 1), (687, 59, 686, 11, 1), (691, 59, 690, 12, 1), (260, 60, 259, 0, 2), (749, 60, 747, 748, 1), (753, 60, 751, 752, 1), (765, 60, 763, 764, 1), (777, 60, 776, 17, 1), (880, 60, 879, 24, 1), (781, 60, 780, 18, 1), (857, 60, 856, 23, 1), (850, 60, 849, 22, 1), (769, 60, 768, 15, 1), (785, 60, 784, 19, 1), (794, 60, 793, 20, 1), (773, 60, 772, 16, 1), (846, 60, 845, 21, 1), (853, 60, 852, 0, 0), (788, 60, 787, 0, 0), (860, 60, 859, 0, 0), (869, 60, 868, 0, 0), (872, 60, 871, 0, 0), (167, 57, 166, 0, 2), (568, 57, 566, 567, 1), (614, 57, 612, 613, 1), (622, 57, 620, 621, 1), (626, 57, 624, 625, 1), (618, 57, 617, 7, 1), (572, 57, 571, 0, 1), (590, 57, 589, 2, 1), (586, 57, 585, 1, 1), (598, 57, 597, 4, 1), (602, 57, 601, 5, 1), (606, 57, 605, 6, 1), (594, 57, 593, 3, 1), (84, 53, 83, 0, 2), (382, 53, 380, 381, 1), (387, 53, 385, 386, 1), (662, 53, 660, 661, 1), (76, 52, 75, 0, 2), (372, 52, 370, 371, 1), (391, 52, 389, 390, 1), (395, 52, 393, 394, 1), (403, 52, 401, 402, 1), (424, 52, 422, 423, 1), (435, 52, 433, 434, 1), (449, 52, 447, 448, 1), (462, 52, 460, 461, 1), (466, 52, 464, 465, 1), (554, 52, 552, 553, 1), (559, 52, 557, 558, 1), (564, 52, 562, 563, 1), (610, 52, 608, 609, 1), (630, 52, 628, 629, 1), (718, 52, 716, 717, 1), (722, 52, 720, 721, 1), (726, 52, 724, 725, 1), (731, 52, 729, 730, 1), (745, 52, 743, 744, 1), (757, 52, 755, 756, 1), (761, 52, 759, 760, 1), (884, 52, 882, 883, 1), (892, 52, 890, 891, 1), (908, 52, 906, 907, 1), (916, 52, 914, 915, 1), (928, 52, 926, 927, 1), (937, 52, 935, 936, 1), (946, 52, 944, 945, 1), (378, 52, 377, 0, 0), (416, 52, 415, 0, 0), (375, 52, 374, 0, 0), (410, 52, 409, 0, 0), (413, 52, 412, 0, 0), (452, 52, 451, 0, 0), (469, 52, 468, 0, 0), (955, 63, 954, 0, 2), (1150, 63, 1149, 0, 0), (1147, 63, 1145, 1146, 1), (1154, 63, 1152, 1153, 1), (1158, 63, 1156, 1157, 1), (1166, 63, 1165, 25, 1), (1169, 63, 1168, 0, 0), (1162, 63, 1160, 1161, 1), (1173, 63, 1171, 1172, 1), (1181, 63, 1180, 26, 1), (1177, 63, 1175, 1176, 1), (1185, 63, 1183, 1184, 1), (1189, 63, 1187, 1188, 1), (1197, 63, 1196, 27, 1), (1193, 63, 1191, 1192, 1), (1205, 63, 1204, 28, 1), (1201, 63, 1199, 1200, 1), (1209, 63, 1207, 1208, 1), (1226, 63, 1225, 31, 1), (1222, 63, 1221, 30, 1), (1230, 63, 1229, 32, 1), (1234, 63, 1233, 33, 1), (1218, 63, 1217, 29, 1), (1214, 63, 1212, 1213, 1), (1238, 63, 1236, 1237, 1), (1262, 63, 1261, 38, 1), (1270, 63, 1269, 40, 1), (1266, 63, 1265, 39, 1), (1254, 63, 1253, 36, 1), (1258, 63, 1257, 37, 1), (1274, 63, 1273, 41, 1), (1250, 63, 1249, 35, 1), (1246, 63, 1245, 34, 1), (1242, 63, 1240, 1241, 1), (1278, 63, 1276, 1277, 1), (1282, 63, 1280, 1281, 1), (1286, 63, 1284, 1285, 1), (1294, 63, 1293, 42, 1), (1290, 63, 1288, 1289, 1), (1302, 63, 1301, 43, 1), (1298, 63, 1296, 1297, 1), (1306, 63, 1304, 1305, 1), (1314, 63, 1313, 44, 1), (1326, 63, 1325, 47, 1), (1322, 63, 1321, 46, 1), (1330, 63, 1329, 48, 1), (1318, 63, 1317, 45, 1), (1310, 63, 1308, 1309, 1), (1342, 63, 1341, 50, 1), (1338, 63, 1337, 49, 1), (1334, 63, 1332, 1333, 1), (1346, 63, 1344, 1345, 1), (1354, 63, 1352, 1353, 1), (1358, 63, 1356, 1357, 1), (1362, 63, 1360, 1361, 1), (1366, 63, 1364, 1365, 1), (1370, 63, 1368, 1369, 1), (442, 65, 441, 0, 0), (0, 0, 0, 0, 9)]
def pwF (m : Nat) : Nat × Nat × Nat × Nat × Nat := pwL.getD m (0, 0, 0, 0, 9)
def fin4 (a : Nat) : Fin 4 := ⟨a % 4, Nat.mod_lt _ (by decide)⟩
def icF (b : Nat) : Jvm.ClassFile.Cond := match b with
  | 0 => .eq
  | 1 => .ne
  | 2 => .lt
  | 3 => .ge
  | 4 => .gt
  | _ => .le
def bnF (b : Nat) : Instr := match b with
  | 0 => .iadd
  | 1 => .isub
  | 2 => .imul
  | 3 => .iand
  | 4 => .ior
  | 5 => .ishl
  | 6 => .ishr
  | 7 => .idiv
  | _ => .irem
def lbF (b : Nat) : Instr := match b with
  | 0 => .ladd
  | 1 => .lmul
  | _ => .ldiv
def ldF (b a : Nat) (n : Bool) : Instr := match b with
  | 0 => if n then .iload_n (fin4 a) else .iload a
  | 1 => if n then .aload_n (fin4 a) else .aload a
  | _ => if n then .lload_n (fin4 a) else .lload a
def sdF (b a : Nat) (n : Bool) : Instr := match b with
  | 0 => if n then .istore_n (fin4 a) else .istore a
  | 1 => if n then .astore_n (fin4 a) else .astore a
  | _ => if n then .lstore_n (fin4 a) else .lstore a
/-- the instruction at pc of method m is i, len bytes long -/
def isI (m pc : Nat) (i : Instr) (len : Nat) : Bool := decide (decode (mcF m) pc = .ok (i, len))
def okI (m pc : Nat) (i : Ins) : Bool :=
  match i with
  | (op, nx, a, b, v, ts) =>
  match op with
  | 0 => decide (-2147483648 ≤ v ∧ v ≤ 2147483647) && (match b with
    | 0 => isI m pc (.iconst v) 1 && decide (nx = pc + 1)
    | 1 => isI m pc (.bipush v) 2 && decide (nx = pc + 2) && decide (-128 ≤ v ∧ v ≤ 127)
    | 2 => isI m pc (.sipush v) 3 && decide (nx = pc + 3) && decide (-32768 ≤ v ∧ v ≤ 32767)
    | _ => isI m pc (.ldc a) 2 && decide (nx = pc + 2) && ciL.any (fun e => decide (e.1 = moF m ∧ e.2.1 = a ∧ e.2.2.1 = v)))
  | 1 => (match b with
    | 0 => (decide (v = 0) && isI m pc (.lconst 0) 1 || decide (v = 1) && isI m pc (.lconst 1) 1) && decide (nx = pc + 1)
    | _ => isI m pc (.ldc2_w a) 3 && decide (nx = pc + 3) && cjL.any (fun e => decide (e.1 = moF m ∧ e.2.1 = a ∧ e.2.2.1 = v)))
  | 2 => isI m pc .aconst_null 1 && decide (nx = pc + 1) && decide (10 ≤ b)
  | 3 => decide (b ≤ 2) && (match v with
    | 1 => isI m pc (ldF b a true) 1 && decide (nx = pc + 1) && decide (a < 4)
    | _ => isI m pc (ldF b a false) 2 && decide (nx = pc + 2))
  | 4 => decide (b ≤ 2) && (decide (v = 1) || decide (v = 0) && decide (m ∉ mgL)) && (decide (b < 2) || decide (m ∈ mgL)) && (match ts with
    | [(1, _)] => isI m pc (sdF b a true) 1 && decide (nx = pc + 1) && decide (a < 4)
    | _ => isI m pc (sdF b a false) 2 && decide (nx = pc + 2))
  | 5 => isI m pc (.iinc a v) 3 && decide (nx = pc + 3) && (decide (b = 1) || decide (b = 0) && decide (m ∉ mgL))
  | 6 => isI m pc (bnF b) 1 && decide (nx = pc + 1) && decide (b ≤ 8)
  | 7 => isI m pc (lbF b) 1 && decide (nx = pc + 1) && decide (b ≤ 2)
  | 8 => isI m pc .i2l 1 && decide (nx = pc + 1)
  | 9 => isI m pc .i2b 1 && decide (nx = pc + 1)
  | 10 => isI m pc .lcmp 1 && decide (nx = pc + 1)
  | 11 => isI m pc .dup 1 && decide (nx = pc + 1)
  | 12 => isI m pc .dup2 1 && decide (nx = pc + 1)
  | 13 => isI m pc (.ifCond (icF b) ((a : Int) - pc)) 3 && decide (nx = pc + 3) && decide (b ≤ 5)
  | 14 => isI m pc (.if_icmp (icF b) ((a : Int) - pc)) 3 && decide (nx = pc + 3) && decide (b ≤ 5)
  | 15 => isI m pc (.ifnull ((a : Int) - pc)) 3 && decide (nx = pc + 3)
  | 16 => isI m pc (.ifnonnull ((a : Int) - pc)) 3 && decide (nx = pc + 3)
  | 17 => isI m pc (.if_acmp .eq ((a : Int) - pc)) 3 && decide (nx = pc + 3)
  | 18 => isI m pc (.goto ((a : Int) - pc)) 3
  | 19 => (match b with
    | 0 => (match ts with
      | (lo, t0) :: r => isI m pc (.tableswitch ((a : Int) - pc) lo (lo + r.length) (((lo, t0) :: r).map (fun q => (q.2 : Int) - pc)).toArray) (nx - pc) && decide (((lo, t0) :: r).map (fun q => q.1) = (List.range (r.length + 1)).map (fun (j : Nat) => lo + (j : Int)))
      | [] => false)
    | _ => isI m pc (.lookupswitch ((a : Int) - pc) (ts.map (fun q => (q.1, (q.2 : Int) - pc))).toArray) (nx - pc) && decide ((((ts.map (fun q => (q.1, (q.2 : Int) - pc))).toArray).toList.zip (((ts.map (fun q => (q.1, (q.2 : Int) - pc))).toArray).toList.drop 1)).all (fun (x, y) => x.1 < y.1) = true))
  | 21 => isI m pc (.getfield v.toNat) 3 && decide (nx = pc + 3) && flL.any (fun e => decide (e.1 = moF m ∧ e.2.1 = v.toNat ∧ e.2.2.1 = a ∧ e.2.2.2.1 = b))
  | 22 => isI m pc (.putfield v.toNat) 3 && decide (nx = pc + 3) && flL.any (fun e => decide (e.1 = moF m ∧ e.2.1 = v.toNat ∧ e.2.2.1 = a ∧ e.2.2.2.1 = b)) && decide (¬ ftF a b = 7) && (decide (((cl13.getD a ("", TX0, 0)).2.1 b).2.2.2 = false) || decide ((pwF m).2.2.2.2 = 2 ∧ a = moF m))
  | 23 => isI m pc (.putfield v.toNat) 3 && decide (nx = pc + 3) && flL.any (fun e => decide (e.1 = moF m ∧ e.2.1 = v.toNat ∧ e.2.2.1 = a ∧ e.2.2.2.1 = b)) && decide (ftF a b = 7) && decide (((cl13.getD a ("", TX0, 0)).2.1 b).2.2.2 = false)
  | 24 => (match a with
    | 50 => isI m pc .iaload 1 && decide (b = 0)
    | 51 => isI m pc .baload 1 && decide (b = 0)
    | 52 => isI m pc .baload 1 && decide (b = 0)
    | 53 => isI m pc .aaload 1 && decide (b = 13)
    | 54 => isI m pc .aaload 1 && decide (b = 19)
    | _ => false) && decide (nx = pc + 1)
  | 28 => isI m pc .iastore 1 && decide (nx = pc + 1)
  | 29 => isI m pc .bastore 1 && decide (nx = pc + 1)
  | 30 => isI m pc .bastore 1 && decide (nx = pc + 1)
  | 31 => isI m pc .aastore 1 && decide (nx = pc + 1) && (decide (a = 53 ∧ b = 13) || decide (a = 54 ∧ b = 19))
  | 32 => isI m pc .arraylength 1 && decide (nx = pc + 1)
  | 33 => isI m pc (.new v.toNat) 3 && decide (nx = pc + 3) && clL.any (fun e => decide (e.1 = moF m ∧ e.2.1 = v.toNat ∧ e.2.2.1 = a)) && decide (a < 13)
  | 34 => (match a with
    | 50 => isI m pc (.newarray .int) 2
    | 51 => isI m pc (.newarray .byte) 2
    | 52 => isI m pc (.newarray .boolean) 2
    | _ => false) && decide (nx = pc + 2)
  | 35 => isI m pc (.anewarray v.toNat) 3 && decide (nx = pc + 3) && (decide (a = 53) && clL.any (fun e => decide (e.1 = moF m ∧ e.2.1 = v.toNat ∧ e.2.2.1 = 3)) || decide (a = 54) && clL.any (fun e => decide (e.1 = moF m ∧ e.2.1 = v.toNat ∧ e.2.2.1 = 9)))
  | 36 => decide (nx = pc + 3) && decide (v.toNat = (pwF a).2.2.2.2) && decide (a < 179) && (match ts with
    | [(ix, q)] => (match v.toNat with
      | 0 => isI m pc (.invokestatic ix.toNat) 3 && decide ((parseMethodDescriptor (myF a).desc).map (fun d => d.parameters.length) = some b)
      | 1 => isI m pc (.invokevirtual ix.toNat) 3 && decide ((parseMethodDescriptor (myF a).desc).map (fun d => d.parameters.length + 1) = some b)
      | 2 => isI m pc (.invokespecial ix.toNat) 3 && decide ((parseMethodDescriptor (myF a).desc).map (fun d => d.parameters.length + 1) = some b)
      | _ => false) && (match q with
      | 0 => mkL.any (fun e => decide (e.1 = moF m ∧ e.2.1 = ix.toNat ∧ e.2.2.1 = a))
      | _ => nkL.any (fun e => decide (e.1 = moF m ∧ e.2.1 = ix.toNat ∧ e.2.2 = a)) && decide (v.toNat = 0))
    | _ => false)
  | 37 => isI m pc (.invokespecial v.toNat) 3 && decide (nx = pc + 3) && obL.any (fun e => decide (e.1 = moF m ∧ e.2.1 = v.toNat))
  | 38 => isI m pc .return_ 1 && decide (mrF m = none)
  | 39 => isI m pc .ireturn 1 && decide (mrF m = some .int)
  | 40 => isI m pc .ireturn 1 && decide (mrF m = some .boolean)
  | 41 => isI m pc .lreturn 1 && decide (mrF m = some .long)
  | 42 => isI m pc .areturn 1 && (match mrF m with
    | some (.object _) => true
    | some (.array _) => true
    | _ => false)
  | 43 => isI m pc (.ldc a) 2 && decide (nx = pc + 2) && stL.any (fun e => decide (e.1 = moF m ∧ e.2.1 = a ∧ (e.2.2 : Int) = v))
  | 44 => isI m pc (.invokevirtual v.toNat) 3 && decide (nx = pc + 3) && slL.any (fun e => decide (e.1 = moF m ∧ e.2.1 = v.toNat))
  | 45 => isI m pc (.invokevirtual v.toNat) 3 && decide (nx = pc + 3) && sgL.any (fun e => decide (e.1 = moF m ∧ e.2.1 = v.toNat))
  | 46 => isI m pc (.invokestatic v.toNat) 3 && decide (nx = pc + 3) && acL.any (fun e => decide (e.1 = moF m ∧ e.2.1 = v.toNat))
  | 47 => isI m pc .iaload 1 && decide (nx = pc + 1)
  | 48 => isI m pc .arraylength 1 && decide (nx = pc + 1)
  | 49 => isI m pc (.invokestatic v.toNat) 3 && decide (nx = pc + 3) && (decide (b = 0) && mxL.any (fun e => decide (e.1 = moF m ∧ e.2.1 = v.toNat)) || decide (b = 1) && mnL.any (fun e => decide (e.1 = moF m ∧ e.2.1 = v.toNat)))
  | _ => false
end
section
/-! printed by gen.py: the checks of the tables -/
set_option maxRecDepth 100000 in
theorem ok_k0 : k0.all (fun e => okI 0 e.1 e.2) = true := by decide +kernel
set_option maxRecDepth 100000 in
theorem ok_k1 : k1.all (fun e => okI 1 e.1 e.2) = true := by decide +kernel
set_option maxRecDepth 100000 in
theorem ok_k2 : k2.all (fun e => okI 2 e.1 e.2) = true := by decide +kernel
set_option maxRecDepth 100000 in
theorem ok_k3 : k3.all (fun e => okI 3 e.1 e.2) = true := by decide +kernel
set_option maxRecDepth 100000 in
theorem ok_k4 : k4.all (fun e => okI 4 e.1 e.2) = true := by decide +kernel
set_option maxRecDepth 100000 in
theorem ok_k5 : k5.all (fun e => okI 5 e.1 e.2) = true := by decide +kernel
set_option maxRecDepth 100000 in
theorem ok_k6 : k6.all (fun e => okI 6 e.1 e.2) = true := by decide +kernel
set_option maxRecDepth 100000 in
theorem ok_k7 : k7.all (fun e => okI 7 e.1 e.2) = true := by decide +kernel
set_option maxRecDepth 100000 in
theorem ok_k8 : k8.all (fun e => okI 8 e.1 e.2) = true := by decide +kernel
set_option maxRecDepth 100000 in
theorem ok_k9 : k9.all (fun e => okI 9 e.1 e.2) = true := by decide +kernel
set_option maxRecDepth 100000 in
theorem ok_k10 : k10.all (fun e => okI 10 e.1 e.2) = true := by decide +kernel
set_option maxRecDepth 100000 in
theorem ok_k11 : k11.all (fun e => okI 11 e.1 e.2) = true := by decide +kernel
set_option maxRecDepth 100000 in
theorem ok_k12 : k12.all (fun e => okI 12 e.1 e.2) = true := by decide +kernel
set_option maxRecDepth 100000 in
theorem ok_k13 : k13.all (fun e => okI 13 e.1 e.2) = true := by decide +kernel
set_option maxRecDepth 100000 in
theorem ok_k14 : k14.all (fun e => okI 14 e.1 e.2) = true := by decide +kernel
set_option maxRecDepth 100000 in
theorem ok_k15 : k15.all (fun e => okI 15 e.1 e.2) = true := by decide +kernel
set_option maxRecDepth 100000 in
theorem ok_k16 : k16.all (fun e => okI 16 e.1 e.2) = true := by decide +kernel
set_option maxRecDepth 100000 in
theorem ok_k17 : k17.all (fun e => okI 17 e.1 e.2) = true := by decide +kernel
set_option maxRecDepth 100000 in
theorem ok_k18 : k18.all (fun e => okI 18 e.1 e.2) = true := by decide +kernel
set_option maxRecDepth 100000 in
theorem ok_k19 : k19.all (fun e => okI 19 e.1 e.2) = true := by decide +kernel
set_option maxRecDepth 100000 in
theorem ok_k20 : k20.all (fun e => okI 20 e.1 e.2) = true := by decide +kernel
set_option maxRecDepth 100000 in
theorem ok_k21 : k21.all (fun e => okI 21 e.1 e.2) = true := by decide +kernel
set_option maxRecDepth 100000 in
theorem ok_k22 : k22.all (fun e => okI 22 e.1 e.2) = true := by decide +kernel
set_option maxRecDepth 100000 in
theorem ok_k23 : k23.all (fun e => okI 23 e.1 e.2) = true := by decide +kernel
set_option maxRecDepth 100000 in
theorem ok_k24 : k24.all (fun e => okI 24 e.1 e.2) = true := by decide +kernel
set_option maxRecDepth 100000 in
theorem ok_k25 : k25.all (fun e => okI 25 e.1 e.2) = true := by decide +kernel
set_option maxRecDepth 100000 in
theorem ok_k26 : k26.all (fun e => okI 26 e.1 e.2) = true := by decide +kernel
set_option maxRecDepth 100000 in
theorem ok_k27 : k27.all (fun e => okI 27 e.1 e.2) = true := by decide +kernel
set_option maxRecDepth 100000 in
theorem ok_k28 : k28.all (fun e => okI 28 e.1 e.2) = true := by decide +kernel
set_option maxRecDepth 100000 in
theorem ok_k29 : k29.all (fun e => okI 29 e.1 e.2) = true := by decide +kernel
set_option maxRecDepth 100000 in
theorem ok_k30 : k30.all (fun e => okI 30 e.1 e.2) = true := by decide +kernel
set_option maxRecDepth 100000 in
theorem ok_k31 : k31.all (fun e => okI 31 e.1 e.2) = true := by decide +kernel
set_option maxRecDepth 100000 in
theorem ok_k32 : k32.all (fun e => okI 32 e.1 e.2) = true := by decide +kernel
set_option maxRecDepth 100000 in
theorem ok_k33 : k33.all (fun e => okI 33 e.1 e.2) = true := by decide +kernel
set_option maxRecDepth 100000 in
theorem ok_k34 : k34.all (fun e => okI 34 e.1 e.2) = true := by decide +kernel
set_option maxRecDepth 100000 in
theorem ok_k35 : k35.all (fun e => okI 35 e.1 e.2) = true := by decide +kernel
set_option maxRecDepth 100000 in
theorem ok_k36 : k36.all (fun e => okI 36 e.1 e.2) = true := by decide +kernel
set_option maxRecDepth 100000 in
theorem ok_k37 : k37.all (fun e => okI 37 e.1 e.2) = true := by decide +kernel
set_option maxRecDepth 100000 in
theorem ok_k38 : k38.all (fun e => okI 38 e.1 e.2) = true := by decide +kernel
set_option maxRecDepth 100000 in
theorem ok_k39 : k39.all (fun e => okI 39 e.1 e.2) = true := by decide +kernel
set_option maxRecDepth 100000 in
theorem ok_k40 : k40.all (fun e => okI 40 e.1 e.2) = true := by decide +kernel
set_option maxRecDepth 100000 in
theorem ok_k41 : k41.all (fun e => okI 41 e.1 e.2) = true := by decide +kernel
set_option maxRecDepth 100000 in
theorem ok_k42 : k42.all (fun e => okI 42 e.1 e.2) = true := by decide +kernel
set_option maxRecDepth 100000 in
theorem ok_k43 : k43.all (fun e => okI 43 e.1 e.2) = true := by decide +kernel
set_option maxRecDepth 100000 in
theorem ok_k44 : k44.all (fun e => okI 44 e.1 e.2) = true := by decide +kernel
set_option maxRecDepth 100000 in
theorem ok_k45 : k45.all (fun e => okI 45 e.1 e.2) = true := by decide +kernel
set_option maxRecDepth 100000 in
theorem ok_k46 : k46.all (fun e => okI 46 e.1 e.2) = true := by decide +kernel
set_option maxRecDepth 100000 in
theorem ok_k47 : k47.all (fun e => okI 47 e.1 e.2) = true := by decide +kernel
set_option maxRecDepth 100000 in
theorem ok_k48 : k48.all (fun e => okI 48 e.1 e.2) = true := by decide +kernel
end
section
/-! printed by gen.py: the checks of the tables -/
set_option maxRecDepth 100000 in
theorem ok_k49 : k49.all (fun e => okI 49 e.1 e.2) = true := by decide +kernel
set_option maxRecDepth 100000 in
theorem ok_k50 : k50.all (fun e => okI 50 e.1 e.2) = true := by decide +kernel
set_option maxRecDepth 100000 in
theorem ok_k51 : k51.all (fun e => okI 51 e.1 e.2) = true := by decide +kernel
set_option maxRecDepth 100000 in
theorem ok_k52 : k52.all (fun e => okI 52 e.1 e.2) = true := by decide +kernel
set_option maxRecDepth 100000 in
theorem ok_k53 : k53.all (fun e => okI 53 e.1 e.2) = true := by decide +kernel
set_option maxRecDepth 100000 in
theorem ok_k54 : k54.all (fun e => okI 54 e.1 e.2) = true := by decide +kernel
set_option maxRecDepth 100000 in
theorem ok_k55 : k55.all (fun e => okI 55 e.1 e.2) = true := by decide +kernel
set_option maxRecDepth 100000 in
theorem ok_k56 : k56.all (fun e => okI 56 e.1 e.2) = true := by decide +kernel
set_option maxRecDepth 100000 in
theorem ok_k57 : k57.all (fun e => okI 57 e.1 e.2) = true := by decide +kernel
set_option maxRecDepth 100000 in
theorem ok_k58 : k58.all (fun e => okI 58 e.1 e.2) = true := by decide +kernel
set_option maxRecDepth 100000 in
theorem ok_k59 : k59.all (fun e => okI 59 e.1 e.2) = true := by decide +kernel
set_option maxRecDepth 100000 in
theorem ok_k60 : k60.all (fun e => okI 60 e.1 e.2) = true := by decide +kernel
set_option maxRecDepth 100000 in
theorem ok_k61 : k61.all (fun e => okI 61 e.1 e.2) = true := by decide +kernel
set_option maxRecDepth 100000 in
theorem ok_k62 : k62.all (fun e => okI 62 e.1 e.2) = true := by decide +kernel
set_option maxRecDepth 100000 in
theorem ok_k63 : k63.all (fun e => okI 63 e.1 e.2) = true := by decide +kernel
set_option maxRecDepth 100000 in
theorem ok_k64 : k64.all (fun e => okI 64 e.1 e.2) = true := by decide +kernel
set_option maxRecDepth 100000 in
theorem ok_k65 : k65.all (fun e => okI 65 e.1 e.2) = true := by decide +kernel
set_option maxRecDepth 100000 in
theorem ok_k66 : k66.all (fun e => okI 66 e.1 e.2) = true := by decide +kernel
set_option maxRecDepth 100000 in
theorem ok_k67 : k67.all (fun e => okI 67 e.1 e.2) = true := by decide +kernel
set_option maxRecDepth 100000 in
theorem ok_k68 : k68.all (fun e => okI 68 e.1 e.2) = true := by decide +kernel
set_option maxRecDepth 100000 in
theorem ok_k69 : k69.all (fun e => okI 69 e.1 e.2) = true := by decide +kernel
set_option maxRecDepth 100000 in
theorem ok_k70 : k70.all (fun e => okI 70 e.1 e.2) = true := by decide +kernel
set_option maxRecDepth 100000 in
theorem ok_k71 : k71.all (fun e => okI 71 e.1 e.2) = true := by decide +kernel
set_option maxRecDepth 100000 in
theorem ok_k72 : k72.all (fun e => okI 72 e.1 e.2) = true := by decide +kernel
set_option maxRecDepth 100000 in
theorem ok_k73 : k73.all (fun e => okI 73 e.1 e.2) = true := by decide +kernel
set_option maxRecDepth 100000 in
theorem ok_k74 : k74.all (fun e => okI 74 e.1 e.2) = true := by decide +kernel
set_option maxRecDepth 100000 in
theorem ok_k75 : k75.all (fun e => okI 75 e.1 e.2) = true := by decide +kernel
set_option maxRecDepth 100000 in
theorem ok_k76 : k76.all (fun e => okI 76 e.1 e.2) = true := by decide +kernel
set_option maxRecDepth 100000 in
theorem ok_k77 : k77.all (fun e => okI 77 e.1 e.2) = true := by decide +kernel
set_option maxRecDepth 100000 in
theorem ok_k78 : k78.all (fun e => okI 78 e.1 e.2) = true := by decide +kernel
set_option maxRecDepth 100000 in
theorem ok_k79 : k79.all (fun e => okI 79 e.1 e.2) = true := by decide +kernel
set_option maxRecDepth 100000 in
theorem ok_k80 : k80.all (fun e => okI 80 e.1 e.2) = true := by decide +kernel
set_option maxRecDepth 100000 in
theorem ok_k81 : k81.all (fun e => okI 81 e.1 e.2) = true := by decide +kernel
set_option maxRecDepth 100000 in
theorem ok_k82 : k82.all (fun e => okI 82 e.1 e.2) = true := by decide +kernel
set_option maxRecDepth 100000 in
theorem ok_k83 : k83.all (fun e => okI 83 e.1 e.2) = true := by decide +kernel
set_option maxRecDepth 100000 in
theorem ok_k84 : k84.all (fun e => okI 84 e.1 e.2) = true := by decide +kernel
set_option maxRecDepth 100000 in
theorem ok_k85 : k85.all (fun e => okI 85 e.1 e.2) = true := by decide +kernel
set_option maxRecDepth 100000 in
theorem ok_k86 : k86.all (fun e => okI 86 e.1 e.2) = true := by decide +kernel
set_option maxRecDepth 100000 in
theorem ok_k87 : k87.all (fun e => okI 87 e.1 e.2) = true := by decide +kernel
set_option maxRecDepth 100000 in
theorem ok_k88 : k88.all (fun e => okI 88 e.1 e.2) = true := by decide +kernel
set_option maxRecDepth 100000 in
theorem ok_k89 : k89.all (fun e => okI 89 e.1 e.2) = true := by decide +kernel
set_option maxRecDepth 100000 in
theorem ok_k90 : k90.all (fun e => okI 90 e.1 e.2) = true := by decide +kernel
set_option maxRecDepth 100000 in
theorem ok_k91 : k91.all (fun e => okI 91 e.1 e.2) = true := by decide +kernel
set_option maxRecDepth 100000 in
theorem ok_k92 : k92.all (fun e => okI 92 e.1 e.2) = true := by decide +kernel
set_option maxRecDepth 100000 in
theorem ok_k93 : k93.all (fun e => okI 93 e.1 e.2) = true := by decide +kernel
set_option maxRecDepth 100000 in
theorem ok_k94 : k94.all (fun e => okI 94 e.1 e.2) = true := by decide +kernel
set_option maxRecDepth 100000 in
theorem ok_k95 : k95.all (fun e => okI 95 e.1 e.2) = true := by decide +kernel
set_option maxRecDepth 100000 in
theorem ok_k96 : k96.all (fun e => okI 96 e.1 e.2) = true := by decide +kernel
set_option maxRecDepth 100000 in
theorem ok_k97 : k97.all (fun e => okI 97 e.1 e.2) = true := by decide +kernel
set_option maxRecDepth 100000 in
theorem ok_k98 : k98.all (fun e => okI 98 e.1 e.2) = true := by decide +kernel
set_option maxRecDepth 100000 in
theorem ok_k99 : k99.all (fun e => okI 99 e.1 e.2) = true := by decide +kernel
set_option maxRecDepth 100000 in
theorem ok_k100 : k100.all (fun e => okI 100 e.1 e.2) = true := by decide +kernel
set_option maxRecDepth 100000 in
theorem ok_k101 : k101.all (fun e => okI 101 e.1 e.2) = true := by decide +kernel
set_option maxRecDepth 100000 in
theorem ok_k102 : k102.all (fun e => okI 102 e.1 e.2) = true := by decide +kernel
set_option maxRecDepth 100000 in
theorem ok_k103 : k103.all (fun e => okI 103 e.1 e.2) = true := by decide +kernel
set_option maxRecDepth 100000 in
theorem ok_k104 : k104.all (fun e => okI 104 e.1 e.2) = true := by decide +kernel
set_option maxRecDepth 100000 in
theorem ok_k105 : k105.all (fun e => okI 105 e.1 e.2) = true := by decide +kernel
set_option maxRecDepth 100000 in
theorem ok_k106 : k106.all (fun e => okI 106 e.1 e.2) = true := by decide +kernel
set_option maxRecDepth 100000 in
theorem ok_k107 : k107.all (fun e => okI 107 e.1 e.2) = true := by decide +kernel
set_option maxRecDepth 100000 in
theorem ok_k108 : k108.all (fun e => okI 108 e.1 e.2) = true := by decide +kernel
end
section
/-! printed by gen.py: the checks of the tables -/
set_option maxRecDepth 100000 in
theorem ok_k109 : k109.all (fun e => okI 109 e.1 e.2) = true := by decide +kernel
set_option maxRecDepth 100000 in
theorem ok_k110 : k110.all (fun e => okI 110 e.1 e.2) = true := by decide +kernel
set_option maxRecDepth 100000 in
theorem ok_k111 : k111.all (fun e => okI 111 e.1 e.2) = true := by decide +kernel
set_option maxRecDepth 100000 in
theorem ok_k112 : k112.all (fun e => okI 112 e.1 e.2) = true := by decide +kernel
set_option maxRecDepth 100000 in
theorem ok_k113 : k113.all (fun e => okI 113 e.1 e.2) = true := by decide +kernel
set_option maxRecDepth 100000 in
theorem ok_k114 : k114.all (fun e => okI 114 e.1 e.2) = true := by decide +kernel
set_option maxRecDepth 100000 in
theorem ok_k115 : k115.all (fun e => okI 115 e.1 e.2) = true := by decide +kernel
set_option maxRecDepth 100000 in
theorem ok_k116 : k116.all (fun e => okI 116 e.1 e.2) = true := by decide +kernel
set_option maxRecDepth 100000 in
theorem ok_k117 : k117.all (fun e => okI 117 e.1 e.2) = true := by decide +kernel
set_option maxRecDepth 100000 in
theorem ok_k118 : k118.all (fun e => okI 118 e.1 e.2) = true := by decide +kernel
set_option maxRecDepth 100000 in
theorem ok_k119 : k119.all (fun e => okI 119 e.1 e.2) = true := by decide +kernel
set_option maxRecDepth 100000 in
theorem ok_k120 : k120.all (fun e => okI 120 e.1 e.2) = true := by decide +kernel
set_option maxRecDepth 100000 in
theorem ok_k121 : k121.all (fun e => okI 121 e.1 e.2) = true := by decide +kernel
set_option maxRecDepth 100000 in
theorem ok_k122 : k122.all (fun e => okI 122 e.1 e.2) = true := by decide +kernel
set_option maxRecDepth 100000 in
theorem ok_k123 : k123.all (fun e => okI 123 e.1 e.2) = true := by decide +kernel
set_option maxRecDepth 100000 in
theorem ok_k124 : k124.all (fun e => okI 124 e.1 e.2) = true := by decide +kernel
set_option maxRecDepth 100000 in
theorem ok_k125 : k125.all (fun e => okI 125 e.1 e.2) = true := by decide +kernel
set_option maxRecDepth 100000 in
theorem ok_k126 : k126.all (fun e => okI 126 e.1 e.2) = true := by decide +kernel
set_option maxRecDepth 100000 in
theorem ok_k127 : k127.all (fun e => okI 127 e.1 e.2) = true := by decide +kernel
set_option maxRecDepth 100000 in
theorem ok_k128 : k128.all (fun e => okI 128 e.1 e.2) = true := by decide +kernel
set_option maxRecDepth 100000 in
theorem ok_k129 : k129.all (fun e => okI 129 e.1 e.2) = true := by decide +kernel
set_option maxRecDepth 100000 in
theorem ok_k130 : k130.all (fun e => okI 130 e.1 e.2) = true := by decide +kernel
set_option maxRecDepth 100000 in
theorem ok_k131 : k131.all (fun e => okI 131 e.1 e.2) = true := by decide +kernel
set_option maxRecDepth 100000 in
theorem ok_k132 : k132.all (fun e => okI 132 e.1 e.2) = true := by decide +kernel
set_option maxRecDepth 100000 in
theorem ok_k133 : k133.all (fun e => okI 133 e.1 e.2) = true := by decide +kernel
set_option maxRecDepth 100000 in
theorem ok_k134 : k134.all (fun e => okI 134 e.1 e.2) = true := by decide +kernel
set_option maxRecDepth 100000 in
theorem ok_k135 : k135.all (fun e => okI 135 e.1 e.2) = true := by decide +kernel
set_option maxRecDepth 100000 in
theorem ok_k136 : k136.all (fun e => okI 136 e.1 e.2) = true := by decide +kernel
set_option maxRecDepth 100000 in
theorem ok_k137 : k137.all (fun e => okI 137 e.1 e.2) = true := by decide +kernel
set_option maxRecDepth 100000 in
theorem ok_k138 : k138.all (fun e => okI 138 e.1 e.2) = true := by decide +kernel
set_option maxRecDepth 100000 in
theorem ok_k139 : k139.all (fun e => okI 139 e.1 e.2) = true := by decide +kernel
set_option maxRecDepth 100000 in
theorem ok_k140 : k140.all (fun e => okI 140 e.1 e.2) = true := by decide +kernel
set_option maxRecDepth 100000 in
theorem ok_k141 : k141.all (fun e => okI 141 e.1 e.2) = true := by decide +kernel
set_option maxRecDepth 100000 in
theorem ok_k142 : k142.all (fun e => okI 142 e.1 e.2) = true := by decide +kernel
set_option maxRecDepth 100000 in
theorem ok_k143 : k143.all (fun e => okI 143 e.1 e.2) = true := by decide +kernel
set_option maxRecDepth 100000 in
theorem ok_k144 : k144.all (fun e => okI 144 e.1 e.2) = true := by decide +kernel
set_option maxRecDepth 100000 in
theorem ok_k145 : k145.all (fun e => okI 145 e.1 e.2) = true := by decide +kernel
set_option maxRecDepth 100000 in
theorem ok_k146 : k146.all (fun e => okI 146 e.1 e.2) = true := by decide +kernel
end
section
/-! printed by gen.py: the checks of the tables -/
set_option maxRecDepth 100000 in
theorem ok_k147 : k147.all (fun e => okI 147 e.1 e.2) = true := by decide +kernel
set_option maxRecDepth 100000 in
theorem ok_k148 : k148.all (fun e => okI 148 e.1 e.2) = true := by decide +kernel
set_option maxRecDepth 100000 in
theorem ok_k149 : k149.all (fun e => okI 149 e.1 e.2) = true := by decide +kernel
set_option maxRecDepth 100000 in
theorem ok_k150 : k150.all (fun e => okI 150 e.1 e.2) = true := by decide +kernel
set_option maxRecDepth 100000 in
theorem ok_k151 : k151.all (fun e => okI 151 e.1 e.2) = true := by decide +kernel
set_option maxRecDepth 100000 in
theorem ok_k152 : k152.all (fun e => okI 152 e.1 e.2) = true := by decide +kernel
set_option maxRecDepth 100000 in
theorem ok_k153 : k153.all (fun e => okI 153 e.1 e.2) = true := by decide +kernel
set_option maxRecDepth 100000 in
theorem ok_k154 : k154.all (fun e => okI 154 e.1 e.2) = true := by decide +kernel
set_option maxRecDepth 100000 in
theorem ok_k155 : k155.all (fun e => okI 155 e.1 e.2) = true := by decide +kernel
set_option maxRecDepth 100000 in
theorem ok_k156 : k156.all (fun e => okI 156 e.1 e.2) = true := by decide +kernel
set_option maxRecDepth 100000 in
theorem ok_k157 : k157.all (fun e => okI 157 e.1 e.2) = true := by decide +kernel
set_option maxRecDepth 100000 in
theorem ok_k158 : k158.all (fun e => okI 158 e.1 e.2) = true := by decide +kernel
set_option maxRecDepth 100000 in
theorem ok_k159 : k159.all (fun e => okI 159 e.1 e.2) = true := by decide +kernel
set_option maxRecDepth 100000 in
theorem ok_k160 : k160.all (fun e => okI 160 e.1 e.2) = true := by decide +kernel
set_option maxRecDepth 100000 in
theorem ok_k161 : k161.all (fun e => okI 161 e.1 e.2) = true := by decide +kernel
set_option maxRecDepth 100000 in
theorem ok_k162 : k162.all (fun e => okI 162 e.1 e.2) = true := by decide +kernel
set_option maxRecDepth 100000 in
theorem ok_k163 : k163.all (fun e => okI 163 e.1 e.2) = true := by decide +kernel
set_option maxRecDepth 100000 in
theorem ok_k164 : k164.all (fun e => okI 164 e.1 e.2) = true := by decide +kernel
set_option maxRecDepth 100000 in
theorem ok_k165 : k165.all (fun e => okI 165 e.1 e.2) = true := by decide +kernel
set_option maxRecDepth 100000 in
theorem ok_k166 : k166.all (fun e => okI 166 e.1 e.2) = true := by decide +kernel
set_option maxRecDepth 100000 in
theorem ok_k167 : k167.all (fun e => okI 167 e.1 e.2) = true := by decide +kernel
set_option maxRecDepth 100000 in
theorem ok_k168 : k168.all (fun e => okI 168 e.1 e.2) = true := by decide +kernel
set_option maxRecDepth 100000 in
theorem ok_k169 : k169.all (fun e => okI 169 e.1 e.2) = true := by decide +kernel
set_option maxRecDepth 100000 in
theorem ok_k170 : k170.all (fun e => okI 170 e.1 e.2) = true := by decide +kernel
set_option maxRecDepth 100000 in
theorem ok_k171 : k171.all (fun e => okI 171 e.1 e.2) = true := by decide +kernel
set_option maxRecDepth 100000 in
theorem ok_k172 : k172.all (fun e => okI 172 e.1 e.2) = true := by decide +kernel
end
section
/-! printed by gen.py: the checks of the tables -/
set_option maxRecDepth 100000 in
theorem ok_k173 : k173.all (fun e => okI 173 e.1 e.2) = true := by decide +kernel
set_option maxRecDepth 100000 in
theorem ok_k174 : k174.all (fun e => okI 174 e.1 e.2) = true := by decide +kernel
set_option maxRecDepth 100000 in
theorem ok_k175 : k175.all (fun e => okI 175 e.1 e.2) = true := by decide +kernel
set_option maxRecDepth 100000 in
theorem ok_k176 : k176.all (fun e => okI 176 e.1 e.2) = true := by decide +kernel
set_option maxRecDepth 100000 in
theorem ok_k177 : k177.all (fun e => okI 177 e.1 e.2) = true := by decide +kernel
set_option maxRecDepth 100000 in
theorem ok_k178 : k178.all (fun e => okI 178 e.1 e.2) = true := by decide +kernel
end
section
/-! printed by gen.py: the checks of the tables -/
set_option maxRecDepth 100000 in
theorem ok_k179_0 : k179_0.all (fun e => okI 179 e.1 e.2) = true := by decide +kernel
set_option maxRecDepth 100000 in
theorem ok_k179_1 : k179_1.all (fun e => okI 179 e.1 e.2) = true := by decide +kernel
set_option maxRecDepth 100000 in
theorem ok_k179_2 : k179_2.all (fun e => okI 179 e.1 e.2) = true := by decide +kernel
end
section
/-! printed by gen.py: the checks of the tables -/
set_option maxRecDepth 100000 in
theorem ok_k179_3 : k179_3.all (fun e => okI 179 e.1 e.2) = true := by decide +kernel
set_option maxRecDepth 100000 in
theorem ok_k179_4 : k179_4.all (fun e => okI 179 e.1 e.2) = true := by decide +kernel
set_option maxRecDepth 100000 in
theorem ok_k179_5 : k179_5.all (fun e => okI 179 e.1 e.2) = true := by decide +kernel
end
section
/-! printed by gen.py: the checks of the tables -/
set_option maxRecDepth 100000 in
theorem ok_k179_6 : k179_6.all (fun e => okI 179 e.1 e.2) = true := by decide +kernel
set_option maxRecDepth 100000 in
theorem ok_k179_7 : k179_7.all (fun e => okI 179 e.1 e.2) = true := by decide +kernel
set_option maxRecDepth 100000 in
theorem ok_k179_8 : k179_8.all (fun e => okI 179 e.1 e.2) = true := by decide +kernel
end
section
/-! printed by gen.py: the checks of the tables -/
set_option maxRecDepth 100000 in
theorem ok_k179_9 : k179_9.all (fun e => okI 179 e.1 e.2) = true := by decide +kernel
set_option maxRecDepth 100000 in
theorem ok_k179_10 : k179_10.all (fun e => okI 179 e.1 e.2) = true := by decide +kernel
set_option maxRecDepth 100000 in
theorem ok_k179_11 : k179_11.all (fun e => okI 179 e.1 e.2) = true := by decide +kernel
end
section
/-! printed by gen.py: the checks of the tables -/
set_option maxRecDepth 100000 in
theorem ok_k179_12 : k179_12.all (fun e => okI 179 e.1 e.2) = true := by decide +kernel
set_option maxRecDepth 100000 in
theorem ok_k179_13 : k179_13.all (fun e => okI 179 e.1 e.2) = true := by decide +kernel
set_option maxRecDepth 100000 in
theorem ok_k179_14 : k179_14.all (fun e => okI 179 e.1 e.2) = true := by decide +kernel
end
section
/-! printed by gen.py: the checks of the tables -/
set_option maxRecDepth 100000 in
theorem ok_k179_15 : k179_15.all (fun e => okI 179 e.1 e.2) = true := by decide +kernel
set_option maxRecDepth 100000 in
theorem ok_k179 : k179.all (fun e => okI 179 e.1 e.2) = true := by
  unfold k179
  simp only [List.all_append, ok_k179_0, ok_k179_1, ok_k179_2, ok_k179_3, ok_k179_4, ok_k179_5, ok_k179_6, ok_k179_7, ok_k179_8, ok_k179_9, ok_k179_10, ok_k179_11, ok_k179_12, ok_k179_13, ok_k179_14, ok_k179_15, Bool.and_self]
set_option maxRecDepth 100000 in
set_option maxHeartbeats 4000000 in
theorem ok_all : ∀ m, m < 180 → (insL.getD m []).all (fun e => okI m e.1 e.2) = true := by
  intro m hm
  match m, hm with
  | 0, _ => exact ok_k0
  | 1, _ => exact ok_k1
  | 2, _ => exact ok_k2
  | 3, _ => exact ok_k3
  | 4, _ => exact ok_k4
  | 5, _ => exact ok_k5
  | 6, _ => exact ok_k6
  | 7, _ => exact ok_k7
  | 8, _ => exact ok_k8
  | 9, _ => exact ok_k9
  | 10, _ => exact ok_k10
  | 11, _ => exact ok_k11
  | 12, _ => exact ok_k12
  | 13, _ => exact ok_k13
  | 14, _ => exact ok_k14
  | 15, _ => exact ok_k15
  | 16, _ => exact ok_k16
  | 17, _ => exact ok_k17
  | 18, _ => exact ok_k18
  | 19, _ => exact ok_k19
  | 20, _ => exact ok_k20
  | 21, _ => exact ok_k21
  | 22, _ => exact ok_k22
  | 23, _ => exact ok_k23
  | 24, _ => exact ok_k24
  | 25, _ => exact ok_k25
  | 26, _ => exact ok_k26
  | 27, _ => exact ok_k27
  | 28, _ => exact ok_k28
  | 29, _ => exact ok_k29
  | 30, _ => exact ok_k30
  | 31, _ => exact ok_k31
  | 32, _ => exact ok_k32
  | 33, _ => exact ok_k33
  | 34, _ => exact ok_k34
  | 35, _ => exact ok_k35
  | 36, _ => exact ok_k36
  | 37, _ => exact ok_k37
  | 38, _ => exact ok_k38
  | 39, _ => exact ok_k39
  | 40, _ => exact ok_k40
  | 41, _ => exact ok_k41
  | 42, _ => exact ok_k42
  | 43, _ => exact ok_k43
  | 44, _ => exact ok_k44
  | 45, _ => exact ok_k45
  | 46, _ => exact ok_k46
  | 47, _ => exact ok_k47
  | 48, _ => exact ok_k48
  | 49, _ => exact ok_k49
  | 50, _ => exact ok_k50
  | 51, _ => exact ok_k51
  | 52, _ => exact ok_k52
  | 53, _ => exact ok_k53
  | 54, _ => exact ok_k54
  | 55, _ => exact ok_k55
  | 56, _ => exact ok_k56
  | 57, _ => exact ok_k57
  | 58, _ => exact ok_k58
  | 59, _ => exact ok_k59
  | 60, _ => exact ok_k60
  | 61, _ => exact ok_k61
  | 62, _ => exact ok_k62
  | 63, _ => exact ok_k63
  | 64, _ => exact ok_k64
  | 65, _ => exact ok_k65
  | 66, _ => exact ok_k66
  | 67, _ => exact ok_k67
  | 68, _ => exact ok_k68
  | 69, _ => exact ok_k69
  | 70, _ => exact ok_k70
  | 71, _ => exact ok_k71
  | 72, _ => exact ok_k72
  | 73, _ => exact ok_k73
  | 74, _ => exact ok_k74
  | 75, _ => exact ok_k75
  | 76, _ => exact ok_k76
  | 77, _ => exact ok_k77
  | 78, _ => exact ok_k78
  | 79, _ => exact ok_k79
  | 80, _ => exact ok_k80
  | 81, _ => exact ok_k81
  | 82, _ => exact ok_k82
  | 83, _ => exact ok_k83
  | 84, _ => exact ok_k84
  | 85, _ => exact ok_k85
  | 86, _ => exact ok_k86
  | 87, _ => exact ok_k87
  | 88, _ => exact ok_k88
  | 89, _ => exact ok_k89
  | 90, _ => exact ok_k90
  | 91, _ => exact ok_k91
  | 92, _ => exact ok_k92
  | 93, _ => exact ok_k93
  | 94, _ => exact ok_k94
  | 95, _ => exact ok_k95
  | 96, _ => exact ok_k96
  | 97, _ => exact ok_k97
  | 98, _ => exact ok_k98
  | 99, _ => exact ok_k99
  | 100, _ => exact ok_k100
  | 101, _ => exact ok_k101
  | 102, _ => exact ok_k102
  | 103, _ => exact ok_k103
  | 104, _ => exact ok_k104
  | 105, _ => exact ok_k105
  | 106, _ => exact ok_k106
  | 107, _ => exact ok_k107
  | 108, _ => exact ok_k108
  | 109, _ => exact ok_k109
  | 110, _ => exact ok_k110
  | 111, _ => exact ok_k111
  | 112, _ => exact ok_k112
  | 113, _ => exact ok_k113
  | 114, _ => exact ok_k114
  | 115, _ => exact ok_k115
  | 116, _ => exact ok_k116
  | 117, _ => exact ok_k117
  | 118, _ => exact ok_k118
  | 119, _ => exact ok_k119
  | 120, _ => exact ok_k120
  | 121, _ => exact ok_k121
  | 122, _ => exact ok_k122
  | 123, _ => exact ok_k123
  | 124, _ => exact ok_k124
  | 125, _ => exact ok_k125
  | 126, _ => exact ok_k126
  | 127, _ => exact ok_k127
  | 128, _ => exact ok_k128
  | 129, _ => exact ok_k129
  | 130, _ => exact ok_k130
  | 131, _ => exact ok_k131
  | 132, _ => exact ok_k132
  | 133, _ => exact ok_k133
  | 134, _ => exact ok_k134
  | 135, _ => exact ok_k135
  | 136, _ => exact ok_k136
  | 137, _ => exact ok_k137
  | 138, _ => exact ok_k138
  | 139, _ => exact ok_k139
  | 140, _ => exact ok_k140
  | 141, _ => exact ok_k141
  | 142, _ => exact ok_k142
  | 143, _ => exact ok_k143
  | 144, _ => exact ok_k144
  | 145, _ => exact ok_k145
  | 146, _ => exact ok_k146
  | 147, _ => exact ok_k147
  | 148, _ => exact ok_k148
  | 149, _ => exact ok_k149
  | 150, _ => exact ok_k150
  | 151, _ => exact ok_k151
  | 152, _ => exact ok_k152
  | 153, _ => exact ok_k153
  | 154, _ => exact ok_k154
  | 155, _ => exact ok_k155
  | 156, _ => exact ok_k156
  | 157, _ => exact ok_k157
  | 158, _ => exact ok_k158
  | 159, _ => exact ok_k159
  | 160, _ => exact ok_k160
  | 161, _ => exact ok_k161
  | 162, _ => exact ok_k162
  | 163, _ => exact ok_k163
  | 164, _ => exact ok_k164
  | 165, _ => exact ok_k165
  | 166, _ => exact ok_k166
  | 167, _ => exact ok_k167
  | 168, _ => exact ok_k168
  | 169, _ => exact ok_k169
  | 170, _ => exact ok_k170
  | 171, _ => exact ok_k171
  | 172, _ => exact ok_k172
  | 173, _ => exact ok_k173
  | 174, _ => exact ok_k174
  | 175, _ => exact ok_k175
  | 176, _ => exact ok_k176
  | 177, _ => exact ok_k177
  | 178, _ => exact ok_k178
  | 179, _ => exact ok_k179
  | m + 180, h => exact absurd h (by omega)
end
section
/-! printed by gen.py: the code words -/
set_option maxRecDepth 100000 in
theorem pc_k0 : lw_tbl[(pwF 0).1]? = some (Cond.code (myF 0) (mcF 0) (mlF 0) (mrF 0)) := rfl
set_option maxRecDepth 100000 in
theorem pc_k1 : lw_tbl[(pwF 1).1]? = some (Cond.code (myF 1) (mcF 1) (mlF 1) (mrF 1)) := rfl
set_option maxRecDepth 100000 in
theorem pc_k2 : lw_tbl[(pwF 2).1]? = some (Cond.code (myF 2) (mcF 2) (mlF 2) (mrF 2)) := rfl
set_option maxRecDepth 100000 in
theorem pc_k3 : lw_tbl[(pwF 3).1]? = some (Cond.code (myF 3) (mcF 3) (mlF 3) (mrF 3)) := rfl
set_option maxRecDepth 100000 in
theorem pc_k4 : lw_tbl[(pwF 4).1]? = some (Cond.code (myF 4) (mcF 4) (mlF 4) (mrF 4)) := rfl
set_option maxRecDepth 100000 in
theorem pc_k5 : lw_tbl[(pwF 5).1]? = some (Cond.code (myF 5) (mcF 5) (mlF 5) (mrF 5)) := rfl
set_option maxRecDepth 100000 in
theorem pc_k6 : lw_tbl[(pwF 6).1]? = some (Cond.code (myF 6) (mcF 6) (mlF 6) (mrF 6)) := rfl
set_option maxRecDepth 100000 in
theorem pc_k7 : lw_tbl[(pwF 7).1]? = some (Cond.code (myF 7) (mcF 7) (mlF 7) (mrF 7)) := rfl
set_option maxRecDepth 100000 in
theorem pc_k8 : lw_tbl[(pwF 8).1]? = some (Cond.code (myF 8) (mcF 8) (mlF 8) (mrF 8)) := rfl
set_option maxRecDepth 100000 in
theorem pc_k9 : lw_tbl[(pwF 9).1]? = some (Cond.code (myF 9) (mcF 9) (mlF 9) (mrF 9)) := rfl
set_option maxRecDepth 100000 in
theorem pc_k10 : lw_tbl[(pwF 10).1]? = some (Cond.code (myF 10) (mcF 10) (mlF 10) (mrF 10)) := rfl
set_option maxRecDepth 100000 in
theorem pc_k11 : lw_tbl[(pwF 11).1]? = some (Cond.code (myF 11) (mcF 11) (mlF 11) (mrF 11)) := rfl
set_option maxRecDepth 100000 in
theorem pc_k12 : lw_tbl[(pwF 12).1]? = some (Cond.code (myF 12) (mcF 12) (mlF 12) (mrF 12)) := rfl
set_option maxRecDepth 100000 in
theorem pc_k13 : lw_tbl[(pwF 13).1]? = some (Cond.code (myF 13) (mcF 13) (mlF 13) (mrF 13)) := rfl
set_option maxRecDepth 100000 in
theorem pc_k14 : lw_tbl[(pwF 14).1]? = some (Cond.code (myF 14) (mcF 14) (mlF 14) (mrF 14)) := rfl
set_option maxRecDepth 100000 in
theorem pc_k15 : lw_tbl[(pwF 15).1]? = some (Cond.code (myF 15) (mcF 15) (mlF 15) (mrF 15)) := rfl
set_option maxRecDepth 100000 in
theorem pc_k16 : lw_tbl[(pwF 16).1]? = some (Cond.code (myF 16) (mcF 16) (mlF 16) (mrF 16)) := rfl
set_option maxRecDepth 100000 in
theorem pc_k17 : lw_tbl[(pwF 17).1]? = some (Cond.code (myF 17) (mcF 17) (mlF 17) (mrF 17)) := rfl
set_option maxRecDepth 100000 in
theorem pc_k18 : lw_tbl[(pwF 18).1]? = some (Cond.code (myF 18) (mcF 18) (mlF 18) (mrF 18)) := rfl
set_option maxRecDepth 100000 in
theorem pc_k19 : lw_tbl[(pwF 19).1]? = some (Cond.code (myF 19) (mcF 19) (mlF 19) (mrF 19)) := rfl
set_option maxRecDepth 100000 in
theorem pc_k20 : lw_tbl[(pwF 20).1]? = some (Cond.code (myF 20) (mcF 20) (mlF 20) (mrF 20)) := rfl
set_option maxRecDepth 100000 in
theorem pc_k21 : lw_tbl[(pwF 21).1]? = some (Cond.code (myF 21) (mcF 21) (mlF 21) (mrF 21)) := rfl
set_option maxRecDepth 100000 in
theorem pc_k22 : lw_tbl[(pwF 22).1]? = some (Cond.code (myF 22) (mcF 22) (mlF 22) (mrF 22)) := rfl
set_option maxRecDepth 100000 in
theorem pc_k23 : lw_tbl[(pwF 23).1]? = some (Cond.code (myF 23) (mcF 23) (mlF 23) (mrF 23)) := rfl
set_option maxRecDepth 100000 in
theorem pc_k24 : lw_tbl[(pwF 24).1]? = some (Cond.code (myF 24) (mcF 24) (mlF 24) (mrF 24)) := rfl
set_option maxRecDepth 100000 in
theorem pc_k25 : lw_tbl[(pwF 25).1]? = some (Cond.code (myF 25) (mcF 25) (mlF 25) (mrF 25)) := rfl
set_option maxRecDepth 100000 in
theorem pc_k26 : lw_tbl[(pwF 26).1]? = some (Cond.code (myF 26) (mcF 26) (mlF 26) (mrF 26)) := rfl
set_option maxRecDepth 100000 in
theorem pc_k27 : lw_tbl[(pwF 27).1]? = some (Cond.code (myF 27) (mcF 27) (mlF 27) (mrF 27)) := rfl
set_option maxRecDepth 100000 in
theorem pc_k28 : lw_tbl[(pwF 28).1]? = some (Cond.code (myF 28) (mcF 28) (mlF 28) (mrF 28)) := rfl
set_option maxRecDepth 100000 in
theorem pc_k29 : lw_tbl[(pwF 29).1]? = some (Cond.code (myF 29) (mcF 29) (mlF 29) (mrF 29)) := rfl
set_option maxRecDepth 100000 in
theorem pc_k30 : lw_tbl[(pwF 30).1]? = some (Cond.code (myF 30) (mcF 30) (mlF 30) (mrF 30)) := rfl
set_option maxRecDepth 100000 in
theorem pc_k31 : lw_tbl[(pwF 31).1]? = some (Cond.code (myF 31) (mcF 31) (mlF 31) (mrF 31)) := rfl
set_option maxRecDepth 100000 in
theorem pc_k32 : lw_tbl[(pwF 32).1]? = some (Cond.code (myF 32) (mcF 32) (mlF 32) (mrF 32)) := rfl
set_option maxRecDepth 100000 in
theorem pc_k33 : lw_tbl[(pwF 33).1]? = some (Cond.code (myF 33) (mcF 33) (mlF 33) (mrF 33)) := rfl
set_option maxRecDepth 100000 in
theorem pc_k34 : lw_tbl[(pwF 34).1]? = some (Cond.code (myF 34) (mcF 34) (mlF 34) (mrF 34)) := rfl
set_option maxRecDepth 100000 in
theorem pc_k35 : lw_tbl[(pwF 35).1]? = some (Cond.code (myF 35) (mcF 35) (mlF 35) (mrF 35)) := rfl
set_option maxRecDepth 100000 in
theorem pc_k36 : lw_tbl[(pwF 36).1]? = some (Cond.code (myF 36) (mcF 36) (mlF 36) (mrF 36)) := rfl
set_option maxRecDepth 100000 in
theorem pc_k37 : lw_tbl[(pwF 37).1]? = some (Cond.code (myF 37) (mcF 37) (mlF 37) (mrF 37)) := rfl
set_option maxRecDepth 100000 in
theorem pc_k38 : lw_tbl[(pwF 38).1]? = some (Cond.code (myF 38) (mcF 38) (mlF 38) (mrF 38)) := rfl
set_option maxRecDepth 100000 in
theorem pc_k39 : lw_tbl[(pwF 39).1]? = some (Cond.code (myF 39) (mcF 39) (mlF 39) (mrF 39)) := rfl
set_option maxRecDepth 100000 in
theorem pc_k40 : lw_tbl[(pwF 40).1]? = some (Cond.code (myF 40) (mcF 40) (mlF 40) (mrF 40)) := rfl
set_option maxRecDepth 100000 in
theorem pc_k41 : lw_tbl[(pwF 41).1]? = some (Cond.code (myF 41) (mcF 41) (mlF 41) (mrF 41)) := rfl
set_option maxRecDepth 100000 in
theorem pc_k42 : lw_tbl[(pwF 42).1]? = some (Cond.code (myF 42) (mcF 42) (mlF 42) (mrF 42)) := rfl
set_option maxRecDepth 100000 in
theorem pc_k43 : lw_tbl[(pwF 43).1]? = some (Cond.code (myF 43) (mcF 43) (mlF 43) (mrF 43)) := rfl
set_option maxRecDepth 100000 in
theorem pc_k44 : lw_tbl[(pwF 44).1]? = some (Cond.code (myF 44) (mcF 44) (mlF 44) (mrF 44)) := rfl
set_option maxRecDepth 100000 in
theorem pc_k45 : lw_tbl[(pwF 45).1]? = some (Cond.code (myF 45) (mcF 45) (mlF 45) (mrF 45)) := rfl
set_option maxRecDepth 100000 in
theorem pc_k46 : lw_tbl[(pwF 46).1]? = some (Cond.code (myF 46) (mcF 46) (mlF 46) (mrF 46)) := rfl
set_option maxRecDepth 100000 in
theorem pc_k47 : lw_tbl[(pwF 47).1]? = some (Cond.code (myF 47) (mcF 47) (mlF 47) (mrF 47)) := rfl
set_option maxRecDepth 100000 in
theorem pc_k48 : lw_tbl[(pwF 48).1]? = some (Cond.code (myF 48) (mcF 48) (mlF 48) (mrF 48)) := rfl
set_option maxRecDepth 100000 in
theorem pc_k49 : lw_tbl[(pwF 49).1]? = some (Cond.code (myF 49) (mcF 49) (mlF 49) (mrF 49)) := rfl
set_option maxRecDepth 100000 in
theorem pc_k50 : lw_tbl[(pwF 50).1]? = some (Cond.code (myF 50) (mcF 50) (mlF 50) (mrF 50)) := rfl
set_option maxRecDepth 100000 in
theorem pc_k51 : lw_tbl[(pwF 51).1]? = some (Cond.code (myF 51) (mcF 51) (mlF 51) (mrF 51)) := rfl
set_option maxRecDepth 100000 in
theorem pc_k52 : lw_tbl[(pwF 52).1]? = some (Cond.code (myF 52) (mcF 52) (mlF 52) (mrF 52)) := rfl
set_option maxRecDepth 100000 in
theorem pc_k53 : lw_tbl[(pwF 53).1]? = some (Cond.code (myF 53) (mcF 53) (mlF 53) (mrF 53)) := rfl
set_option maxRecDepth 100000 in
theorem pc_k54 : lw_tbl[(pwF 54).1]? = some (Cond.code (myF 54) (mcF 54) (mlF 54) (mrF 54)) := rfl
set_option maxRecDepth 100000 in
theorem pc_k55 : lw_tbl[(pwF 55).1]? = some (Cond.code (myF 55) (mcF 55) (mlF 55) (mrF 55)) := rfl
set_option maxRecDepth 100000 in
theorem pc_k56 : lw_tbl[(pwF 56).1]? = some (Cond.code (myF 56) (mcF 56) (mlF 56) (mrF 56)) := rfl
set_option maxRecDepth 100000 in
theorem pc_k57 : lw_tbl[(pwF 57).1]? = some (Cond.code (myF 57) (mcF 57) (mlF 57) (mrF 57)) := rfl
set_option maxRecDepth 100000 in
theorem pc_k58 : lw_tbl[(pwF 58).1]? = some (Cond.code (myF 58) (mcF 58) (mlF 58) (mrF 58)) := rfl
set_option maxRecDepth 100000 in
theorem pc_k59 : lw_tbl[(pwF 59).1]? = some (Cond.code (myF 59) (mcF 59) (mlF 59) (mrF 59)) := rfl
set_option maxRecDepth 100000 in
theorem pc_k60 : lw_tbl[(pwF 60).1]? = some (Cond.code (myF 60) (mcF 60) (mlF 60) (mrF 60)) := rfl
set_option maxRecDepth 100000 in
theorem pc_k61 : lw_tbl[(pwF 61).1]? = some (Cond.code (myF 61) (mcF 61) (mlF 61) (mrF 61)) := rfl
set_option maxRecDepth 100000 in
theorem pc_k62 : lw_tbl[(pwF 62).1]? = some (Cond.code (myF 62) (mcF 62) (mlF 62) (mrF 62)) := rfl
set_option maxRecDepth 100000 in
theorem pc_k63 : lw_tbl[(pwF 63).1]? = some (Cond.code (myF 63) (mcF 63) (mlF 63) (mrF 63)) := rfl
set_option maxRecDepth 100000 in
theorem pc_k64 : lw_tbl[(pwF 64).1]? = some (Cond.code (myF 64) (mcF 64) (mlF 64) (mrF 64)) := rfl
set_option maxRecDepth 100000 in
theorem pc_k65 : lw_tbl[(pwF 65).1]? = some (Cond.code (myF 65) (mcF 65) (mlF 65) (mrF 65)) := rfl
set_option maxRecDepth 100000 in
theorem pc_k66 : lw_tbl[(pwF 66).1]? = some (Cond.code (myF 66) (mcF 66) (mlF 66) (mrF 66)) := rfl
set_option maxRecDepth 100000 in
theorem pc_k67 : lw_tbl[(pwF 67).1]? = some (Cond.code (myF 67) (mcF 67) (mlF 67) (mrF 67)) := rfl
set_option maxRecDepth 100000 in
theorem pc_k68 : lw_tbl[(pwF 68).1]? = some (Cond.code (myF 68) (mcF 68) (mlF 68) (mrF 68)) := rfl
set_option maxRecDepth 100000 in
theorem pc_k69 : lw_tbl[(pwF 69).1]? = some (Cond.code (myF 69) (mcF 69) (mlF 69) (mrF 69)) := rfl
set_option maxRecDepth 100000 in
theorem pc_k70 : lw_tbl[(pwF 70).1]? = some (Cond.code (myF 70) (mcF 70) (mlF 70) (mrF 70)) := rfl
set_option maxRecDepth 100000 in
theorem pc_k71 : lw_tbl[(pwF 71).1]? = some (Cond.code (myF 71) (mcF 71) (mlF 71) (mrF 71)) := rfl
set_option maxRecDepth 100000 in
theorem pc_k72 : lw_tbl[(pwF 72).1]? = some (Cond.code (myF 72) (mcF 72) (mlF 72) (mrF 72)) := rfl
set_option maxRecDepth 100000 in
theorem pc_k73 : lw_tbl[(pwF 73).1]? = some (Cond.code (myF 73) (mcF 73) (mlF 73) (mrF 73)) := rfl
set_option maxRecDepth 100000 in
theorem pc_k74 : lw_tbl[(pwF 74).1]? = some (Cond.code (myF 74) (mcF 74) (mlF 74) (mrF 74)) := rfl
set_option maxRecDepth 100000 in
theorem pc_k75 : lw_tbl[(pwF 75).1]? = some (Cond.code (myF 75) (mcF 75) (mlF 75) (mrF 75)) := rfl
set_option maxRecDepth 100000 in
theorem pc_k76 : lw_tbl[(pwF 76).1]? = some (Cond.code (myF 76) (mcF 76) (mlF 76) (mrF 76)) := rfl
set_option maxRecDepth 100000 in
theorem pc_k77 : lw_tbl[(pwF 77).1]? = some (Cond.code (myF 77) (mcF 77) (mlF 77) (mrF 77)) := rfl
set_option maxRecDepth 100000 in
theorem pc_k78 : lw_tbl[(pwF 78).1]? = some (Cond.code (myF 78) (mcF 78) (mlF 78) (mrF 78)) := rfl
set_option maxRecDepth 100000 in
theorem pc_k79 : lw_tbl[(pwF 79).1]? = some (Cond.code (myF 79) (mcF 79) (mlF 79) (mrF 79)) := rfl
set_option maxRecDepth 100000 in
theorem pc_k80 : lw_tbl[(pwF 80).1]? = some (Cond.code (myF 80) (mcF 80) (mlF 80) (mrF 80)) := rfl
set_option maxRecDepth 100000 in
theorem pc_k81 : lw_tbl[(pwF 81).1]? = some (Cond.code (myF 81) (mcF 81) (mlF 81) (mrF 81)) := rfl
set_option maxRecDepth 100000 in
theorem pc_k82 : lw_tbl[(pwF 82).1]? = some (Cond.code (myF 82) (mcF 82) (mlF 82) (mrF 82)) := rfl
set_option maxRecDepth 100000 in
theorem pc_k83 : lw_tbl[(pwF 83).1]? = some (Cond.code (myF 83) (mcF 83) (mlF 83) (mrF 83)) := rfl
set_option maxRecDepth 100000 in
theorem pc_k84 : lw_tbl[(pwF 84).1]? = some (Cond.code (myF 84) (mcF 84) (mlF 84) (mrF 84)) := rfl
set_option maxRecDepth 100000 in
theorem pc_k85 : lw_tbl[(pwF 85).1]? = some (Cond.code (myF 85) (mcF 85) (mlF 85) (mrF 85)) := rfl
set_option maxRecDepth 100000 in
theorem pc_k86 : lw_tbl[(pwF 86).1]? = some (Cond.code (myF 86) (mcF 86) (mlF 86) (mrF 86)) := rfl
set_option maxRecDepth 100000 in
theorem pc_k87 : lw_tbl[(pwF 87).1]? = some (Cond.code (myF 87) (mcF 87) (mlF 87) (mrF 87)) := rfl
set_option maxRecDepth 100000 in
theorem pc_k88 : lw_tbl[(pwF 88).1]? = some (Cond.code (myF 88) (mcF 88) (mlF 88) (mrF 88)) := rfl
set_option maxRecDepth 100000 in
theorem pc_k89 : lw_tbl[(pwF 89).1]? = some (Cond.code (myF 89) (mcF 89) (mlF 89) (mrF 89)) := rfl
set_option maxRecDepth 100000 in
theorem pc_k90 : lw_tbl[(pwF 90).1]? = some (Cond.code (myF 90) (mcF 90) (mlF 90) (mrF 90)) := rfl
set_option maxRecDepth 100000 in
theorem pc_k91 : lw_tbl[(pwF 91).1]? = some (Cond.code (myF 91) (mcF 91) (mlF 91) (mrF 91)) := rfl
set_option maxRecDepth 100000 in
theorem pc_k92 : lw_tbl[(pwF 92).1]? = some (Cond.code (myF 92) (mcF 92) (mlF 92) (mrF 92)) := rfl
set_option maxRecDepth 100000 in
theorem pc_k93 : lw_tbl[(pwF 93).1]? = some (Cond.code (myF 93) (mcF 93) (mlF 93) (mrF 93)) := rfl
set_option maxRecDepth 100000 in
theorem pc_k94 : lw_tbl[(pwF 94).1]? = some (Cond.code (myF 94) (mcF 94) (mlF 94) (mrF 94)) := rfl
set_option maxRecDepth 100000 in
theorem pc_k95 : lw_tbl[(pwF 95).1]? = some (Cond.code (myF 95) (mcF 95) (mlF 95) (mrF 95)) := rfl
set_option maxRecDepth 100000 in
theorem pc_k96 : lw_tbl[(pwF 96).1]? = some (Cond.code (myF 96) (mcF 96) (mlF 96) (mrF 96)) := rfl
set_option maxRecDepth 100000 in
theorem pc_k97 : lw_tbl[(pwF 97).1]? = some (Cond.code (myF 97) (mcF 97) (mlF 97) (mrF 97)) := rfl
set_option maxRecDepth 100000 in
theorem pc_k98 : lw_tbl[(pwF 98).1]? = some (Cond.code (myF 98) (mcF 98) (mlF 98) (mrF 98)) := rfl
set_option maxRecDepth 100000 in
theorem pc_k99 : lw_tbl[(pwF 99).1]? = some (Cond.code (myF 99) (mcF 99) (mlF 99) (mrF 99)) := rfl
set_option maxRecDepth 100000 in
theorem pc_k100 : lw_tbl[(pwF 100).1]? = some (Cond.code (myF 100) (mcF 100) (mlF 100) (mrF 100)) := rfl
set_option maxRecDepth 100000 in
theorem pc_k101 : lw_tbl[(pwF 101).1]? = some (Cond.code (myF 101) (mcF 101) (mlF 101) (mrF 101)) := rfl
set_option maxRecDepth 100000 in
theorem pc_k102 : lw_tbl[(pwF 102).1]? = some (Cond.code (myF 102) (mcF 102) (mlF 102) (mrF 102)) := rfl
set_option maxRecDepth 100000 in
theorem pc_k103 : lw_tbl[(pwF 103).1]? = some (Cond.code (myF 103) (mcF 103) (mlF 103) (mrF 103)) := rfl
set_option maxRecDepth 100000 in
theorem pc_k104 : lw_tbl[(pwF 104).1]? = some (Cond.code (myF 104) (mcF 104) (mlF 104) (mrF 104)) := rfl
set_option maxRecDepth 100000 in
theorem pc_k105 : lw_tbl[(pwF 105).1]? = some (Cond.code (myF 105) (mcF 105) (mlF 105) (mrF 105)) := rfl
set_option maxRecDepth 100000 in
theorem pc_k106 : lw_tbl[(pwF 106).1]? = some (Cond.code (myF 106) (mcF 106) (mlF 106) (mrF 106)) := rfl
set_option maxRecDepth 100000 in
theorem pc_k107 : lw_tbl[(pwF 107).1]? = some (Cond.code (myF 107) (mcF 107) (mlF 107) (mrF 107)) := rfl
set_option maxRecDepth 100000 in
theorem pc_k108 : lw_tbl[(pwF 108).1]? = some (Cond.code (myF 108) (mcF 108) (mlF 108) (mrF 108)) := rfl
set_option maxRecDepth 100000 in
theorem pc_k109 : lw_tbl[(pwF 109).1]? = some (Cond.code (myF 109) (mcF 109) (mlF 109) (mrF 109)) := rfl
set_option maxRecDepth 100000 in
theorem pc_k110 : lw_tbl[(pwF 110).1]? = some (Cond.code (myF 110) (mcF 110) (mlF 110) (mrF 110)) := rfl
set_option maxRecDepth 100000 in
theorem pc_k111 : lw_tbl[(pwF 111).1]? = some (Cond.code (myF 111) (mcF 111) (mlF 111) (mrF 111)) := rfl
set_option maxRecDepth 100000 in
theorem pc_k112 : lw_tbl[(pwF 112).1]? = some (Cond.code (myF 112) (mcF 112) (mlF 112) (mrF 112)) := rfl
set_option maxRecDepth 100000 in
theorem pc_k113 : lw_tbl[(pwF 113).1]? = some (Cond.code (myF 113) (mcF 113) (mlF 113) (mrF 113)) := rfl
set_option maxRecDepth 100000 in
theorem pc_k114 : lw_tbl[(pwF 114).1]? = some (Cond.code (myF 114) (mcF 114) (mlF 114) (mrF 114)) := rfl
set_option maxRecDepth 100000 in
theorem pc_k115 : lw_tbl[(pwF 115).1]? = some (Cond.code (myF 115) (mcF 115) (mlF 115) (mrF 115)) := rfl
set_option maxRecDepth 100000 in
theorem pc_k116 : lw_tbl[(pwF 116).1]? = some (Cond.code (myF 116) (mcF 116) (mlF 116) (mrF 116)) := rfl
set_option maxRecDepth 100000 in
theorem pc_k117 : lw_tbl[(pwF 117).1]? = some (Cond.code (myF 117) (mcF 117) (mlF 117) (mrF 117)) := rfl
set_option maxRecDepth 100000 in
theorem pc_k118 : lw_tbl[(pwF 118).1]? = some (Cond.code (myF 118) (mcF 118) (mlF 118) (mrF 118)) := rfl
set_option maxRecDepth 100000 in
theorem pc_k119 : lw_tbl[(pwF 119).1]? = some (Cond.code (myF 119) (mcF 119) (mlF 119) (mrF 119)) := rfl
set_option maxRecDepth 100000 in
theorem pc_k120 : lw_tbl[(pwF 120).1]? = some (Cond.code (myF 120) (mcF 120) (mlF 120) (mrF 120)) := rfl
set_option maxRecDepth 100000 in
theorem pc_k121 : lw_tbl[(pwF 121).1]? = some (Cond.code (myF 121) (mcF 121) (mlF 121) (mrF 121)) := rfl
set_option maxRecDepth 100000 in
theorem pc_k122 : lw_tbl[(pwF 122).1]? = some (Cond.code (myF 122) (mcF 122) (mlF 122) (mrF 122)) := rfl
set_option maxRecDepth 100000 in
theorem pc_k123 : lw_tbl[(pwF 123).1]? = some (Cond.code (myF 123) (mcF 123) (mlF 123) (mrF 123)) := rfl
set_option maxRecDepth 100000 in
theorem pc_k124 : lw_tbl[(pwF 124).1]? = some (Cond.code (myF 124) (mcF 124) (mlF 124) (mrF 124)) := rfl
set_option maxRecDepth 100000 in
theorem pc_k125 : lw_tbl[(pwF 125).1]? = some (Cond.code (myF 125) (mcF 125) (mlF 125) (mrF 125)) := rfl
set_option maxRecDepth 100000 in
theorem pc_k126 : lw_tbl[(pwF 126).1]? = some (Cond.code (myF 126) (mcF 126) (mlF 126) (mrF 126)) := rfl
set_option maxRecDepth 100000 in
theorem pc_k127 : lw_tbl[(pwF 127).1]? = some (Cond.code (myF 127) (mcF 127) (mlF 127) (mrF 127)) := rfl
set_option maxRecDepth 100000 in
theorem pc_k128 : lw_tbl[(pwF 128).1]? = some (Cond.code (myF 128) (mcF 128) (mlF 128) (mrF 128)) := rfl
set_option maxRecDepth 100000 in
theorem pc_k129 : lw_tbl[(pwF 129).1]? = some (Cond.code (myF 129) (mcF 129) (mlF 129) (mrF 129)) := rfl
set_option maxRecDepth 100000 in
theorem pc_k130 : lw_tbl[(pwF 130).1]? = some (Cond.code (myF 130) (mcF 130) (mlF 130) (mrF 130)) := rfl
set_option maxRecDepth 100000 in
theorem pc_k131 : lw_tbl[(pwF 131).1]? = some (Cond.code (myF 131) (mcF 131) (mlF 131) (mrF 131)) := rfl
set_option maxRecDepth 100000 in
theorem pc_k132 : lw_tbl[(pwF 132).1]? = some (Cond.code (myF 132) (mcF 132) (mlF 132) (mrF 132)) := rfl
set_option maxRecDepth 100000 in
theorem pc_k133 : lw_tbl[(pwF 133).1]? = some (Cond.code (myF 133) (mcF 133) (mlF 133) (mrF 133)) := rfl
set_option maxRecDepth 100000 in
theorem pc_k134 : lw_tbl[(pwF 134).1]? = some (Cond.code (myF 134) (mcF 134) (mlF 134) (mrF 134)) := rfl
set_option maxRecDepth 100000 in
theorem pc_k135 : lw_tbl[(pwF 135).1]? = some (Cond.code (myF 135) (mcF 135) (mlF 135) (mrF 135)) := rfl
set_option maxRecDepth 100000 in
theorem pc_k136 : lw_tbl[(pwF 136).1]? = some (Cond.code (myF 136) (mcF 136) (mlF 136) (mrF 136)) := rfl
set_option maxRecDepth 100000 in
theorem pc_k137 : lw_tbl[(pwF 137).1]? = some (Cond.code (myF 137) (mcF 137) (mlF 137) (mrF 137)) := rfl
set_option maxRecDepth 100000 in
theorem pc_k138 : lw_tbl[(pwF 138).1]? = some (Cond.code (myF 138) (mcF 138) (mlF 138) (mrF 138)) := rfl
set_option maxRecDepth 100000 in
theorem pc_k139 : lw_tbl[(pwF 139).1]? = some (Cond.code (myF 139) (mcF 139) (mlF 139) (mrF 139)) := rfl
set_option maxRecDepth 100000 in
theorem pc_k140 : lw_tbl[(pwF 140).1]? = some (Cond.code (myF 140) (mcF 140) (mlF 140) (mrF 140)) := rfl
set_option maxRecDepth 100000 in
theorem pc_k141 : lw_tbl[(pwF 141).1]? = some (Cond.code (myF 141) (mcF 141) (mlF 141) (mrF 141)) := rfl
set_option maxRecDepth 100000 in
theorem pc_k142 : lw_tbl[(pwF 142).1]? = some (Cond.code (myF 142) (mcF 142) (mlF 142) (mrF 142)) := rfl
set_option maxRecDepth 100000 in
theorem pc_k143 : lw_tbl[(pwF 143).1]? = some (Cond.code (myF 143) (mcF 143) (mlF 143) (mrF 143)) := rfl
set_option maxRecDepth 100000 in
theorem pc_k144 : lw_tbl[(pwF 144).1]? = some (Cond.code (myF 144) (mcF 144) (mlF 144) (mrF 144)) := rfl
set_option maxRecDepth 100000 in
theorem pc_k145 : lw_tbl[(pwF 145).1]? = some (Cond.code (myF 145) (mcF 145) (mlF 145) (mrF 145)) := rfl
set_option maxRecDepth 100000 in
theorem pc_k146 : lw_tbl[(pwF 146).1]? = some (Cond.code (myF 146) (mcF 146) (mlF 146) (mrF 146)) := rfl
set_option maxRecDepth 100000 in
theorem pc_k147 : lw_tbl[(pwF 147).1]? = some (Cond.code (myF 147) (mcF 147) (mlF 147) (mrF 147)) := rfl
set_option maxRecDepth 100000 in
theorem pc_k148 : lw_tbl[(pwF 148).1]? = some (Cond.code (myF 148) (mcF 148) (mlF 148) (mrF 148)) := rfl
set_option maxRecDepth 100000 in
theorem pc_k149 : lw_tbl[(pwF 149).1]? = some (Cond.code (myF 149) (mcF 149) (mlF 149) (mrF 149)) := rfl
set_option maxRecDepth 100000 in
theorem pc_k150 : lw_tbl[(pwF 150).1]? = some (Cond.code (myF 150) (mcF 150) (mlF 150) (mrF 150)) := rfl
set_option maxRecDepth 100000 in
theorem pc_k151 : lw_tbl[(pwF 151).1]? = some (Cond.code (myF 151) (mcF 151) (mlF 151) (mrF 151)) := rfl
set_option maxRecDepth 100000 in
theorem pc_k152 : lw_tbl[(pwF 152).1]? = some (Cond.code (myF 152) (mcF 152) (mlF 152) (mrF 152)) := rfl
set_option maxRecDepth 100000 in
theorem pc_k153 : lw_tbl[(pwF 153).1]? = some (Cond.code (myF 153) (mcF 153) (mlF 153) (mrF 153)) := rfl
set_option maxRecDepth 100000 in
theorem pc_k154 : lw_tbl[(pwF 154).1]? = some (Cond.code (myF 154) (mcF 154) (mlF 154) (mrF 154)) := rfl
set_option maxRecDepth 100000 in
theorem pc_k155 : lw_tbl[(pwF 155).1]? = some (Cond.code (myF 155) (mcF 155) (mlF 155) (mrF 155)) := rfl
set_option maxRecDepth 100000 in
theorem pc_k156 : lw_tbl[(pwF 156).1]? = some (Cond.code (myF 156) (mcF 156) (mlF 156) (mrF 156)) := rfl
set_option maxRecDepth 100000 in
theorem pc_k157 : lw_tbl[(pwF 157).1]? = some (Cond.code (myF 157) (mcF 157) (mlF 157) (mrF 157)) := rfl
set_option maxRecDepth 100000 in
theorem pc_k158 : lw_tbl[(pwF 158).1]? = some (Cond.code (myF 158) (mcF 158) (mlF 158) (mrF 158)) := rfl
set_option maxRecDepth 100000 in
theorem pc_k159 : lw_tbl[(pwF 159).1]? = some (Cond.code (myF 159) (mcF 159) (mlF 159) (mrF 159)) := rfl
set_option maxRecDepth 100000 in
theorem pc_k160 : lw_tbl[(pwF 160).1]? = some (Cond.code (myF 160) (mcF 160) (mlF 160) (mrF 160)) := rfl
set_option maxRecDepth 100000 in
theorem pc_k161 : lw_tbl[(pwF 161).1]? = some (Cond.code (myF 161) (mcF 161) (mlF 161) (mrF 161)) := rfl
set_option maxRecDepth 100000 in
theorem pc_k162 : lw_tbl[(pwF 162).1]? = some (Cond.code (myF 162) (mcF 162) (mlF 162) (mrF 162)) := rfl
set_option maxRecDepth 100000 in
theorem pc_k163 : lw_tbl[(pwF 163).1]? = some (Cond.code (myF 163) (mcF 163) (mlF 163) (mrF 163)) := rfl
set_option maxRecDepth 100000 in
theorem pc_k164 : lw_tbl[(pwF 164).1]? = some (Cond.code (myF 164) (mcF 164) (mlF 164) (mrF 164)) := rfl
set_option maxRecDepth 100000 in
theorem pc_k165 : lw_tbl[(pwF 165).1]? = some (Cond.code (myF 165) (mcF 165) (mlF 165) (mrF 165)) := rfl
set_option maxRecDepth 100000 in
theorem pc_k166 : lw_tbl[(pwF 166).1]? = some (Cond.code (myF 166) (mcF 166) (mlF 166) (mrF 166)) := rfl
set_option maxRecDepth 100000 in
theorem pc_k167 : lw_tbl[(pwF 167).1]? = some (Cond.code (myF 167) (mcF 167) (mlF 167) (mrF 167)) := rfl
set_option maxRecDepth 100000 in
theorem pc_k168 : lw_tbl[(pwF 168).1]? = some (Cond.code (myF 168) (mcF 168) (mlF 168) (mrF 168)) := rfl
set_option maxRecDepth 100000 in
theorem pc_k169 : lw_tbl[(pwF 169).1]? = some (Cond.code (myF 169) (mcF 169) (mlF 169) (mrF 169)) := rfl
set_option maxRecDepth 100000 in
theorem pc_k170 : lw_tbl[(pwF 170).1]? = some (Cond.code (myF 170) (mcF 170) (mlF 170) (mrF 170)) := rfl
set_option maxRecDepth 100000 in
theorem pc_k171 : lw_tbl[(pwF 171).1]? = some (Cond.code (myF 171) (mcF 171) (mlF 171) (mrF 171)) := rfl
set_option maxRecDepth 100000 in
theorem pc_k172 : lw_tbl[(pwF 172).1]? = some (Cond.code (myF 172) (mcF 172) (mlF 172) (mrF 172)) := rfl
set_option maxRecDepth 100000 in
theorem pc_k173 : lw_tbl[(pwF 173).1]? = some (Cond.code (myF 173) (mcF 173) (mlF 173) (mrF 173)) := rfl
set_option maxRecDepth 100000 in
theorem pc_k174 : lw_tbl[(pwF 174).1]? = some (Cond.code (myF 174) (mcF 174) (mlF 174) (mrF 174)) := rfl
set_option maxRecDepth 100000 in
theorem pc_k175 : lw_tbl[(pwF 175).1]? = some (Cond.code (myF 175) (mcF 175) (mlF 175) (mrF 175)) := rfl
set_option maxRecDepth 100000 in
theorem pc_k176 : lw_tbl[(pwF 176).1]? = some (Cond.code (myF 176) (mcF 176) (mlF 176) (mrF 176)) := rfl
set_option maxRecDepth 100000 in
theorem pc_k177 : lw_tbl[(pwF 177).1]? = some (Cond.code (myF 177) (mcF 177) (mlF 177) (mrF 177)) := rfl
set_option maxRecDepth 100000 in
theorem pc_k178 : lw_tbl[(pwF 178).1]? = some (Cond.code (myF 178) (mcF 178) (mlF 178) (mrF 178)) := rfl
set_option maxRecDepth 100000 in
set_option maxHeartbeats 4000000 in
theorem pc_ok : ∀ m, m < 179 → lw_tbl[(pwF m).1]? = some (Cond.code (myF m) (mcF m) (mlF m) (mrF m)) := by
  intro m hm
  match m, hm with
  | 0, _ => exact pc_k0
  | 1, _ => exact pc_k1
  | 2, _ => exact pc_k2
  | 3, _ => exact pc_k3
  | 4, _ => exact pc_k4
  | 5, _ => exact pc_k5
  | 6, _ => exact pc_k6
  | 7, _ => exact pc_k7
  | 8, _ => exact pc_k8
  | 9, _ => exact pc_k9
  | 10, _ => exact pc_k10
  | 11, _ => exact pc_k11
  | 12, _ => exact pc_k12
  | 13, _ => exact pc_k13
  | 14, _ => exact pc_k14
  | 15, _ => exact pc_k15
  | 16, _ => exact pc_k16
  | 17, _ => exact pc_k17
  | 18, _ => exact pc_k18
  | 19, _ => exact pc_k19
  | 20, _ => exact pc_k20
  | 21, _ => exact pc_k21
  | 22, _ => exact pc_k22
  | 23, _ => exact pc_k23
  | 24, _ => exact pc_k24
  | 25, _ => exact pc_k25
  | 26, _ => exact pc_k26
  | 27, _ => exact pc_k27
  | 28, _ => exact pc_k28
  | 29, _ => exact pc_k29
  | 30, _ => exact pc_k30
  | 31, _ => exact pc_k31
  | 32, _ => exact pc_k32
  | 33, _ => exact pc_k33
  | 34, _ => exact pc_k34
  | 35, _ => exact pc_k35
  | 36, _ => exact pc_k36
  | 37, _ => exact pc_k37
  | 38, _ => exact pc_k38
  | 39, _ => exact pc_k39
  | 40, _ => exact pc_k40
  | 41, _ => exact pc_k41
  | 42, _ => exact pc_k42
  | 43, _ => exact pc_k43
  | 44, _ => exact pc_k44
  | 45, _ => exact pc_k45
  | 46, _ => exact pc_k46
  | 47, _ => exact pc_k47
  | 48, _ => exact pc_k48
  | 49, _ => exact pc_k49
  | 50, _ => exact pc_k50
  | 51, _ => exact pc_k51
  | 52, _ => exact pc_k52
  | 53, _ => exact pc_k53
  | 54, _ => exact pc_k54
  | 55, _ => exact pc_k55
  | 56, _ => exact pc_k56
  | 57, _ => exact pc_k57
  | 58, _ => exact pc_k58
  | 59, _ => exact pc_k59
  | 60, _ => exact pc_k60
  | 61, _ => exact pc_k61
  | 62, _ => exact pc_k62
  | 63, _ => exact pc_k63
  | 64, _ => exact pc_k64
  | 65, _ => exact pc_k65
  | 66, _ => exact pc_k66
  | 67, _ => exact pc_k67
  | 68, _ => exact pc_k68
  | 69, _ => exact pc_k69
  | 70, _ => exact pc_k70
  | 71, _ => exact pc_k71
  | 72, _ => exact pc_k72
  | 73, _ => exact pc_k73
  | 74, _ => exact pc_k74
  | 75, _ => exact pc_k75
  | 76, _ => exact pc_k76
  | 77, _ => exact pc_k77
  | 78, _ => exact pc_k78
  | 79, _ => exact pc_k79
  | 80, _ => exact pc_k80
  | 81, _ => exact pc_k81
  | 82, _ => exact pc_k82
  | 83, _ => exact pc_k83
  | 84, _ => exact pc_k84
  | 85, _ => exact pc_k85
  | 86, _ => exact pc_k86
  | 87, _ => exact pc_k87
  | 88, _ => exact pc_k88
  | 89, _ => exact pc_k89
  | 90, _ => exact pc_k90
  | 91, _ => exact pc_k91
  | 92, _ => exact pc_k92
  | 93, _ => exact pc_k93
  | 94, _ => exact pc_k94
  | 95, _ => exact pc_k95
  | 96, _ => exact pc_k96
  | 97, _ => exact pc_k97
  | 98, _ => exact pc_k98
  | 99, _ => exact pc_k99
  | 100, _ => exact pc_k100
  | 101, _ => exact pc_k101
  | 102, _ => exact pc_k102
  | 103, _ => exact pc_k103
  | 104, _ => exact pc_k104
  | 105, _ => exact pc_k105
  | 106, _ => exact pc_k106
  | 107, _ => exact pc_k107
  | 108, _ => exact pc_k108
  | 109, _ => exact pc_k109
  | 110, _ => exact pc_k110
  | 111, _ => exact pc_k111
  | 112, _ => exact pc_k112
  | 113, _ => exact pc_k113
  | 114, _ => exact pc_k114
  | 115, _ => exact pc_k115
  | 116, _ => exact pc_k116
  | 117, _ => exact pc_k117
  | 118, _ => exact pc_k118
  | 119, _ => exact pc_k119
  | 120, _ => exact pc_k120
  | 121, _ => exact pc_k121
  | 122, _ => exact pc_k122
  | 123, _ => exact pc_k123
  | 124, _ => exact pc_k124
  | 125, _ => exact pc_k125
  | 126, _ => exact pc_k126
  | 127, _ => exact pc_k127
  | 128, _ => exact pc_k128
  | 129, _ => exact pc_k129
  | 130, _ => exact pc_k130
  | 131, _ => exact pc_k131
  | 132, _ => exact pc_k132
  | 133, _ => exact pc_k133
  | 134, _ => exact pc_k134
  | 135, _ => exact pc_k135
  | 136, _ => exact pc_k136
  | 137, _ => exact pc_k137
  | 138, _ => exact pc_k138
  | 139, _ => exact pc_k139
  | 140, _ => exact pc_k140
  | 141, _ => exact pc_k141
  | 142, _ => exact pc_k142
  | 143, _ => exact pc_k143
  | 144, _ => exact pc_k144
  | 145, _ => exact pc_k145
  | 146, _ => exact pc_k146
  | 147, _ => exact pc_k147
  | 148, _ => exact pc_k148
  | 149, _ => exact pc_k149
  | 150, _ => exact pc_k150
  | 151, _ => exact pc_k151
  | 152, _ => exact pc_k152
  | 153, _ => exact pc_k153
  | 154, _ => exact pc_k154
  | 155, _ => exact pc_k155
  | 156, _ => exact pc_k156
  | 157, _ => exact pc_k157
  | 158, _ => exact pc_k158
  | 159, _ => exact pc_k159
  | 160, _ => exact pc_k160
  | 161, _ => exact pc_k161
  | 162, _ => exact pc_k162
  | 163, _ => exact pc_k163
  | 164, _ => exact pc_k164
  | 165, _ => exact pc_k165
  | 166, _ => exact pc_k166
  | 167, _ => exact pc_k167
  | 168, _ => exact pc_k168
  | 169, _ => exact pc_k169
  | 170, _ => exact pc_k170
  | 171, _ => exact pc_k171
  | 172, _ => exact pc_k172
  | 173, _ => exact pc_k173
  | 174, _ => exact pc_k174
  | 175, _ => exact pc_k175
  | 176, _ => exact pc_k176
  | 177, _ => exact pc_k177
  | 178, _ => exact pc_k178
  | m + 179, h => exact absurd h (by omega)
end
section
/-! words of the tables, by their places -/
def clF (c : Nat) : vw_C := cl13.getD c ("", TX0, 0)
/-- the words that stay over calls -/
def gtbl : List Cond := lw_tbl.filter goodWord
theorem gt_of {w : Cond} {i : Nat} (h : lw_tbl[i]? = some w) (hg : goodWord w = true) : w ∈ gtbl := List.mem_filter.mpr ⟨List.mem_of_getElem? h, hg⟩
theorem gt_good : GoodIn gtbl gtbl := fun w h => ⟨h, good_of_word (List.mem_filter.mp h).2⟩
theorem gt_tbl {w : Cond} (h : w ∈ gtbl) : w ∈ lw_tbl := (List.mem_filter.mp h).1
set_option maxRecDepth 100000 in
theorem fl_ok : ∀ e ∈ flL, lw_tbl[e.2.2.2.2]? = some (Cond.fieldLink (ownF e.1) e.2.1 ((clF e.2.2.1).2.1 e.2.2.2.1).1 ((clF e.2.2.1).2.1 e.2.2.2.1).2.1 ((clF e.2.2.1).2.1 e.2.2.2.1).2.2.1) ∧ e.2.2.2.1 < (clF e.2.2.1).2.2 ∧ e.2.2.1 < 13 := by decide +kernel
set_option maxRecDepth 100000 in
theorem mk_ok : ∀ e ∈ mkL, lw_tbl[e.2.2.2]? = some (Cond.methodLink (ownF e.1) e.2.1 (myF e.2.2.1)) := by decide +kernel
set_option maxRecDepth 100000 in
theorem cl_ok : ∀ e ∈ clL, lw_tbl[e.2.2.2]? = some (Cond.classLink (ownF e.1) e.2.1 (ownF e.2.2.1)) := by decide +kernel
set_option maxRecDepth 100000 in
theorem ci_ok : ∀ e ∈ ciL, lw_tbl[e.2.2.2]? = some (Cond.constant (ownF e.1) e.2.1 (Int32.ofInt e.2.2.1)) := by decide +kernel
set_option maxRecDepth 100000 in
theorem cj_ok : ∀ e ∈ cjL, lw_tbl[e.2.2.2]? = some (Cond.constantLong (ownF e.1) e.2.1 (Int64.ofInt e.2.2.1)) ∧ -9223372036854775808 ≤ e.2.2.1 ∧ e.2.2.1 ≤ 9223372036854775807 := by decide +kernel
set_option maxRecDepth 100000 in
theorem ob_ok : ∀ e ∈ obL, lw_tbl[e.2.2]? = some (Cond.methodLink (ownF e.1) e.2.1 objectInit) := by decide +kernel
set_option maxRecDepth 100000 in
theorem sl_ok : ∀ e ∈ slL, lw_tbl[e.2.2]? = some (Cond.methodLink (ownF e.1) e.2.1 ⟨"java/lang/String", "length", "()I"⟩) := by decide +kernel
set_option maxRecDepth 100000 in
theorem sg_ok : ∀ e ∈ sgL, lw_tbl[e.2.2]? = some (Cond.methodLink (ownF e.1) e.2.1 ⟨"java/lang/String", "charAt", "(I)C"⟩) := by decide +kernel
set_option maxRecDepth 100000 in
theorem mx_ok : ∀ e ∈ mxL, lw_tbl[e.2.2]? = some (Cond.methodLink (ownF e.1) e.2.1 Lib.Math.max.name) := by decide +kernel
set_option maxRecDepth 100000 in
theorem mn_ok : ∀ e ∈ mnL, lw_tbl[e.2.2]? = some (Cond.methodLink (ownF e.1) e.2.1 Lib.Math.min.name) := by decide +kernel
set_option maxRecDepth 100000 in
theorem ac_ok : ∀ e ∈ acL, lw_tbl[e.2.2]? = some (Cond.methodLink (ownF e.1) e.2.1 arraycopyName) := by decide +kernel
set_option maxRecDepth 100000 in
theorem pi_ok : ∀ m, m < 179 → lw_tbl[(pwF m).2.1]? = some (Cond.initialized (myF m).cls) ∧ (myF m).cls = ownF (moF m) ∧ (myF m).cls ≠ "java/lang/invoke/MethodHandle" ∧ (myF m).cls ≠ "java/lang/invoke/VarHandle" ∧ plainName (myF m).cls = true ∧ mlF m ≤ 40 := by decide +kernel
set_option maxRecDepth 100000 in
theorem ps_ok : ∀ m, m < 179 → (pwF m).2.2.2.2 = 0 → lw_tbl[(pwF m).2.2.1]? = some (Cond.static (myF m)) := by decide +kernel
set_option maxRecDepth 100000 in
theorem pv_ok : ∀ m, m < 179 → (pwF m).2.2.2.2 = 1 → lw_tbl[(pwF m).2.2.1]? = some (Cond.instanceMethod (myF m)) ∧ lw_tbl[(pwF m).2.2.2.1]? = some (Cond.selects (myF m).cls (myF m) (myF m)) ∧ moF m < 13 := by decide +kernel
set_option maxRecDepth 100000 in
theorem pn_ok : ∀ m, m < 179 → (pwF m).2.2.2.2 = 2 → lw_tbl[(pwF m).2.2.1]? = some (Cond.instanceMethod (myF m)) ∧ (myF m).name = "<init>" ∧ mrF m = none ∧ moF m < 13 := by decide +kernel
set_option maxRecDepth 100000 in
theorem cw_ok : ∀ c, c < 13 → (clF c).1 = ownF c ∧ (clF c).2.2 = nfF c ∧ (∀ k, k < (clF c).2.2 → parseFieldDescriptor ((clF c).2.1 k).2.2.1 = some (tyF c k)) := by decide +kernel
theorem cx_ok (c : Nat) (hc : c < 13) : cl13[c]? = some (clF c) := by
  unfold clF
  rw [List.getD_eq_getElem?_getD]
  cases h : cl13[c]? with
  | some x => rfl
  | none => exact absurd (List.getElem?_eq_none_iff.mp h) (by show ¬ 13 ≤ c; omega)
theorem nm_ok (c : Nat) (hc : c < 13) : ∀ a, a < (clF c).2.2 → ∀ b, b < (clF c).2.2 → a ≠ b → ((clF c).2.1 a).2.1 ≠ ((clF c).2.1 b).2.1 := by
  match c, hc with
  | 0, _ => exact nmX0
  | 1, _ => exact nmX1
  | 2, _ => exact nmX2
  | 3, _ => exact nmX3
  | 4, _ => exact nmX4
  | 5, _ => exact nmX5
  | 6, _ => exact nmX6
  | 7, _ => exact nmX7
  | 8, _ => exact nmX8
  | 9, _ => exact nmX9
  | 10, _ => exact nmX10
  | 11, _ => exact nmX11
  | 12, _ => exact nmX12
  | c + 13, h => exact absurd h (by omega)
set_option maxRecDepth 100000 in
theorem uw_ok : ∀ c, c < 13 → ((u_ws (clF c).1 (clF c).2.1 (clF c).2.2).all (fun w => decide (w ∈ lw_tbl) && goodWord w)) = true := by decide +kernel
set_option maxRecDepth 100000 in
theorem ui_ok : ∀ c, c < 13 → Cond.instantiable (ownF c) (nfF c) ∈ lw_tbl ∧ Cond.initialized (ownF c) ∈ lw_tbl := by decide +kernel
set_option maxRecDepth 100000 in
theorem ow_ok : Cond.instanceMethod objectInit ∈ lw_tbl ∧ Cond.code objectInit ⟨#[0xb1]⟩ 1 none ∈ lw_tbl ∧ Cond.arrayClass .int ∈ lw_tbl ∧ Cond.arrayClass .byte ∈ lw_tbl ∧ Cond.arrayClass .boolean ∈ lw_tbl ∧ Cond.native arraycopyName ∈ lw_tbl ∧ Cond.static arraycopyName ∈ lw_tbl ∧ Cond.initialized "java/lang/System" ∈ lw_tbl := by decide +kernel
set_option maxRecDepth 100000 in
theorem mw_ok : Cond.static Lib.Math.max.name ∈ lw_tbl ∧ Cond.static Lib.Math.min.name ∈ lw_tbl ∧ Cond.initialized "java/lang/Math" ∈ lw_tbl ∧ Cond.code Lib.Math.max.name Lib.Math.max.code 2 (some .int) ∈ lw_tbl ∧ Cond.code Lib.Math.min.name Lib.Math.min.code 2 (some .int) ∈ lw_tbl := by decide +kernel
/-- fields' kinds and their types -/
def kTy (t : Nat) : FieldType → Bool := fun ty => match t with
  | 0 => decide (ty = .int)
  | 7 => decide (ty = .boolean)
  | 50 => decide (ty = .array .int)
  | 51 => decide (ty = .array .byte)
  | 52 => decide (ty = .array .boolean)
  | 53 => decide (ty = .array (.object RX3))
  | 54 => decide (ty = .array (.object RX9))
  | t => decide (10 ≤ t ∧ t < 23 ∧ ty = .object (ownF (t - 10)))
set_option maxRecDepth 100000 in
theorem ft_ok : ∀ c, c < 13 → ∀ j, j < nfF c → kTy (ftF c j) (tyF c j) = true := by decide +kernel
set_option maxRecDepth 100000 in
theorem sh_ok : ∀ k, k < 138 → (10 ≤ shF k ∧ shF k < 23) ∨ (50 ≤ shF k ∧ shF k < 55 ∧ 0 ≤ lnF k ∧ lnF k ≤ 1000) := by decide +kernel
theorem ins_ok {m pc op nx a b : Nat} {v : Int} {ts : List (Int × Nat)} (h : insF m pc = (op, nx, a, b, v, ts)) (ho : ¬ op = 99) : okI m pc (op, nx, a, b, v, ts) = true ∧ m < 180 := by
  unfold insF at h
  cases hl : (insL.getD m []).lookup pc with
  | none =>
    rw [hl] at h
    simp only [Option.getD_none, Prod.mk.injEq] at h
    exact absurd h.1.symm ho
  | some i =>
    rw [hl] at h
    simp only [Option.getD_some] at h
    subst h
    have hm : m < 180 := by
      rcases Nat.lt_or_ge m 180 with q | q
      · exact q
      · have h0 : insL.getD m [] = [] := by
          rw [List.getD_eq_getElem?_getD, List.getElem?_eq_none (by exact q)]
          rfl
        rw [h0] at hl
        cases hl
    refine ⟨?_, hm⟩
    have h1 := ok_all m hm
    rw [List.all_eq_true] at h1
    have h2 : (pc, ((op, nx, a, b, v, ts) : Ins)) ∈ insL.getD m [] := by
      generalize insL.getD m [] = l at hl
      induction l with
      | nil => cases hl
      | cons q l ih =>
        obtain ⟨x, y⟩ := q
        rw [List.lookup_cons] at hl
        by_cases hx : pc == x
        · rw [hx] at hl
          simp only [beq_iff_eq] at hx
          cases hl
          rw [hx]
          exact List.mem_cons_self
        · simp only [hx] at hl
          exact List.mem_cons_of_mem _ (ih hl)
    exact h1 _ h2
end
section
/-! how the small machine's state lies in the heap -/
def in32 (v : Int) : Prop := -2147483648 ≤ v ∧ v ≤ 2147483647
def in64 (v : Int) : Prop := -9223372036854775808 ≤ v ∧ v ≤ 9223372036854775807
theorem o32 {v : Int} (h : in32 v) : (Int32.ofInt v).toInt = v := by
  unfold in32 at h
  rw [Int32.toInt_ofInt]
  show v.bmod 4294967296 = v
  exact Int.bmod_eq_of_le (by omega) (by omega)
theorem o64 {v : Int} (h : in64 v) : (Int64.ofInt v).toInt = v := by
  unfold in64 at h
  rw [Int64.toInt_ofInt]
  show v.bmod 18446744073709551616 = v
  exact Int.bmod_eq_of_le (by omega) (by omega)
theorem t32 (x : Int32) : in32 x.toInt := ⟨Int32.le_toInt x, by have := Int32.toInt_lt x; omega⟩
theorem t64 (x : Int64) : in64 x.toInt := ⟨Int64.le_toInt x, by have := Int64.toInt_lt x; omega⟩
theorem r32 (x : Int32) : Int32.ofInt x.toInt = x := Int32.ofInt_toInt x
theorem r64 (x : Int64) : Int64.ofInt x.toInt = x := Int64.ofInt_toInt x
theorem lt32 {a b : Int} (ha : in32 a) (hb : in32 b) : Int32.ofInt a < Int32.ofInt b ↔ a < b := by rw [Int32.lt_iff_toInt_lt, o32 ha, o32 hb]
theorem le32 {a b : Int} (ha : in32 a) (hb : in32 b) : Int32.ofInt a ≤ Int32.ofInt b ↔ a ≤ b := by rw [Int32.le_iff_toInt_le, o32 ha, o32 hb]
theorem eq32 {a b : Int} (ha : in32 a) (hb : in32 b) : Int32.ofInt a = Int32.ofInt b ↔ a = b := by rw [← Int32.toInt_inj, o32 ha, o32 hb]
theorem z32 : in32 0 := by unfold in32; omega
theorem nc32 {i : Int} (h : in32 i) : (Int32.ofInt i).toNatClampNeg = i.toNat := by
  show (Int32.ofInt i).toInt.toNat = i.toNat
  rw [o32 h]
theorem vin {i : Int} {n : Nat} {k : Int} (h : in32 i) (h0 : 0 ≤ i) (h1 : i < k) (hk : k.toNat = n) : vp_in (Int32.ofInt i) n := by
  rw [vp_in_iff, o32 h]
  omega
def okR (n t : Nat) (v : Int) : Prop := v = -1 ∨ (0 ≤ v ∧ v < n ∧ shF v.toNat = t)
def okV (n : Nat) (x : AV) : Prop := (x.1 = 0 ∧ in32 x.2) ∨ (x.1 = 2 ∧ in64 x.2) ∨ (x.1 = 3 ∧ 0 ≤ x.2 ∧ x.2 < 7) ∨ x.1 = 5 ∨ (10 ≤ x.1 ∧ okR n x.1 x.2)
def cnV (ad adK : Nat → Nat) (b0 : Nat) (x : AV) : Value := if x.1 = 0 then .int (Int32.ofInt x.2) else if x.1 = 2 then .long (Int64.ofInt x.2) else if x.1 = 3 then .ref (adK x.2.toNat) else if x.1 = 5 then .ref b0 else if x.2 < 0 then .null else .ref (ad x.2.toNat)
def fldV (ad : Nat → Nat) (t : Nat) (v : Int) : Value := if 10 ≤ t then (if v < 0 then .null else .ref (ad v.toNat)) else .int (Int32.ofInt v)
def elT (t : Nat) : Nat := if t = 53 then 13 else 19
def encC (ad : Nat → Nat) (C5 : Nat → ClassId) (σ : Mem) (k : Nat) : va_E :=
  if shF k < 50 then .inr (shF k - 10, (List.range (nfF (shF k - 10))).map (fun (j : Nat) => fldV ad (ftF (shF k - 10) j) (σ k j)))
  else if shF k < 53 then .inl (C5 (shF k), (lnF k).toNat, .inl (fun (j : Nat) => Int32.ofInt (σ k j)))
  else .inl (C5 (shF k), (lnF k).toNat, .inr (.inr (.inr (.inr (fun (j : Nat) => if (j : Int) < lnF k ∧ 0 ≤ σ k j then some (ad (σ k j).toNat) else none)))))
def wsM (ad : Nat → Nat) (C5 : Nat → ClassId) (n : Nat) (σ : Mem) : va_W := (List.range n).map (fun k => (ad k, encC ad C5 σ k))
def okM (n : Nat) (σ : Mem) : Prop := n ≤ 138 ∧ (∀ j : Int, in32 (σ (-2) j)) ∧ ∀ k : Nat, k < n → (shF k < 50 → ∀ j : Nat, j < nfF (shF k - 10) → (ftF (shF k - 10) j < 10 → in32 (σ k j)) ∧ (10 ≤ ftF (shF k - 10) j → okR n (ftF (shF k - 10) j) (σ k j))) ∧ (50 ≤ shF k → shF k < 53 → ∀ j : Int, 0 ≤ j → j < lnF k → in32 (σ k j)) ∧ (53 ≤ shF k → ∀ j : Int, 0 ≤ j → j < lnF k → okR n (elT (shF k)) (σ k j))
theorem okR.mono {n n' t : Nat} {v : Int} (h : okR n t v) (hn : n ≤ n') : okR n' t v := by
  rcases h with h | ⟨h1, h2, h3⟩
  · exact Or.inl h
  · exact Or.inr ⟨h1, by omega, h3⟩
theorem okV.mono {n n' : Nat} {x : AV} (h : okV n x) (hn : n ≤ n') : okV n' x := by
  rcases h with h | h | h | h | ⟨h, h2⟩
  · exact Or.inl h
  · exact Or.inr (Or.inl h)
  · exact Or.inr (Or.inr (Or.inl h))
  · exact Or.inr (Or.inr (Or.inr (Or.inl h)))
  · exact Or.inr (Or.inr (Or.inr (Or.inr ⟨h, h2.mono hn⟩)))
theorem okV.int {n : Nat} {v : Int} (h : okV n (0, v)) : in32 v := by
  rcases h with ⟨-, h⟩ | ⟨h, -⟩ | ⟨h, -⟩ | h | ⟨h, -⟩
  · exact h
  all_goals (simp only at h; omega)
theorem okV.long {n : Nat} {v : Int} (h : okV n (2, v)) : in64 v := by
  rcases h with ⟨h, -⟩ | ⟨-, h⟩ | ⟨h, -⟩ | h | ⟨h, -⟩
  · simp only at h; omega
  · exact h
  all_goals (simp only at h; omega)
theorem okV.str {n : Nat} {v : Int} (h : okV n (3, v)) : 0 ≤ v ∧ v < 7 := by
  rcases h with ⟨h, -⟩ | ⟨h, -⟩ | ⟨-, h⟩ | h | ⟨h, -⟩
  · simp only at h; omega
  · simp only at h; omega
  · exact h
  all_goals (simp only at h; omega)
theorem okV.ref {n t : Nat} {v : Int} (h : okV n (t, v)) (ht : 10 ≤ t) : okR n t v := by
  rcases h with ⟨h, -⟩ | ⟨h, -⟩ | ⟨h, -⟩ | h | ⟨-, h⟩
  · simp only at h; omega
  · simp only at h; omega
  · simp only at h; omega
  · simp only at h; omega
  · exact h
theorem okV.i {n : Nat} {v : Int} (h : in32 v) : okV n (0, v) := Or.inl ⟨rfl, h⟩
theorem okV.l {n : Nat} {v : Int} (h : in64 v) : okV n (2, v) := Or.inr (Or.inl ⟨rfl, h⟩)
theorem okV.r {n t : Nat} {v : Int} (ht : 10 ≤ t) (h : okR n t v) : okV n (t, v) := Or.inr (Or.inr (Or.inr (Or.inr ⟨ht, h⟩)))
theorem cn_i (ad adK : Nat → Nat) (b0 : Nat) (v : Int) : cnV ad adK b0 (0, v) = .int (Int32.ofInt v) := rfl
theorem cn_l (ad adK : Nat → Nat) (b0 : Nat) (v : Int) : cnV ad adK b0 (2, v) = .long (Int64.ofInt v) := rfl
theorem cn_s (ad adK : Nat → Nat) (b0 : Nat) (v : Int) : cnV ad adK b0 (3, v) = .ref (adK v.toNat) := rfl
theorem cn_x (ad adK : Nat → Nat) (b0 : Nat) (v : Int) : cnV ad adK b0 (5, v) = .ref b0 := rfl
theorem cn_r {ad adK : Nat → Nat} {b0 t : Nat} {v : Int} (ht : 10 ≤ t) (h : 0 ≤ v) : cnV ad adK b0 (t, v) = .ref (ad v.toNat) := by
  unfold cnV
  rw [if_neg (by simp only; omega), if_neg (by simp only; omega), if_neg (by simp only; omega), if_neg (by simp only; omega), if_neg (by simp only; omega)]
theorem cn_n {ad adK : Nat → Nat} {b0 t : Nat} {v : Int} (ht : 10 ≤ t) (h : v < 0) : cnV ad adK b0 (t, v) = .null := by
  unfold cnV
  rw [if_neg (by simp only; omega), if_neg (by simp only; omega), if_neg (by simp only; omega), if_neg (by simp only; omega), if_pos (by simp only; omega)]
theorem cn_q {ad adK : Nat → Nat} {b0 t : Nat} {v : Int} (ht : 10 ≤ t) : cnV ad adK b0 (t, v) = va_rf (if v < 0 then none else some (ad v.toNat)) := by
  by_cases h : v < 0
  · rw [cn_n ht h, if_pos h]; rfl
  · rw [cn_r ht (by omega), if_neg h]; rfl
theorem cn_cat (ad adK : Nat → Nat) (b0 : Nat) (x : AV) : (cnV ad adK b0 x).category = catM x := by
  unfold cnV catM
  split
  · rename_i h; rw [if_neg (by omega)]; rfl
  · split
    · rfl
    · split
      · rfl
      · split
        · rfl
        · split <;> rfl
theorem cn_sum (ad adK : Nat → Nat) (b0 : Nat) (st : List AV) : (((st.map (cnV ad adK b0)).map fun v => v.category)).sum = (st.map catM).sum := by
  rw [List.map_map]
  congr 1
  apply List.map_congr_left
  intro x _
  exact cn_cat ad adK b0 x
/-- another assignment of addresses that agrees on the cells there -/
theorem cn_ad {ad ad' adK : Nat → Nat} {b0 n : Nat} {x : AV} (h : okV n x) (ha : ∀ k, k < n → ad' k = ad k) : cnV ad' adK b0 x = cnV ad adK b0 x := by
  obtain ⟨t, v⟩ := x
  rcases h with ⟨h, -⟩ | ⟨h, -⟩ | ⟨h, -⟩ | h | ⟨h, h2⟩
  · simp only at h; subst h; rfl
  · simp only at h; subst h; rfl
  · simp only at h; subst h; rfl
  · simp only at h; subst h; rfl
  · simp only at h h2
    rcases h2 with h2 | ⟨h2, h3, -⟩
    · rw [cn_n h (by omega), cn_n h (by omega)]
    · rw [cn_r h h2, cn_r h h2, ha _ (by omega)]
theorem cn_ads {ad ad' adK : Nat → Nat} {b0 n : Nat} {st : List AV} (h : ∀ x ∈ st, okV n x) (ha : ∀ k, k < n → ad' k = ad k) : st.map (cnV ad' adK b0) = st.map (cnV ad adK b0) := List.map_congr_left (fun x hx => cn_ad (h x hx) ha)
theorem ws_get {ad : Nat → Nat} {C5 : Nat → ClassId} {n k : Nat} {σ : Mem} (h : k < n) : (wsM ad C5 n σ)[k]? = some (ad k, encC ad C5 σ k) := by
  unfold wsM
  rw [List.getElem?_map, List.getElem?_range h]
  rfl
theorem ws_len {ad : Nat → Nat} {C5 : Nat → ClassId} {n : Nat} {σ : Mem} : (wsM ad C5 n σ).length = n := by unfold wsM; simp
theorem ws_none {ad : Nat → Nat} {C5 : Nat → ClassId} {n k : Nat} {σ : Mem} (h : n ≤ k) : (wsM ad C5 n σ)[k]? = none := List.getElem?_eq_none (by rw [ws_len]; exact h)
theorem enc_cg {ad : Nat → Nat} {C5 : Nat → ClassId} {k : Nat} {σ σ' : Mem} (h : ∀ x, σ' k x = σ k x) : encC ad C5 σ' k = encC ad C5 σ k := by
  unfold encC
  simp only [h]
theorem ws_set {ad : Nat → Nat} {C5 : Nat → ClassId} {n k : Nat} {σ σ' : Mem} {e : va_E} (hk : k < n) (he : encC ad C5 σ' k = e) (h : ∀ k', k' < n → ¬ k' = k → ∀ x, σ' k' x = σ k' x) : (wsM ad C5 n σ).set k (ad k, e) = wsM ad C5 n σ' := by
  apply List.ext_getElem?
  intro i
  rw [List.getElem?_set]
  by_cases hi : k = i
  · subst hi
    rw [if_pos rfl, if_pos (by rw [ws_len]; exact hk), ws_get hk, he]
  · rw [if_neg hi]
    rcases Nat.lt_or_ge i n with q | q
    · rw [ws_get q, ws_get q, enc_cg (h i q (fun z => hi z.symm))]
    · rw [ws_none q, ws_none q]
theorem ws_push {ad ad' : Nat → Nat} {C5 : Nat → ClassId} {n q : Nat} {σ σ' : Mem} {e : va_E} (hq : ad' n = q) (ha : ∀ k, k < n → ad' k = ad k) (he : encC ad' C5 σ' n = e) (h : ∀ k, k < n → encC ad' C5 σ' k = encC ad C5 σ k) : wsM ad C5 n σ ++ [(q, e)] = wsM ad' C5 (n + 1) σ' := by
  unfold wsM
  rw [List.range_succ, List.map_append, List.map_cons, List.map_nil, hq, he]
  congr 1
  apply List.map_congr_left
  intro k hk
  have hk := List.mem_range.mp hk
  rw [ha k hk, h k hk]
/-- the cells there, with another assignment of addresses -/
theorem enc_ad {ad ad' : Nat → Nat} {C5 : Nat → ClassId} {n k : Nat} {σ σ' : Mem} (hM : okM n σ) (hk : k < n) (ha : ∀ k, k < n → ad' k = ad k) (hs : ∀ x, σ' k x = σ k x) : encC ad' C5 σ' k = encC ad C5 σ k := by
  rw [enc_cg (ad := ad') hs]
  obtain ⟨h138, -, h⟩ := hM
  obtain ⟨h1, -, h3⟩ := h k hk
  unfold encC
  split
  · rename_i hq
    congr 2
    apply List.map_congr_left
    intro j hj
    have hj := List.mem_range.mp hj
    unfold fldV
    split
    · rename_i ht
      rcases (h1 hq j hj).2 ht with e | ⟨e1, e2, -⟩
      · rw [e]; rfl
      · rw [if_neg (by omega), if_neg (by omega), ha _ (by omega)]
    · rfl
  · split
    · rfl
    · rename_i q1 q2
      simp only [Sum.inl.injEq, Prod.mk.injEq, Sum.inr.injEq, true_and]
      funext j
      split
      · rename_i hj
        rcases h3 (by omega) (j : Int) (by omega) hj.1 with e | ⟨e1, e2, -⟩
        · rw [e] at hj; omega
        · rw [ha _ (by omega)]
      · rfl
theorem enc_obj {ad : Nat → Nat} {C5 : Nat → ClassId} {k c : Nat} {σ : Mem} (h : shF k = 10 + c) (hc : c < 13) : encC ad C5 σ k = .inr (c, (List.range (nfF c)).map (fun (j : Nat) => fldV ad (ftF c j) (σ k j))) := by
  unfold encC
  rw [if_pos (by omega), h, Nat.add_sub_cancel_left]
theorem enc_arr {ad : Nat → Nat} {C5 : Nat → ClassId} {k t : Nat} {σ : Mem} (h : shF k = t) (h1 : 50 ≤ t) (h2 : t < 53) : encC ad C5 σ k = .inl (C5 t, (lnF k).toNat, .inl (fun (j : Nat) => Int32.ofInt (σ k j))) := by
  unfold encC
  rw [if_neg (by omega), if_pos (by omega), h]
theorem enc_rar {ad : Nat → Nat} {C5 : Nat → ClassId} {k t : Nat} {σ : Mem} (h : shF k = t) (h1 : 53 ≤ t) : encC ad C5 σ k = .inl (C5 t, (lnF k).toNat, .inr (.inr (.inr (.inr (fun (j : Nat) => if (j : Int) < lnF k ∧ 0 ≤ σ k j then some (ad (σ k j).toNat) else none))))) := by
  unfold encC
  rw [if_neg (by omega), if_neg (by omega), h]
theorem wr_ne {σ : Mem} {k j v a b : Int} (h : ¬ a = k) : wrM σ k j v a b = σ a b := if_neg (fun q => h q.1)
theorem enc_put {ad : Nat → Nat} {C5 : Nat → ClassId} {k c j : Nat} {σ : Mem} {v : Int} (h : shF k = 10 + c) (hc : c < 13) : encC ad C5 (wrM σ k j v) k = .inr (c, ((List.range (nfF c)).map (fun (j : Nat) => fldV ad (ftF c j) (σ k j))).set j (fldV ad (ftF c j) v)) := by
  rw [enc_obj h hc]
  congr 2
  apply List.ext_getElem?
  intro i
  rw [List.getElem?_set, List.getElem?_map]
  by_cases hi : j = i
  · subst hi
    rw [if_pos rfl]
    by_cases hj : j < nfF c
    · rw [List.getElem?_range hj, if_pos (by simpa using hj)]
      simp [wrM]
    · rw [if_neg (by simpa using hj), List.getElem?_eq_none (by simpa using hj)]
      rfl
  · rw [if_neg hi, List.getElem?_map]
    by_cases hj : i < nfF c
    · rw [List.getElem?_range hj]
      simp only [Option.map_some, Option.some.injEq]
      congr 1
      unfold wrM
      rw [if_neg]
      intro q
      exact hi (by omega)
    · rw [List.getElem?_eq_none (by simpa using hj)]
      rfl
theorem enc_ast {ad : Nat → Nat} {C5 : Nat → ClassId} {k t : Nat} {σ : Mem} {i v : Int} (h : shF k = t) (h1 : 50 ≤ t) (h2 : t < 53) (hi : 0 ≤ i) : encC ad C5 (wrM σ k i v) k = .inl (C5 t, (lnF k).toNat, .inl (upd (fun (j : Nat) => Int32.ofInt (σ k j)) i.toNat (Int32.ofInt v))) := by
  rw [enc_arr h h1 h2]
  simp only [Sum.inl.injEq, Prod.mk.injEq, true_and]
  funext j
  unfold upd wrM
  by_cases hj : j = i.toNat
  · rw [if_pos hj, if_pos ⟨rfl, by omega⟩]
  · rw [if_neg hj, if_neg (by intro q; omega)]
theorem enc_rst {ad : Nat → Nat} {C5 : Nat → ClassId} {k t : Nat} {σ : Mem} {i v : Int} (h : shF k = t) (h1 : 53 ≤ t) (hi : 0 ≤ i) (hl : i < lnF k) (hv : 0 ≤ v) : encC ad C5 (wrM σ k i v) k = .inl (C5 t, (lnF k).toNat, .inr (.inr (.inr (.inr (va_up (fun (j : Nat) => if (j : Int) < lnF k ∧ 0 ≤ σ k j then some (ad (σ k j).toNat) else none) i.toNat (some (ad v.toNat))))))) := by
  rw [enc_rar h h1]
  simp only [Sum.inl.injEq, Prod.mk.injEq, Sum.inr.injEq, true_and]
  funext j
  unfold va_up
  by_cases hj : j = i.toNat
  · have e1 : wrM σ k i v k j = v := if_pos ⟨rfl, by omega⟩
    rw [if_pos hj, e1, if_pos ⟨by omega, hv⟩]
  · have e1 : wrM σ k i v k j = σ k j := if_neg (by intro q; omega)
    rw [if_neg hj, e1]
end
section
/-! the small machine keeps its state well-formed -/
theorem sh_lt {n : Nat} (h : ¬ shF n = 0) : n < 138 := by
  rcases Nat.lt_or_ge n 138 with q | q
  · exact q
  · exact absurd (by unfold shF; rw [List.getD_eq_getElem?_getD, List.getElem?_eq_none (by exact q)]; rfl) h
theorem okM_wr {n k : Nat} {σ : Mem} {j v : Int} (hM : okM n σ) (hobj : shF k < 50 → ∀ i : Nat, (i : Int) = j → (ftF (shF k - 10) i < 10 → in32 v) ∧ (10 ≤ ftF (shF k - 10) i → okR n (ftF (shF k - 10) i) v)) (harr : 50 ≤ shF k → shF k < 53 → in32 v) (hrar : 53 ≤ shF k → okR n (elT (shF k)) v) : okM n (wrM σ k j v) := by
  obtain ⟨h1, h2, h3⟩ := hM
  refine ⟨h1, fun i => by rw [wr_ne (by omega)]; exact h2 i, fun k' hk' => ?_⟩
  by_cases e : k' = k
  · subst e
    obtain ⟨a1, a2, a3⟩ := h3 k' hk'
    refine ⟨fun q i hi => ?_, fun q1 q2 i i0 i1 => ?_, fun q i i0 i1 => ?_⟩
    · by_cases ei : (i : Int) = j
      · have e2 : wrM σ k' j v k' i = v := if_pos ⟨rfl, ei⟩
        rw [e2]
        exact hobj q i ei
      · have e2 : wrM σ k' j v k' i = σ k' i := if_neg (fun z => ei z.2)
        rw [e2]
        exact a1 q i hi
    · by_cases ei : i = j
      · have e2 : wrM σ k' j v k' i = v := if_pos ⟨rfl, ei⟩
        rw [e2]
        exact harr q1 q2
      · have e2 : wrM σ k' j v k' i = σ k' i := if_neg (fun z => ei z.2)
        rw [e2]
        exact a2 q1 q2 i i0 i1
    · by_cases ei : i = j
      · have e2 : wrM σ k' j v k' i = v := if_pos ⟨rfl, ei⟩
        rw [e2]
        exact hrar q
      · have e2 : wrM σ k' j v k' i = σ k' i := if_neg (fun z => ei z.2)
        rw [e2]
        exact a3 q i i0 i1
  · have e2 : ∀ x, wrM σ k j v k' x = σ k' x := fun x => wr_ne (by omega)
    simp only [e2]
    exact h3 k' hk'
theorem okM_mk {n : Nat} {σ : Mem} {f : Int → Int} (hM : okM n σ) (hn : n < 138) (hobj : shF n < 50 → ∀ i : Nat, (ftF (shF n - 10) i < 10 → in32 (f i)) ∧ (10 ≤ ftF (shF n - 10) i → f i = -1)) (harr : 50 ≤ shF n → shF n < 53 → ∀ i, in32 (f i)) (hrar : 53 ≤ shF n → ∀ i, f i = -1) : okM (n + 1) (mkM σ n f) := by
  obtain ⟨h1, h2, h3⟩ := hM
  have e1 : ∀ (a x : Int), ¬ a = n → mkM σ n f a x = σ a x := fun a x h => if_neg h
  have e0 : ∀ x : Int, mkM σ n f n x = f x := fun x => if_pos rfl
  refine ⟨by omega, fun i => by rw [e1 _ _ (by omega)]; exact h2 i, fun k hk => ?_⟩
  by_cases e : k = n
  · subst e
    simp only [e0]
    exact ⟨fun q i _ => ⟨(hobj q i).1, fun z => Or.inl ((hobj q i).2 z)⟩, fun q1 q2 i _ _ => harr q1 q2 i, fun q i _ _ => Or.inl (hrar q i)⟩
  · have e2 : ∀ x, mkM σ n f k x = σ k x := fun x => e1 _ _ (by omega)
    simp only [e2]
    obtain ⟨a1, a2, a3⟩ := h3 k (by omega)
    exact ⟨fun q i hi => ⟨(a1 q i hi).1, fun z => ((a1 q i hi).2 z).mono (by omega)⟩, a2, fun q i i0 i1 => (a3 q i i0 i1).mono (by omega)⟩
theorem okM_cp {n k1 k2 : Nat} {σ : Mem} {sp dp c : Int} (hM : okM n σ) (hk1 : k1 < n) (h1 : shF k1 = 50) (h2 : shF k2 = 50) (hsp : 0 ≤ sp) (hc : sp + c ≤ lnF k1) : okM n (cpM σ k1 sp k2 dp c) := by
  obtain ⟨q1, q2, q3⟩ := hM
  have e1 : ∀ (a x : Int), ¬ a = k2 → cpM σ k1 sp k2 dp c a x = σ a x := fun a x h => if_neg (fun z => h z.1)
  refine ⟨q1, fun i => by rw [e1 _ _ (by omega)]; exact q2 i, fun k hk => ?_⟩
  by_cases e : k = k2
  · subst e
    obtain ⟨-, a2, -⟩ := q3 k hk
    refine ⟨fun z => absurd z (by omega), fun z1 z2 i i0 i1 => ?_, fun z => absurd z (by omega)⟩
    unfold cpM
    split
    · rename_i hh
      exact (q3 k1 hk1).2.1 (by omega) (by omega) _ (by omega) (by omega)
    · exact a2 z1 z2 i i0 i1
  · have e2 : ∀ x, cpM σ k1 sp k2 dp c k x = σ k x := fun x => e1 _ _ (by omega)
    simp only [e2]
    exact q3 k hk
def okC (m n : Nat) (L st : List AV) (σ : Mem) : Prop := okM n σ ∧ (∀ x ∈ L, x.1 = 9 ∨ okV n x) ∧ (∀ x ∈ st, okV n x) ∧ (m ∉ mgL → ∀ x ∈ L, ¬ x.1 = 2)
theorem ok_cons {n : Nat} {x : AV} {st : List AV} (hx : okV n x) (h : ∀ y ∈ st, okV n y) : ∀ y ∈ x :: st, okV n y := fun y hy => (List.mem_cons.mp hy).elim (fun e => e ▸ hx) (h y)
theorem ok_tail {n : Nat} {x : AV} {st : List AV} (h : ∀ y ∈ x :: st, okV n y) : ∀ y ∈ st, okV n y := fun y hy => h y (List.mem_cons_of_mem _ hy)
theorem ok_head {n : Nat} {x : AV} {st : List AV} (h : ∀ y ∈ x :: st, okV n y) : okV n x := h x List.mem_cons_self
theorem okL_set {n a : Nat} {x : AV} {L : List AV} (hx : okV n x) (h : ∀ y ∈ L, y.1 = 9 ∨ okV n y) : ∀ y ∈ L.set a x, y.1 = 9 ∨ okV n y := fun y hy => (List.mem_or_eq_of_mem_set hy).elim (h y) (fun e => Or.inr (e ▸ hx))
theorem okL_sto {n a : Nat} {x : AV} {L : List AV} (hx : okV n x) (h : ∀ y ∈ L, y.1 = 9 ∨ okV n y) : ∀ y ∈ stoM L a x, y.1 = 9 ∨ okV n y := by
  unfold stoM
  split
  · intro y hy
    rcases List.mem_or_eq_of_mem_set hy with q | q
    · exact okL_set hx h y q
    · exact Or.inl (by rw [q])
  · exact okL_set hx h
theorem sto_len {a : Nat} {x : AV} {L : List AV} : (stoM L a x).length = L.length := by unfold stoM; split <;> simp
theorem bin_ok {k : Nat} {a b z : Int} (h : binM k a b = some z) : in32 z := by
  unfold binM at h
  split at h
  all_goals first | (cases h; exact t32 _) | (split at h <;> first | (cases h; done) | (cases h; exact t32 _)) | cases h
theorem lbin_ok {k : Nat} {a b z : Int} (h : lbinM k a b = some z) : in64 z := by
  unfold lbinM at h
  split at h
  all_goals first | (cases h; exact t64 _) | (split at h <;> first | (cases h; done) | (cases h; exact t64 _)) | cases h
theorem sc_ok : ∀ k : Nat, k < 7 → in32 (slF k) ∧ ∀ i : Nat, i < 10 → in32 (scF k i) := by unfold in32; decide +kernel
theorem sl_le : ∀ k : Nat, k < 7 → slF k ≤ 10 := by decide +kernel
end
section
theorem okR_sh {n t : Nat} {v : Int} (h : okR n t v) (hv : 0 ≤ v) : v.toNat < n ∧ shF v.toNat = t ∧ ((v.toNat : Nat) : Int) = v := by
  rcases h with h | ⟨h1, h2, h3⟩
  · omega
  · exact ⟨by omega, h3, by omega⟩
/-- a field of an object there -/
theorem okM_fld {n a b : Nat} {k : Int} {σ : Mem} (hM : okM n σ) (hk : okV n (10 + a, k)) (h0 : 0 ≤ k) (ha : a < 13) (hb : b < nfF a) : (ftF a b < 10 → in32 (σ k b)) ∧ (10 ≤ ftF a b → okR n (ftF a b) (σ k b)) := by
  obtain ⟨h1, h2, h3⟩ := okR_sh (hk.ref (by omega)) h0
  have h4 := (hM.2.2 k.toNat h1).1 (by rw [h2]; omega) b (by rw [h2, Nat.add_sub_cancel_left]; exact hb)
  rw [h2, Nat.add_sub_cancel_left, h3] at h4
  exact h4
theorem okM_arr {n t : Nat} {k i : Int} {σ : Mem} (hM : okM n σ) (hk : okV n (t, k)) (h1 : 50 ≤ t) (h2 : t < 53) (h0 : 0 ≤ k) (i0 : 0 ≤ i) (i1 : i < lnF k) : in32 (σ k i) := by
  obtain ⟨q1, q2, q3⟩ := okR_sh (hk.ref (by omega)) h0
  have h4 := (hM.2.2 k.toNat q1).2.1 (by omega) (by omega) i i0 (by rw [q3]; exact i1)
  rw [q3] at h4
  exact h4
theorem okM_rar {n t : Nat} {k i : Int} {σ : Mem} (hM : okM n σ) (hk : okV n (t, k)) (h1 : 53 ≤ t) (h0 : 0 ≤ k) (i0 : 0 ≤ i) (i1 : i < lnF k) : okR n (elT t) (σ k i) := by
  obtain ⟨q1, q2, q3⟩ := okR_sh (hk.ref (by omega)) h0
  have h4 := (hM.2.2 k.toNat q1).2.2 (by omega) i i0 (by rw [q3]; exact i1)
  rw [q3, q2] at h4
  exact h4
theorem okM_wrk {n : Nat} {k j v : Int} {σ : Mem} (hM : okM n σ) (h0 : 0 ≤ k) (hobj : shF k.toNat < 50 → ∀ i : Nat, (i : Int) = j → (ftF (shF k.toNat - 10) i < 10 → in32 v) ∧ (10 ≤ ftF (shF k.toNat - 10) i → okR n (ftF (shF k.toNat - 10) i) v)) (harr : 50 ≤ shF k.toNat → shF k.toNat < 53 → in32 v) (hrar : 53 ≤ shF k.toNat → okR n (elT (shF k.toNat)) v) : okM n (wrM σ k j v) := by
  have h := okM_wr (k := k.toNat) (j := j) (v := v) hM hobj harr hrar
  rwa [show ((k.toNat : Nat) : Int) = k by omega] at h
theorem fl_any {m a b : Nat} {v : Int} (h : flL.any (fun e => decide (e.1 = moF m ∧ e.2.1 = v.toNat ∧ e.2.2.1 = a ∧ e.2.2.2.1 = b)) = true) : (∃ i : Nat, lw_tbl[i]? = some (Cond.fieldLink (ownF (moF m)) v.toNat ((clF a).2.1 b).1 ((clF a).2.1 b).2.1 ((clF a).2.1 b).2.2.1)) ∧ b < nfF a ∧ a < 13 := by
  obtain ⟨e, he, h2⟩ := List.any_eq_true.mp h
  simp only [decide_eq_true_eq] at h2
  obtain ⟨h3, h4, h5, h6⟩ := h2
  obtain ⟨q1, q2, q3⟩ := fl_ok e he
  rw [h3, h4, h5, h6] at q1
  rw [h5, h6] at q2
  rw [h5] at q3
  exact ⟨⟨_, q1⟩, by rw [← (cw_ok a q3).2.1]; exact q2, q3⟩
set_option maxHeartbeats 4000000 in
theorem stp_ok {m pc op nx a b : Nat} {v : Int} {ts : List (Int × Nat)} {L st : List AV} {σ : Mem} {n pc' : Nat} {L' st' : List AV} {σ' : Mem} {n' : Nat} (hI : okI m pc (op, nx, a, b, v, ts) = true) (h : stpM S0 op nx a b v ts L st σ n = some (pc', L', st', σ', n')) (hC : okC m n L st σ) : okC m n' L' st' σ' ∧ n ≤ n' ∧ L'.length = L.length := by
  obtain ⟨hM, hL, hS, hG⟩ := hC
  unfold stpM at h
  split at h
  · -- 0
    simp only [Option.some.injEq, Prod.mk.injEq] at h
    obtain ⟨rfl, rfl, rfl, rfl, rfl⟩ := h
    simp only [okI, Bool.and_eq_true, decide_eq_true_eq] at hI
    exact ⟨⟨hM, hL, ok_cons (okV.i hI.1) hS, hG⟩, Nat.le_refl _, rfl⟩
  · -- 1
    simp only [Option.some.injEq, Prod.mk.injEq] at h
    obtain ⟨rfl, rfl, rfl, rfl, rfl⟩ := h
    refine ⟨⟨hM, hL, ok_cons (okV.l ?_) hS, hG⟩, Nat.le_refl _, rfl⟩
    simp only [okI] at hI
    split at hI
    · simp only [Bool.and_eq_true, Bool.or_eq_true, decide_eq_true_eq] at hI
      unfold in64
      rcases hI.1 with q | q <;> omega
    · simp only [Bool.and_eq_true] at hI
      obtain ⟨e, he, h2⟩ := List.any_eq_true.mp hI.2
      simp only [decide_eq_true_eq] at h2
      have q := (cj_ok e he).2
      rw [h2.2.2] at q
      exact q
  · -- 2
    simp only [Option.some.injEq, Prod.mk.injEq] at h
    obtain ⟨rfl, rfl, rfl, rfl, rfl⟩ := h
    simp only [okI, Bool.and_eq_true, decide_eq_true_eq] at hI
    exact ⟨⟨hM, hL, ok_cons (okV.r hI.2 (Or.inl rfl)) hS, hG⟩, Nat.le_refl _, rfl⟩
  · -- 3
    split at h
    · rename_i x hx
      split at h
      · rename_i hk
        simp only [Option.some.injEq, Prod.mk.injEq] at h
        obtain ⟨rfl, rfl, rfl, rfl, rfl⟩ := h
        simp only [okI, Bool.and_eq_true, decide_eq_true_eq] at hI
        have q := hL x (List.mem_of_getElem? hx)
        rcases q with q | q
        · exfalso
          unfold kdM at hk
          rw [q] at hk
          simp at hk
          omega
        · exact ⟨⟨hM, hL, ok_cons q hS, hG⟩, Nat.le_refl _, rfl⟩
      · cases h
    · cases h
  · -- 4
    split at h
    · rename_i x st0
      split at h
      · rename_i hk
        simp only [Option.some.injEq, Prod.mk.injEq] at h
        obtain ⟨rfl, rfl, rfl, rfl, rfl⟩ := h
        refine ⟨⟨hM, okL_sto (ok_head hS) hL, ok_tail hS, fun hg y hy => ?_⟩, Nat.le_refl _, sto_len⟩
        simp only [okI, Bool.and_eq_true, Bool.or_eq_true, decide_eq_true_eq] at hI
        have hb2 : b < 2 := by
          rcases hI.1.2 with q | q
          · exact q
          · exact absurd q hg
        have hx2 : ¬ x.1 = 2 := by
          intro q
          have q2 := hk.1
          unfold kdM at q2
          rw [q] at q2
          simp at q2
          omega
        unfold stoM at hy
        rw [if_neg hx2] at hy
        rcases List.mem_or_eq_of_mem_set hy with q | q
        · exact hG hg y q
        · rw [q]; exact hx2
      · cases h
    · cases h
  · -- 5
    split at h
    · rename_i x hx
      split at h
      · simp only [Option.some.injEq, Prod.mk.injEq] at h
        obtain ⟨rfl, rfl, rfl, rfl, rfl⟩ := h
        refine ⟨⟨hM, okL_set (okV.i (t32 _)) hL, hS, fun hg y hy => ?_⟩, Nat.le_refl _, by simp⟩
        rcases List.mem_or_eq_of_mem_set hy with q | q
        · exact hG hg y q
        · rw [q]; simp
      · cases h
    · cases h
  · -- 6
    split at h
    · split at h
      · rename_i hz
        simp only [Option.some.injEq, Prod.mk.injEq] at h
        obtain ⟨rfl, rfl, rfl, rfl, rfl⟩ := h
        exact ⟨⟨hM, hL, ok_cons (okV.i (bin_ok hz)) (ok_tail (ok_tail hS)), hG⟩, Nat.le_refl _, rfl⟩
      · cases h
    · cases h
  · -- 7
    split at h
    · split at h
      · rename_i hz
        simp only [Option.some.injEq, Prod.mk.injEq] at h
        obtain ⟨rfl, rfl, rfl, rfl, rfl⟩ := h
        exact ⟨⟨hM, hL, ok_cons (okV.l (lbin_ok hz)) (ok_tail (ok_tail hS)), hG⟩, Nat.le_refl _, rfl⟩
      · cases h
    · cases h
  · -- 8
    split at h
    · simp only [Option.some.injEq, Prod.mk.injEq] at h
      obtain ⟨rfl, rfl, rfl, rfl, rfl⟩ := h
      have q := (ok_head hS).int
      refine ⟨⟨hM, hL, ok_cons (okV.l ?_) (ok_tail hS), hG⟩, Nat.le_refl _, rfl⟩
      unfold in32 at q
      unfold in64
      omega
    · cases h
  · -- 9
    split at h
    · simp only [Option.some.injEq, Prod.mk.injEq] at h
      obtain ⟨rfl, rfl, rfl, rfl, rfl⟩ := h
      exact ⟨⟨hM, hL, ok_cons (okV.i (t32 _)) (ok_tail hS), hG⟩, Nat.le_refl _, rfl⟩
    · cases h
  · -- 10
    split at h
    · simp only [Option.some.injEq, Prod.mk.injEq] at h
      obtain ⟨rfl, rfl, rfl, rfl, rfl⟩ := h
      refine ⟨⟨hM, hL, ok_cons (okV.i ?_) (ok_tail (ok_tail hS)), hG⟩, Nat.le_refl _, rfl⟩
      unfold Zlcmp in32
      split
      · omega
      · split <;> omega
    · cases h
  · -- 11
    split at h
    · split at h
      · cases h
      · simp only [Option.some.injEq, Prod.mk.injEq] at h
        obtain ⟨rfl, rfl, rfl, rfl, rfl⟩ := h
        exact ⟨⟨hM, hL, ok_cons (ok_head hS) hS, hG⟩, Nat.le_refl _, rfl⟩
    · cases h
  · -- 12
    split at h
    · split at h
      · cases h
      · simp only [Option.some.injEq, Prod.mk.injEq] at h
        obtain ⟨rfl, rfl, rfl, rfl, rfl⟩ := h
        exact ⟨⟨hM, hL, ok_cons (ok_head hS) (ok_cons (ok_head (ok_tail hS)) hS), hG⟩, Nat.le_refl _, rfl⟩
    · cases h
  · -- 13
    split at h
    · simp only [Option.some.injEq, Prod.mk.injEq] at h
      obtain ⟨rfl, rfl, rfl, rfl, rfl⟩ := h
      exact ⟨⟨hM, hL, ok_tail hS, hG⟩, Nat.le_refl _, rfl⟩
    · cases h
  · -- 14
    split at h
    · simp only [Option.some.injEq, Prod.mk.injEq] at h
      obtain ⟨rfl, rfl, rfl, rfl, rfl⟩ := h
      exact ⟨⟨hM, hL, ok_tail (ok_tail hS), hG⟩, Nat.le_refl _, rfl⟩
    · cases h
  · -- 15
    split at h
    · split at h
      · simp only [Option.some.injEq, Prod.mk.injEq] at h
        obtain ⟨rfl, rfl, rfl, rfl, rfl⟩ := h
        exact ⟨⟨hM, hL, ok_tail hS, hG⟩, Nat.le_refl _, rfl⟩
      · cases h
    · cases h
  · -- 16
    split at h
    · split at h
      · simp only [Option.some.injEq, Prod.mk.injEq] at h
        obtain ⟨rfl, rfl, rfl, rfl, rfl⟩ := h
        exact ⟨⟨hM, hL, ok_tail hS, hG⟩, Nat.le_refl _, rfl⟩
      · cases h
    · cases h
  · -- 17
    split at h
    · split at h
      · simp only [Option.some.injEq, Prod.mk.injEq] at h
        obtain ⟨rfl, rfl, rfl, rfl, rfl⟩ := h
        exact ⟨⟨hM, hL, ok_tail (ok_tail hS), hG⟩, Nat.le_refl _, rfl⟩
      · cases h
    · cases h
  · -- 18
    simp only [Option.some.injEq, Prod.mk.injEq] at h
    obtain ⟨rfl, rfl, rfl, rfl, rfl⟩ := h
    exact ⟨⟨hM, hL, hS, hG⟩, Nat.le_refl _, rfl⟩
  · -- 19
    split at h
    · simp only [Option.some.injEq, Prod.mk.injEq] at h
      obtain ⟨rfl, rfl, rfl, rfl, rfl⟩ := h
      exact ⟨⟨hM, hL, ok_tail hS, hG⟩, Nat.le_refl _, rfl⟩
    · cases h
  · -- 21
    split at h
    · rename_i t k st0
      split at h
      · rename_i hk
        simp only [Option.some.injEq, Prod.mk.injEq] at h
        obtain ⟨rfl, rfl, rfl, rfl, rfl⟩ := h
        simp only [okI, Bool.and_eq_true] at hI
        obtain ⟨-, hb, ha⟩ := fl_any hI.2
        have hh := ok_head hS
        rw [hk.1] at hh
        have q := okM_fld hM hh hk.2 ha hb
        refine ⟨⟨hM, hL, ok_cons ?_ (ok_tail hS), hG⟩, Nat.le_refl _, rfl⟩
        show okV n (if ftF a b = 7 then 0 else ftF a b, σ k b)
        have q9 := ft_ok a ha b hb
        by_cases h10 : 10 ≤ ftF a b
        · rw [if_neg (by omega)]
          exact okV.r h10 (q.2 h10)
        · have h0 : (if ftF a b = 7 then 0 else ftF a b) = 0 := by
            split
            · rfl
            · rename_i h7
              unfold kTy at q9
              split at q9
              · assumption
              all_goals first | omega | (simp only [decide_eq_true_eq] at q9; omega)
          rw [h0]
          exact okV.i (q.1 (by omega))
      · cases h
    · cases h
  · -- 22
    split at h
    · rename_i t' x t k st0
      split at h
      · rename_i hk
        simp only [Option.some.injEq, Prod.mk.injEq] at h
        obtain ⟨rfl, rfl, rfl, rfl, rfl⟩ := h
        simp only [okI, Bool.and_eq_true, decide_eq_true_eq] at hI
        obtain ⟨-, hb, ha⟩ := fl_any hI.1.1.2
        have hh := ok_head (ok_tail hS)
        rw [hk.1] at hh
        obtain ⟨z1, z2, z3⟩ := okR_sh (hh.ref (by omega)) hk.2.1
        refine ⟨⟨okM_wrk hM hk.2.1 (fun _ i hi => ?_) (fun q => absurd q (by rw [z2]; omega)) (fun q => absurd q (by rw [z2]; omega)), hL, ok_tail (ok_tail hS), hG⟩, Nat.le_refl _, rfl⟩
        rw [z2, Nat.add_sub_cancel_left, show i = b by omega]
        have hx := ok_head hS
        have ht : t' = ftF a b := hk.2.2
        rw [ht] at hx
        refine ⟨fun q => ?_, fun q => hx.ref q⟩
        have q9 := ft_ok a ha b hb
        have h0 : ftF a b = 0 := by
          unfold kTy at q9
          split at q9
          · assumption
          all_goals first | omega | (simp only [decide_eq_true_eq] at q9; omega)
        rw [h0] at hx
        exact hx.int
      · cases h
    · cases h
  · -- 23
    split at h
    · rename_i x t k st0
      split at h
      · rename_i hk
        simp only [Option.some.injEq, Prod.mk.injEq] at h
        obtain ⟨rfl, rfl, rfl, rfl, rfl⟩ := h
        simp only [okI, Bool.and_eq_true, decide_eq_true_eq] at hI
        obtain ⟨-, hb, ha⟩ := fl_any hI.1.1.2
        have hh := ok_head (ok_tail hS)
        rw [hk.1] at hh
        obtain ⟨z1, z2, z3⟩ := okR_sh (hh.ref (by omega)) hk.2.1
        refine ⟨⟨okM_wrk hM hk.2.1 (fun _ i hi => ?_) (fun q => absurd q (by rw [z2]; omega)) (fun q => absurd q (by rw [z2]; omega)), hL, ok_tail (ok_tail hS), hG⟩, Nat.le_refl _, rfl⟩
        rw [z2, Nat.add_sub_cancel_left, show i = b by omega]
        exact ⟨fun _ => (ok_head hS).int, fun q => absurd hI.1.2 (by omega)⟩
      · cases h
    · cases h
  · -- 24
    split at h
    · rename_i i t k st0
      split at h
      · rename_i hk
        simp only [Option.some.injEq, Prod.mk.injEq] at h
        obtain ⟨rfl, rfl, rfl, rfl, rfl⟩ := h
        refine ⟨⟨hM, hL, ok_cons ?_ (ok_tail (ok_tail hS)), hG⟩, Nat.le_refl _, rfl⟩
        have hh := ok_head (ok_tail hS)
        have hk4 : i < lnF k := hk.2.2.2
        rw [hk.1] at hh
        simp only [okI, Bool.and_eq_true] at hI
        have hI := hI.1
        split at hI
        · simp only [Bool.and_eq_true, decide_eq_true_eq] at hI
          rw [hI.2]
          exact okV.i (okM_arr hM hh (by omega) (by omega) hk.2.1 hk.2.2.1 hk4)
        · simp only [Bool.and_eq_true, decide_eq_true_eq] at hI
          rw [hI.2]
          exact okV.i (okM_arr hM hh (by omega) (by omega) hk.2.1 hk.2.2.1 hk4)
        · simp only [Bool.and_eq_true, decide_eq_true_eq] at hI
          rw [hI.2]
          exact okV.i (okM_arr hM hh (by omega) (by omega) hk.2.1 hk.2.2.1 hk4)
        · simp only [Bool.and_eq_true, decide_eq_true_eq] at hI
          rw [hI.2]
          exact okV.r (by omega) (okM_rar hM hh (by omega) hk.2.1 hk.2.2.1 hk4)
        · simp only [Bool.and_eq_true, decide_eq_true_eq] at hI
          rw [hI.2]
          exact okV.r (by omega) (okM_rar hM hh (by omega) hk.2.1 hk.2.2.1 hk4)
        · cases hI
      · cases h
    · cases h
  · -- 28
    split at h
    · rename_i x i k st0
      split at h
      · rename_i hk
        simp only [Option.some.injEq, Prod.mk.injEq] at h
        obtain ⟨rfl, rfl, rfl, rfl, rfl⟩ := h
        obtain ⟨z1, z2, z3⟩ := okR_sh ((ok_head (ok_tail (ok_tail hS))).ref (by omega)) hk.1
        exact ⟨⟨okM_wrk hM hk.1 (fun q => absurd q (by omega)) (fun _ _ => (ok_head hS).int) (fun q => absurd q (by omega)), hL, ok_tail (ok_tail (ok_tail hS)), hG⟩, Nat.le_refl _, rfl⟩
      · cases h
    · cases h
  · -- 29
    split at h
    · rename_i x i k st0
      split at h
      · rename_i hk
        simp only [Option.some.injEq, Prod.mk.injEq] at h
        obtain ⟨rfl, rfl, rfl, rfl, rfl⟩ := h
        obtain ⟨z1, z2, z3⟩ := okR_sh ((ok_head (ok_tail (ok_tail hS))).ref (by omega)) hk.1
        exact ⟨⟨okM_wrk hM hk.1 (fun q => absurd q (by omega)) (fun _ _ => t32 _) (fun q => absurd q (by omega)), hL, ok_tail (ok_tail (ok_tail hS)), hG⟩, Nat.le_refl _, rfl⟩
      · cases h
    · cases h
  · -- 30
    split at h
    · rename_i x i k st0
      split at h
      · rename_i hk
        simp only [Option.some.injEq, Prod.mk.injEq] at h
        obtain ⟨rfl, rfl, rfl, rfl, rfl⟩ := h
        obtain ⟨z1, z2, z3⟩ := okR_sh ((ok_head (ok_tail (ok_tail hS))).ref (by omega)) hk.1
        exact ⟨⟨okM_wrk hM hk.1 (fun q => absurd q (by omega)) (fun _ _ => t32 _) (fun q => absurd q (by omega)), hL, ok_tail (ok_tail (ok_tail hS)), hG⟩, Nat.le_refl _, rfl⟩
      · cases h
    · cases h
  · -- 31
    split at h
    · rename_i t' x i t k st0
      split at h
      · rename_i hk
        simp only [Option.some.injEq, Prod.mk.injEq] at h
        obtain ⟨rfl, rfl, rfl, rfl, rfl⟩ := h
        obtain ⟨k1, k2, k3, k4, k5, k6⟩ := hk
        simp only [okI, Bool.and_eq_true, Bool.or_eq_true, decide_eq_true_eq] at hI
        have hab : 53 ≤ a ∧ elT a = b ∧ 10 ≤ b := by
          unfold elT
          rcases hI.2 with ⟨q1, q2⟩ | ⟨q1, q2⟩
          · rw [q1, q2]; simp
          · rw [q1, q2]; simp
        obtain ⟨z1, z2, z3⟩ := okR_sh ((ok_head (ok_tail (ok_tail hS))).ref (by omega)) k4
        refine ⟨⟨okM_wrk hM k4 (fun q => absurd q (by omega)) (fun _ q => absurd q (by omega)) (fun _ => ?_), hL, ok_tail (ok_tail (ok_tail hS)), hG⟩, Nat.le_refl _, rfl⟩
        rw [z2, k1, hab.2.1, ← k2]
        exact (ok_head hS).ref (by omega)
      · cases h
    · cases h
  · -- 32
    split at h
    · rename_i k st0
      split at h
      · rename_i hk
        simp only [Option.some.injEq, Prod.mk.injEq] at h
        obtain ⟨rfl, rfl, rfl, rfl, rfl⟩ := h
        obtain ⟨z1, z2, z3⟩ := okR_sh ((ok_head hS).ref (by omega)) hk
        refine ⟨⟨hM, hL, ok_cons (okV.i ?_) (ok_tail hS), hG⟩, Nat.le_refl _, rfl⟩
        show in32 (lnF k)
        have q := sh_ok k.toNat (by have := hM.1; omega)
        rw [z3] at q
        unfold in32
        omega
      · cases h
    · cases h
  · -- 33
    split at h
    · rename_i hk
      simp only [Option.some.injEq, Prod.mk.injEq] at h
      obtain ⟨rfl, rfl, rfl, rfl, rfl⟩ := h
      have hk : shF n = 10 + a := hk
      have hn := sh_lt (n := n) (by omega)
      simp only [okI, Bool.and_eq_true, decide_eq_true_eq] at hI
      have ha := hI.2
      refine ⟨⟨okM_mk hM hn (fun _ i => ?_) (fun q => absurd q (by omega)) (fun q => absurd q (by omega)), fun x hx => (hL x hx).imp id (fun q => q.mono (by omega)), ok_cons (okV.r (by omega) (Or.inr ⟨by omega, by omega, by rw [Int.toNat_natCast]; exact hk⟩)) (fun x hx => (hS x hx).mono (by omega)), hG⟩, by omega, rfl⟩
      rw [hk, Nat.add_sub_cancel_left]
      unfold dfl
      rw [Int.toNat_natCast]
      exact ⟨fun q => by rw [if_neg (by show ¬ 10 ≤ ftF a i; omega)]; exact z32, fun q => if_pos q⟩
    · cases h
  · -- 34
    split at h
    · rename_i x st0
      split at h
      · rename_i hk
        simp only [Option.some.injEq, Prod.mk.injEq] at h
        obtain ⟨rfl, rfl, rfl, rfl, rfl⟩ := h
        have hk1 : shF n = a := hk.1
        have ha : 50 ≤ a ∧ a < 53 := by
          simp only [okI, Bool.and_eq_true] at hI
          have hI := hI.1
          split at hI
          · omega
          · omega
          · omega
          · cases hI
        have hn := sh_lt (n := n) (by omega)
        exact ⟨⟨okM_mk hM hn (fun q => absurd q (by omega)) (fun _ _ _ => z32) (fun q => absurd q (by omega)), fun x hx => (hL x hx).imp id (fun q => q.mono (by omega)), ok_cons (okV.r (by omega) (Or.inr ⟨by omega, by omega, by rw [Int.toNat_natCast]; exact hk1⟩)) (fun x hx => (ok_tail hS x hx).mono (by omega)), hG⟩, by omega, rfl⟩
      · cases h
    · cases h
  · -- 35
    split at h
    · rename_i x st0
      split at h
      · rename_i hk
        simp only [Option.some.injEq, Prod.mk.injEq] at h
        obtain ⟨rfl, rfl, rfl, rfl, rfl⟩ := h
        have hk1 : shF n = a := hk.1
        have ha : 53 ≤ a := by
          simp only [okI, Bool.and_eq_true, Bool.or_eq_true, decide_eq_true_eq] at hI
          rcases hI.2 with q | q <;> omega
        have hn := sh_lt (n := n) (by omega)
        exact ⟨⟨okM_mk hM hn (fun q => absurd q (by omega)) (fun _ q => absurd q (by omega)) (fun _ _ => rfl), fun x hx => (hL x hx).imp id (fun q => q.mono (by omega)), ok_cons (okV.r (by omega) (Or.inr ⟨by omega, by omega, by rw [Int.toNat_natCast]; exact hk1⟩)) (fun x hx => (ok_tail hS x hx).mono (by omega)), hG⟩, by omega, rfl⟩
      · cases h
    · cases h
  · -- 37
    split at h
    · split at h
      · simp only [Option.some.injEq, Prod.mk.injEq] at h
        obtain ⟨rfl, rfl, rfl, rfl, rfl⟩ := h
        exact ⟨⟨hM, hL, ok_tail hS, hG⟩, Nat.le_refl _, rfl⟩
      · cases h
    · cases h
  · -- 43
    simp only [Option.some.injEq, Prod.mk.injEq] at h
    obtain ⟨rfl, rfl, rfl, rfl, rfl⟩ := h
    simp only [okI, Bool.and_eq_true] at hI
    obtain ⟨e, he, h2⟩ := List.any_eq_true.mp hI.2
    simp only [decide_eq_true_eq] at h2
    have q : ∀ e ∈ stL, e.2.2 < 7 := by decide +kernel
    have q := q e he
    exact ⟨⟨hM, hL, ok_cons (Or.inr (Or.inr (Or.inl ⟨rfl, by show (0 : Int) ≤ v; omega, by show v < 7; omega⟩))) hS, hG⟩, Nat.le_refl _, rfl⟩
  · -- 44
    split at h
    · rename_i k st0
      split at h
      · simp only [Option.some.injEq, Prod.mk.injEq] at h
        obtain ⟨rfl, rfl, rfl, rfl, rfl⟩ := h
        have q := (ok_head hS).str
        have q2 := (sc_ok k.toNat (by omega)).1
        rw [show ((k.toNat : Nat) : Int) = k by omega] at q2
        exact ⟨⟨hM, hL, ok_cons (okV.i q2) (ok_tail hS), hG⟩, Nat.le_refl _, rfl⟩
      · cases h
    · cases h
  · -- 45
    split at h
    · rename_i i k st0
      split at h
      · rename_i hk
        simp only [Option.some.injEq, Prod.mk.injEq] at h
        obtain ⟨rfl, rfl, rfl, rfl, rfl⟩ := h
        have q := (ok_head (ok_tail hS)).str
        have q1 := sl_le k.toNat (by omega)
        rw [show ((k.toNat : Nat) : Int) = k by omega] at q1
        have hk2 : i < slF k := hk.2.1
        have q2 := (sc_ok k.toNat (by omega)).2 i.toNat (by omega)
        rw [show ((k.toNat : Nat) : Int) = k by omega, show ((i.toNat : Nat) : Int) = i by omega] at q2
        exact ⟨⟨hM, hL, ok_cons (okV.i q2) (ok_tail (ok_tail hS)), hG⟩, Nat.le_refl _, rfl⟩
      · cases h
    · cases h
  · -- 46
    split at h
    · rename_i c dp k2 sp k1 st0
      split at h
      · rename_i hk
        simp only [Option.some.injEq, Prod.mk.injEq] at h
        obtain ⟨rfl, rfl, rfl, rfl, rfl⟩ := h
        obtain ⟨c1, c2, c3, c4, c5, c6, c7, c8, c9⟩ := hk
        obtain ⟨z1, z2, z3⟩ := okR_sh ((ok_head (ok_tail (ok_tail (ok_tail (ok_tail hS))))).ref (by omega)) c1
        obtain ⟨y1, y2, y3⟩ := okR_sh ((ok_head (ok_tail (ok_tail hS))).ref (by omega)) c2
        have q := okM_cp (k1 := k1.toNat) (k2 := k2.toNat) (sp := sp) (dp := dp) (c := c) hM z1 z2 y2 c5 (by rw [z3]; exact c7)
        rw [z3, y3] at q
        exact ⟨⟨q, hL, ok_tail (ok_tail (ok_tail (ok_tail (ok_tail hS)))), hG⟩, Nat.le_refl _, rfl⟩
      · cases h
    · cases h
  · -- 47
    split at h
    · split at h
      · simp only [Option.some.injEq, Prod.mk.injEq] at h
        obtain ⟨rfl, rfl, rfl, rfl, rfl⟩ := h
        exact ⟨⟨hM, hL, ok_cons (okV.i (hM.2.1 _)) (ok_tail (ok_tail hS)), hG⟩, Nat.le_refl _, rfl⟩
      · cases h
    · cases h
  · -- 48
    split at h
    · simp only [Option.some.injEq, Prod.mk.injEq] at h
      obtain ⟨rfl, rfl, rfl, rfl, rfl⟩ := h
      exact ⟨⟨hM, hL, ok_cons (okV.i (hM.2.1 _)) (ok_tail hS), hG⟩, Nat.le_refl _, rfl⟩
    · cases h
  · -- 49
    split at h
    · split at h
      · simp only [Option.some.injEq, Prod.mk.injEq] at h
        obtain ⟨rfl, rfl, rfl, rfl, rfl⟩ := h
        refine ⟨⟨hM, hL, ok_cons (okV.i ?_) (ok_tail (ok_tail hS)), hG⟩, Nat.le_refl _, rfl⟩
        have q1 := (ok_head hS).int
        have q2 := (ok_head (ok_tail hS)).int
        split
        · split <;> assumption
        · split <;> assumption
      · cases h
    · cases h
  · cases h
end
section
/-! an instruction of the small machine is one of the machine: rows over W -/
theorem isI_d {m pc len : Nat} {i : Instr} (h : isI m pc i len = true) : decode (mcF m) pc = .ok (i, len) := of_decide_eq_true h
theorem i8c {v : Int} (h1 : -128 ≤ v) (h2 : v ≤ 127) : (Int8.ofInt v).toInt32 = Int32.ofInt v := by
  rw [← Int32.toInt_inj, Int8.toInt_toInt32, Int8.toInt_ofInt, o32 (by unfold in32; omega)]
  show v.bmod 256 = v
  exact Int.bmod_eq_of_le (by omega) (by omega)
theorem i16c {v : Int} (h1 : -32768 ≤ v) (h2 : v ≤ 32767) : (Int16.ofInt v).toInt32 = Int32.ofInt v := by
  rw [← Int32.toInt_inj, Int16.toInt_toInt32, Int16.toInt_ofInt, o32 (by unfold in32; omega)]
  show v.bmod 65536 = v
  exact Int.bmod_eq_of_le (by omega) (by omega)
theorem i64c {v : Int} (h : in32 v) : (Int32.ofInt v).toInt64 = Int64.ofInt v := by
  rw [← Int64.toInt_inj, Int32.toInt_toInt64, o32 h, o64 (by unfold in32 at h; unfold in64; omega)]
theorem fin4_v {a : Nat} (h : a < 4) : ((fin4 a : Fin 4) : Nat) = a := Nat.mod_eq_of_lt h
/-- the locals -/
def LrM (ad adK : Nat → Nat) (b0 : Nat) (ls : Array Slot) (nL : Nat) (L : List AV) : Prop := L.length = nL ∧ ls.size = nL ∧ lv_wf ls ∧ ∀ (i : Nat) (x : AV), L[i]? = some x → ¬ x.1 = 9 → ls[i]? = some (.val (cnV ad adK b0 x))
def lvL (ad adK : Nat → Nat) (b0 : Nat) (L : List AV) : List (Nat × Value) := (List.range L.length).filterMap (fun i => match L[i]? with
  | some x => if x.1 = 9 then none else some (i, cnV ad adK b0 x)
  | none => none)
theorem lvL_mem {ad adK : Nat → Nat} {b0 : Nat} {L : List AV} {i : Nat} {x : AV} (h : L[i]? = some x) (h9 : ¬ x.1 = 9) : (i, cnV ad adK b0 x) ∈ lvL ad adK b0 L := by
  unfold lvL
  refine List.mem_filterMap.mpr ⟨i, List.mem_range.mpr (List.getElem?_eq_some_iff.mp h).1, ?_⟩
  rw [h]
  simp only
  rw [if_neg h9]
theorem noL_s {L : List AV} {i : Nat} {y : AV} (hn : noLM L (i + 1) = true) (hy : L[i]? = some y) : ¬ y.1 = 2 := by
  simp only [noLM, hy, decide_eq_true_eq] at hn
  exact hn
theorem LrM.has {ad adK : Nat → Nat} {b0 nL : Nat} {ls : Array Slot} {L : List AV} (h : LrM ad adK b0 ls nL L) : lv_has ls nL (lvL ad adK b0 L) := by
  obtain ⟨h1, h2, h3, h4⟩ := h
  refine ⟨h2, h3, fun q hq => ?_⟩
  obtain ⟨i, hi, he⟩ := List.mem_filterMap.mp hq
  cases hL : L[i]? with
  | none => rw [hL] at he; cases he
  | some x =>
    rw [hL] at he
    simp only at he
    split at he
    · cases he
    · rename_i h9
      cases he
      exact h4 i x hL h9
theorem LrM.of_store {ad adK : Nat → Nat} {b0 nL a : Nat} {ls ls' : Array Slot} {L : List AV} {x : AV} (h : LrM ad adK b0 ls nL L) (hn : noLM L a = true ∨ ∀ y ∈ L, ¬ y.1 = 2) (hc : ¬ x.1 = 2) (h' : lv_has ls' nL ((a, cnV ad adK b0 x) :: (lvL ad adK b0 L).filter (fun q => !(q.1 == a) && !(q.1 + 1 == a && q.2.category == 2)))) : LrM ad adK b0 ls' nL (L.set a x) := by
  obtain ⟨h1, h2, h3, h4⟩ := h
  obtain ⟨g1, g2, g3⟩ := h'
  refine ⟨by rw [List.length_set]; exact h1, g1, g2, fun i y hy h9 => ?_⟩
  rw [List.getElem?_set] at hy
  by_cases hi : a = i
  · subst hi
    rw [if_pos rfl] at hy
    split at hy
    · cases hy
      exact g3 _ List.mem_cons_self
    · cases hy
  · rw [if_neg hi] at hy
    refine g3 (i, cnV ad adK b0 y) (List.mem_cons_of_mem _ (List.mem_filter.mpr ⟨lvL_mem hy h9, ?_⟩))
    simp only [Bool.and_eq_true, Bool.not_eq_true', beq_eq_false_iff_ne, ne_eq, Bool.and_eq_false_iff]
    refine ⟨fun q => hi q.symm, ?_⟩
    by_cases ha : i + 1 = a
    · right
      rw [cn_cat]
      have hy2 : ¬ y.1 = 2 := by
        rcases hn with hn | hn
        · subst ha
          exact noL_s hn hy
        · exact hn y (List.mem_of_getElem? hy)
      unfold catM
      rw [if_neg hy2]
      decide
    · left
      exact ha
theorem LrM.of_store2 {ad adK : Nat → Nat} {b0 nL a : Nat} {ls ls' : Array Slot} {L : List AV} {x : AV} (h : LrM ad adK b0 ls nL L) (hn : noLM L a = true) (h' : lv_has ls' nL ((a, cnV ad adK b0 x) :: (lvL ad adK b0 L).filter (fun q => !(q.1 == a) && (!(q.1 == a + 1) && !(q.1 + 1 == a && q.2.category == 2))))) : LrM ad adK b0 ls' nL ((L.set a x).set (a + 1) (9, 0)) := by
  obtain ⟨h1, h2, h3, h4⟩ := h
  obtain ⟨g1, g2, g3⟩ := h'
  refine ⟨by rw [List.length_set, List.length_set]; exact h1, g1, g2, fun i y hy h9 => ?_⟩
  rw [List.getElem?_set] at hy
  by_cases hj : a + 1 = i
  · rw [if_pos hj] at hy
    split at hy
    · cases hy
      exact absurd rfl h9
    · cases hy
  · rw [if_neg hj, List.getElem?_set] at hy
    by_cases hi : a = i
    · subst hi
      rw [if_pos rfl] at hy
      split at hy
      · cases hy
        exact g3 _ List.mem_cons_self
      · cases hy
    · rw [if_neg hi] at hy
      refine g3 (i, cnV ad adK b0 y) (List.mem_cons_of_mem _ (List.mem_filter.mpr ⟨lvL_mem hy h9, ?_⟩))
      simp only [Bool.and_eq_true, Bool.not_eq_true', beq_eq_false_iff_ne, ne_eq, Bool.and_eq_false_iff]
      refine ⟨fun q => hi q.symm, fun q => hj q.symm, ?_⟩
      by_cases ha : i + 1 = a
      · right
        rw [cn_cat]
        have hy2 : ¬ y.1 = 2 := by
          subst ha
          exact noL_s hn hy
        unfold catM
        rw [if_neg hy2]
        decide
      · left
        exact ha
theorem LrM.ad {ad ad' adK : Nat → Nat} {b0 nL n : Nat} {ls : Array Slot} {L : List AV} (h : LrM ad adK b0 ls nL L) (hL : ∀ x ∈ L, x.1 = 9 ∨ okV n x) (ha : ∀ k, k < n → ad' k = ad k) : LrM ad' adK b0 ls nL L := by
  obtain ⟨h1, h2, h3, h4⟩ := h
  refine ⟨h1, h2, h3, fun i x hx h9 => ?_⟩
  rw [cn_ad ((hL x (List.mem_of_getElem? hx)).resolve_left h9) ha]
  exact h4 i x hx h9
section WST
variable {p : Program} {l : Launch} {e : Env} {R : Room} {s : State} {mid : MethodId} {args : Array Value} {below : List Frame} {meth : Method} {c : Code} {H : Heap} {locs : List Loc} {cells slots : Nat} {Q : State → Prop} {m pc nx a b : Nat} {v : Int} {ts : List (Int × Nat)} {ls : Array Slot} {rest : List Value}
theorem w_0 (hx : p.tables.exec = Jvm.exec) (hb : c.code = mcF m) (hown : s.vm.findClass (ownF (moF m)) = some mid.cls) (hts : ∀ w ∈ gtbl, w.before args s = true) (ok : okI m pc (0, nx, a, b, v, ts) = true) (k : W p l e R s mid args below meth c H locs cells slots Q (F0 mid nx ls (.int (Int32.ofInt v) :: rest))) : W p l e R s mid args below meth c H locs cells slots Q (F0 mid pc ls (rest)) := by
  simp only [okI, Bool.and_eq_true, decide_eq_true_eq] at ok
  obtain ⟨-, ok⟩ := ok
  split at ok
  · simp only [Bool.and_eq_true, decide_eq_true_eq] at ok
    obtain ⟨h1, rfl⟩ := ok
    exact lv_iconst hx hb (isI_d h1) rfl k
  · simp only [Bool.and_eq_true, decide_eq_true_eq] at ok
    obtain ⟨⟨h1, rfl⟩, h2⟩ := ok
    exact lv_bipush hx hb (isI_d h1) (i8c h2.1 h2.2) k
  · simp only [Bool.and_eq_true, decide_eq_true_eq] at ok
    obtain ⟨⟨h1, rfl⟩, h2⟩ := ok
    exact lv_sipush hx hb (isI_d h1) (i16c h2.1 h2.2) k
  · simp only [Bool.and_eq_true, decide_eq_true_eq] at ok
    obtain ⟨⟨h1, rfl⟩, h2⟩ := ok
    obtain ⟨e, he, h3⟩ := List.any_eq_true.mp h2
    simp only [decide_eq_true_eq] at h3
    have q := ci_ok e he
    rw [h3.1, h3.2.1, h3.2.2] at q
    exact lv_ldc hx hb hown (hts _ (gt_of q rfl)) (isI_d h1) k
theorem w_1 (hx : p.tables.exec = Jvm.exec) (hb : c.code = mcF m) (hown : s.vm.findClass (ownF (moF m)) = some mid.cls) (hts : ∀ w ∈ gtbl, w.before args s = true) (ok : okI m pc (1, nx, a, b, v, ts) = true) (k : W p l e R s mid args below meth c H locs cells slots Q (F0 mid nx ls (.long (Int64.ofInt v) :: rest))) : W p l e R s mid args below meth c H locs cells slots Q (F0 mid pc ls (rest)) := by
  simp only [okI] at ok
  split at ok
  · simp only [Bool.and_eq_true, Bool.or_eq_true, decide_eq_true_eq] at ok
    obtain ⟨ok, rfl⟩ := ok
    rcases ok with ⟨rfl, h1⟩ | ⟨rfl, h1⟩
    · exact lv_lconst hx hb (isI_d h1) rfl k
    · exact lv_lconst hx hb (isI_d h1) rfl k
  · simp only [Bool.and_eq_true, decide_eq_true_eq] at ok
    obtain ⟨⟨h1, rfl⟩, h2⟩ := ok
    obtain ⟨e, he, h3⟩ := List.any_eq_true.mp h2
    simp only [decide_eq_true_eq] at h3
    have q := (cj_ok e he).1
    rw [h3.1, h3.2.1, h3.2.2] at q
    exact lv_ldc2 hx hb hown (hts _ (gt_of q rfl)) (isI_d h1) k
theorem w_2 (hx : p.tables.exec = Jvm.exec) (hb : c.code = mcF m) (ok : okI m pc (2, nx, a, b, v, ts) = true) (k : W p l e R s mid args below meth c H locs cells slots Q (F0 mid nx ls (.null :: rest))) : W p l e R s mid args below meth c H locs cells slots Q (F0 mid pc ls (rest)) := by
  simp only [okI, Bool.and_eq_true, decide_eq_true_eq] at ok
  obtain ⟨⟨h1, rfl⟩, -⟩ := ok
  exact lv_null hx hb (isI_d h1) k
theorem w_3i (hx : p.tables.exec = Jvm.exec) (hb : c.code = mcF m) {x : Int32} (ok : okI m pc (3, nx, a, b, v, ts) = true) (hk : b = 0) (hl : ls[a]? = some (.val (.int x))) (k : W p l e R s mid args below meth c H locs cells slots Q (F0 mid nx ls (.int x :: rest))) : W p l e R s mid args below meth c H locs cells slots Q (F0 mid pc ls (rest)) := by
  subst hk
  simp only [okI, Bool.and_eq_true] at ok
  obtain ⟨-, ok⟩ := ok
  split at ok
  · simp only [Bool.and_eq_true, decide_eq_true_eq] at ok
    obtain ⟨⟨h1, rfl⟩, h2⟩ := ok
    exact lv_iload_n hx hb (isI_d h1) (fin4_v h2) hl k
  · simp only [Bool.and_eq_true, decide_eq_true_eq] at ok
    obtain ⟨h1, rfl⟩ := ok
    exact lv_iload hx hb (isI_d h1) hl k
theorem w_3l (hx : p.tables.exec = Jvm.exec) (hb : c.code = mcF m) {x : Int64} (ok : okI m pc (3, nx, a, b, v, ts) = true) (hk : b = 2) (hl : ls[a]? = some (.val (.long x))) (k : W p l e R s mid args below meth c H locs cells slots Q (F0 mid nx ls (.long x :: rest))) : W p l e R s mid args below meth c H locs cells slots Q (F0 mid pc ls (rest)) := by
  subst hk
  simp only [okI, Bool.and_eq_true] at ok
  obtain ⟨-, ok⟩ := ok
  split at ok
  · simp only [Bool.and_eq_true, decide_eq_true_eq] at ok
    obtain ⟨⟨h1, rfl⟩, h2⟩ := ok
    exact lv_lload_n hx hb (isI_d h1) (fin4_v h2) hl k
  · simp only [Bool.and_eq_true, decide_eq_true_eq] at ok
    obtain ⟨h1, rfl⟩ := ok
    exact lv_lload hx hb (isI_d h1) hl k
theorem w_3a (hx : p.tables.exec = Jvm.exec) (hb : c.code = mcF m) {x : Nat} (ok : okI m pc (3, nx, a, b, v, ts) = true) (hk : b = 1) (hl : ls[a]? = some (.val (.ref x))) (k : W p l e R s mid args below meth c H locs cells slots Q (F0 mid nx ls (.ref x :: rest))) : W p l e R s mid args below meth c H locs cells slots Q (F0 mid pc ls (rest)) := by
  subst hk
  simp only [okI, Bool.and_eq_true] at ok
  obtain ⟨-, ok⟩ := ok
  split at ok
  · simp only [Bool.and_eq_true, decide_eq_true_eq] at ok
    obtain ⟨⟨h1, rfl⟩, h2⟩ := ok
    exact lv_aload_n hx hb (isI_d h1) (fin4_v h2) hl k
  · simp only [Bool.and_eq_true, decide_eq_true_eq] at ok
    obtain ⟨h1, rfl⟩ := ok
    exact lv_aload hx hb (isI_d h1) hl k
theorem w_3n (hx : p.tables.exec = Jvm.exec) (hb : c.code = mcF m) (ok : okI m pc (3, nx, a, b, v, ts) = true) (hk : b = 1) (hl : ls[a]? = some (.val .null)) (k : W p l e R s mid args below meth c H locs cells slots Q (F0 mid nx ls (.null :: rest))) : W p l e R s mid args below meth c H locs cells slots Q (F0 mid pc ls (rest)) := by
  subst hk
  simp only [okI, Bool.and_eq_true] at ok
  obtain ⟨-, ok⟩ := ok
  split at ok
  · simp only [Bool.and_eq_true, decide_eq_true_eq] at ok
    obtain ⟨⟨h1, rfl⟩, h2⟩ := ok
    exact lv_aload_nN hx hb (isI_d h1) (fin4_v h2) hl k
  · simp only [Bool.and_eq_true, decide_eq_true_eq] at ok
    obtain ⟨h1, rfl⟩ := ok
    exact lv_aloadN hx hb (isI_d h1) hl k
theorem w_4i (hx : p.tables.exec = Jvm.exec) (hb : c.code = mcF m) {nL : Nat} {lv : List (Nat × Value)} {x : Int32} (ok : okI m pc (4, nx, a, b, v, ts) = true) (hk : b = 0) (h : lv_has ls nL lv) (hn : a < nL) (k : ∀ ls' : Array Slot, lv_has ls' nL ((a, Value.int x) :: lv.filter (fun q => !(q.1 == a) && !(q.1 + 1 == a && q.2.category == 2))) → W p l e R s mid args below meth c H locs cells slots Q (F0 mid nx ls' (rest))) : W p l e R s mid args below meth c H locs cells slots Q (F0 mid pc ls (Value.int x :: rest)) := by
  subst hk
  simp only [okI, Bool.and_eq_true] at ok
  obtain ⟨-, ok⟩ := ok
  split at ok
  · simp only [Bool.and_eq_true, decide_eq_true_eq] at ok
    obtain ⟨⟨h1, rfl⟩, h2⟩ := ok
    exact lv_istore_n hx hb (isI_d h1) (fin4_v h2) h hn rfl k
  · simp only [Bool.and_eq_true, decide_eq_true_eq] at ok
    obtain ⟨h1, rfl⟩ := ok
    exact lv_istore hx hb (isI_d h1) h hn rfl k
theorem w_4a (hx : p.tables.exec = Jvm.exec) (hb : c.code = mcF m) {nL : Nat} {lv : List (Nat × Value)} {x : Nat} (ok : okI m pc (4, nx, a, b, v, ts) = true) (hk : b = 1) (h : lv_has ls nL lv) (hn : a < nL) (k : ∀ ls' : Array Slot, lv_has ls' nL ((a, Value.ref x) :: lv.filter (fun q => !(q.1 == a) && !(q.1 + 1 == a && q.2.category == 2))) → W p l e R s mid args below meth c H locs cells slots Q (F0 mid nx ls' (rest))) : W p l e R s mid args below meth c H locs cells slots Q (F0 mid pc ls (Value.ref x :: rest)) := by
  subst hk
  simp only [okI, Bool.and_eq_true] at ok
  obtain ⟨-, ok⟩ := ok
  split at ok
  · simp only [Bool.and_eq_true, decide_eq_true_eq] at ok
    obtain ⟨⟨h1, rfl⟩, h2⟩ := ok
    exact lv_astore_n hx hb (isI_d h1) (fin4_v h2) h hn rfl k
  · simp only [Bool.and_eq_true, decide_eq_true_eq] at ok
    obtain ⟨h1, rfl⟩ := ok
    exact lv_astore hx hb (isI_d h1) h hn rfl k
theorem w_4n (hx : p.tables.exec = Jvm.exec) (hb : c.code = mcF m) {nL : Nat} {lv : List (Nat × Value)}  (ok : okI m pc (4, nx, a, b, v, ts) = true) (hk : b = 1) (h : lv_has ls nL lv) (hn : a < nL) (k : ∀ ls' : Array Slot, lv_has ls' nL ((a, Value.null) :: lv.filter (fun q => !(q.1 == a) && !(q.1 + 1 == a && q.2.category == 2))) → W p l e R s mid args below meth c H locs cells slots Q (F0 mid nx ls' (rest))) : W p l e R s mid args below meth c H locs cells slots Q (F0 mid pc ls (Value.null :: rest)) := by
  subst hk
  simp only [okI, Bool.and_eq_true] at ok
  obtain ⟨-, ok⟩ := ok
  split at ok
  · simp only [Bool.and_eq_true, decide_eq_true_eq] at ok
    obtain ⟨⟨h1, rfl⟩, h2⟩ := ok
    exact lv_astore_nN hx hb (isI_d h1) (fin4_v h2) h hn rfl k
  · simp only [Bool.and_eq_true, decide_eq_true_eq] at ok
    obtain ⟨h1, rfl⟩ := ok
    exact lv_astoreN hx hb (isI_d h1) h hn rfl k
theorem w_4l (hx : p.tables.exec = Jvm.exec) (hb : c.code = mcF m) {nL : Nat} {lv : List (Nat × Value)} {x : Int64} (ok : okI m pc (4, nx, a, b, v, ts) = true) (hk : b = 2) (h : lv_has ls nL lv) (hn : a + 1 < nL) (k : ∀ ls' : Array Slot, lv_has ls' nL ((a, Value.long x) :: lv.filter (fun q => !(q.1 == a) && (!(q.1 == a + 1) && !(q.1 + 1 == a && q.2.category == 2)))) → W p l e R s mid args below meth c H locs cells slots Q (F0 mid nx ls' (rest))) : W p l e R s mid args below meth c H locs cells slots Q (F0 mid pc ls (Value.long x :: rest)) := by
  subst hk
  simp only [okI, Bool.and_eq_true] at ok
  obtain ⟨-, ok⟩ := ok
  split at ok
  · simp only [Bool.and_eq_true, decide_eq_true_eq] at ok
    obtain ⟨⟨h1, rfl⟩, h2⟩ := ok
    exact lv_lstore_n hx hb (isI_d h1) (fin4_v h2) h hn rfl k
  · simp only [Bool.and_eq_true, decide_eq_true_eq] at ok
    obtain ⟨h1, rfl⟩ := ok
    exact lv_lstore hx hb (isI_d h1) h hn rfl k
theorem w_5 (hx : p.tables.exec = Jvm.exec) (hb : c.code = mcF m) {nL : Nat} {lv : List (Nat × Value)} {x : Int32} (ok : okI m pc (5, nx, a, b, v, ts) = true) (h : lv_has ls nL lv) (hm : (a, Value.int x) ∈ lv) (hn : a < nL) (k : ∀ ls' : Array Slot, lv_has ls' nL ((a, Value.int (x + Int32.ofInt v)) :: lv.filter (fun q => !(q.1 == a) && !(q.1 + 1 == a && q.2.category == 2))) → W p l e R s mid args below meth c H locs cells slots Q (F0 mid nx ls' (rest))) : W p l e R s mid args below meth c H locs cells slots Q (F0 mid pc ls (rest)) := by
  simp only [okI, Bool.and_eq_true, decide_eq_true_eq] at ok
  obtain ⟨⟨h1, rfl⟩, -⟩ := ok
  obtain ⟨i, hi⟩ := List.getElem?_of_mem hm
  exact lv_iinc hx hb (isI_d h1) h hi rfl hn rfl k
theorem w_6 (hx : p.tables.exec = Jvm.exec) (hb : c.code = mcF m) {x y z : Int} (ok : okI m pc (6, nx, a, b, v, ts) = true) (h0 : in32 y) (hz : binM b x y = some z) (k : W p l e R s mid args below meth c H locs cells slots Q (F0 mid nx ls (.int (Int32.ofInt z) :: rest))) : W p l e R s mid args below meth c H locs cells slots Q (F0 mid pc ls (.int (Int32.ofInt y) :: .int (Int32.ofInt x) :: rest)) := by
  simp only [okI, Bool.and_eq_true, decide_eq_true_eq] at ok
  obtain ⟨⟨h1, rfl⟩, h2⟩ := ok
  have h1 := isI_d h1
  unfold binM at hz
  split at hz
  · cases hz
    rw [Zadd, r32] at k
    exact lv_iadd hx hb h1 k
  · cases hz
    rw [Zsub, r32] at k
    exact lv_isub hx hb h1 k
  · cases hz
    rw [Zmul, r32] at k
    exact lv_imul hx hb h1 k
  · cases hz
    rw [Zand, r32] at k
    exact lv_iand hx hb h1 k
  · cases hz
    rw [Zor, r32] at k
    exact lv_ior hx hb h1 k
  · cases hz
    rw [Zshl, r32] at k
    exact lv_ishl hx hb h1 k
  · cases hz
    rw [Zshr, r32] at k
    exact lv_ishr hx hb h1 k
  · split at hz
    · cases hz
    · rename_i hne
      cases hz
      rw [Zdiv, r32] at k
      exact lv_idiv hx hb h1 (fun q => hne ((eq32 h0 z32).mp q)) k
  · split at hz
    · cases hz
    · rename_i hne
      cases hz
      rw [Zrem, r32] at k
      exact lv_irem hx hb h1 (fun q => hne ((eq32 h0 z32).mp q)) k
  · cases hz
theorem w_7 (hx : p.tables.exec = Jvm.exec) (hb : c.code = mcF m) {x y z : Int} (ok : okI m pc (7, nx, a, b, v, ts) = true) (h0 : in64 y) (hz : lbinM b x y = some z) (k : W p l e R s mid args below meth c H locs cells slots Q (F0 mid nx ls (.long (Int64.ofInt z) :: rest))) : W p l e R s mid args below meth c H locs cells slots Q (F0 mid pc ls (.long (Int64.ofInt y) :: .long (Int64.ofInt x) :: rest)) := by
  simp only [okI, Bool.and_eq_true, decide_eq_true_eq] at ok
  obtain ⟨⟨h1, rfl⟩, h2⟩ := ok
  have h1 := isI_d h1
  unfold lbinM at hz
  split at hz
  · cases hz
    rw [Zladd, r64] at k
    exact lv_ladd hx hb h1 k
  · cases hz
    rw [Zlmul, r64] at k
    exact lv_lmul hx hb h1 k
  · split at hz
    · cases hz
    · rename_i hne
      cases hz
      rw [Zldiv, r64] at k
      refine lv_ldiv hx hb h1 (fun q => hne ?_) k
      have q2 := congrArg Int64.toInt q
      rw [o64 h0] at q2
      exact q2
  · cases hz
theorem w_8 (hx : p.tables.exec = Jvm.exec) (hb : c.code = mcF m) {x : Int} (ok : okI m pc (8, nx, a, b, v, ts) = true) (h0 : in32 x) (k : W p l e R s mid args below meth c H locs cells slots Q (F0 mid nx ls (.long (Int64.ofInt x) :: rest))) : W p l e R s mid args below meth c H locs cells slots Q (F0 mid pc ls (.int (Int32.ofInt x) :: rest)) := by
  simp only [okI, Bool.and_eq_true, decide_eq_true_eq] at ok
  obtain ⟨h1, rfl⟩ := ok
  exact lv_i2l hx hb (isI_d h1) (i64c h0) k
theorem w_9 (hx : p.tables.exec = Jvm.exec) (hb : c.code = mcF m) {x : Int} (ok : okI m pc (9, nx, a, b, v, ts) = true) (k : W p l e R s mid args below meth c H locs cells slots Q (F0 mid nx ls (.int (Int32.ofInt (Zi2b x)) :: rest))) : W p l e R s mid args below meth c H locs cells slots Q (F0 mid pc ls (.int (Int32.ofInt x) :: rest)) := by
  simp only [okI, Bool.and_eq_true, decide_eq_true_eq] at ok
  obtain ⟨h1, rfl⟩ := ok
  rw [Zi2b, r32] at k
  exact lv_i2b hx hb (isI_d h1) rfl k
theorem w_10 (hx : p.tables.exec = Jvm.exec) (hb : c.code = mcF m) {x y : Int} (ok : okI m pc (10, nx, a, b, v, ts) = true) (h0 : in64 x) (h1 : in64 y) (k : W p l e R s mid args below meth c H locs cells slots Q (F0 mid nx ls (.int (Int32.ofInt (Zlcmp x y)) :: rest))) : W p l e R s mid args below meth c H locs cells slots Q (F0 mid pc ls (.long (Int64.ofInt y) :: .long (Int64.ofInt x) :: rest)) := by
  simp only [okI, Bool.and_eq_true, decide_eq_true_eq] at ok
  obtain ⟨h2, rfl⟩ := ok
  refine W.lcmp hx hb (isI_d h2) ?_
  have q : lg_cmp (Int64.ofInt x) (Int64.ofInt y) = Int32.ofInt (Zlcmp x y) := by
    unfold lg_cmp Zlcmp
    have e1 : (Int64.ofInt x > Int64.ofInt y) ↔ y < x := by rw [gt_iff_lt, Int64.lt_iff_toInt_lt, o64 h0, o64 h1]
    have e2 : (Int64.ofInt x = Int64.ofInt y) ↔ x = y := by rw [← Int64.toInt_inj, o64 h0, o64 h1]
    simp only [e1, e2]
    split
    · rfl
    · split <;> rfl
  rw [q]
  exact k
theorem w_11 (hx : p.tables.exec = Jvm.exec) (hb : c.code = mcF m) {x : Value} (ok : okI m pc (11, nx, a, b, v, ts) = true) (hc : x.category = 1) (k : W p l e R s mid args below meth c H locs cells slots Q (F0 mid nx ls (x :: x :: rest))) : W p l e R s mid args below meth c H locs cells slots Q (F0 mid pc ls (x :: rest)) := by
  simp only [okI, Bool.and_eq_true, decide_eq_true_eq] at ok
  obtain ⟨h1, rfl⟩ := ok
  exact lv_dup hx hb (isI_d h1) hc k
theorem w_12 (hx : p.tables.exec = Jvm.exec) (hb : c.code = mcF m) {x y : Value} (ok : okI m pc (12, nx, a, b, v, ts) = true) (hc : x.category = 1) (hd : y.category = 1) (k : W p l e R s mid args below meth c H locs cells slots Q (F0 mid nx ls (x :: y :: x :: y :: rest))) : W p l e R s mid args below meth c H locs cells slots Q (F0 mid pc ls (x :: y :: rest)) := by
  simp only [okI, Bool.and_eq_true, decide_eq_true_eq] at ok
  obtain ⟨h1, rfl⟩ := ok
  exact lv_dup2_11 hx hb (isI_d h1) hc hd k
theorem w_14 (hx : p.tables.exec = Jvm.exec) (hb : c.code = mcF m) {x y : Int} (ok : okI m pc (14, nx, a, b, v, ts) = true) (h0 : in32 x) (h1 : in32 y) (k : W p l e R s mid args below meth c H locs cells slots Q (F0 mid (if cmpM b x y = true then a else nx) ls (rest))) : W p l e R s mid args below meth c H locs cells slots Q (F0 mid pc ls (.int (Int32.ofInt y) :: .int (Int32.ofInt x) :: rest)) := by
  simp only [okI, Bool.and_eq_true, decide_eq_true_eq] at ok
  obtain ⟨⟨h2, rfl⟩, h3⟩ := ok
  have h2 := isI_d h2
  have ht : (pc : Int) + ((a : Int) - pc) = (a : Int) := by omega
  have h6 : b = 0 ∨ b = 1 ∨ b = 2 ∨ b = 3 ∨ b = 4 ∨ b = 5 := by omega
  rcases h6 with rfl | rfl | rfl | rfl | rfl | rfl
  · refine lv_icmp_eq hx hb h2 ht (fun q => ?_) (fun q => ?_)
    · rwa [if_pos (by simp only [cmpM, decide_eq_true_eq]; exact (eq32 h0 h1).mp q)] at k
    · rwa [if_neg (by simp only [cmpM, decide_eq_true_eq]; exact fun z => q ((eq32 h0 h1).mpr z))] at k
  · refine lv_icmp_ne hx hb h2 ht (fun q => ?_) (fun q => ?_)
    · rwa [if_pos (by simp only [cmpM, decide_eq_true_eq]; exact fun z => q ((eq32 h0 h1).mpr z))] at k
    · rwa [if_neg (by simp only [cmpM, decide_eq_true_eq]; exact fun z => z ((eq32 h0 h1).mp (by first | exact q | exact Classical.not_not.mp q)))] at k
  · refine lv_icmp_lt hx hb h2 ht (fun q => ?_) (fun q => ?_)
    · rwa [if_pos (by simp only [cmpM, decide_eq_true_eq]; exact (lt32 h0 h1).mp q)] at k
    · rwa [if_neg (by simp only [cmpM, decide_eq_true_eq]; exact fun z => q ((lt32 h0 h1).mpr z))] at k
  · refine lv_icmp_ge hx hb h2 ht (fun q => ?_) (fun q => ?_)
    · rwa [if_pos (by simp only [cmpM, decide_eq_true_eq]; exact (le32 h1 h0).mp q)] at k
    · rwa [if_neg (by simp only [cmpM, decide_eq_true_eq]; exact fun z => q ((le32 h1 h0).mpr z))] at k
  · refine lv_icmp_gt hx hb h2 ht (fun q => ?_) (fun q => ?_)
    · rwa [if_pos (by simp only [cmpM, decide_eq_true_eq]; exact (lt32 h1 h0).mp q)] at k
    · rwa [if_neg (by simp only [cmpM, decide_eq_true_eq]; exact fun z => q ((lt32 h1 h0).mpr z))] at k
  · refine lv_icmp_le hx hb h2 ht (fun q => ?_) (fun q => ?_)
    · rwa [if_pos (by simp only [cmpM, decide_eq_true_eq]; exact (le32 h0 h1).mp q)] at k
    · rwa [if_neg (by simp only [cmpM, decide_eq_true_eq]; exact fun z => q ((le32 h0 h1).mpr z))] at k
theorem w_13 (hx : p.tables.exec = Jvm.exec) (hb : c.code = mcF m) {x : Int} (ok : okI m pc (13, nx, a, b, v, ts) = true) (h0 : in32 x) (k : W p l e R s mid args below meth c H locs cells slots Q (F0 mid (if cmpM b x 0 = true then a else nx) ls (rest))) : W p l e R s mid args below meth c H locs cells slots Q (F0 mid pc ls (.int (Int32.ofInt x) :: rest)) := by
  simp only [okI, Bool.and_eq_true, decide_eq_true_eq] at ok
  obtain ⟨⟨h2, rfl⟩, h3⟩ := ok
  have h2 := isI_d h2
  have h1 : in32 0 := z32
  have e0 : Int32.ofInt 0 = 0 := rfl
  have ht : (pc : Int) + ((a : Int) - pc) = (a : Int) := by omega
  have h6 : b = 0 ∨ b = 1 ∨ b = 2 ∨ b = 3 ∨ b = 4 ∨ b = 5 := by omega
  rcases h6 with rfl | rfl | rfl | rfl | rfl | rfl
  · refine lv_if_eq hx hb h2 ht (fun q => ?_) (fun q => ?_)
    · rwa [if_pos (by simp only [cmpM, decide_eq_true_eq]; exact (eq32 h0 h1).mp q)] at k
    · rwa [if_neg (by simp only [cmpM, decide_eq_true_eq]; exact fun z => q ((eq32 h0 h1).mpr z))] at k
  · refine lv_if_ne hx hb h2 ht (fun q => ?_) (fun q => ?_)
    · rwa [if_pos (by simp only [cmpM, decide_eq_true_eq]; exact fun z => q ((eq32 h0 h1).mpr z))] at k
    · rwa [if_neg (by simp only [cmpM, decide_eq_true_eq]; exact fun z => z ((eq32 h0 h1).mp (by first | exact q | exact Classical.not_not.mp q)))] at k
  · refine lv_if_lt hx hb h2 ht (fun q => ?_) (fun q => ?_)
    · rwa [if_pos (by simp only [cmpM, decide_eq_true_eq]; exact (lt32 h0 h1).mp q)] at k
    · rwa [if_neg (by simp only [cmpM, decide_eq_true_eq]; exact fun z => q ((lt32 h0 h1).mpr z))] at k
  · refine lv_if_ge hx hb h2 ht (fun q => ?_) (fun q => ?_)
    · rwa [if_pos (by simp only [cmpM, decide_eq_true_eq]; exact (le32 h1 h0).mp q)] at k
    · rwa [if_neg (by simp only [cmpM, decide_eq_true_eq]; exact fun z => q ((le32 h1 h0).mpr z))] at k
  · refine lv_if_gt hx hb h2 ht (fun q => ?_) (fun q => ?_)
    · rwa [if_pos (by simp only [cmpM, decide_eq_true_eq]; exact (lt32 h1 h0).mp q)] at k
    · rwa [if_neg (by simp only [cmpM, decide_eq_true_eq]; exact fun z => q ((lt32 h1 h0).mpr z))] at k
  · refine lv_if_le hx hb h2 ht (fun q => ?_) (fun q => ?_)
    · rwa [if_pos (by simp only [cmpM, decide_eq_true_eq]; exact (le32 h0 h1).mp q)] at k
    · rwa [if_neg (by simp only [cmpM, decide_eq_true_eq]; exact fun z => q ((le32 h0 h1).mpr z))] at k
theorem w_15 (hx : p.tables.exec = Jvm.exec) (hb : c.code = mcF m) {ad adK : Nat → Nat} {b0 : Nat} {x : AV} (ok : okI m pc (15, nx, a, b, v, ts) = true) (hr : 10 ≤ x.1) (k : W p l e R s mid args below meth c H locs cells slots Q (F0 mid (if x.2 < 0 then a else nx) ls (rest))) : W p l e R s mid args below meth c H locs cells slots Q (F0 mid pc ls (cnV ad adK b0 x :: rest)) := by
  simp only [okI, Bool.and_eq_true, decide_eq_true_eq] at ok
  obtain ⟨h2, rfl⟩ := ok
  have h2 := isI_d h2
  have ht : (pc : Int) + ((a : Int) - pc) = (a : Int) := by omega
  obtain ⟨t, w⟩ := x
  by_cases hw : w < 0
  · rw [cn_n hr hw]
    rw [if_pos hw] at k
    exact lv_ifnullN hx hb h2 ht k
  · rw [cn_r hr (by omega)]
    rw [if_neg hw] at k
    exact lv_ifnull hx hb h2 k
theorem w_16 (hx : p.tables.exec = Jvm.exec) (hb : c.code = mcF m) {ad adK : Nat → Nat} {b0 : Nat} {x : AV} (ok : okI m pc (16, nx, a, b, v, ts) = true) (hr : 10 ≤ x.1) (k : W p l e R s mid args below meth c H locs cells slots Q (F0 mid (if x.2 < 0 then nx else a) ls (rest))) : W p l e R s mid args below meth c H locs cells slots Q (F0 mid pc ls (cnV ad adK b0 x :: rest)) := by
  simp only [okI, Bool.and_eq_true, decide_eq_true_eq] at ok
  obtain ⟨h2, rfl⟩ := ok
  have h2 := isI_d h2
  have ht : (pc : Int) + ((a : Int) - pc) = (a : Int) := by omega
  obtain ⟨t, w⟩ := x
  by_cases hw : w < 0
  · rw [cn_n hr hw]
    rw [if_pos hw] at k
    exact lv_ifnonnullN hx hb h2 k
  · rw [cn_r hr (by omega)]
    rw [if_neg hw] at k
    exact lv_ifnonnull hx hb h2 ht k
theorem w_17 (hx : p.tables.exec = Jvm.exec) (hb : c.code = mcF m) {ad adK : Nat → Nat} {b0 n : Nat} {x y : AV} (ok : okI m pc (17, nx, a, b, v, ts) = true) (hr : 10 ≤ x.1) (hq : 10 ≤ y.1) (h1 : okV n x) (h3 : okV n y) (hi : ∀ i j, i < n → j < n → ad i = ad j → i = j) (k : W p l e R s mid args below meth c H locs cells slots Q (F0 mid (if x.2 = y.2 then a else nx) ls (rest))) : W p l e R s mid args below meth c H locs cells slots Q (F0 mid pc ls (cnV ad adK b0 y :: cnV ad adK b0 x :: rest)) := by
  simp only [okI, Bool.and_eq_true, decide_eq_true_eq] at ok
  obtain ⟨h2, rfl⟩ := ok
  have h2 := isI_d h2
  have ht : (pc : Int) + ((a : Int) - pc) = (a : Int) := by omega
  obtain ⟨t, w⟩ := x
  obtain ⟨t2, w2⟩ := y
  rw [cn_q hr, cn_q hq]
  have g1 := h1.ref hr
  have g2 := h3.ref hq
  simp only at k g1 g2
  refine lv_acmp_eq hx hb h2 ht (fun q => ?_) (fun q => ?_)
  · have e1 : w = w2 := by
      rcases g1 with g1 | ⟨a1, a2, -⟩
      · rcases g2 with g2 | ⟨b1, b2, -⟩
        · omega
        · rw [if_pos (by omega), if_neg (by omega)] at q; cases q
      · rcases g2 with g2 | ⟨b1, b2, -⟩
        · rw [if_neg (by omega), if_pos (by omega)] at q; cases q
        · rw [if_neg (by omega), if_neg (by omega)] at q
          have := hi _ _ (by omega) (by omega) (Option.some.inj q)
          omega
    rwa [if_pos e1] at k
  · rwa [if_neg (by intro z; exact q (by rw [z]))] at k
theorem w_18 (hx : p.tables.exec = Jvm.exec) (hb : c.code = mcF m) (ok : okI m pc (18, nx, a, b, v, ts) = true) (k : W p l e R s mid args below meth c H locs cells slots Q (F0 mid a ls (rest))) : W p l e R s mid args below meth c H locs cells slots Q (F0 mid pc ls (rest)) := by
  simp only [okI] at ok
  exact lv_goto hx hb (isI_d ok) (by omega) k
end WST
end
section
/-! fields and arrays -/
def tysM (C5 : Nat → ClassId) : List (ClassId × FieldType) := [(C5 50, .int), (C5 51, .byte), (C5 52, .boolean), (C5 53, .object RX3), (C5 54, .object RX9)]
theorem fld_cn {ad adK : Nat → Nat} {b0 a b : Nat} (ha : a < 13) (hb : b < nfF a) (x : Int) : fldV ad (ftF a b) x = cnV ad adK b0 (if ftF a b = 7 then 0 else ftF a b, x) := by
  have q := ft_ok a ha b hb
  by_cases h10 : 10 ≤ ftF a b
  · rw [if_neg (by omega)]
    unfold fldV
    rw [if_pos h10]
    by_cases hx : x < 0
    · rw [if_pos hx, cn_n h10 hx]
    · rw [if_neg hx, cn_r h10 (by omega)]
  · have h0 : (if ftF a b = 7 then 0 else ftF a b) = 0 := by
      split
      · rfl
      · rename_i h7
        unfold kTy at q
        split at q
        · assumption
        all_goals first | omega | (simp only [decide_eq_true_eq] at q; omega)
    rw [h0]
    unfold fldV
    rw [if_neg h10]
    rfl
theorem ty_of {a b : Nat} (ha : a < 13) (hb : b < nfF a) : (ftF a b = 0 → tyF a b = .int) ∧ (ftF a b = 7 → tyF a b = .boolean) ∧ (10 ≤ ftF a b → (∃ t, tyF a b = .object t) ∨ ∃ t, tyF a b = .array t) := by
  have q := ft_ok a ha b hb
  unfold kTy at q
  split at q
  all_goals (simp only [decide_eq_true_eq] at q)
  · exact ⟨fun _ => q, fun h => by omega, fun h => by omega⟩
  · exact ⟨fun h => by omega, fun _ => q, fun h => by omega⟩
  · exact ⟨fun h => by omega, fun h => by omega, fun _ => Or.inr ⟨_, q⟩⟩
  · exact ⟨fun h => by omega, fun h => by omega, fun _ => Or.inr ⟨_, q⟩⟩
  · exact ⟨fun h => by omega, fun h => by omega, fun _ => Or.inr ⟨_, q⟩⟩
  · exact ⟨fun h => by omega, fun h => by omega, fun _ => Or.inr ⟨_, q⟩⟩
  · exact ⟨fun h => by omega, fun h => by omega, fun _ => Or.inr ⟨_, q⟩⟩
  · exact ⟨fun h => by omega, fun h => by omega, fun _ => Or.inl ⟨_, q.2.2⟩⟩
theorem uw_in {a : Nat} (ha : a < 13) : ∀ w ∈ u_ws (clF a).1 (clF a).2.1 (clF a).2.2, w ∈ gtbl := by
  intro w hw
  have q := List.all_eq_true.mp (uw_ok a ha) w hw
  simp only [Bool.and_eq_true, decide_eq_true_eq] at q
  exact List.mem_filter.mpr q
/-- a reference's value in a field fits it -/
theorem fit_r {ad adK : Nat → Nat} {b0 t : Nat} {x : Int} {ty : FieldType} (ht : 10 ≤ t) (h : (∃ z, ty = .object z) ∨ ∃ z, ty = .array z) : narrow ty (cnV ad adK b0 (t, x)) = cnV ad adK b0 (t, x) ∧ fits ty (cnV ad adK b0 (t, x)) = true := by
  by_cases hx : x < 0
  · rw [cn_n ht hx]
    rcases h with ⟨z, rfl⟩ | ⟨z, rfl⟩ <;> exact ⟨rfl, rfl⟩
  · rw [cn_r ht (by omega)]
    rcases h with ⟨z, rfl⟩ | ⟨z, rfl⟩ <;> exact ⟨rfl, rfl⟩
section WSU
variable {p : Program} {l : Launch} {e : Env} {R : Room} {s : State} {mid : MethodId} {args : Array Value} {below : List Frame} {meth : Method} {c : Code} {H : Heap} {locs : List Loc} {cells slots : Nat} {Q : State → Prop} {m pc nx a b : Nat} {v : Int} {ts : List (Int × Nat)} {ls : Array Slot} {rest : List Value}
variable {D : va_G} {C5 : Nat → ClassId} {ad adK : Nat → Nat} {b0 n : Nat} {σ : Mem} {A : Nat → Prop}
theorem w_21 (hx : p.tables.exec = Jvm.exec) (hb : c.code = mcF m) (hown : s.vm.findClass (ownF (moF m)) = some mid.cls) (hts : ∀ w ∈ gtbl, w.before args s = true) (hK : va_K D cl13 (tysM C5) s) (hP : va_P D cl13 (wsM ad C5 n σ) H) {k : Int} (ok : okI m pc (21, nx, a, b, v, ts) = true) (hk : okV n (10 + a, k)) (h0 : 0 ≤ k) (kk : W p l e R s mid args below meth c H locs cells slots Q (F0 mid nx ls (cnV ad adK b0 (if ftF a b = 7 then 0 else ftF a b, σ k b) :: rest))) : W p l e R s mid args below meth c H locs cells slots Q (F0 mid pc ls (cnV ad adK b0 (10 + a, k) :: rest)) := by
  simp only [okI, Bool.and_eq_true, decide_eq_true_eq] at ok
  obtain ⟨⟨h1, rfl⟩, h2⟩ := ok
  obtain ⟨⟨i, hl⟩, hb', ha⟩ := fl_any h2
  obtain ⟨z1, z2, z3⟩ := okR_sh (hk.ref (by omega)) h0
  rw [cn_r (by omega) h0]
  obtain ⟨c1, c2, c3⟩ := cw_ok a ha
  have he : (wsM ad C5 n σ)[k.toNat]? = some (ad k.toNat, .inr (a, (List.range (nfF a)).map (fun (j : Nat) => fldV ad (ftF a j) (σ k.toNat j)))) := by rw [ws_get z1, enc_obj z2 ha]
  refine va_get (own := ownF (moF m)) (ref := ((clF a).2.1 b).1) (C := (clF a).1) (T := (clF a).2.1) (N := (clF a).2.2) (ci := a) (index := v.toNat) hx hb hts (uw_in ha) hown hK hP k.toNat he (cx_ok a ha) b (by rw [c2]; exact hb') (hts _ (gt_of hl rfl)) (fun _ h => h) (v := fldV ad (ftF a b) (σ k.toNat b)) ?_ (isI_d h1) ?_
  · rw [List.getElem?_map, List.getElem?_range hb']
    rfl
  · rw [z3, fld_cn (adK := adK) (b0 := b0) ha hb']
    exact kk
theorem w_22 (hx : p.tables.exec = Jvm.exec) (hb : c.code = mcF m) (hown : s.vm.findClass (ownF (moF m)) = some mid.cls) (hts : ∀ w ∈ gtbl, w.before args s = true) (hK : va_K D cl13 (tysM C5) s) (hP : va_P D cl13 (wsM ad C5 n σ) H) (hD : va_D A (wsM ad C5 n σ)) (hS : va_S A s.heap H locs) (hin : (pwF m).2.2.2.2 = 2 → meth.name = "<init>") {k x : Int} (ok : okI m pc (22, nx, a, b, v, ts) = true) (hk : okV n (10 + a, k)) (h0 : 0 ≤ k) (kk : ∀ (H1 : Heap) (locs1 : List Loc), va_P D cl13 (wsM ad C5 n (wrM σ k b x)) H1 → va_D A (wsM ad C5 n (wrM σ k b x)) → va_S A s.heap H1 locs1 → W p l e R s mid args below meth c H1 locs1 cells slots Q (F0 mid nx ls (rest))) : W p l e R s mid args below meth c H locs cells slots Q (F0 mid pc ls (cnV ad adK b0 (ftF a b, x) :: cnV ad adK b0 (10 + a, k) :: rest)) := by
  simp only [okI, Bool.and_eq_true, Bool.or_eq_true, decide_eq_true_eq] at ok
  obtain ⟨⟨⟨⟨h1, rfl⟩, h2⟩, h7⟩, hf⟩ := ok
  obtain ⟨⟨i, hl⟩, hb', ha⟩ := fl_any h2
  obtain ⟨z1, z2, z3⟩ := okR_sh (hk.ref (by omega)) h0
  rw [cn_r (t := 10 + a) (by omega) h0]
  obtain ⟨c1, c2, c3⟩ := cw_ok a ha
  have he : (wsM ad C5 n σ)[k.toNat]? = some (ad k.toNat, .inr (a, (List.range (nfF a)).map (fun (j : Nat) => fldV ad (ftF a j) (σ k.toNat j)))) := by rw [ws_get z1, enc_obj z2 ha]
  have hv : cnV ad adK b0 (ftF a b, x) = fldV ad (ftF a b) x := by rw [fld_cn (adK := adK) (b0 := b0) ha hb', if_neg h7]
  have hfit : narrow (tyF a b) (cnV ad adK b0 (ftF a b, x)) = cnV ad adK b0 (ftF a b, x) ∧ fits (tyF a b) (cnV ad adK b0 (ftF a b, x)) = true := by
    obtain ⟨t1, t2, t3⟩ := ty_of ha hb'
    by_cases h10 : 10 ≤ ftF a b
    · exact fit_r h10 (t3 h10)
    · have h0 : ftF a b = 0 := by
        have q := ft_ok a ha b hb'
        unfold kTy at q
        split at q
        · assumption
        all_goals first | omega | (simp only [decide_eq_true_eq] at q; omega)
      rw [t1 h0, h0]
      exact ⟨rfl, rfl⟩
  have hset : (wsM ad C5 n σ).set k.toNat (ad k.toNat, .inr (a, ((List.range (nfF a)).map (fun (j : Nat) => fldV ad (ftF a j) (σ k.toNat j))).set b (cnV ad adK b0 (ftF a b, x)))) = wsM ad C5 n (wrM σ k b x) := by
    refine ws_set z1 ?_ (fun k' hk' hne y => wr_ne (by omega))
    rw [hv, show wrM σ k b x = wrM σ ((k.toNat : Nat) : Int) b x by rw [z3]]
    exact enc_put z2 ha
  by_cases hfin : ((clF a).2.1 b).2.2.2 = false
  · refine va_put (own := ownF (moF m)) (ref := ((clF a).2.1 b).1) (C := (clF a).1) (T := (clF a).2.1) (N := (clF a).2.2) (ci := a) (index := v.toNat) hx hb hts (uw_in ha) (tyF a) c3 (nm_ok a ha) hown hK hP hD hS k.toNat he (cx_ok a ha) b (by rw [c2]; exact hb') (hts _ (gt_of hl rfl)) (fun _ h => h) hfin (c3 b (by rw [c2]; exact hb')) hfit.1 hfit.2 (by simpa using hb') (isI_d h1) (fun H1 locs1 p1 p2 p3 => ?_)
    rw [hset] at p1 p2
    exact kk H1 locs1 p1 p2 p3
  · have hf2 : (pwF m).2.2.2.2 = 2 ∧ a = moF m := by
      rcases hf with q | q
      · exact absurd q hfin
      · exact q
    have hdecl : ((clF a).2.1 b).1 = ownF (moF m) := by
      have q : ∀ a, a < 13 → ∀ b, b < nfF a → ((clF a).2.1 b).1 = ownF a := by decide +kernel
      rw [q a ha b hb', ← hf2.2]
    refine va_putF (own := ownF (moF m)) (ref := ((clF a).2.1 b).1) (C := (clF a).1) (T := (clF a).2.1) (N := (clF a).2.2) (ci := a) (index := v.toNat) hx hb hts (uw_in ha) (tyF a) c3 (nm_ok a ha) hown hK hP hD hS k.toNat he (cx_ok a ha) b (by rw [c2]; exact hb') (hts _ (gt_of hl rfl)) (fun _ h => h) (by simpa using hfin) (hin hf2.1) hdecl (c3 b (by rw [c2]; exact hb')) hfit.1 hfit.2 (by simpa using hb') (isI_d h1) (fun H1 locs1 p1 p2 p3 => ?_)
    rw [hset] at p1 p2
    exact kk H1 locs1 p1 p2 p3
theorem w_23 (hx : p.tables.exec = Jvm.exec) (hb : c.code = mcF m) (hown : s.vm.findClass (ownF (moF m)) = some mid.cls) (hts : ∀ w ∈ gtbl, w.before args s = true) (hK : va_K D cl13 (tysM C5) s) (hP : va_P D cl13 (wsM ad C5 n σ) H) (hD : va_D A (wsM ad C5 n σ)) (hS : va_S A s.heap H locs) {k x : Int} (ok : okI m pc (23, nx, a, b, v, ts) = true) (hk : okV n (10 + a, k)) (h0 : 0 ≤ k) (hx01 : x = 0 ∨ x = 1) (kk : ∀ (H1 : Heap) (locs1 : List Loc), va_P D cl13 (wsM ad C5 n (wrM σ k b x)) H1 → va_D A (wsM ad C5 n (wrM σ k b x)) → va_S A s.heap H1 locs1 → W p l e R s mid args below meth c H1 locs1 cells slots Q (F0 mid nx ls (rest))) : W p l e R s mid args below meth c H locs cells slots Q (F0 mid pc ls (cnV ad adK b0 (0, x) :: cnV ad adK b0 (10 + a, k) :: rest)) := by
  simp only [okI, Bool.and_eq_true, Bool.or_eq_true, decide_eq_true_eq] at ok
  obtain ⟨⟨⟨⟨h1, rfl⟩, h2⟩, h7⟩, hfin⟩ := ok
  obtain ⟨⟨i, hl⟩, hb', ha⟩ := fl_any h2
  obtain ⟨z1, z2, z3⟩ := okR_sh (hk.ref (by omega)) h0
  rw [cn_r (t := 10 + a) (by omega) h0]
  obtain ⟨c1, c2, c3⟩ := cw_ok a ha
  have he : (wsM ad C5 n σ)[k.toNat]? = some (ad k.toNat, .inr (a, (List.range (nfF a)).map (fun (j : Nat) => fldV ad (ftF a j) (σ k.toNat j)))) := by rw [ws_get z1, enc_obj z2 ha]
  have hv : cnV ad adK b0 (0, x) = fldV ad (ftF a b) x := by rw [fld_cn (adK := adK) (b0 := b0) ha hb', if_pos h7]
  have hty : tyF a b = .boolean := (ty_of ha hb').2.1 h7
  have hfit : narrow (tyF a b) (cnV ad adK b0 (0, x)) = cnV ad adK b0 (0, x) ∧ fits (tyF a b) (cnV ad adK b0 (0, x)) = true := by
    rw [hty]
    rcases hx01 with rfl | rfl <;> exact ⟨rfl, rfl⟩
  have hset : (wsM ad C5 n σ).set k.toNat (ad k.toNat, .inr (a, ((List.range (nfF a)).map (fun (j : Nat) => fldV ad (ftF a j) (σ k.toNat j))).set b (cnV ad adK b0 (0, x)))) = wsM ad C5 n (wrM σ k b x) := by
    refine ws_set z1 ?_ (fun k' hk' hne y => wr_ne (by omega))
    rw [hv, show wrM σ k b x = wrM σ ((k.toNat : Nat) : Int) b x by rw [z3]]
    exact enc_put z2 ha
  refine va_put (own := ownF (moF m)) (ref := ((clF a).2.1 b).1) (C := (clF a).1) (T := (clF a).2.1) (N := (clF a).2.2) (ci := a) (index := v.toNat) hx hb hts (uw_in ha) (tyF a) c3 (nm_ok a ha) hown hK hP hD hS k.toNat he (cx_ok a ha) b (by rw [c2]; exact hb') (hts _ (gt_of hl rfl)) (fun _ h => h) hfin (c3 b (by rw [c2]; exact hb')) hfit.1 hfit.2 (by simpa using hb') (isI_d h1) (fun H1 locs1 p1 p2 p3 => ?_)
  rw [hset] at p1 p2
  exact kk H1 locs1 p1 p2 p3
theorem w_24 (hx : p.tables.exec = Jvm.exec) (hb : c.code = mcF m) (hK : va_K D cl13 (tysM C5) s) (hP : va_P D cl13 (wsM ad C5 n σ) H) {k i : Int} (ok : okI m pc (24, nx, a, b, v, ts) = true) (hk : okV n (a, k)) (hi : in32 i) (h0 : 0 ≤ k) (i0 : 0 ≤ i) (i1 : i < lnF k) (kk : W p l e R s mid args below meth c H locs cells slots Q (F0 mid nx ls (cnV ad adK b0 (b, σ k i) :: rest))) : W p l e R s mid args below meth c H locs cells slots Q (F0 mid pc ls (.int (Int32.ofInt i) :: cnV ad adK b0 (a, k) :: rest)) := by
  simp only [okI, Bool.and_eq_true, decide_eq_true_eq] at ok
  obtain ⟨ok, rfl⟩ := ok
  have hj : ((i.toNat : Nat) : Int) = i := by omega
  split at ok
  · simp only [Bool.and_eq_true, decide_eq_true_eq] at ok
    obtain ⟨h1, rfl⟩ := ok
    obtain ⟨z1, z2, z3⟩ := okR_sh (hk.ref (by omega)) h0
    rw [cn_r (by omega) h0]
    refine va_iald hx hb hK hP k.toNat 0 (ws_get z1 |>.trans (by rw [enc_arr z2 (by omega) (by omega)])) rfl (vin hi i0 i1 (by rw [z3])) (isI_d h1) ?_
    rw [nc32 hi, z3, hj]
    exact kk
  · simp only [Bool.and_eq_true, decide_eq_true_eq] at ok
    obtain ⟨h1, rfl⟩ := ok
    obtain ⟨z1, z2, z3⟩ := okR_sh (hk.ref (by omega)) h0
    rw [cn_r (by omega) h0]
    refine va_bald hx hb hK hP k.toNat 1 (ws_get z1 |>.trans (by rw [enc_arr z2 (by omega) (by omega)])) rfl (vin hi i0 i1 (by rw [z3])) (isI_d h1) ?_
    rw [nc32 hi, z3, hj]
    exact kk
  · simp only [Bool.and_eq_true, decide_eq_true_eq] at ok
    obtain ⟨h1, rfl⟩ := ok
    obtain ⟨z1, z2, z3⟩ := okR_sh (hk.ref (by omega)) h0
    rw [cn_r (by omega) h0]
    refine va_zald hx hb hK hP k.toNat 2 (ws_get z1 |>.trans (by rw [enc_arr z2 (by omega) (by omega)])) rfl (vin hi i0 i1 (by rw [z3])) (isI_d h1) ?_
    rw [nc32 hi, z3, hj]
    exact kk
  · simp only [Bool.and_eq_true, decide_eq_true_eq] at ok
    obtain ⟨h1, rfl⟩ := ok
    obtain ⟨z1, z2, z3⟩ := okR_sh (hk.ref (by omega)) h0
    rw [cn_r (by omega) h0]
    refine va_aldq hx hb hK hP k.toNat 3 (ws_get z1 |>.trans (by rw [enc_rar z2 (by omega)])) rfl (vin hi i0 i1 (by rw [z3])) (isI_d h1) ?_
    rw [nc32 hi, z3, hj]
    rw [cn_q (by omega)] at kk
    by_cases hs : σ k i < 0
    · rw [if_neg (by omega)]
      rwa [if_pos hs] at kk
    · rw [if_pos ⟨i1, by omega⟩]
      rwa [if_neg hs] at kk
  · simp only [Bool.and_eq_true, decide_eq_true_eq] at ok
    obtain ⟨h1, rfl⟩ := ok
    obtain ⟨z1, z2, z3⟩ := okR_sh (hk.ref (by omega)) h0
    rw [cn_r (by omega) h0]
    refine va_aldq hx hb hK hP k.toNat 4 (ws_get z1 |>.trans (by rw [enc_rar z2 (by omega)])) rfl (vin hi i0 i1 (by rw [z3])) (isI_d h1) ?_
    rw [nc32 hi, z3, hj]
    rw [cn_q (by omega)] at kk
    by_cases hs : σ k i < 0
    · rw [if_neg (by omega)]
      rwa [if_pos hs] at kk
    · rw [if_pos ⟨i1, by omega⟩]
      rwa [if_neg hs] at kk
  · cases ok
theorem w_28 (hx : p.tables.exec = Jvm.exec) (hb : c.code = mcF m) (hK : va_K D cl13 (tysM C5) s) (hP : va_P D cl13 (wsM ad C5 n σ) H) (hD : va_D A (wsM ad C5 n σ)) (hS : va_S A s.heap H locs) {k i x : Int} (ok : okI m pc (28, nx, a, b, v, ts) = true) (hk : okV n (50, k)) (hi : in32 i) (h0 : 0 ≤ k) (i0 : 0 ≤ i) (i1 : i < lnF k) (kk : ∀ (H1 : Heap) (locs1 : List Loc), va_P D cl13 (wsM ad C5 n (wrM σ k i x)) H1 → va_D A (wsM ad C5 n (wrM σ k i x)) → va_S A s.heap H1 locs1 → W p l e R s mid args below meth c H1 locs1 cells slots Q (F0 mid nx ls (rest))) : W p l e R s mid args below meth c H locs cells slots Q (F0 mid pc ls (.int (Int32.ofInt x) :: .int (Int32.ofInt i) :: cnV ad adK b0 (50, k) :: rest)) := by
  simp only [okI, Bool.and_eq_true, decide_eq_true_eq] at ok
  obtain ⟨h1, rfl⟩ := ok
  obtain ⟨z1, z2, z3⟩ := okR_sh (hk.ref (by omega)) h0
  rw [cn_r (by omega) h0]
  refine va_iast hx hb hK hP hD hS k.toNat 0 (ws_get z1 |>.trans (by rw [enc_arr z2 (by omega) (by omega)])) rfl (vin hi i0 i1 (by rw [z3])) (isI_d h1) (fun H1 locs1 p1 p2 p3 => ?_)
  rw [nc32 hi, ← enc_ast (ad := ad) (C5 := C5) (k := k.toNat) (t := 50) (σ := σ) (i := i) z2 (by omega) (by omega) i0, ws_set z1 rfl (fun k' hk' hne y => wr_ne (by omega)), z3] at p1 p2
  exact kk H1 locs1 p1 p2 p3
theorem bn_eq (x : Int) : vp_nar .byte (Int32.ofInt x) = Int32.ofInt (Zbnar x) := by rw [Zbnar, r32]
theorem zn_eq (x : Int) : vp_nar .boolean (Int32.ofInt x) = Int32.ofInt (Zznar x) := by rw [Zznar, r32]
theorem w_29 (hx : p.tables.exec = Jvm.exec) (hb : c.code = mcF m) (hK : va_K D cl13 (tysM C5) s) (hP : va_P D cl13 (wsM ad C5 n σ) H) (hD : va_D A (wsM ad C5 n σ)) (hS : va_S A s.heap H locs) {k i x : Int} (ok : okI m pc (29, nx, a, b, v, ts) = true) (hk : okV n (51, k)) (hi : in32 i) (h0 : 0 ≤ k) (i0 : 0 ≤ i) (i1 : i < lnF k) (kk : ∀ (H1 : Heap) (locs1 : List Loc), va_P D cl13 (wsM ad C5 n (wrM σ k i (Zbnar x))) H1 → va_D A (wsM ad C5 n (wrM σ k i (Zbnar x))) → va_S A s.heap H1 locs1 → W p l e R s mid args below meth c H1 locs1 cells slots Q (F0 mid nx ls (rest))) : W p l e R s mid args below meth c H locs cells slots Q (F0 mid pc ls (.int (Int32.ofInt x) :: .int (Int32.ofInt i) :: cnV ad adK b0 (51, k) :: rest)) := by
  simp only [okI, Bool.and_eq_true, decide_eq_true_eq] at ok
  obtain ⟨h1, rfl⟩ := ok
  obtain ⟨z1, z2, z3⟩ := okR_sh (hk.ref (by omega)) h0
  rw [cn_r (by omega) h0]
  refine va_bast hx hb hK hP hD hS k.toNat 1 (ws_get z1 |>.trans (by rw [enc_arr z2 (by omega) (by omega)])) rfl (vin hi i0 i1 (by rw [z3])) (isI_d h1) (fun H1 locs1 p1 p2 p3 => ?_)
  rw [nc32 hi, bn_eq, ← enc_ast (ad := ad) (C5 := C5) (k := k.toNat) (t := 51) (σ := σ) (i := i) z2 (by omega) (by omega) i0, ws_set z1 rfl (fun k' hk' hne y => wr_ne (by omega)), z3] at p1 p2
  exact kk H1 locs1 p1 p2 p3
theorem w_30 (hx : p.tables.exec = Jvm.exec) (hb : c.code = mcF m) (hK : va_K D cl13 (tysM C5) s) (hP : va_P D cl13 (wsM ad C5 n σ) H) (hD : va_D A (wsM ad C5 n σ)) (hS : va_S A s.heap H locs) {k i x : Int} (ok : okI m pc (30, nx, a, b, v, ts) = true) (hk : okV n (52, k)) (hi : in32 i) (h0 : 0 ≤ k) (i0 : 0 ≤ i) (i1 : i < lnF k) (kk : ∀ (H1 : Heap) (locs1 : List Loc), va_P D cl13 (wsM ad C5 n (wrM σ k i (Zznar x))) H1 → va_D A (wsM ad C5 n (wrM σ k i (Zznar x))) → va_S A s.heap H1 locs1 → W p l e R s mid args below meth c H1 locs1 cells slots Q (F0 mid nx ls (rest))) : W p l e R s mid args below meth c H locs cells slots Q (F0 mid pc ls (.int (Int32.ofInt x) :: .int (Int32.ofInt i) :: cnV ad adK b0 (52, k) :: rest)) := by
  simp only [okI, Bool.and_eq_true, decide_eq_true_eq] at ok
  obtain ⟨h1, rfl⟩ := ok
  obtain ⟨z1, z2, z3⟩ := okR_sh (hk.ref (by omega)) h0
  rw [cn_r (by omega) h0]
  refine va_zast hx hb hK hP hD hS k.toNat 2 (ws_get z1 |>.trans (by rw [enc_arr z2 (by omega) (by omega)])) rfl (vin hi i0 i1 (by rw [z3])) (isI_d h1) (fun H1 locs1 p1 p2 p3 => ?_)
  rw [nc32 hi, zn_eq, ← enc_ast (ad := ad) (C5 := C5) (k := k.toNat) (t := 52) (σ := σ) (i := i) z2 (by omega) (by omega) i0, ws_set z1 rfl (fun k' hk' hne y => wr_ne (by omega)), z3] at p1 p2
  exact kk H1 locs1 p1 p2 p3
theorem w_31 (hx : p.tables.exec = Jvm.exec) (hb : c.code = mcF m) (hK : va_K D cl13 (tysM C5) s) (hP : va_P D cl13 (wsM ad C5 n σ) H) (hD : va_D A (wsM ad C5 n σ)) (hS : va_S A s.heap H locs) {k i x : Int} (ok : okI m pc (31, nx, a, b, v, ts) = true) (hk : okV n (a, k)) (hv : okV n (b, x)) (hi : in32 i) (h0 : 0 ≤ k) (hx0 : 0 ≤ x) (i0 : 0 ≤ i) (i1 : i < lnF k) (kk : ∀ (H1 : Heap) (locs1 : List Loc), va_P D cl13 (wsM ad C5 n (wrM σ k i x)) H1 → va_D A (wsM ad C5 n (wrM σ k i x)) → va_S A s.heap H1 locs1 → W p l e R s mid args below meth c H1 locs1 cells slots Q (F0 mid nx ls (rest))) : W p l e R s mid args below meth c H locs cells slots Q (F0 mid pc ls (cnV ad adK b0 (b, x) :: .int (Int32.ofInt i) :: cnV ad adK b0 (a, k) :: rest)) := by
  simp only [okI, Bool.and_eq_true, Bool.or_eq_true, decide_eq_true_eq] at ok
  obtain ⟨⟨h1, rfl⟩, h2⟩ := ok
  rcases h2 with ⟨rfl, rfl⟩ | ⟨rfl, rfl⟩
  · obtain ⟨z1, z2, z3⟩ := okR_sh (hk.ref (by omega)) h0
    obtain ⟨y1, y2, y3⟩ := okR_sh (hv.ref (by omega)) hx0
    rw [cn_r (t := 53) (by omega) h0, cn_r (t := 13) (by omega) hx0]
    refine va_astq (r := clF 3) hx hb hK hP hD hS k.toNat 3 x.toNat 3 (ws_get z1 |>.trans (by rw [enc_rar z2 (by omega)])) rfl (ws_get y1 |>.trans (by rw [enc_obj (c := 3) y2 (by omega)])) (cx_ok 3 (by omega)) (vin hi i0 i1 (by rw [z3])) (isI_d h1) (fun H1 locs1 p1 p2 p3 => ?_)
    rw [nc32 hi, ← enc_rst (ad := ad) (C5 := C5) (k := k.toNat) (t := 53) (σ := σ) (i := i) (v := x) z2 (by omega) i0 (by rw [z3]; exact i1) hx0, ws_set z1 rfl (fun k' hk' hne y => wr_ne (by omega)), z3] at p1 p2
    exact kk H1 locs1 p1 p2 p3
  · obtain ⟨z1, z2, z3⟩ := okR_sh (hk.ref (by omega)) h0
    obtain ⟨y1, y2, y3⟩ := okR_sh (hv.ref (by omega)) hx0
    rw [cn_r (t := 54) (by omega) h0, cn_r (t := 19) (by omega) hx0]
    refine va_astq (r := clF 9) hx hb hK hP hD hS k.toNat 4 x.toNat 9 (ws_get z1 |>.trans (by rw [enc_rar z2 (by omega)])) rfl (ws_get y1 |>.trans (by rw [enc_obj (c := 9) y2 (by omega)])) (cx_ok 9 (by omega)) (vin hi i0 i1 (by rw [z3])) (isI_d h1) (fun H1 locs1 p1 p2 p3 => ?_)
    rw [nc32 hi, ← enc_rst (ad := ad) (C5 := C5) (k := k.toNat) (t := 54) (σ := σ) (i := i) (v := x) z2 (by omega) i0 (by rw [z3]; exact i1) hx0, ws_set z1 rfl (fun k' hk' hne y => wr_ne (by omega)), z3] at p1 p2
    exact kk H1 locs1 p1 p2 p3
theorem w_32 (hx : p.tables.exec = Jvm.exec) (hb : c.code = mcF m) (hK : va_K D cl13 (tysM C5) s) (hP : va_P D cl13 (wsM ad C5 n σ) H) (hn : n ≤ 138) {k : Int} (ok : okI m pc (32, nx, a, b, v, ts) = true) (hk : okV n (50, k)) (h0 : 0 ≤ k) (kk : W p l e R s mid args below meth c H locs cells slots Q (F0 mid nx ls (.int (Int32.ofInt (lnF k)) :: rest))) : W p l e R s mid args below meth c H locs cells slots Q (F0 mid pc ls (cnV ad adK b0 (50, k) :: rest)) := by
  simp only [okI, Bool.and_eq_true, decide_eq_true_eq] at ok
  obtain ⟨h1, rfl⟩ := ok
  obtain ⟨z1, z2, z3⟩ := okR_sh (hk.ref (by omega)) h0
  rw [cn_r (by omega) h0]
  refine va_alen hx hb hK hP k.toNat 0 (ws_get z1 |>.trans (by rw [enc_arr z2 (by omega) (by omega)])) rfl ?_ (isI_d h1) kk
  have q := sh_ok k.toNat (by omega)
  rw [z2, z3] at q
  show Int32.ofNat (lnF k.toNat).toNat = Int32.ofInt (lnF k)
  rw [z3, ← Int32.ofInt_eq_ofNat]
  congr 1
  omega
end WSU
end
section
/-! making cells, switches, and the rest -/
def upA (ad : Nat → Nat) (n q : Nat) : Nat → Nat := fun k => if k = n then q else ad k
theorem upA_n (ad : Nat → Nat) (n q : Nat) : upA ad n q n = q := if_pos rfl
theorem upA_lt {ad : Nat → Nat} {n q k : Nat} (h : k < n) : upA ad n q k = ad k := if_neg (by omega)
theorem mk_ne {σ : Mem} {k a b : Int} {f : Int → Int} (h : ¬ a = k) : mkM σ k f a b = σ a b := if_neg h
theorem mk_eq {σ : Mem} {k b : Int} {f : Int → Int} : mkM σ k f k b = f b := if_pos rfl
theorem lk_rng (x : Int) : ∀ (ts : List (Int × Nat)) (lo : Int), ts.map (fun q => q.1) = (List.range ts.length).map (fun (j : Nat) => lo + (j : Int)) → ts.lookup x = if lo ≤ x ∧ x < lo + ts.length then (ts[(x - lo).toNat]?).map (fun q => q.2) else none
  | [], lo, _ => by
    rw [if_neg (by simp only [List.length_nil]; omega)]
    rfl
  | (k, t) :: r, lo, h => by
    rw [List.length_cons, List.range_succ_eq_map, List.map_cons, List.map_cons, List.map_map] at h
    simp only [List.cons.injEq] at h
    obtain ⟨h1, h2⟩ := h
    have ih := lk_rng x r (lo + 1) (by
      rw [h2]
      apply List.map_congr_left
      intro j _
      simp only [Function.comp]
      omega)
    rw [List.lookup_cons]
    by_cases hx : x = k
    · have hb : (x == k) = true := by rw [hx]; exact beq_self_eq_true k
      rw [hb]
      simp only
      rw [if_pos (by rw [List.length_cons]; omega)]
      have hz : (x - lo).toNat = 0 := by omega
      rw [hz]
      rfl
    · have hb : (x == k) = false := beq_eq_false_iff_ne.mpr hx
      rw [hb]
      simp only
      rw [ih, List.length_cons]
      by_cases hr : lo + 1 ≤ x ∧ x < lo + 1 + r.length
      · rw [if_pos hr, if_pos (by omega)]
        have hz : (x - lo).toNat = (x - (lo + 1)).toNat + 1 := by omega
        rw [hz, List.getElem?_cons_succ]
      · rw [if_neg hr, if_neg (by omega)]
theorem lk_off (x : Int) (a pc : Nat) : ∀ (ts : List (Int × Nat)), lookupswitch.offset (ts.map (fun q => (q.1, (q.2 : Int) - pc))) ((a : Int) - pc) x = (((ts.lookup x).getD a : Nat) : Int) - pc
  | [] => rfl
  | (k, t) :: r => by
    rw [List.map_cons, lookupswitch.offset_cons, List.lookup_cons, lk_off x a pc r]
    by_cases hx : x = k
    · have hb : (x == k) = true := by rw [hx]; exact beq_self_eq_true k
      rw [hb, if_pos hx.symm]
      rfl
    · have hb : (x == k) = false := beq_eq_false_iff_ne.mpr hx
      rw [hb, if_neg (fun q => hx q.symm)]
theorem enc_cp {ad : Nat → Nat} {C5 : Nat → ClassId} {k1 k2 : Nat} {σ : Mem} {sp dp c : Int} (h2 : shF k2 = 50) (h0 : 0 ≤ sp) (h1 : 0 ≤ dp) (hc : 0 ≤ c) : encC ad C5 (cpM σ k1 sp k2 dp c) k2 = .inl (C5 50, (lnF k2).toNat, .inl (va_cpy (fun (j : Nat) => Int32.ofInt (σ k1 j)) (fun (j : Nat) => Int32.ofInt (σ k2 j)) sp.toNat dp.toNat c.toNat)) := by
  rw [enc_arr h2 (by omega) (by omega)]
  simp only [Sum.inl.injEq, Prod.mk.injEq, true_and]
  funext j
  unfold va_cpy cpM
  by_cases hj : dp ≤ j ∧ (j : Int) < dp + c
  · rw [if_pos ⟨rfl, hj.1, hj.2⟩, if_pos (by omega)]
    congr 2
    omega
  · rw [if_neg (fun q => hj q.2), if_neg (by omega)]
section WSV
variable {p : Program} {l : Launch} {e : Env} {R : Room} {s : State} {mid : MethodId} {args : Array Value} {below : List Frame} {meth : Method} {c : Code} {H : Heap} {locs : List Loc} {cells slots : Nat} {Q : State → Prop} {m pc nx a b : Nat} {v : Int} {ts : List (Int × Nat)} {ls : Array Slot} {rest : List Value}
variable {D : va_G} {C5 : Nat → ClassId} {ad adK : Nat → Nat} {b0 n : Nat} {σ : Mem} {A : Nat → Prop}
theorem w_19 (hx : p.tables.exec = Jvm.exec) (hb : c.code = mcF m) {x : Int} (ok : okI m pc (19, nx, a, b, v, ts) = true) (h0 : in32 x) (k : W p l e R s mid args below meth c H locs cells slots Q (F0 mid ((ts.lookup x).getD a) ls (rest))) : W p l e R s mid args below meth c H locs cells slots Q (F0 mid pc ls (.int (Int32.ofInt x) :: rest)) := by
  simp only [okI] at ok
  split at ok
  · split at ok
    · rename_i lo t0 r
      simp only [Bool.and_eq_true, decide_eq_true_eq] at ok
      obtain ⟨h1, h2⟩ := ok
      have h1 := isI_d h1
      have hl := lk_rng x ((lo, t0) :: r) lo h2
      have hlen : (((lo, t0) :: r).length : Int) = r.length + 1 := by simp
      by_cases hin : lo ≤ x ∧ x < lo + ((lo, t0) :: r).length
      · rw [if_pos hin] at hl
        have hj : (x - lo).toNat < ((lo, t0) :: r).length := by omega
        obtain ⟨q, hq⟩ : ∃ q, ((lo, t0) :: r)[(x - lo).toNat]? = some q := ⟨_, List.getElem?_eq_getElem hj⟩
        rw [hq] at hl
        rw [hl] at k
        refine lv_tableIn hx hb h1 (tgt := q.2) (off := (q.2 : Int) - pc) (by rw [o32 h0]; omega) (by rw [o32 h0]; omega) ?_ (by omega) k
        rw [o32 h0, List.getElem?_toArray, List.getElem?_map, hq]
        rfl
      · rw [if_neg hin] at hl
        rw [hl] at k
        exact lv_tableOut hx hb h1 (tgt := a) (by rw [o32 h0]; omega) (by omega) k
    · cases ok
  · simp only [Bool.and_eq_true, decide_eq_true_eq] at ok
    obtain ⟨h1, h2⟩ := ok
    refine lv_lookup hx hb (isI_d h1) h2 (off := (((ts.lookup x).getD a : Nat) : Int) - pc) (tgt := (ts.lookup x).getD a) ?_ (by omega) k
    rw [o32 h0]
    exact lk_off x a pc ts
theorem w_33 (hx : p.tables.exec = Jvm.exec) (hb : c.code = mcF m) (hown : s.vm.findClass (ownF (moF m)) = some mid.cls) (hts : ∀ w ∈ gtbl, w.before args s = true) (hK : va_K D cl13 (tysM C5) s) (hP : va_P D cl13 (wsM ad C5 n σ) H) (hD : va_D A (wsM ad C5 n σ)) (hS : va_S A s.heap H locs) (hM : okM n σ) (hA : ∀ q, s.heap.size ≤ q → A q) (ok : okI m pc (33, nx, a, b, v, ts) = true) (hsh : shF n = 10 + a) (hcells : cells + 1 ≤ R.cells) (hslots : slots + nfF a ≤ R.slots) (kk : ∀ (q : Nat) (H1 : Heap), va_P D cl13 (wsM (upA ad n q) C5 (n + 1) (mkM σ n (dfl a ftF))) H1 → va_D A (wsM (upA ad n q) C5 (n + 1) (mkM σ n (dfl a ftF))) → va_S A s.heap H1 locs → W p l e R s mid args below meth c H1 locs (cells + 1) (slots + nfF a) Q (F0 mid nx ls (.ref q :: rest))) : W p l e R s mid args below meth c H locs cells slots Q (F0 mid pc ls (rest)) := by
  simp only [okI, Bool.and_eq_true, decide_eq_true_eq] at ok
  obtain ⟨⟨⟨h1, rfl⟩, h2⟩, ha⟩ := ok
  obtain ⟨e, he, h3⟩ := List.any_eq_true.mp h2
  simp only [decide_eq_true_eq] at h3
  have hl := cl_ok e he
  rw [h3.1, h3.2.1, h3.2.2] at hl
  obtain ⟨c1, c2, c3⟩ := cw_ok a ha
  obtain ⟨i1, i2⟩ := ui_ok a ha
  have hslots' : slots + (clF a).2.2 ≤ R.slots := by rw [c2]; exact hslots
  refine va_new (c0 := c) (own := ownF (moF m)) (C := (clF a).1) (T := (clF a).2.1) (N := (clF a).2.2) (ci := a) (index := v.toNat) (fs := (List.range (nfF a)).map (fun (j : Nat) => fldV ad (ftF a j) (dfl a ftF j))) hx hb hts (uw_in ha) (tyF a) c3 hown (by rw [c1]; exact hts _ (gt_of hl rfl)) (by rw [c1, c2]; exact hts _ (List.mem_filter.mpr ⟨i1, rfl⟩)) (by rw [c1]; exact hts _ (List.mem_filter.mpr ⟨i2, rfl⟩)) hK hP hD hS hA (cx_ok a ha) ?_ hcells hslots' (isI_d h1) (fun q H1 p1 p2 p3 => ?_)
  · intro j hj
    rw [c2] at hj
    have e1 : vp_V ((List.range (nfF a)).map (fun (j : Nat) => fldV ad (ftF a j) (dfl a ftF j))) j = fldV ad (ftF a j) (dfl a ftF j) := by
      unfold vp_V
      rw [List.getD_eq_getElem?_getD, List.getElem?_map, List.getElem?_range hj]
      rfl
    rw [e1]
    obtain ⟨t1, t2, t3⟩ := ty_of ha hj
    unfold fldV dfl
    rw [Int.toNat_natCast]
    by_cases h10 : 10 ≤ ftF a j
    · rw [if_pos h10, if_pos h10]
      rcases t3 h10 with ⟨z, hz⟩ | ⟨z, hz⟩ <;> rw [hz] <;> rfl
    · rw [if_neg h10, if_neg h10]
      have q := ft_ok a ha j hj
      have h07 : ftF a j = 0 ∨ ftF a j = 7 := by
        unfold kTy at q
        split at q
        · left; assumption
        · right; assumption
        all_goals first | omega | (simp only [decide_eq_true_eq] at q; omega)
      rcases h07 with z | z
      · rw [t1 z]; rfl
      · rw [t2 z]; rfl
  · have hpush : wsM ad C5 n σ ++ [(q, .inr (a, (List.range (nfF a)).map (fun (j : Nat) => fldV ad (ftF a j) (dfl a ftF j))))] = wsM (upA ad n q) C5 (n + 1) (mkM σ n (dfl a ftF)) := by
      refine ws_push (upA_n ad n q) (fun k hk => upA_lt hk) ?_ (fun k hk => enc_ad hM hk (fun k hk => upA_lt hk) (fun x => mk_ne (by omega)))
      rw [enc_obj hsh ha]
      congr 2
      apply List.map_congr_left
      intro j _
      rw [mk_eq]
      unfold fldV dfl
      rw [Int.toNat_natCast]
      split
      · rfl
      · rfl
    rw [hpush] at p1 p2
    have k1 := kk q H1 p1 p2 p3
    rw [← c2] at k1
    exact k1
theorem w_34 (hx : p.tables.exec = Jvm.exec) (hb : c.code = mcF m) (hown : s.vm.findClass (ownF (moF m)) = some mid.cls) (hts : ∀ w ∈ gtbl, w.before args s = true) (hK : va_K D cl13 (tysM C5) s) (hP : va_P D cl13 (wsM ad C5 n σ) H) (hD : va_D A (wsM ad C5 n σ)) (hS : va_S A s.heap H locs) (hM : okM n σ) (hA : ∀ q, s.heap.size ≤ q → A q) {x : Int} (ok : okI m pc (34, nx, a, b, v, ts) = true) (hsh : shF n = a) (hln : lnF n = x) (x0 : 0 ≤ x) (x1 : x ≤ 1000) (hcells : cells + 1 ≤ R.cells) (hslots : slots + x.toNat ≤ R.slots) (kk : ∀ (q : Nat) (H1 : Heap), va_P D cl13 (wsM (upA ad n q) C5 (n + 1) (mkM σ n (fun _ => 0))) H1 → va_D A (wsM (upA ad n q) C5 (n + 1) (mkM σ n (fun _ => 0))) → va_S A s.heap H1 locs → W p l e R s mid args below meth c H1 locs (cells + 1) (slots + x.toNat) Q (F0 mid nx ls (.ref q :: rest))) : W p l e R s mid args below meth c H locs cells slots Q (F0 mid pc ls (.int (Int32.ofInt x) :: rest)) := by
  have x32 : in32 x := by unfold in32; omega
  have hn0 : ¬ Int32.ofInt x < 0 := by
    rw [show (0 : Int32) = Int32.ofInt 0 from rfl, lt32 x32 z32]
    omega
  have hpush : ∀ (q : Nat) (cA : ClassId), cA = C5 a → 50 ≤ a → a < 53 → wsM ad C5 n σ ++ [(q, .inl (cA, x.toNat, .inl (fun _ => 0)))] = wsM (upA ad n q) C5 (n + 1) (mkM σ n (fun _ => 0)) := by
    intro q cA hc ha1 ha2
    refine ws_push (upA_n ad n q) (fun k hk => upA_lt hk) ?_ (fun k hk => enc_ad hM hk (fun k hk => upA_lt hk) (fun x => mk_ne (by omega)))
    rw [enc_arr hsh ha1 ha2, hc, hln]
    simp only [Sum.inl.injEq, Prod.mk.injEq, true_and]
    funext j
    rw [mk_eq]
    rfl
  have hac := ow_ok.2.2
  simp only [okI, Bool.and_eq_true, decide_eq_true_eq] at ok
  obtain ⟨ok, rfl⟩ := ok
  split at ok
  · refine va_newa (atype := .int) (ty := .int) (a0 := (x.toNat, .inl (fun _ => 0))) hx hb (hts _ (List.mem_filter.mpr ⟨hac.1, rfl⟩)) rfl hK hP hD hS hA (fun cA => rfl) hn0 (nc32 x32) (by show x.toNat * 4 ≤ _; omega) hcells hslots (isI_d ok) (fun q cA H1 k1 p1 p2 p3 => ?_)
    have r1 : s.vm.findClass ("[" ++ FieldType.int.toString) = some (C5 50) := (hK.2 0 _ rfl).2
    have r2 : s.vm.findClass ("[" ++ FieldType.int.toString) = some cA := (k1.2 5 (cA, .int) rfl).2
    rw [hpush q cA (Option.some.inj (r2.symm.trans r1)) (by omega) (by omega)] at p1 p2
    exact kk q H1 p1 p2 p3
  · refine va_newa (atype := .byte) (ty := .byte) (a0 := (x.toNat, .inl (fun _ => 0))) hx hb (hts _ (List.mem_filter.mpr ⟨hac.2.1, rfl⟩)) rfl hK hP hD hS hA (fun cA => rfl) hn0 (nc32 x32) (by show x.toNat * 1 ≤ _; omega) hcells hslots (isI_d ok) (fun q cA H1 k1 p1 p2 p3 => ?_)
    have r1 : s.vm.findClass ("[" ++ FieldType.byte.toString) = some (C5 51) := (hK.2 1 _ rfl).2
    have r2 : s.vm.findClass ("[" ++ FieldType.byte.toString) = some cA := (k1.2 5 (cA, .byte) rfl).2
    rw [hpush q cA (Option.some.inj (r2.symm.trans r1)) (by omega) (by omega)] at p1 p2
    exact kk q H1 p1 p2 p3
  · refine va_newa (atype := .boolean) (ty := .boolean) (a0 := (x.toNat, .inl (fun _ => 0))) hx hb (hts _ (List.mem_filter.mpr ⟨hac.2.2.1, rfl⟩)) rfl hK hP hD hS hA (fun cA => rfl) hn0 (nc32 x32) (by show x.toNat * 1 ≤ _; omega) hcells hslots (isI_d ok) (fun q cA H1 k1 p1 p2 p3 => ?_)
    have r1 : s.vm.findClass ("[" ++ FieldType.boolean.toString) = some (C5 52) := (hK.2 2 _ rfl).2
    have r2 : s.vm.findClass ("[" ++ FieldType.boolean.toString) = some cA := (k1.2 5 (cA, .boolean) rfl).2
    rw [hpush q cA (Option.some.inj (r2.symm.trans r1)) (by omega) (by omega)] at p1 p2
    exact kk q H1 p1 p2 p3
  · cases ok
theorem w_35 (hx : p.tables.exec = Jvm.exec) (hb : c.code = mcF m) (hown : s.vm.findClass (ownF (moF m)) = some mid.cls) (hts : ∀ w ∈ gtbl, w.before args s = true) (hK : va_K D cl13 (tysM C5) s) (hP : va_P D cl13 (wsM ad C5 n σ) H) (hD : va_D A (wsM ad C5 n σ)) (hS : va_S A s.heap H locs) (hM : okM n σ) (hA : ∀ q, s.heap.size ≤ q → A q) (ho1 : va_AO RX3 s) (ho2 : va_AO RX9 s) {x : Int} (ok : okI m pc (35, nx, a, b, v, ts) = true) (hsh : shF n = a) (hln : lnF n = x) (x0 : 0 ≤ x) (x1 : x ≤ 1000) (hcells : cells + 1 ≤ R.cells) (hslots : slots + x.toNat ≤ R.slots) (kk : ∀ (q : Nat) (H1 : Heap), va_P D cl13 (wsM (upA ad n q) C5 (n + 1) (mkM σ n (fun _ => -1))) H1 → va_D A (wsM (upA ad n q) C5 (n + 1) (mkM σ n (fun _ => -1))) → va_S A s.heap H1 locs → W p l e R s mid args below meth c H1 locs (cells + 1) (slots + x.toNat) Q (F0 mid nx ls (.ref q :: rest))) : W p l e R s mid args below meth c H locs cells slots Q (F0 mid pc ls (.int (Int32.ofInt x) :: rest)) := by
  have x32 : in32 x := by unfold in32; omega
  have hn0 : ¬ Int32.ofInt x < 0 := by
    rw [show (0 : Int32) = Int32.ofInt 0 from rfl, lt32 x32 z32]
    omega
  have hpush : ∀ (q : Nat) (cA : ClassId), cA = C5 a → 53 ≤ a → wsM ad C5 n σ ++ [(q, .inl (cA, x.toNat, .inr (.inr (.inr (.inr (fun _ => none))))))] = wsM (upA ad n q) C5 (n + 1) (mkM σ n (fun _ => -1)) := by
    intro q cA hc ha1
    refine ws_push (upA_n ad n q) (fun k hk => upA_lt hk) ?_ (fun k hk => enc_ad hM hk (fun k hk => upA_lt hk) (fun x => mk_ne (by omega)))
    rw [enc_rar hsh ha1, hc, hln]
    simp only [Sum.inl.injEq, Prod.mk.injEq, Sum.inr.injEq, true_and]
    funext j
    rw [mk_eq, if_neg (by omega)]
  simp only [okI, Bool.and_eq_true, Bool.or_eq_true, decide_eq_true_eq] at ok
  obtain ⟨⟨h1, rfl⟩, h2⟩ := ok
  rcases h2 with ⟨rfl, h2⟩ | ⟨rfl, h2⟩
  · obtain ⟨e, he, h3⟩ := List.any_eq_true.mp h2
    simp only [decide_eq_true_eq] at h3
    have hl := cl_ok e he
    rw [h3.1, h3.2.1, h3.2.2] at hl
    refine va_newq (C := RX3) hx hb hown (hts _ (gt_of hl rfl)) ho1 hK hP hD hS hA hn0 (nc32 x32) (by omega) hcells hslots (isI_d h1) (fun q cA H1 k1 p1 p2 p3 => ?_)
    obtain ⟨_, _, _, _, _, r1⟩ := (hK.2 3 _ rfl).2
    obtain ⟨_, _, _, _, _, r2⟩ := (k1.2 5 (cA, .object RX3) rfl).2
    rw [hpush q cA (Option.some.inj (r2.symm.trans r1)) (by omega)] at p1 p2
    exact kk q H1 p1 p2 p3
  · obtain ⟨e, he, h3⟩ := List.any_eq_true.mp h2
    simp only [decide_eq_true_eq] at h3
    have hl := cl_ok e he
    rw [h3.1, h3.2.1, h3.2.2] at hl
    refine va_newq (C := RX9) hx hb hown (hts _ (gt_of hl rfl)) ho2 hK hP hD hS hA hn0 (nc32 x32) (by omega) hcells hslots (isI_d h1) (fun q cA H1 k1 p1 p2 p3 => ?_)
    obtain ⟨_, _, _, _, _, r1⟩ := (hK.2 4 _ rfl).2
    obtain ⟨_, _, _, _, _, r2⟩ := (k1.2 5 (cA, .object RX9) rfl).2
    rw [hpush q cA (Option.some.inj (r2.symm.trans r1)) (by omega)] at p1 p2
    exact kk q H1 p1 p2 p3
theorem w_37 (hx : p.tables.exec = Jvm.exec) (hb : c.code = mcF m) (hown : s.vm.findClass (ownF (moF m)) = some mid.cls) (hts : ∀ w ∈ gtbl, w.before args s = true) (hsz : ls.size = c.maxLocals) (hfr : 4 ≤ R.frames) (hlo : 100 ≤ R.locals) {k : Nat} (ok : okI m pc (37, nx, a, b, v, ts) = true) (hsum : (rest.map fun v => v.category).sum ≤ 8) (kk : W p l e R s mid args below meth c H locs cells slots Q (F0 mid nx ls (rest))) : W p l e R s mid args below meth c H locs cells slots Q (F0 mid pc ls (.ref k :: rest)) := by
  simp only [okI, Bool.and_eq_true, decide_eq_true_eq] at ok
  obtain ⟨⟨h1, rfl⟩, h2⟩ := ok
  obtain ⟨e, he, h3⟩ := List.any_eq_true.mp h2
  simp only [decide_eq_true_eq] at h3
  have hl := ob_ok e he
  rw [h3.1, h3.2] at hl
  have hr := lv_room (m := mid) (pc := pc) (ls := ls) (rest := .ref k :: rest) (st := rest) hsum
  exact W.objInit hx hb hown (hts _ (gt_of hl rfl)) (hts _ (List.mem_filter.mpr ⟨ow_ok.1, rfl⟩)) (hts _ (List.mem_filter.mpr ⟨ow_ok.2.1, rfl⟩)) rfl hsz rfl (isI_d h1) (by omega) (by omega) kk
theorem w_46 (hx : p.tables.exec = Jvm.exec) (hb : c.code = mcF m) (hown : s.vm.findClass (ownF (moF m)) = some mid.cls) (hts : ∀ w ∈ gtbl, w.before args s = true) (hK : va_K D cl13 (tysM C5) s) (hP : va_P D cl13 (wsM ad C5 n σ) H) (hD : va_D A (wsM ad C5 n σ)) (hS : va_S A s.heap H locs) (hsz : ls.size = c.maxLocals) (hfr : 4 ≤ R.frames) (hlo : 100 ≤ R.locals) {k1 k2 sp dp cn : Int} (ok : okI m pc (46, nx, a, b, v, ts) = true) (hsum : (rest.map fun v => v.category).sum ≤ 8) (hk1 : okV n (50, k1)) (hk2 : okV n (50, k2)) (g1 : 0 ≤ k1) (g2 : 0 ≤ k2) (hsp : in32 sp) (hdp : in32 dp) (hcn : in32 cn) (c0 : 0 ≤ cn) (s0 : 0 ≤ sp) (d0 : 0 ≤ dp) (sl : sp + cn ≤ lnF k1) (dl : dp + cn ≤ lnF k2) (kk : ∀ (H1 : Heap) (locs1 : List Loc), va_P D cl13 (wsM ad C5 n (cpM σ k1 sp k2 dp cn)) H1 → va_D A (wsM ad C5 n (cpM σ k1 sp k2 dp cn)) → va_S A s.heap H1 locs1 → W p l e R s mid args below meth c H1 locs1 cells slots Q (F0 mid nx ls (rest))) : W p l e R s mid args below meth c H locs cells slots Q (F0 mid pc ls (.int (Int32.ofInt cn) :: .int (Int32.ofInt dp) :: cnV ad adK b0 (50, k2) :: .int (Int32.ofInt sp) :: cnV ad adK b0 (50, k1) :: rest)) := by
  simp only [okI, Bool.and_eq_true, decide_eq_true_eq] at ok
  obtain ⟨⟨h1, rfl⟩, h2⟩ := ok
  obtain ⟨e, he, h3⟩ := List.any_eq_true.mp h2
  simp only [decide_eq_true_eq] at h3
  have hl := ac_ok e he
  rw [h3.1, h3.2] at hl
  obtain ⟨z1, z2, z3⟩ := okR_sh (hk1.ref (by omega)) g1
  obtain ⟨y1, y2, y3⟩ := okR_sh (hk2.ref (by omega)) g2
  rw [cn_r (by omega) g1, cn_r (by omega) g2]
  have nn : ∀ z : Int, in32 z → 0 ≤ z → ¬ Int32.ofInt z < 0 := by
    intro z hz h0
    rw [show (0 : Int32) = Int32.ofInt 0 from rfl, lt32 hz z32]
    omega
  have hac := ow_ok.2.2.2.2.2
  refine va_copyi (ty := .int) hx hb hsz.symm hown (hts _ (gt_of hl rfl)) (hts _ (List.mem_filter.mpr ⟨hac.1, rfl⟩)) (hts _ (List.mem_filter.mpr ⟨hac.2.1, rfl⟩)) (hts _ (List.mem_filter.mpr ⟨hac.2.2, rfl⟩)) hK hP hD hS k1.toNat k2.toNat 0 0 (ws_get z1 |>.trans (by rw [enc_arr z2 (by omega) (by omega)])) (ws_get y1 |>.trans (by rw [enc_arr y2 (by omega) (by omega)])) rfl rfl rfl (nn sp hsp s0) (nn dp hdp d0) (nn cn hcn c0) (by rw [nc32 hsp, nc32 hcn, z3]; omega) (by rw [nc32 hdp, nc32 hcn, y3]; omega) (fun i _ => rfl) (by omega) ?_ (isI_d h1) (fun H1 locs1 p1 p2 p3 => ?_)
  · have : nativeFrameWords "java/lang/System" "arraycopy" 5 = 7 := by decide +kernel
    omega
  · rw [nc32 hsp, nc32 hdp, nc32 hcn, ← enc_cp (ad := ad) (C5 := C5) (k1 := k1.toNat) (k2 := k2.toNat) (σ := σ) (sp := sp) (dp := dp) (c := cn) y2 s0 d0 c0, ws_set y1 rfl (fun k' hk' hne y => if_neg (fun q => by omega)), z3, y3] at p1 p2
    exact kk H1 locs1 p1 p2 p3
theorem w_49 (hx : p.tables.exec = Jvm.exec) (hb : c.code = mcF m) (hown : s.vm.findClass (ownF (moF m)) = some mid.cls) (hts : ∀ w ∈ gtbl, w.before args s = true) (hsz : ls.size = c.maxLocals) (hfr : 4 ≤ R.frames) (hlo : 100 ≤ R.locals) (hc : cells ≤ R.cells) (hs : slots ≤ R.slots) {x y : Int} (ok : okI m pc (49, nx, a, b, v, ts) = true) (hsum : (rest.map fun v => v.category).sum ≤ 8) (h0 : in32 x) (h1 : in32 y) (kk : W p l e R s mid args below meth c H locs cells slots Q (F0 mid nx ls (.int (Int32.ofInt (if b = 0 then (if x < y then y else x) else (if y < x then y else x))) :: rest))) : W p l e R s mid args below meth c H locs cells slots Q (F0 mid pc ls (.int (Int32.ofInt y) :: .int (Int32.ofInt x) :: rest)) := by
  simp only [okI, Bool.and_eq_true, Bool.or_eq_true, decide_eq_true_eq] at ok
  obtain ⟨⟨h4, rfl⟩, h2⟩ := ok
  obtain ⟨w1, w2, w3, w4, w5⟩ := mw_ok
  rcases h2 with ⟨rfl, h2⟩ | ⟨rfl, h2⟩
  · obtain ⟨e, he, h3⟩ := List.any_eq_true.mp h2
    simp only [decide_eq_true_eq] at h3
    have hl := mx_ok e he
    rw [h3.1, h3.2] at hl
    refine va_mmax hx hb hsz.symm hown (hts _ (gt_of hl rfl)) (hts _ (List.mem_filter.mpr ⟨w1, rfl⟩)) (hts _ (List.mem_filter.mpr ⟨w3, rfl⟩)) (hts _ (List.mem_filter.mpr ⟨w4, rfl⟩)) (by omega) (by omega) hc hs (isI_d h4) ?_
    rw [if_pos rfl] at kk
    by_cases hq : x < y
    · rw [if_pos ((lt32 h0 h1).mpr hq)]
      rwa [if_pos hq] at kk
    · rw [if_neg (fun z => hq ((lt32 h0 h1).mp z))]
      rwa [if_neg hq] at kk
  · obtain ⟨e, he, h3⟩ := List.any_eq_true.mp h2
    simp only [decide_eq_true_eq] at h3
    have hl := mn_ok e he
    rw [h3.1, h3.2] at hl
    refine va_mmin hx hb hsz.symm hown (hts _ (gt_of hl rfl)) (hts _ (List.mem_filter.mpr ⟨w2, rfl⟩)) (hts _ (List.mem_filter.mpr ⟨w3, rfl⟩)) (hts _ (List.mem_filter.mpr ⟨w5, rfl⟩)) (by omega) (by omega) hc hs (isI_d h4) ?_
    rw [if_neg (by omega)] at kk
    by_cases hq : y < x
    · rw [if_pos ((lt32 h1 h0).mpr hq)]
      rwa [if_pos hq] at kk
    · rw [if_neg (fun z => hq ((lt32 h1 h0).mp z))]
      rwa [if_neg hq] at kk
end WSV
end
section
/-! one instruction of the small machine, over the machine -/
def stxL : List String := ["from", "least", "way", "pair", "relay", "late", "rate"]
def stxF (i : Nat) : String := stxL.getD i ""
def lenS : List Nat := strL.map List.length
def bytS : List (List Int32) := strL.map (fun l => l.map Int32.ofInt)
def nstW : List Cond := nkL.map (fun e => Cond.methodLinkNest (ownF e.1) e.2.1 (myF e.2.2) "HearingDesk")
def EnvU (D : va_G) (C5 : Nat → ClassId) (adK : Nat → Nat) (U : State) : Prop := va_K D cl13 (tysM C5) U ∧ (∀ w ∈ nstW, va_Nw w U) ∧ va_AO RX3 U ∧ va_AO RX9 U ∧ (∀ e ∈ stL, vk_R (ownF e.1) e.2.1 (stxF e.2.2) (adK e.2.2) U)
def StrU (adK adV : Nat → Nat) (A : Nat → Prop) (U : State) (H : Heap) : Prop := vk_S 7 lenS bytS adK adV A U H ∧ va_Z "java/lang/String" "COMPACT_STRINGS" "Z" (.int 1) A U H ∧ va_Zq "jdk/internal/util/Preconditions" "SIOOBE_FORMATTER" "Ljava/util/function/BiFunction;" A U H
def csz (k : Nat) : Nat := if shF k < 50 then nfF (shF k - 10) else (lnF k).toNat
def ssM : Nat → Nat
  | 0 => 0
  | k + 1 => ssM k + csz k
theorem ss_mono {a b : Nat} (h : a ≤ b) : ssM a ≤ ssM b := by
  induction h with
  | refl => exact Nat.le_refl _
  | step _ ih => exact Nat.le_trans ih (Nat.le_add_right _ _)
/-- what stands while a method m runs: d calls deep at most below it -/
def CxM (p : Program) (R : Room) (s : State) (mid : MethodId) (args : Array Value) (meth : Method) (c : Code) (D : va_G) (C5 : Nat → ClassId) (adK adV : Nat → Nat) (b0 : Nat) (A : Nat → Prop) (d m : Nat) (xs : Int → Int) : Prop :=
  p.tables.exec = Jvm.exec ∧ c.code = mcF m ∧ c.maxLocals = mlF m ∧ s.vm.findClass (ownF (moF m)) = some mid.cls ∧ (∀ w ∈ gtbl, w.before args s = true) ∧ EnvU D C5 adK s ∧ StrU adK adV A s s.heap ∧ (∀ q, s.heap.size ≤ q → A q) ∧ ((pwF m).2.2.2.2 = 2 → meth.name = "<init>") ∧ 2 * d + 4 ≤ R.frames ∧ 60 * d + 100 ≤ R.locals ∧ (m = 179 → va_X b0 (xs (-1)).toNat (fun j => Int32.ofInt (xs j)) s s.heap ∧ b0 < s.heap.size ∧ ¬ A b0 ∧ 0 ≤ xs (-1))
def S44 : Prop := ∀ {p : Program} {l : Launch} {e : Env} {R : Room} {s : State} {mid : MethodId} {args : Array Value} {below : List Frame} {meth : Method} {c : Code} {H : Heap} {locs : List Loc} {cells slots : Nat} {Q : State → Prop} {m pc nx a b : Nat} {v : Int} {ts : List (Int × Nat)} {ls : Array Slot} {rest : List Value} {adK adV : Nat → Nat} {A : Nat → Prop} {k : Int}, p.tables.exec = Jvm.exec → c.code = mcF m → s.vm.findClass (ownF (moF m)) = some mid.cls → (∀ w ∈ gtbl, w.before args s = true) → StrU adK adV A s s.heap → va_S A s.heap H locs → ls.size = c.maxLocals → 4 ≤ R.frames → 100 ≤ R.locals → cells ≤ R.cells → slots ≤ R.slots → okI m pc (44, nx, a, b, v, ts) = true → 0 ≤ k → k < 7 → (rest.map fun v => v.category).sum ≤ 8 → W p l e R s mid args below meth c H locs cells slots Q (F0 mid nx ls (.int (Int32.ofInt (slF k)) :: rest)) → W p l e R s mid args below meth c H locs cells slots Q (F0 mid pc ls (.ref (adK k.toNat) :: rest))
def S45 : Prop := ∀ {p : Program} {l : Launch} {e : Env} {R : Room} {s : State} {mid : MethodId} {args : Array Value} {below : List Frame} {meth : Method} {c : Code} {H : Heap} {locs : List Loc} {cells slots : Nat} {Q : State → Prop} {m pc nx a b : Nat} {v : Int} {ts : List (Int × Nat)} {ls : Array Slot} {rest : List Value} {adK adV : Nat → Nat} {A : Nat → Prop} {k i : Int}, p.tables.exec = Jvm.exec → c.code = mcF m → s.vm.findClass (ownF (moF m)) = some mid.cls → (∀ w ∈ gtbl, w.before args s = true) → StrU adK adV A s s.heap → va_S A s.heap H locs → ls.size = c.maxLocals → 4 ≤ R.frames → 100 ≤ R.locals → cells ≤ R.cells → slots ≤ R.slots → okI m pc (45, nx, a, b, v, ts) = true → 0 ≤ k → k < 7 → 0 ≤ i → i < slF k → (rest.map fun v => v.category).sum ≤ 8 → W p l e R s mid args below meth c H locs cells slots Q (F0 mid nx ls (.int (Int32.ofInt (scF k i)) :: rest)) → W p l e R s mid args below meth c H locs cells slots Q (F0 mid pc ls (.int (Int32.ofInt i) :: .ref (adK k.toNat) :: rest))
section STW
variable {p : Program} {l : Launch} {e : Env} {R : Room} {s : State} {mid : MethodId} {args : Array Value} {below : List Frame} {meth : Method} {c : Code} {H : Heap} {locs : List Loc} {Q : State → Prop}
variable {D : va_G} {C5 : Nat → ClassId} {ad adK adV : Nat → Nat} {b0 : Nat} {A : Nat → Prop} {xs : Int → Int}
set_option maxHeartbeats 4000000 in
theorem stp_W (h44 : S44) (h45 : S45) {d m pc op nx a b : Nat} {v : Int} {ts : List (Int × Nat)} {L st : List AV} {σ : Mem} {n pc' : Nat} {L' st' : List AV} {σ' : Mem} {n' n0 N : Nat} {ls : Array Slot} (hI : okI m pc (op, nx, a, b, v, ts) = true) (h179 : op = 47 ∨ op = 48 → m = 179) (h4 : op = 4 → a < mlF m) (h : stpM S0 op nx a b v ts L st σ n = some (pc', L', st', σ', n')) (hC : okC m n L st σ) (X : CxM p R s mid args meth c D C5 adK adV b0 A d m xs) (hn0 : n0 ≤ n) (hN : n' ≤ N) (hRc : N - n0 ≤ R.cells) (hRs : ssM N - ssM n0 ≤ R.slots) (hxs : ∀ j, σ (-2) j = xs j) (hP : va_P D cl13 (wsM ad C5 n σ) H) (hD : va_D A (wsM ad C5 n σ)) (hS : va_S A s.heap H locs) (hLr : LrM ad adK b0 ls (mlF m) L)
    (K : ∀ (ad' : Nat → Nat) (ls' : Array Slot) (H' : Heap) (locs' : List Loc), (∀ k, k < n → ad' k = ad k) → va_P D cl13 (wsM ad' C5 n' σ') H' → va_D A (wsM ad' C5 n' σ') → va_S A s.heap H' locs' → LrM ad' adK b0 ls' (mlF m) L' → W p l e R s mid args below meth c H' locs' (n' - n0) (ssM n' - ssM n0) Q (F0 mid pc' ls' (st'.map (cnV ad' adK b0)))) :
    W p l e R s mid args below meth c H locs (n - n0) (ssM n - ssM n0) Q (F0 mid pc ls (st.map (cnV ad adK b0))) := by
  obtain ⟨hx, hb, hml, hown, hts, ⟨hK, hNw, ho1, ho2, hSt⟩, hStr, hA, hin, hfr, hlo, hsc⟩ := X
  obtain ⟨hM, hL, hS', hG⟩ := id hC
  have hsz : ls.size = c.maxLocals := by rw [hml]; exact hLr.2.1
  have hcs : ∀ {q : Nat}, n ≤ q → q ≤ N → q - n0 ≤ R.cells := fun h1 h2 => by omega
  unfold stpM at h
  split at h
  · -- 0
    simp only [Option.some.injEq, Prod.mk.injEq] at h
    obtain ⟨rfl, rfl, rfl, rfl, rfl⟩ := h
    exact w_0 hx hb hown hts hI (K ad ls H locs (fun _ _ => rfl) hP hD hS hLr)
  · -- 1
    simp only [Option.some.injEq, Prod.mk.injEq] at h
    obtain ⟨rfl, rfl, rfl, rfl, rfl⟩ := h
    exact w_1 hx hb hown hts hI (K ad ls H locs (fun _ _ => rfl) hP hD hS hLr)
  · -- 2
    simp only [Option.some.injEq, Prod.mk.injEq] at h
    obtain ⟨rfl, rfl, rfl, rfl, rfl⟩ := h
    have k := K ad ls H locs (fun _ _ => rfl) hP hD hS hLr
    have hb10 : 10 ≤ b := by simp only [okI, Bool.and_eq_true, decide_eq_true_eq] at hI; exact hI.2
    rw [List.map_cons, cn_n hb10 (by omega)] at k
    exact w_2 hx hb hI k
  · -- 3
    split at h
    · rename_i x hx1
      split at h
      · rename_i hk
        simp only [Option.some.injEq, Prod.mk.injEq] at h
        obtain ⟨rfl, rfl, rfl, rfl, rfl⟩ := h
        have k := K ad ls H locs (fun _ _ => rfl) hP hD hS hLr
        rw [List.map_cons] at k
        have hb2 : b ≤ 2 := by simp only [okI, Bool.and_eq_true, decide_eq_true_eq] at hI; exact hI.1
        have h9 : ¬ x.1 = 9 := by
          intro q
          unfold kdM at hk
          rw [q] at hk
          simp at hk
          omega
        have hl := hLr.2.2.2 a x hx1 h9
        have hv := (hL x (List.mem_of_getElem? hx1)).resolve_left h9
        obtain ⟨t, w⟩ := x
        rcases hv with ⟨q, q2⟩ | ⟨q, q2⟩ | ⟨q, q2⟩ | q | ⟨q, q2⟩
        · simp only at q
          subst q
          exact w_3i hx hb hI (by rw [← hk]; rfl) hl k
        · simp only at q
          subst q
          exact w_3l hx hb hI (by rw [← hk]; rfl) hl k
        · simp only at q
          subst q
          exact w_3a hx hb hI (by rw [← hk]; rfl) hl k
        · simp only at q
          subst q
          exact w_3a hx hb hI (by rw [← hk]; rfl) hl k
        · simp only at q q2
          have hb1 : b = 1 := by
            rw [← hk]
            unfold kdM
            rw [if_neg (by simp only; omega), if_neg (by simp only; omega), if_neg (by simp only; omega)]
          by_cases hw : w < 0
          · rw [cn_n q hw] at hl k
            exact w_3n hx hb hI hb1 hl k
          · rw [cn_r q (by omega)] at hl k
            exact w_3a hx hb hI hb1 hl k
      · cases h
    · cases h
  · -- 4
    split at h
    · rename_i x st0
      split at h
      · rename_i hk
        simp only [Option.some.injEq, Prod.mk.injEq] at h
        obtain ⟨rfl, rfl, rfl, rfl, rfl⟩ := h
        obtain ⟨k1, k2, k3⟩ := hk
        have hI' := hI
        simp only [okI, Bool.and_eq_true, Bool.or_eq_true, decide_eq_true_eq] at hI'
        have hb2 : b ≤ 2 := hI'.1.1.1
        have hnl : noLM L a = true ∨ ∀ y ∈ L, ¬ y.1 = 2 := by
          rcases k3 with q | q
          · rcases hI'.1.1.2 with z | z
            · omega
            · exact Or.inr (hG z.2)
          · exact Or.inl q
        rw [List.map_cons]
        have hv := ok_head hS'
        have hlen := hLr.1
        obtain ⟨t, w⟩ := x
        rcases hv with ⟨q, q2⟩ | ⟨q, q2⟩ | ⟨q, q2⟩ | q | ⟨q, q2⟩
        · simp only at q
          subst q
          exact w_4i hx hb hI (by rw [← k1]; rfl) hLr.has (h4 rfl) (fun ls' h' => K ad ls' H locs (fun _ _ => rfl) hP hD hS (hLr.of_store (x := (0, w)) hnl (by simp) h'))
        · simp only at q
          subst q
          have hb' : b = 2 := by rw [← k1]; rfl
          have hnl2 : noLM L a = true := by
            rcases k3 with z | z
            · rcases hI'.1.1.2 with z2 | z2
              · omega
              · rcases hI'.1.2 with z3 | z3
                · omega
                · exact absurd z3 z2.2
            · exact z
          exact w_4l hx hb hI hb' hLr.has (by omega) (fun ls' h' => K ad ls' H locs (fun _ _ => rfl) hP hD hS (hLr.of_store2 (x := (2, w)) hnl2 h'))
        · simp only at q
          subst q
          exact w_4a hx hb hI (by rw [← k1]; rfl) hLr.has (h4 rfl) (fun ls' h' => K ad ls' H locs (fun _ _ => rfl) hP hD hS (hLr.of_store (x := (3, w)) hnl (by simp) h'))
        · simp only at q
          subst q
          exact w_4a hx hb hI (by rw [← k1]; rfl) hLr.has (h4 rfl) (fun ls' h' => K ad ls' H locs (fun _ _ => rfl) hP hD hS (hLr.of_store (x := (5, w)) hnl (by simp) h'))
        · simp only at q q2
          have hb1 : b = 1 := by
            rw [← k1]
            unfold kdM
            rw [if_neg (by simp only; omega), if_neg (by simp only; omega), if_neg (by simp only; omega)]
          have hK1 : ∀ ls', LrM ad adK b0 ls' (mlF m) (L.set a (t, w)) → W p l e R s mid args below meth c H locs (n - n0) (ssM n - ssM n0) Q (F0 mid nx ls' (st0.map (cnV ad adK b0))) := by
            intro ls' h'
            have k := K ad ls' H locs (fun _ _ => rfl) hP hD hS
            unfold stoM at k
            rw [if_neg (by simp only; omega)] at k
            exact k h'
          by_cases hw : w < 0
          · rw [cn_n q hw]
            exact w_4n hx hb hI hb1 hLr.has (by omega) (fun ls' h' => hK1 ls' (hLr.of_store (x := (t, w)) hnl (by simp only; omega) (by rw [cn_n q hw]; exact h')))
          · rw [cn_r q (by omega)]
            exact w_4a hx hb hI hb1 hLr.has (by omega) (fun ls' h' => hK1 ls' (hLr.of_store (x := (t, w)) hnl (by simp only; omega) (by rw [cn_r q (by omega)]; exact h')))
      · cases h
    · cases h
  · -- 5
    split at h
    · rename_i x hx1
      split at h
      · rename_i hk
        simp only [Option.some.injEq, Prod.mk.injEq] at h
        obtain ⟨rfl, rfl, rfl, rfl, rfl⟩ := h
        have hI' := hI
        simp only [okI, Bool.and_eq_true, Bool.or_eq_true, decide_eq_true_eq] at hI'
        have hnl : noLM L a = true ∨ ∀ y ∈ L, ¬ y.1 = 2 := by
          rcases hk.2 with q | q
          · rcases hI'.2 with z | z
            · omega
            · exact Or.inr (hG z.2)
          · exact Or.inl q
        obtain ⟨t, w⟩ := x
        have ht : t = 0 := hk.1
        subst ht
        have hm := lvL_mem (ad := ad) (adK := adK) (b0 := b0) hx1 (by simp)
        have han : a < mlF m := by rw [← hLr.1]; exact (List.getElem?_eq_some_iff.mp hx1).1
        refine w_5 (x := Int32.ofInt w) hx hb hI hLr.has hm han (fun ls' h' => K ad ls' H locs (fun _ _ => rfl) hP hD hS (hLr.of_store (x := (0, Zadd w v)) hnl (by simp) ?_))
        rw [cn_i, Zadd, r32]
        exact h'
      · cases h
    · cases h
  · -- 6
    split at h
    · split at h
      · rename_i hz
        simp only [Option.some.injEq, Prod.mk.injEq] at h
        obtain ⟨rfl, rfl, rfl, rfl, rfl⟩ := h
        exact w_6 hx hb hI (ok_head hS').int hz (K ad ls H locs (fun _ _ => rfl) hP hD hS hLr)
      · cases h
    · cases h
  · -- 7
    split at h
    · split at h
      · rename_i hz
        simp only [Option.some.injEq, Prod.mk.injEq] at h
        obtain ⟨rfl, rfl, rfl, rfl, rfl⟩ := h
        exact w_7 hx hb hI (ok_head hS').long hz (K ad ls H locs (fun _ _ => rfl) hP hD hS hLr)
      · cases h
    · cases h
  · -- 8
    split at h
    · simp only [Option.some.injEq, Prod.mk.injEq] at h
      obtain ⟨rfl, rfl, rfl, rfl, rfl⟩ := h
      exact w_8 hx hb hI (ok_head hS').int (K ad ls H locs (fun _ _ => rfl) hP hD hS hLr)
    · cases h
  · -- 9
    split at h
    · simp only [Option.some.injEq, Prod.mk.injEq] at h
      obtain ⟨rfl, rfl, rfl, rfl, rfl⟩ := h
      exact w_9 hx hb hI (K ad ls H locs (fun _ _ => rfl) hP hD hS hLr)
    · cases h
  · -- 10
    split at h
    · simp only [Option.some.injEq, Prod.mk.injEq] at h
      obtain ⟨rfl, rfl, rfl, rfl, rfl⟩ := h
      exact w_10 hx hb hI (ok_head (ok_tail hS')).long (ok_head hS').long (K ad ls H locs (fun _ _ => rfl) hP hD hS hLr)
    · cases h
  · -- 11
    split at h
    · rename_i x st0
      split at h
      · cases h
      · rename_i h2
        simp only [Option.some.injEq, Prod.mk.injEq] at h
        obtain ⟨rfl, rfl, rfl, rfl, rfl⟩ := h
        exact w_11 hx hb hI (by rw [cn_cat]; exact if_neg h2) (K ad ls H locs (fun _ _ => rfl) hP hD hS hLr)
    · cases h
  · -- 12
    split at h
    · rename_i x y st0
      split at h
      · cases h
      · rename_i h2
        simp only [Option.some.injEq, Prod.mk.injEq] at h
        obtain ⟨rfl, rfl, rfl, rfl, rfl⟩ := h
        exact w_12 hx hb hI (by rw [cn_cat]; exact if_neg (fun z => h2 (Or.inl z))) (by rw [cn_cat]; exact if_neg (fun z => h2 (Or.inr z))) (K ad ls H locs (fun _ _ => rfl) hP hD hS hLr)
    · cases h
  · -- 13
    split at h
    · simp only [Option.some.injEq, Prod.mk.injEq] at h
      obtain ⟨rfl, rfl, rfl, rfl, rfl⟩ := h
      exact w_13 hx hb hI (ok_head hS').int (K ad ls H locs (fun _ _ => rfl) hP hD hS hLr)
    · cases h
  · -- 14
    split at h
    · simp only [Option.some.injEq, Prod.mk.injEq] at h
      obtain ⟨rfl, rfl, rfl, rfl, rfl⟩ := h
      exact w_14 hx hb hI (ok_head (ok_tail hS')).int (ok_head hS').int (K ad ls H locs (fun _ _ => rfl) hP hD hS hLr)
    · cases h
  · -- 15
    split at h
    · split at h
      · rename_i hk
        simp only [Option.some.injEq, Prod.mk.injEq] at h
        obtain ⟨rfl, rfl, rfl, rfl, rfl⟩ := h
        exact w_15 hx hb hI hk (K ad ls H locs (fun _ _ => rfl) hP hD hS hLr)
      · cases h
    · cases h
  · -- 16
    split at h
    · split at h
      · rename_i hk
        simp only [Option.some.injEq, Prod.mk.injEq] at h
        obtain ⟨rfl, rfl, rfl, rfl, rfl⟩ := h
        exact w_16 hx hb hI hk (K ad ls H locs (fun _ _ => rfl) hP hD hS hLr)
      · cases h
    · cases h
  · -- 17
    split at h
    · split at h
      · rename_i hk
        simp only [Option.some.injEq, Prod.mk.injEq] at h
        obtain ⟨rfl, rfl, rfl, rfl, rfl⟩ := h
        exact w_17 (n := n) hx hb hI hk.1 hk.2 (ok_head (ok_tail hS')) (ok_head hS') (fun i j hi hj e => hD.1 i j _ _ (ws_get hi) (ws_get hj) e) (K ad ls H locs (fun _ _ => rfl) hP hD hS hLr)
      · cases h
    · cases h
  · -- 18
    simp only [Option.some.injEq, Prod.mk.injEq] at h
    obtain ⟨rfl, rfl, rfl, rfl, rfl⟩ := h
    exact w_18 hx hb hI (K ad ls H locs (fun _ _ => rfl) hP hD hS hLr)
  · -- 19
    split at h
    · simp only [Option.some.injEq, Prod.mk.injEq] at h
      obtain ⟨rfl, rfl, rfl, rfl, rfl⟩ := h
      exact w_19 hx hb hI (ok_head hS').int (K ad ls H locs (fun _ _ => rfl) hP hD hS hLr)
    · cases h
  · -- 21
    split at h
    · rename_i t k st0
      split at h
      · rename_i hk
        simp only [Option.some.injEq, Prod.mk.injEq] at h
        obtain ⟨rfl, rfl, rfl, rfl, rfl⟩ := h
        obtain ⟨rfl, hk0⟩ := hk
        exact w_21 hx hb hown hts hK hP hI (ok_head hS') hk0 (K ad ls H locs (fun _ _ => rfl) hP hD hS hLr)
      · cases h
    · cases h
  · -- 22
    split at h
    · rename_i t' x t k st0
      split at h
      · rename_i hk
        simp only [Option.some.injEq, Prod.mk.injEq] at h
        obtain ⟨rfl, rfl, rfl, rfl, rfl⟩ := h
        obtain ⟨rfl, hk0, rfl⟩ := hk
        exact w_22 hx hb hown hts hK hP hD hS hin hI (ok_head (ok_tail hS')) hk0 (fun H1 locs1 p1 p2 p3 => K ad ls H1 locs1 (fun _ _ => rfl) p1 p2 p3 hLr)
      · cases h
    · cases h
  · -- 23
    split at h
    · rename_i x t k st0
      split at h
      · rename_i hk
        simp only [Option.some.injEq, Prod.mk.injEq] at h
        obtain ⟨rfl, rfl, rfl, rfl, rfl⟩ := h
        obtain ⟨rfl, hk0, hk1⟩ := hk
        exact w_23 hx hb hown hts hK hP hD hS hI (ok_head (ok_tail hS')) hk0 hk1 (fun H1 locs1 p1 p2 p3 => K ad ls H1 locs1 (fun _ _ => rfl) p1 p2 p3 hLr)
      · cases h
    · cases h
  · -- 24
    split at h
    · rename_i i t k st0
      split at h
      · rename_i hk
        simp only [Option.some.injEq, Prod.mk.injEq] at h
        obtain ⟨rfl, rfl, rfl, rfl, rfl⟩ := h
        obtain ⟨rfl, hk0, hk1, hk2⟩ := hk
        exact w_24 hx hb hK hP hI (ok_head (ok_tail hS')) (ok_head hS').int hk0 hk1 hk2 (K ad ls H locs (fun _ _ => rfl) hP hD hS hLr)
      · cases h
    · cases h
  · -- 28
    split at h
    · rename_i x i k st0
      split at h
      · rename_i hk
        simp only [Option.some.injEq, Prod.mk.injEq] at h
        obtain ⟨rfl, rfl, rfl, rfl, rfl⟩ := h
        obtain ⟨hk0, hk1, hk2⟩ := hk
        exact w_28 hx hb hK hP hD hS hI (ok_head (ok_tail (ok_tail hS'))) (ok_head (ok_tail hS')).int hk0 hk1 hk2 (fun H1 locs1 p1 p2 p3 => K ad ls H1 locs1 (fun _ _ => rfl) p1 p2 p3 hLr)
      · cases h
    · cases h
  · -- 29
    split at h
    · rename_i x i k st0
      split at h
      · rename_i hk
        simp only [Option.some.injEq, Prod.mk.injEq] at h
        obtain ⟨rfl, rfl, rfl, rfl, rfl⟩ := h
        obtain ⟨hk0, hk1, hk2⟩ := hk
        exact w_29 hx hb hK hP hD hS hI (ok_head (ok_tail (ok_tail hS'))) (ok_head (ok_tail hS')).int hk0 hk1 hk2 (fun H1 locs1 p1 p2 p3 => K ad ls H1 locs1 (fun _ _ => rfl) p1 p2 p3 hLr)
      · cases h
    · cases h
  · -- 30
    split at h
    · rename_i x i k st0
      split at h
      · rename_i hk
        simp only [Option.some.injEq, Prod.mk.injEq] at h
        obtain ⟨rfl, rfl, rfl, rfl, rfl⟩ := h
        obtain ⟨hk0, hk1, hk2⟩ := hk
        exact w_30 hx hb hK hP hD hS hI (ok_head (ok_tail (ok_tail hS'))) (ok_head (ok_tail hS')).int hk0 hk1 hk2 (fun H1 locs1 p1 p2 p3 => K ad ls H1 locs1 (fun _ _ => rfl) p1 p2 p3 hLr)
      · cases h
    · cases h
  · -- 31
    split at h
    · rename_i t' x i t k st0
      split at h
      · rename_i hk
        simp only [Option.some.injEq, Prod.mk.injEq] at h
        obtain ⟨rfl, rfl, rfl, rfl, rfl⟩ := h
        obtain ⟨rfl, rfl, hk1, hk2, hk3, hk4⟩ := hk
        exact w_31 hx hb hK hP hD hS hI (ok_head (ok_tail (ok_tail hS'))) (ok_head hS') (ok_head (ok_tail hS')).int hk2 hk1 hk3 hk4 (fun H1 locs1 p1 p2 p3 => K ad ls H1 locs1 (fun _ _ => rfl) p1 p2 p3 hLr)
      · cases h
    · cases h
  · -- 32
    split at h
    · rename_i k st0
      split at h
      · rename_i hk
        simp only [Option.some.injEq, Prod.mk.injEq] at h
        obtain ⟨rfl, rfl, rfl, rfl, rfl⟩ := h
        exact w_32 hx hb hK hP hM.1 hI (ok_head hS') hk (K ad ls H locs (fun _ _ => rfl) hP hD hS hLr)
      · cases h
    · cases h
  · -- 33
    split at h
    · rename_i hk
      simp only [Option.some.injEq, Prod.mk.injEq] at h
      obtain ⟨rfl, rfl, rfl, rfl, rfl⟩ := h
      have hk : shF n = 10 + a := hk
      have ha : a < 13 := by simp only [okI, Bool.and_eq_true, decide_eq_true_eq] at hI; exact hI.2
      have hcz : csz n = nfF a := by
        unfold csz
        rw [if_pos (by omega), hk, Nat.add_sub_cancel_left]
      have e1 : ssM (n + 1) = ssM n + nfF a := by rw [ssM, hcz]
      have e2 := ss_mono hn0
      have e3 := ss_mono hN
      refine w_33 hx hb hown hts hK hP hD hS hM hA hI hk (by omega) (by omega) (fun q H1 p1 p2 p3 => ?_)
      have k := K (upA ad n q) ls H1 locs (fun k hk => upA_lt hk) p1 p2 p3 (hLr.ad (n := n) hL (fun k hk => upA_lt hk))
      rw [List.map_cons, cn_ads hS' (fun k hk => upA_lt hk), cn_r (by omega) (by omega), Int.toNat_natCast, upA_n] at k
      exact W.cs (by omega) (by omega) k
    · cases h
  · -- 34
    split at h
    · rename_i x st0
      split at h
      · rename_i hk
        simp only [Option.some.injEq, Prod.mk.injEq] at h
        obtain ⟨rfl, rfl, rfl, rfl, rfl⟩ := h
        obtain ⟨hk1, hk2, hk3, hk4⟩ := hk
        have hk1 : shF n = a := hk1
        have hk2 : lnF n = x := hk2
        have ha : 50 ≤ a := by
          simp only [okI, Bool.and_eq_true] at hI
          have hI := hI.1
          split at hI
          · omega
          · omega
          · omega
          · cases hI
        have hcz : csz n = x.toNat := by
          unfold csz
          rw [if_neg (by omega), hk2]
        have e1 : ssM (n + 1) = ssM n + x.toNat := by rw [ssM, hcz]
        have e2 := ss_mono hn0
        have e3 := ss_mono hN
        refine w_34 hx hb hown hts hK hP hD hS hM hA hI hk1 hk2 hk3 hk4 (by omega) (by omega) (fun q H1 p1 p2 p3 => ?_)
        have k := K (upA ad n q) ls H1 locs (fun k hk => upA_lt hk) p1 p2 p3 (hLr.ad (n := n) hL (fun k hk => upA_lt hk))
        rw [List.map_cons, cn_ads (ok_tail hS') (fun k hk => upA_lt hk), cn_r (by omega) (by omega), Int.toNat_natCast, upA_n] at k
        exact W.cs (by omega) (by omega) k
      · cases h
    · cases h
  · -- 35
    split at h
    · rename_i x st0
      split at h
      · rename_i hk
        simp only [Option.some.injEq, Prod.mk.injEq] at h
        obtain ⟨rfl, rfl, rfl, rfl, rfl⟩ := h
        obtain ⟨hk1, hk2, hk3, hk4⟩ := hk
        have hk1 : shF n = a := hk1
        have hk2 : lnF n = x := hk2
        have ha : 53 ≤ a := by
          simp only [okI, Bool.and_eq_true, Bool.or_eq_true, decide_eq_true_eq] at hI
          rcases hI.2 with q | q <;> omega
        have hcz : csz n = x.toNat := by
          unfold csz
          rw [if_neg (by omega), hk2]
        have e1 : ssM (n + 1) = ssM n + x.toNat := by rw [ssM, hcz]
        have e2 := ss_mono hn0
        have e3 := ss_mono hN
        refine w_35 hx hb hown hts hK hP hD hS hM hA ho1 ho2 hI hk1 hk2 hk3 hk4 (by omega) (by omega) (fun q H1 p1 p2 p3 => ?_)
        have k := K (upA ad n q) ls H1 locs (fun k hk => upA_lt hk) p1 p2 p3 (hLr.ad (n := n) hL (fun k hk => upA_lt hk))
        rw [List.map_cons, cn_ads (ok_tail hS') (fun k hk => upA_lt hk), cn_r (by omega) (by omega), Int.toNat_natCast, upA_n] at k
        exact W.cs (by omega) (by omega) k
      · cases h
    · cases h
  · -- 37
    split at h
    · rename_i t k st0
      split at h
      · rename_i hk
        simp only [Option.some.injEq, Prod.mk.injEq] at h
        obtain ⟨rfl, rfl, rfl, rfl, rfl⟩ := h
        rw [List.map_cons, cn_r hk.1 hk.2.1]
        exact w_37 hx hb hown hts hsz (by omega) (by omega) hI (by rw [cn_sum]; exact hk.2.2) (K ad ls H locs (fun _ _ => rfl) hP hD hS hLr)
      · cases h
    · cases h
  · -- 43
    simp only [Option.some.injEq, Prod.mk.injEq] at h
    obtain ⟨rfl, rfl, rfl, rfl, rfl⟩ := h
    simp only [okI, Bool.and_eq_true, decide_eq_true_eq] at hI
    obtain ⟨⟨h1, rfl⟩, h2⟩ := hI
    obtain ⟨e, he, h3⟩ := List.any_eq_true.mp h2
    simp only [decide_eq_true_eq] at h3
    have q := hSt e he
    rw [h3.1, h3.2.1] at q
    have k := K ad ls H locs (fun _ _ => rfl) hP hD hS hLr
    rw [List.map_cons, cn_s, show v.toNat = e.2.2 by omega] at k
    exact va_ldcS hx hb hown q (isI_d h1) k
  · -- 44
    split at h
    · rename_i k st0
      split at h
      · rename_i hk
        simp only [Option.some.injEq, Prod.mk.injEq] at h
        obtain ⟨rfl, rfl, rfl, rfl, rfl⟩ := h
        have q := (ok_head hS').str
        exact h44 hx hb hown hts hStr hS hsz (by omega) (by omega) (hcs (Nat.le_refl _) hN) (by have := ss_mono hN; omega) hI q.1 q.2 (by rw [cn_sum]; exact hk) (K ad ls H locs (fun _ _ => rfl) hP hD hS hLr)
      · cases h
    · cases h
  · -- 45
    split at h
    · rename_i i k st0
      split at h
      · rename_i hk
        simp only [Option.some.injEq, Prod.mk.injEq] at h
        obtain ⟨rfl, rfl, rfl, rfl, rfl⟩ := h
        have q := (ok_head (ok_tail hS')).str
        exact h45 hx hb hown hts hStr hS hsz (by omega) (by omega) (hcs (Nat.le_refl _) hN) (by have := ss_mono hN; omega) hI q.1 q.2 hk.1 hk.2.1 (by rw [cn_sum]; exact hk.2.2) (K ad ls H locs (fun _ _ => rfl) hP hD hS hLr)
      · cases h
    · cases h
  · -- 46
    split at h
    · rename_i cn dp k2 sp k1 st0
      split at h
      · rename_i hk
        simp only [Option.some.injEq, Prod.mk.injEq] at h
        obtain ⟨rfl, rfl, rfl, rfl, rfl⟩ := h
        obtain ⟨c1, c2, c3, c4, c5, c6, c7, c8, c9⟩ := hk
        exact w_46 hx hb hown hts hK hP hD hS hsz (by omega) (by omega) hI (by rw [cn_sum]; exact c9) (ok_head (ok_tail (ok_tail (ok_tail (ok_tail hS'))))) (ok_head (ok_tail (ok_tail hS'))) c1 c2 (ok_head (ok_tail (ok_tail (ok_tail hS')))).int (ok_head (ok_tail hS')).int (ok_head hS').int c4 c5 c6 c7 c8 (fun H1 locs1 p1 p2 p3 => K ad ls H1 locs1 (fun _ _ => rfl) p1 p2 p3 hLr)
      · cases h
    · cases h
  · -- 47
    split at h
    · rename_i i w st0
      split at h
      · rename_i hk
        simp only [Option.some.injEq, Prod.mk.injEq] at h
        obtain ⟨rfl, rfl, rfl, rfl, rfl⟩ := h
        simp only [okI, Bool.and_eq_true, decide_eq_true_eq] at hI
        obtain ⟨h1, rfl⟩ := hI
        obtain ⟨x1, x2, x3, -⟩ := hsc (h179 (Or.inl rfl))
        have hi := (ok_head hS').int
        refine va_sld hx hb x1 x2 x3 hS (i := Int32.ofInt i) (vin hi hk.1 (k := xs (-1)) (by rw [← hxs]; exact hk.2) rfl) (isI_d h1) ?_
        have k := K ad ls H locs (fun _ _ => rfl) hP hD hS hLr
        rw [List.map_cons, cn_i, hxs] at k
        rw [nc32 hi, show ((i.toNat : Nat) : Int) = i by omega]
        exact k
      · cases h
    · cases h
  · -- 48
    split at h
    · rename_i w st0
      simp only [Option.some.injEq, Prod.mk.injEq] at h
      obtain ⟨rfl, rfl, rfl, rfl, rfl⟩ := h
      simp only [okI, Bool.and_eq_true, decide_eq_true_eq] at hI
      obtain ⟨h1, rfl⟩ := hI
      obtain ⟨x1, x2, x3, hx0⟩ := hsc (h179 (Or.inr rfl))
      refine va_slen hx hb x1 x2 x3 hS (isI_d h1) ?_
      have k := K ad ls H locs (fun _ _ => rfl) hP hD hS hLr
      rw [List.map_cons, cn_i, hxs] at k
      rw [← Int32.ofInt_eq_ofNat, show (((xs (-1)).toNat : Nat) : Int) = xs (-1) by omega]
      exact k
    · cases h
  · -- 49
    split at h
    · rename_i y x st0
      split at h
      · rename_i hk
        simp only [Option.some.injEq, Prod.mk.injEq] at h
        obtain ⟨rfl, rfl, rfl, rfl, rfl⟩ := h
        exact w_49 hx hb hown hts hsz (by omega) (by omega) (hcs (Nat.le_refl _) hN) (by have := ss_mono hN; omega) hI (by rw [cn_sum]; exact hk) (ok_head (ok_tail hS')).int (ok_head hS').int (K ad ls H locs (fun _ _ => rfl) hP hD hS hLr)
      · cases h
    · cases h
  · cases h
end STW
end
section
/-! a run of the small machine is a run of the machine -/
theorem tb_ok : (insL.zipIdx.all (fun q => q.1.all (fun e => (decide (¬ e.2.1 = 47) && decide (¬ e.2.1 = 48) || decide (q.2 = 179)) && (decide (¬ e.2.1 = 4) || decide (e.2.2.2.1 < mlF q.2))))) = true := by decide +kernel
theorem ins_mem {m pc op nx a b : Nat} {v : Int} {ts : List (Int × Nat)} (h : insF m pc = (op, nx, a, b, v, ts)) (ho : ¬ op = 99) : ∃ l, insL[m]? = some l ∧ (pc, ((op, nx, a, b, v, ts) : Ins)) ∈ l := by
  unfold insF at h
  rw [List.getD_eq_getElem?_getD] at h
  cases hl : insL[m]? with
  | none =>
    rw [hl] at h
    simp only [Option.getD_none, List.lookup_nil, Prod.mk.injEq] at h
    exact absurd h.1.symm ho
  | some l =>
    rw [hl] at h
    simp only [Option.getD_some] at h
    refine ⟨l, rfl, ?_⟩
    cases hk : l.lookup pc with
    | none =>
      rw [hk] at h
      simp only [Option.getD_none, Prod.mk.injEq] at h
      exact absurd h.1.symm ho
    | some i =>
      rw [hk] at h
      simp only [Option.getD_some] at h
      subst h
      clear hl
      induction l with
      | nil => cases hk
      | cons q l ih =>
        obtain ⟨x, y⟩ := q
        rw [List.lookup_cons] at hk
        by_cases hx : pc == x
        · rw [hx] at hk
          simp only [beq_iff_eq] at hx
          cases hk
          rw [hx]
          exact List.mem_cons_self
        · simp only [hx] at hk
          exact List.mem_cons_of_mem _ (ih hk)
theorem tb_of {m pc op nx a b : Nat} {v : Int} {ts : List (Int × Nat)} (h : insF m pc = (op, nx, a, b, v, ts)) (ho : ¬ op = 99) : (op = 47 ∨ op = 48 → m = 179) ∧ (op = 4 → a < mlF m) := by
  obtain ⟨l, h1, h2⟩ := ins_mem h ho
  have h3 := List.all_eq_true.mp tb_ok (l, m) (List.mem_of_getElem? (i := m) (by rw [List.getElem?_zipIdx, h1]; simp))
  have h4 := List.all_eq_true.mp h3 _ h2
  simp only [Bool.and_eq_true, Bool.or_eq_true, decide_eq_true_eq] at h4
  obtain ⟨h5, h6⟩ := h4
  refine ⟨fun q => ?_, fun q => ?_⟩
  · rcases h5 with z | z
    · rcases q with q | q
      · exact absurd q z.1
      · exact absurd q z.2
    · exact z
  · rcases h6 with z | z
    · exact absurd q z
    · exact z
theorem ent_ok {m n : Nat} {as : List AV} {σ : Mem} (hM : okM n σ) (ha : ∀ x ∈ as, okV n x) (h2 : ∀ x ∈ as, ¬ x.1 = 2) (nL : Nat) : okC m n (entM nL as) [] σ := by
  refine ⟨hM, fun x hx => ?_, fun x hx => absurd hx List.not_mem_nil, fun _ x hx => ?_⟩
  · rcases List.mem_append.mp hx with q | q
    · exact Or.inr (ha x q)
    · exact Or.inl (by rw [(List.mem_replicate.mp q).2])
  · rcases List.mem_append.mp hx with q | q
    · exact h2 x q
    · rw [(List.mem_replicate.mp q).2]; simp
theorem ent_len {nL : Nat} {as : List AV} (h : as.length ≤ nL) : (entM nL as).length = nL := by
  unfold entM
  rw [List.length_append, List.length_replicate]
  omega
theorem arg_of {kd c nL : Nat} {as : List AV} (h : argM kd c nL as = true) : as.length ≤ nL ∧ (∀ x ∈ as, ¬ x.1 = 2 ∧ ¬ x.1 = 9) ∧ (¬ kd = 0 → ∃ k r, as = (10 + c, k) :: r ∧ 0 ≤ k) := by
  unfold argM at h
  simp only [Bool.and_eq_true, decide_eq_true_eq, List.all_eq_true] at h
  obtain ⟨⟨h1, h2⟩, h3⟩ := h
  refine ⟨h2, h3, fun hk => ?_⟩
  split at h1
  · exact absurd rfl hk
  · split at h1
    · rename_i t k r
      simp only [decide_eq_true_eq] at h1
      obtain ⟨rfl, q⟩ := h1
      exact ⟨k, r, rfl, q⟩
    · cases h1
theorem ret_of {op : Nat} {st : List AV} {r : Option AV} (h : retM op st = some r) : st = r.toList := by
  unfold retM at h
  split at h
  · split at h
    · cases h; rfl
    · cases h
  · split at h
    · cases h; rfl
    · cases h
  · split at h
    · split at h
      · cases h; rfl
      · cases h
    · cases h
  · split at h
    · cases h; rfl
    · cases h
  · split at h
    · split at h
      · cases h; rfl
      · cases h
    · cases h
  · cases h
/-- a run, step by step -/
theorem run_cases {f d m pc : Nat} {L st : List AV} {σ : Mem} {n : Nat} {o : Out} (h : runM S0 M0 (f + 1) d m pc L st σ n = some o) :
    ∃ op nx a b v ts, insF m pc = (op, nx, a, b, v, ts) ∧
      ((op = 36 ∧ b ≤ st.length ∧ ((st.drop b).map catM).sum ≤ 8 ∧ argM v.toNat (moF a) (mlF a) (st.take b).reverse = true ∧ ∃ d' r σ1 n1, d = d' + 1 ∧ runM S0 M0 f d' a 0 (entM (mlF a) (st.take b).reverse) [] σ n = some (r, σ1, n1) ∧ runM S0 M0 f d m nx L (r.toList ++ st.drop b) σ1 n1 = some o) ∨
       (¬ op = 36 ∧ ∃ r, retM op st = some r ∧ o = (r, σ, n)) ∨
       (¬ op = 36 ∧ ∃ pc' L' st' σ' n', stpM S0 op nx a b v ts L st σ n = some (pc', L', st', σ', n') ∧ runM S0 M0 f d m pc' L' st' σ' n' = some o)) := by
  rw [runM] at h
  have hM : M0.2.2 m pc = insF m pc := rfl
  rw [hM] at h
  rcases hi : insF m pc with ⟨op, nx, a, b, v, ts⟩
  rw [hi] at h
  refine ⟨op, nx, a, b, v, ts, rfl, ?_⟩
  simp only at h
  by_cases h36 : op = 36
  · left
    rw [if_pos h36] at h
    split at h
    · rename_i hc
      obtain ⟨c1, c2, c3⟩ := hc
      refine ⟨h36, c1, c2, c3, ?_⟩
      split at h
      · cases h
      · rename_i d'
        split at h
        · cases h
        · rename_i r σ1 n1 hr
          exact ⟨d', r, σ1, n1, rfl, hr, h⟩
    · cases h
  · rw [if_neg h36] at h
    split at h
    · rename_i r hr
      right; left
      cases h
      exact ⟨h36, r, hr, rfl⟩
    · right; right
      split at h
      · cases h
      · rename_i pc' L' st' σ' n' hs
        exact ⟨h36, pc', L', st', σ', n', hs, h⟩
theorem ins_99 {nx a b : Nat} {v : Int} {ts : List (Int × Nat)} {L st : List AV} {σ : Mem} {n : Nat} : stpM S0 99 nx a b v ts L st σ n = none ∧ retM 99 st = none := ⟨rfl, rfl⟩
theorem stp_scr {op nx a b : Nat} {v : Int} {ts : List (Int × Nat)} {L st : List AV} {σ : Mem} {n pc' : Nat} {L' st' : List AV} {σ' : Mem} {n' : Nat} (h : stpM S0 op nx a b v ts L st σ n = some (pc', L', st', σ', n')) (j : Int) : σ' (-2) j = σ (-2) j := by
  unfold stpM at h
  split at h
  all_goals (try (repeat' (split at h)))
  all_goals first
    | (cases h; done)
    | (simp only [Option.some.injEq, Prod.mk.injEq] at h
       obtain ⟨-, -, -, rfl, -⟩ := h
       first
         | rfl
         | exact wr_ne (by omega)
         | exact mk_ne (by omega)
         | exact if_neg (fun q => by omega))
/-- a run keeps the state well-formed -/
theorem run_ok : ∀ (f d m pc : Nat) (L st : List AV) (σ : Mem) (n : Nat) (r : Option AV) (σ' : Mem) (n' : Nat), runM S0 M0 f d m pc L st σ n = some (r, σ', n') → okC m n L st σ → okM n' σ' ∧ (∀ x, r = some x → okV n' x) ∧ n ≤ n' ∧ ∀ j, σ' (-2) j = σ (-2) j := by
  intro f
  induction f with
  | zero => intro d m pc L st σ n r σ' n' h; cases h
  | succ f ih =>
    intro d m pc L st σ n r σ' n' h hC
    obtain ⟨op, nx, a, b, v, ts, hi, hcase⟩ := run_cases h
    rcases hcase with ⟨h36, c1, c2, c3, d', r1, σ1, n1, rfl, h1, h2⟩ | ⟨h36, r1, hr, ho⟩ | ⟨h36, pc', L', st', σ1, n1, hs, h2⟩
    · obtain ⟨hM, hL, hS, hG⟩ := hC
      obtain ⟨a1, a2, a3⟩ := arg_of c3
      have hargs : ∀ x ∈ (st.take b).reverse, okV n x := fun x hx => hS x (List.mem_of_mem_take (List.mem_reverse.mp hx))
      obtain ⟨q1, q2, q3, q4⟩ := ih d' a 0 _ [] σ n r1 σ1 n1 h1 (ent_ok hM hargs (fun x hx => (a2 x hx).1) _)
      obtain ⟨z1, z2, z3, z4⟩ := ih _ m nx L _ σ1 n1 r σ' n' h2 ⟨q1, fun x hx => (hL x hx).imp id (fun z => z.mono q3), fun x hx => by
        rcases List.mem_append.mp hx with z | z
        · exact q2 x (by cases r1 with
            | none => cases z
            | some y => simp only [Option.toList_some, List.mem_singleton] at z; rw [z])
        · exact (hS x (List.mem_of_mem_drop z)).mono q3, hG⟩
      exact ⟨z1, z2, Nat.le_trans q3 z3, fun j => (z4 j).trans (q4 j)⟩
    · cases ho
      obtain ⟨hM, hL, hS, hG⟩ := hC
      refine ⟨hM, fun x hx => hS x ?_, Nat.le_refl _, fun _ => rfl⟩
      rw [ret_of hr, hx]
      simp
    · have h99 : ¬ op = 99 := by
        intro q
        subst q
        rw [ins_99.1] at hs
        cases hs
      obtain ⟨hI, -⟩ := ins_ok hi h99
      obtain ⟨q1, q2, q3⟩ := stp_ok hI hs hC
      obtain ⟨z1, z2, z3, z4⟩ := ih d m pc' L' st' σ1 n1 r σ' n' h2 q1
      exact ⟨z1, z2, Nat.le_trans q2 z3, fun j => (z4 j).trans (stp_scr hs j)⟩
end
section
/-! calls: a method's run as its contract -/
theorem EnvU.same {D : va_G} {C5 : Nat → ClassId} {adK : Nat → Nat} {u U : State} (h : U.vm = u.vm) (hE : EnvU D C5 adK u) : EnvU D C5 adK U := by
  obtain ⟨h1, h2, h3, h4, h5⟩ := hE
  have hal : u.vm.Alike U.vm := by rw [h]; exact Vm.Alike.refl u.vm
  refine ⟨va_K.moved hal h1, fun w hw => ?_, va_AO.moved hal h3, va_AO.moved hal h4, fun e he => (h5 e he).same h⟩
  obtain ⟨e, he, rfl⟩ := List.mem_map.mp hw
  exact (h2 _ hw).same rfl h.symm
theorem EnvU.warm {D : va_G} {C5 : Nat → ClassId} {adK : Nat → Nat} {s U : State} (hW : s.WarmedH U.vm) (hE : EnvU D C5 adK s) : EnvU D C5 adK U := by
  obtain ⟨h1, h2, h3, h4, h5⟩ := hE
  refine ⟨va_K.moved hW.alike h1, fun w hw => ?_, va_AO.moved hW.alike h3, va_AO.moved hW.alike h4, fun e he => (h5 e he).warm hW⟩
  obtain ⟨e, he, rfl⟩ := List.mem_map.mp hw
  exact va_Nw.warmM hW (h2 _ hw)
theorem StrU.to {adK adV : Nat → Nat} {A B : Nat → Prop} {u U : State} {H H1 : Heap} (h : StrU adK adV A u H) (hvm : u.vm.Alike U.vm) (hq : ∀ a : Nat, a < H.size → ¬ A a → H1[a]? = H[a]?) (hAB : ∀ q, B q → A q) : StrU adK adV B U H1 := ⟨((h.1.moved hvm).kept hq).narrow hAB, ((h.2.1.moved hvm).kept hq).narrow hAB, ((h.2.2.moved hvm).kept hq).narrow hAB⟩
def PcM (D : va_G) (C5 : Nat → ClassId) (ad adK adV : Nat → Nat) (b0 : Nat) (σ : Mem) (n sz : Nat) (as : List AV) : Array Value → State → Prop := va_Pc (as.map (cnV ad adK b0)) (fun U => U.heap.size = sz ∧ va_P D cl13 (wsM ad C5 n σ) U.heap ∧ va_D (fun _ => True) (wsM ad C5 n σ) ∧ EnvU D C5 adK U ∧ StrU adK adV (va_A (wsM ad C5 n σ) sz) U U.heap)
def QcM (D : va_G) (C5 : Nat → ClassId) (ad adK : Nat → Nat) (b0 : Nat) (σ : Mem) (n sz : Nat) (r : Option AV) (σ' : Mem) (n' : Nat) : Array Value → State → Outcome → State → Prop := fun _ st oc t => (∃ ad' : Nat → Nat, (∀ k, k < n → ad' k = ad k) ∧ oc = .returned (r.map (cnV ad' adK b0)) ∧ va_P D cl13 (wsM ad' C5 n' σ') t.heap ∧ va_D (va_A (wsM ad C5 n σ) sz) (wsM ad' C5 n' σ')) ∧ va_F (va_A (wsM ad C5 n σ) sz) st t
def rmD (d mc ms : Nat) : Room := { frames := 2 * d + 4, cells := mc, slots := ms, locals := 60 * d + 100 }
abbrev wsY (y : Nat) : List Cond := Cond.code (myF y) (mcF y) (mlF y) (mrF y) :: gtbl
theorem lv_args_mem {vs : List Value} (h : ∀ v ∈ vs, ¬ v.category = 2) : ∀ (k i : Nat) (v : Value), vs[i]? = some v → (k + i, v) ∈ lv_args k vs := by
  induction vs with
  | nil => intro k i v hv; simp at hv
  | cons w vs ih =>
    intro k i v hv
    rw [lv_args, if_neg (h w List.mem_cons_self)]
    cases i with
    | zero =>
      simp only [List.getElem?_cons_zero, Option.some.injEq] at hv
      rw [hv]
      exact List.mem_cons_self
    | succ i =>
      rw [List.getElem?_cons_succ] at hv
      have q := ih (fun v hv => h v (List.mem_cons_of_mem _ hv)) (k + 1) i v hv
      rw [show k + (i + 1) = k + 1 + i by omega]
      exact List.mem_cons_of_mem _ q
theorem lg_sl_len {vs : List Value} (h : ∀ v ∈ vs, ¬ v.category = 2) : (lg_sl vs).length = vs.length := by
  induction vs with
  | nil => rfl
  | cons w vs ih =>
    unfold lg_sl at ih ⊢
    rw [List.flatMap_cons, if_neg (h w List.mem_cons_self), List.length_append, ih (fun v hv => h v (List.mem_cons_of_mem _ hv))]
    simp only [List.length_cons, List.length_nil]
    omega
theorem ent_Lr {ad adK : Nat → Nat} {b0 nL : Nat} {as : List AV} (hn : as.length ≤ nL) (h2 : ∀ x ∈ as, ¬ x.1 = 2) : LrM ad adK b0 ((lg_sl (as.map (cnV ad adK b0)) ++ List.replicate (nL - (lg_sl (as.map (cnV ad adK b0))).length) Slot.unset).toArray) nL (entM nL as) := by
  have hc : ∀ v ∈ as.map (cnV ad adK b0), ¬ v.category = 2 := by
    intro v hv
    obtain ⟨x, hx, rfl⟩ := List.mem_map.mp hv
    rw [cn_cat]
    unfold catM
    rw [if_neg (h2 x hx)]
    decide
  have hl := lg_sl_len hc
  rw [List.length_map] at hl
  have he := lv_entry (as.map (cnV ad adK b0)) (n := nL) (by omega)
  obtain ⟨g1, g2, g3⟩ := he
  refine ⟨ent_len hn, g1, g2, fun i x hx h9 => ?_⟩
  unfold entM at hx
  rcases Nat.lt_or_ge i as.length with q | q
  · rw [List.getElem?_append_left q] at hx
    have := lv_args_mem hc 0 i (cnV ad adK b0 x) (by rw [List.getElem?_map, hx]; rfl)
    rw [Nat.zero_add] at this
    exact g3 _ this
  · rw [List.getElem?_append_right q] at hx
    have := (List.mem_replicate.mp (List.mem_of_getElem? hx)).2
    rw [this] at h9
    exact absurd rfl h9
/-- what a run of the small machine says of the machine -/
def SndW (f : Nat) : Prop := ∀ (d m pc : Nat) (L st : List AV) (σ : Mem) (n : Nat) (r : Option AV) (σ' : Mem) (n' : Nat), runM S0 M0 f d m pc L st σ n = some (r, σ', n') → okC m n L st σ →
  ∀ {p : Program} {l : Launch} {e : Env} {R : Room} {s : State} {mid : MethodId} {args : Array Value} {below : List Frame} {meth : Method} {c : Code} {H : Heap} {locs : List Loc} {Q : State → Prop} {D : va_G} {C5 : Nat → ClassId} {ad adK adV : Nat → Nat} {b0 : Nat} {A : Nat → Prop} {xs : Int → Int} {ls : Array Slot} (n0 : Nat),
    CxM p R s mid args meth c D C5 adK adV b0 A d m xs → n0 ≤ n → n' - n0 ≤ R.cells → ssM n' - ssM n0 ≤ R.slots → (∀ j, σ (-2) j = xs j) → va_P D cl13 (wsM ad C5 n σ) H → va_D A (wsM ad C5 n σ) → va_S A s.heap H locs → LrM ad adK b0 ls (mlF m) L →
    (∀ (op nx a b : Nat) (v : Int) (ts : List (Int × Nat)) (pc : Nat) (ls : Array Slot) (H : Heap) (locs : List Loc) (ad' : Nat → Nat), okI m pc (op, nx, a, b, v, ts) = true → retM op r.toList = some r → (∀ k, k < n → ad' k = ad k) → va_P D cl13 (wsM ad' C5 n' σ') H → va_D A (wsM ad' C5 n' σ') → va_S A s.heap H locs → W p l e R s mid args below meth c H locs (n' - n0) (ssM n' - ssM n0) Q (F0 mid pc ls (r.toList.map (cnV ad' adK b0)))) →
    W p l e R s mid args below meth c H locs (n - n0) (ssM n - ssM n0) Q (F0 mid pc ls (st.map (cnV ad adK b0)))
theorem pw_le : ∀ m, m < 179 → ((pwF m).2.2.2.2 = 2 → (myF m).name = "<init>") := fun m hm h => (pn_ok m hm h).2.1
theorem snd_Met {f : Nat} (hW : SndW f) {d y : Nat} {as : List AV} {σ : Mem} {n : Nat} {r : Option AV} {σ' : Mem} {n' : Nat} (hy : y < 179) (hrun : runM S0 M0 f d y 0 (entM (mlF y) as) [] σ n = some (r, σ', n')) (hM : okM n σ) (ha : ∀ x ∈ as, okV n x) (h2 : ∀ x ∈ as, ¬ x.1 = 2) (hlen : as.length ≤ mlF y) (l : Launch) (D : va_G) (C5 : Nat → ClassId) (ad adK adV : Nat → Nat) (b0 sz : Nat) :
    Met l (myF y) (wsY y) (rmD d (n' - n) (ssM n' - ssM n)) (PcM D C5 ad adK adV b0 σ n sz as) (QcM D C5 ad adK b0 σ n sz r σ' n') (n' - n) (ssM n' - ssM n) (va_A (wsM ad C5 n σ) sz) := by
  obtain ⟨y1, y2, y3, y4, y5, y6⟩ := pi_ok y hy
  refine Met.ofW (cc := mcF y) (maxL := mlF y) (ret := mrF y) y5 rfl ?_
  intro p e s m args below meth c s₁ B hml hv
  obtain ⟨rfl, hsz, hP, hD0, hE, hStr⟩ := hv
  subst hsz
  have hown : s.vm.findClass (ownF (moF y)) = some m.cls := by rw [← y2]; exact findClass_of_methodNamed B.named
  have hts := atoms_spec (ws := wsY y) B.pre
  have hlocks := B.notSynchronized
  have hD := hD0.self (sz := s.heap.size)
  have hx := B.exec
  have hb := B.bytes
  have hr := B.returns
  rw [lg_entry_eq]
  have hX : CxM p (headSpec (wsY y) (rmD d (n' - n) (ssM n' - ssM n))).room s m (as.map (cnV ad adK b0)).toArray meth c D C5 adK adV b0 (va_A (wsM ad C5 n σ) s.heap.size) d y (fun j => σ (-2) j) := by
    refine ⟨hx, hb, hml, hown, fun w hw => hts w (List.mem_cons_of_mem _ hw), hE, hStr, fun q h => Or.inr h, fun q => ?_, Nat.le_refl _, Nat.le_refl _, fun q => absurd q (by omega)⟩
    rw [(name_of_methodNamed B.named B.method).1]
    exact pw_le y hy q
  refine W.cs (cells' := n - n) (slots' := ssM n - ssM n) (by omega) (by omega) ?_
  refine hW d y 0 _ [] σ n r σ' n' hrun (ent_ok hM ha h2 _) n hX (Nat.le_refl _) (Nat.le_refl _) (Nat.le_refl _) (fun _ => rfl) hP hD va_S.rf (ent_Lr hlen h2) ?_
  intro op nx a b v ts pc ls H locs ad' hI hret had p1 p2 p3
  have hq : ∀ t : State, t.heap = H → ∀ o, o = Outcome.returned (r.map (cnV ad' adK b0)) → QcM D C5 ad adK b0 σ n s.heap.size r σ' n' (as.map (cnV ad adK b0)).toArray s o t := by
    intro t ht o ho
    exact ⟨⟨ad', had, ho, by rw [ht]; exact p1, p2⟩, p3.F ht⟩
  unfold retM at hret
  split at hret
  · split at hret
    · rename_i hs
      cases r with
      | some x => cases hs
      | none =>
        simp only [okI, Bool.and_eq_true, decide_eq_true_eq] at hI
        exact W.vret hx hb (by rw [hr]; exact hI.2) (fun t ht _ => hq t ht _ rfl) p3.2.2 (isI_d hI.1)
    · cases hret
  · split at hret
    · rename_i x hs
      cases hret
      simp only [okI, Bool.and_eq_true, decide_eq_true_eq] at hI
      exact W.iret (v := Int32.ofInt x) hx hb (by rw [hr]; exact hI.2) (fun t ht _ => hq t ht _ rfl) p3.2.2 (isI_d hI.1)
    · cases hret
  · split at hret
    · rename_i x hs
      split at hret
      · rename_i h01
        cases hret
        simp only [okI, Bool.and_eq_true, decide_eq_true_eq] at hI
        exact W.zret (v := Int32.ofInt x) (ty := .boolean) hx hb (by rw [hr]; exact hI.2) (by rcases h01 with rfl | rfl <;> rfl) (fun t ht _ => hq t ht _ rfl) p3.2.2 (isI_d hI.1)
      · cases hret
    · cases hret
  · split at hret
    · rename_i x hs
      cases hret
      simp only [okI, Bool.and_eq_true, decide_eq_true_eq] at hI
      exact W.lret (v := Int64.ofInt x) hx hb (by rw [hr]; exact hI.2) (fun t ht _ => hq t ht _ rfl) p3.2.2 (isI_d hI.1)
    · cases hret
  · split at hret
    · rename_i t x hs
      split at hret
      · rename_i h10
        cases hret
        simp only [okI, Bool.and_eq_true] at hI
        have hrt : ∃ rt, mrF y = some rt ∧ ((∃ n, rt = .object n) ∨ ∃ t, rt = .array t) := by
          have q := hI.2
          split at q
          · rename_i z hz; exact ⟨_, hz, Or.inl ⟨_, rfl⟩⟩
          · rename_i z hz; exact ⟨_, hz, Or.inr ⟨_, rfl⟩⟩
          · cases q
        obtain ⟨rt, e1, e2⟩ := hrt
        have hv : cnV ad' adK b0 (t, x) = .null ∨ ∃ a, cnV ad' adK b0 (t, x) = .ref a := by
          rcases h10 with q | q
          · rw [cn_q q]
            exact va_rf_or _
          · rw [q]
            exact Or.inr ⟨_, rfl⟩
        exact W.aret hx hb (by rw [hr]; exact e1) e2 hv (fun t ht _ => hq t ht _ rfl) p3.2.2 (isI_d hI.1)
      · cases hret
    · cases hret
  · cases hret
section CLW
variable {p : Program} {l : Launch} {e : Env} {R : Room} {s : State} {mid : MethodId} {args : Array Value} {below : List Frame} {meth : Method} {c : Code} {H : Heap} {locs : List Loc} {cells slots : Nat} {Q : State → Prop}
variable {D : va_G} {C5 : Nat → ClassId} {ad adK adV : Nat → Nat} {b0 : Nat} {A : Nat → Prop}
theorem call_W {pc mc ms n n1 : Nat} {ls : Array Slot} {st0 rest : List Value} {σ σ1 : Mem} {r : Option AV} {av : Array Value} (hr : va_Run p l e R s mid args below meth c H locs cells slots mc ms (F0 mid pc ls st0) rest (QcM D C5 ad adK b0 σ n H.size r σ1 n1 av) (va_A (wsM ad C5 n σ) H.size)) (hS : va_S A s.heap H locs) (hF : ∀ q, va_A (wsM ad C5 n σ) H.size q → A q)
    (kk : ∀ (ad' : Nat → Nat) (H1 : Heap) (locs1 : List Loc), (∀ k, k < n → ad' k = ad k) → va_P D cl13 (wsM ad' C5 n1 σ1) H1 → va_D A (wsM ad' C5 n1 σ1) → va_S A s.heap H1 locs1 → W p l e R s mid args below meth c H1 locs1 (cells + mc) (slots + ms) Q (F0 mid (pc + 3) ls ((r.map (cnV ad' adK b0)).toList ++ rest))) : W p l e R s mid args below meth c H locs cells slots Q (F0 mid pc ls st0) := by
  intro T hT X
  obtain ⟨v, st₀, t, T', L, h0, X', hL, e1, e2, ⟨⟨ad', had, hv, hP1, hD1⟩, hz, hk⟩, st⟩ := hr T hT X
  cases hv
  rw [h0] at hz hk
  obtain ⟨t2, a1, b1⟩ := kk ad' T'.heap (locs ++ L) had (by rw [e1]; exact hP1) (hD1.weaken (fun _ _ _ h => hF _ h))
    ⟨Nat.le_trans hS.1 (by rw [e1]; exact hz), fun q h1 h2 => by rw [e1, hk q (Nat.lt_of_lt_of_le h1 hS.1) (fun z => h2 (hF q z))]; exact hS.2.1 q h1 h2, fun q hq => by
      rcases List.mem_append.mp hq with h | h
      · exact hS.2.2 q h
      · exact hF _ (hL q h)⟩ T' rfl X'
  exact ⟨t2, st t2 a1, b1⟩
theorem pre_W {n : Nat} {σ : Mem} {as : List AV} (hE : EnvU D C5 adK s) (hStr : StrU adK adV A s s.heap) (hA : ∀ q, s.heap.size ≤ q → A q) (hP : va_P D cl13 (wsM ad C5 n σ) H) (hD : va_D A (wsM ad C5 n σ)) (hS : va_S A s.heap H locs) : PreS s H (PcM D C5 ad adK adV b0 σ n H.size as) (as.map (cnV ad adK b0)) ∧ ∀ q, va_A (wsM ad C5 n σ) H.size q → A q := by
  have hF : ∀ q, va_A (wsM ad C5 n σ) H.size q → A q := by
    intro q h
    rcases h with ⟨k, e, h⟩ | h
    · exact hD.2 k (q, e) h
    · exact hA q (Nat.le_trans hS.1 h)
  refine ⟨⟨fun a U g mk q => ?_, fun U hU hW => ⟨rfl, by rw [hU], by rw [hU]; exact hP, hD.weaken (fun _ _ _ _ => trivial), hE.warm hW, ?_⟩⟩, hF⟩
  · obtain ⟨q0, q1, q2, q3, q4, q5⟩ := q
    exact ⟨q0, q1, q2, q3, EnvU.same (u := U) (U := U.calling g mk a) rfl q4, StrU.to (u := U) (U := U.calling g mk a) q5 (Vm.Alike.refl U.vm) (fun _ _ _ => rfl) (fun _ h => h)⟩
  · rw [hU]
    exact hStr.to hW.alike (fun a h1 h2 => hS.2.1 a h1 h2) hF
end CLW
end
section
/-! every run of the small machine is one of the machine -/
theorem wsY_good {y : Nat} (hy : y < 179) : GoodIn gtbl (wsY y) := by
  intro w hw
  rcases List.mem_cons.mp hw with rfl | h
  · have q := gt_of (pc_ok y hy) rfl
    exact gt_good _ q
  · exact gt_good w h
theorem map_split {ad adK : Nat → Nat} {b0 b : Nat} {st : List AV} : st.map (cnV ad adK b0) = (((st.take b).reverse).map (cnV ad adK b0)).reverse ++ (st.drop b).map (cnV ad adK b0) := by
  rw [List.map_reverse, List.reverse_reverse, ← List.map_append, List.take_append_drop]
set_option maxHeartbeats 4000000 in
theorem snd_W (h44 : S44) (h45 : S45) : ∀ f, SndW f := by
  intro f
  induction f with
  | zero => intro d m pc L st σ n r σ' n' h; cases h
  | succ f ih =>
    intro d m pc L st σ n r σ' n' h hC p l e R s mid args below meth c H locs Q D C5 ad adK adV b0 A xs ls n0 X hn0 hRc hRs hxs hP hD hS hLr hret
    obtain ⟨op, nx, a, b, v, ts, hi, hcase⟩ := run_cases h
    rcases hcase with ⟨rfl, c1, c2, c3, d', r1, σ1, n1, rfl, h1, h2⟩ | ⟨h36, r1, hr, ho⟩ | ⟨h36, pc', L', st', σ1, n1, hs, h2⟩
    · -- a call
      obtain ⟨hI, hm⟩ := ins_ok hi (by omega)
      obtain ⟨hx, hb, hml, hown, hts, hE, hStr, hA, hin, hfr, hlo, hsc⟩ := id X
      obtain ⟨hM, hL, hSt, hG⟩ := id hC
      obtain ⟨a1, a2, -⟩ := arg_of c3
      have hargs : ∀ x ∈ (st.take b).reverse, okV n x := fun x hx => hSt x (List.mem_of_mem_take (List.mem_reverse.mp hx))
      have hC1 := ent_ok (m := a) hM hargs (fun x hx => (a2 x hx).1) (mlF a)
      obtain ⟨q1, q2, q3, q4⟩ := run_ok f d' a 0 _ [] σ n r1 σ1 n1 h1 hC1
      have hC2 : okC m n1 L (r1.toList ++ st.drop b) σ1 := ⟨q1, fun x hx => (hL x hx).imp id (fun z => z.mono q3), fun x hx => by
        rcases List.mem_append.mp hx with z | z
        · exact q2 x (by cases r1 with
            | none => cases z
            | some y => simp only [Option.toList_some, List.mem_singleton] at z; rw [z])
        · exact (hSt x (List.mem_of_mem_drop z)).mono q3, hG⟩
      obtain ⟨-, -, z3, -⟩ := run_ok f (d' + 1) m nx L _ σ1 n1 r σ' n' h2 hC2
      simp only [okI, Bool.and_eq_true, decide_eq_true_eq] at hI
      obtain ⟨⟨⟨rfl, hkd⟩, ha⟩, hI⟩ := hI
      have hMet := snd_Met ih ha h1 hM hargs (fun x hx => (a2 x hx).1) a1 l D C5 ad adK adV b0 H.size
      obtain ⟨hpre, hF⟩ := pre_W (as := (st.take b).reverse) (b0 := b0) hE hStr hA hP hD hS
      obtain ⟨y1, y2, y3, y4, y5, y6⟩ := pi_ok a ha
      have e1 := ss_mono hn0
      have e2 := ss_mono q3
      have e3 := ss_mono z3
      have hcs : n - n0 + (n1 - n) ≤ R.cells ∧ ssM n - ssM n0 + (ssM n1 - ssM n) ≤ R.slots := ⟨by omega, by omega⟩
      have hroom : 2 * (F0 mid pc ls (st.map (cnV ad adK b0))).monitorRoom + ((((st.drop b).map (cnV ad adK b0))).map fun v => v.category).sum ≤ 8 := lv_room (by rw [cn_sum]; exact c2)
      have hini : (Cond.initialized (myF a).cls).before args s = true := hts _ (gt_of y1 rfl)
      have hcode : (Cond.code (myF a) (mcF a) (mlF a) (mrF a)).before args s = true := hts _ (gt_of (pc_ok a ha) rfl)
      have hsize : (F0 mid pc ls (st.map (cnV ad adK b0))).locals.size = mlF m := hLr.2.1
      have hgo : va_Run p l e R s mid args below meth c H locs (n - n0) (ssM n - ssM n0) (n1 - n) (ssM n1 - ssM n) (F0 mid pc ls (st.map (cnV ad adK b0))) ((st.drop b).map (cnV ad adK b0)) (QcM D C5 ad adK b0 σ n H.size r1 σ1 n1 ((st.take b).reverse.map (cnV ad adK b0)).toArray) (va_A (wsM ad C5 n σ) H.size) := by
        have hfix : CallFix p mid c (mcF m) (mlF m) s args gtbl (ownF (moF m)) := ⟨hx, hb, hml, hown, hts⟩
        have hR : (rmD d' (n1 - n) (ssM n1 - ssM n)).frames + 1 ≤ R.frames ∧ 8 + (mlF a + 11) + (rmD d' (n1 - n) (ssM n1 - ssM n)).locals ≤ R.locals := ⟨by show 2 * d' + 4 + 1 ≤ _; omega, by show 8 + (mlF a + 11) + (60 * d' + 100) ≤ _; omega⟩
        split at hI
        · rename_i ix q
          rw [Bool.and_eq_true] at hI
          obtain ⟨hI1, hI2⟩ := hI
          split at hI1
          · -- static
            rename_i hk0
            simp only [Bool.and_eq_true, decide_eq_true_eq] at hI1
            obtain ⟨hd1, hd2⟩ := hI1
            have hlen : ((st.take b).reverse.map (cnV ad adK b0)).length = b := by rw [List.length_map, List.length_reverse, List.length_take]; omega
            have hst : (Cond.static (myF a)).before args s = true := hts _ (gt_of (ps_ok a ha (by rw [← hkd]; exact hk0)) rfl)
            split at hI2
            · obtain ⟨e, he, h3⟩ := List.any_eq_true.mp hI2
              simp only [decide_eq_true_eq] at h3
              have hl := mk_ok e he
              rw [h3.1, h3.2.1, h3.2.2] at hl
              exact va_runS hfix hMet ⟨callB_of b hts (wsY_good ha) rfl rfl rfl hini (hts _ (gt_of hl rfl)) ⟨y3, y4, hd2⟩ hR, hst⟩ hpre rfl hlen hsize map_split hroom (isI_d hd1) hcs
            · simp only [Bool.and_eq_true] at hI2
              obtain ⟨e, he, h3⟩ := List.any_eq_true.mp hI2.1
              simp only [decide_eq_true_eq] at h3
              have hw : Cond.methodLinkNest (ownF (moF m)) ix.toNat (myF a) "HearingDesk" ∈ nstW := by
                refine List.mem_map.mpr ⟨e, he, ?_⟩
                rw [h3.1, h3.2.1, h3.2.2]
              exact va_runSN hfix hMet ⟨va_cnB b hts (wsY_good ha) rfl rfl rfl (hE.2.1 _ hw) hini ⟨y3, y4, hd2⟩ hR, hst, trivial⟩ hpre rfl hlen hsize map_split hroom (isI_d hd1) hcs
          · -- on an object
            rename_i hk1
            simp only [Bool.and_eq_true, decide_eq_true_eq] at hI1
            obtain ⟨hd1, hd2⟩ := hI1
            obtain ⟨k, tl, hk, hk0⟩ := (arg_of c3).2.2 (by omega)
            obtain ⟨w1, w2, w3⟩ := pv_ok a ha (by rw [← hkd]; exact hk1)
            have hok := hargs (10 + moF a, k) (by rw [hk]; exact List.mem_cons_self)
            obtain ⟨g1, g2, g3⟩ := okR_sh (hok.ref (by omega)) hk0
            have hmap : (st.take b).reverse.map (cnV ad adK b0) = .ref (ad k.toNat) :: tl.map (cnV ad adK b0) := by rw [hk, List.map_cons, cn_r (by omega) hk0]
            have hlen : (tl.map (cnV ad adK b0)).length + 1 = b := by
              have : ((st.take b).reverse).length = b := by rw [List.length_reverse, List.length_take]; omega
              rw [hk, List.length_cons] at this
              rw [List.length_map]
              exact this
            have hdl : (parseMethodDescriptor (myF a).desc).map (fun d => d.parameters.length) = some (tl.map (cnV ad adK b0)).length := by
              cases hp : parseMethodDescriptor (myF a).desc with
              | none => rw [hp] at hd2; cases hd2
              | some z =>
                rw [hp] at hd2
                simp only [Option.map_some, Option.some.injEq] at hd2 ⊢
                omega
            have hrecv := va_recv hE.1 hP (cx_ok (moF a) w3) (ws_get g1 |>.trans (by rw [enc_obj g2 w3]))
            rw [(cw_ok _ w3).1, ← y2] at hrecv
            rw [hmap] at hpre ⊢
            split at hI2
            · obtain ⟨e, he, h3⟩ := List.any_eq_true.mp hI2
              simp only [decide_eq_true_eq] at h3
              have hl := mk_ok e he
              rw [h3.1, h3.2.1, h3.2.2] at hl
              exact va_runV (C := (myF a).cls) hfix hMet ⟨callB_of _ hts (wsY_good ha) rfl rfl rfl hini (hts _ (gt_of hl rfl)) ⟨y3, y4, hdl⟩ hR, hts _ (gt_of w1 rfl), hts _ (gt_of w2 rfl)⟩ ⟨hpre.1, hrecv, hpre.2⟩ rfl rfl hsize (by rw [map_split (b := b), hmap, List.reverse_cons, List.append_assoc]; rfl) hroom (isI_d hd1) hcs
            · simp only [Bool.and_eq_true, decide_eq_true_eq] at hI2
              omega
          · -- a constructor
            rename_i hk2
            simp only [Bool.and_eq_true, decide_eq_true_eq] at hI1
            obtain ⟨hd1, hd2⟩ := hI1
            obtain ⟨k, tl, hk, hk0⟩ := (arg_of c3).2.2 (by omega)
            obtain ⟨w1, w2, w3, w4⟩ := pn_ok a ha (by rw [← hkd]; exact hk2)
            have hmap : (st.take b).reverse.map (cnV ad adK b0) = .ref (ad k.toNat) :: tl.map (cnV ad adK b0) := by rw [hk, List.map_cons, cn_r (by omega) hk0]
            have hlen : (tl.map (cnV ad adK b0)).length + 1 = b := by
              have : ((st.take b).reverse).length = b := by rw [List.length_reverse, List.length_take]; omega
              rw [hk, List.length_cons] at this
              rw [List.length_map]
              exact this
            have hdl : (parseMethodDescriptor (myF a).desc).map (fun d => d.parameters.length) = some (tl.map (cnV ad adK b0)).length := by
              cases hp : parseMethodDescriptor (myF a).desc with
              | none => rw [hp] at hd2; cases hd2
              | some z =>
                rw [hp] at hd2
                simp only [Option.map_some, Option.some.injEq] at hd2 ⊢
                omega
            rw [hmap] at hpre ⊢
            split at hI2
            · obtain ⟨e, he, h3⟩ := List.any_eq_true.mp hI2
              simp only [decide_eq_true_eq] at h3
              have hl := mk_ok e he
              rw [h3.1, h3.2.1, h3.2.2] at hl
              exact va_runI hfix hMet ⟨callB_of (bytes := mcF a) (ws' := gtbl) _ hts (wsY_good ha) (by unfold wsY; rw [w3]) rfl rfl hini (hts _ (gt_of hl rfl)) ⟨y3, y4, hdl⟩ hR, w2, hts _ (gt_of w1 rfl)⟩ hpre rfl rfl hsize (by rw [map_split (b := b), hmap, List.reverse_cons, List.append_assoc]; rfl) hroom (isI_d hd1) hcs
            · simp only [Bool.and_eq_true, decide_eq_true_eq] at hI2
              omega
          · cases hI1
        · cases hI
      refine call_W hgo hS hF (fun ad' H1 locs1 had p1 p2 p3 => ?_)
      have k := ih (d' + 1) m (pc + 3) L (r1.toList ++ st.drop b) σ1 n1 r σ' n' h2 hC2 n0 X (Nat.le_trans hn0 q3) hRc hRs (fun j => (q4 j).trans (hxs j)) p1 p2 p3 (hLr.ad (n := n) hL had) (fun op nx a b v ts pc ls H locs ad'' g1 g2 g3 g4 g5 g6 => hret op nx a b v ts pc ls H locs ad'' g1 g2 (fun k hk => (g3 k (Nat.lt_of_lt_of_le hk q3)).trans (had k hk)) g4 g5 g6)
      rw [List.map_append, cn_ads (fun x hx => hSt x (List.mem_of_mem_drop hx)) had] at k
      have hrm : (r1.map (cnV ad' adK b0)).toList = r1.toList.map (cnV ad' adK b0) := by cases r1 <;> rfl
      rw [hrm]
      exact W.cs (by omega) (by omega) k
    · -- a return
      cases ho
      have h99 : ¬ op = 99 := by
        intro q
        subst q
        rw [ins_99 (nx := 0) (a := 0) (b := 0) (v := 0) (ts := []) (L := []) (σ := σ) (n := 0) |>.2] at hr
        cases hr
      obtain ⟨hI, -⟩ := ins_ok hi h99
      have hst := ret_of hr
      have k := hret op nx a b v ts pc ls H locs ad hI (by rw [← hst]; exact hr) (fun _ _ => rfl) hP hD hS
      rw [← hst] at k
      exact k
    · -- a step
      have h99 : ¬ op = 99 := by
        intro q
        subst q
        rw [ins_99.1] at hs
        cases hs
      obtain ⟨hI, hm⟩ := ins_ok hi h99
      obtain ⟨t1, t2⟩ := tb_of hi h99
      obtain ⟨q1, q2, q3⟩ := stp_ok hI hs hC
      obtain ⟨-, -, z3, -⟩ := run_ok f d m pc' L' st' σ1 n1 r σ' n' h2 q1
      refine stp_W h44 h45 (N := n') hI t1 t2 hs hC X hn0 z3 hRc hRs hxs hP hD hS hLr (fun ad' ls' H' locs' had p1 p2 p3 p4 => ?_)
      exact ih d m pc' L' st' σ1 n1 r σ' n' h2 q1 n0 X (Nat.le_trans hn0 q2) hRc hRs (fun j => (stp_scr hs j).trans (hxs j)) p1 p2 p3 p4 (fun op nx a b v ts pc ls H locs ad'' g1 g2 g3 g4 g5 g6 => hret op nx a b v ts pc ls H locs ad'' g1 g2 (fun k hk => (g3 k (Nat.lt_of_lt_of_le hk q2)).trans (had k hk)) g4 g5 g6)
end
section
/-! runs of the small machine, by rules -/
theorem run_mono : ∀ (f g d m pc : Nat) (L st : List AV) (σ : Mem) (n : Nat) (o : Out), f ≤ g → runM S0 M0 f d m pc L st σ n = some o → runM S0 M0 g d m pc L st σ n = some o := by
  intro f
  induction f with
  | zero => intro g d m pc L st σ n o _ h; cases h
  | succ f ih =>
    intro g d m pc L st σ n o hg h
    obtain ⟨g, rfl⟩ : ∃ k, g = k + 1 := ⟨g - 1, by omega⟩
    have hg : f ≤ g := by omega
    obtain ⟨op, nx, a, b, v, ts, hi, hcase⟩ := run_cases h
    have hM : M0.2.2 m pc = insF m pc := rfl
    rcases hcase with ⟨rfl, c1, c2, c3, d', r1, σ1, n1, rfl, h1, h2⟩ | ⟨h36, r1, hr, ho⟩ | ⟨h36, pc', L', st', σ1, n1, hs, h2⟩
    · have q1 := ih g _ _ _ _ _ _ _ _ hg h1
      have q2 := ih g _ _ _ _ _ _ _ _ hg h2
      rw [runM, hM, hi]
      simp only [if_true]
      rw [if_pos ⟨c1, c2, c3⟩]
      show (match runM S0 M0 g d' a 0 (entM (mlF a) (st.take b).reverse) [] σ n with
        | none => none
        | some (r, σ1, n1) => runM S0 M0 g (d' + 1) m nx L (r.toList ++ st.drop b) σ1 n1) = some o
      rw [q1]
      exact q2
    · rw [runM, hM, hi]
      simp only
      rw [if_neg h36, hr, ho]
    · rw [runM, hM, hi]
      simp only
      have hr : retM op st = none := by
        cases hq : retM op st with
        | none => rfl
        | some x =>
          exfalso
          unfold retM at hq
          split at hq
          all_goals first
            | (simp only [stpM] at hs; cases hs; done)
            | (cases hq; done)
      rw [if_neg h36, hr, hs]
      exact ih g _ _ _ _ _ _ _ _ hg h2
abbrev Pst : Type := Option AV → Mem → Nat → Prop
def EV (d m pc : Nat) (L st : List AV) (σ : Mem) (n : Nat) (Q : Pst) : Prop := ∃ f r σ' n', runM S0 M0 f d m pc L st σ n = some (r, σ', n') ∧ Q r σ' n'
def EVM (d y : Nat) (as : List AV) (σ : Mem) (n : Nat) (Q : Pst) : Prop := EV d y 0 (entM (mlF y) as) [] σ n Q
section EVR
variable {d m pc nx a b : Nat} {v : Int} {ts : List (Int × Nat)} {L st : List AV} {σ : Mem} {n : Nat} {Q : Pst}
theorem ev_ret {op : Nat} {r : Option AV} (hi : insF m pc = (op, nx, a, b, v, ts)) (h36 : ¬ op = 36) (hr : retM op st = some r) (h : Q r σ n) : EV d m pc L st σ n Q := by
  refine ⟨1, r, σ, n, ?_, h⟩
  have hM : M0.2.2 m pc = insF m pc := rfl
  rw [runM, hM, hi]
  simp only
  rw [if_neg h36, hr]
theorem ev_stp {op : Nat} {pc' : Nat} {L' st' : List AV} {σ' : Mem} {n' : Nat} (hi : insF m pc = (op, nx, a, b, v, ts)) (h36 : ¬ op = 36) (hr : retM op st = none) (hs : stpM S0 op nx a b v ts L st σ n = some (pc', L', st', σ', n')) (h : EV d m pc' L' st' σ' n' Q) : EV d m pc L st σ n Q := by
  obtain ⟨f, r, σ1, n1, h1, h2⟩ := h
  refine ⟨f + 1, r, σ1, n1, ?_, h2⟩
  have hM : M0.2.2 m pc = insF m pc := rfl
  rw [runM, hM, hi]
  simp only
  rw [if_neg h36, hr, hs]
  exact h1
theorem ev_call (hi : insF m pc = (36, nx, a, b, v, ts)) (hb : b ≤ st.length ∧ ((st.drop b).map catM).sum ≤ 8 ∧ argM v.toNat (moF a) (mlF a) (st.take b).reverse = true) (h : EVM d a (st.take b).reverse σ n (fun r σ1 n1 => EV (d + 1) m nx L (r.toList ++ st.drop b) σ1 n1 Q)) : EV (d + 1) m pc L st σ n Q := by
  obtain ⟨f, r, σ1, n1, h1, g, r2, σ2, n2, h2, h3⟩ := h
  refine ⟨f + g + 1, r2, σ2, n2, ?_, h3⟩
  have hM : M0.2.2 m pc = insF m pc := rfl
  have q1 := run_mono f (f + g) _ _ _ _ _ _ _ _ (by omega) h1
  have q2 := run_mono g (f + g) _ _ _ _ _ _ _ _ (by omega) h2
  rw [runM, hM, hi]
  simp only [if_true]
  refine Eq.trans (if_pos hb) ?_
  show (match runM S0 M0 (f + g) d a 0 (entM (mlF a) (st.take b).reverse) [] σ n with
    | none => none
    | some (r, σ1, n1) => runM S0 M0 (f + g) (d + 1) m nx L (r.toList ++ st.drop b) σ1 n1) = some (r2, σ2, n2)
  rw [q1]
  exact q2
theorem EV.imp {Q2 : Pst} (h : EV d m pc L st σ n Q) (hQ : ∀ r σ' n', Q r σ' n' → Q2 r σ' n') : EV d m pc L st σ n Q2 := by
  obtain ⟨f, r, σ1, n1, h1, h2⟩ := h
  exact ⟨f, r, σ1, n1, h1, hQ _ _ _ h2⟩
theorem EVM.imp {y : Nat} {as : List AV} {Q2 : Pst} (h : EVM d y as σ n Q) (hQ : ∀ r σ' n', Q r σ' n' → Q2 r σ' n') : EVM d y as σ n Q2 := EV.imp h hQ
theorem e_const (hi : insF m pc = (0, nx, a, b, v, ts)) (h : EV d m nx L ((0, v) :: st) σ n Q) : EV d m pc L st σ n Q := ev_stp hi (by decide) rfl rfl h
theorem e_lconst (hi : insF m pc = (1, nx, a, b, v, ts)) (h : EV d m nx L ((2, v) :: st) σ n Q) : EV d m pc L st σ n Q := ev_stp hi (by decide) rfl rfl h
theorem e_null (hi : insF m pc = (2, nx, a, b, v, ts)) (h : EV d m nx L ((b, -1) :: st) σ n Q) : EV d m pc L st σ n Q := ev_stp hi (by decide) rfl rfl h
theorem e_load {x : AV} (hi : insF m pc = (3, nx, a, b, v, ts)) (hL : L[a]? = some x) (hk : kdM x.1 = b) (h : EV d m nx L (x :: st) σ n Q) : EV d m pc L st σ n Q := ev_stp hi (by decide) rfl (by simp only [stpM, hL]; rw [if_pos hk]) h
theorem e_store {x : AV} {L' : List AV} (hi : insF m pc = (4, nx, a, b, v, ts)) (hk : kdM x.1 = b ∧ a + b < L.length + 1 ∧ (v = 0 ∨ noLM L a = true)) (hL : stoM L a x = L') (h : EV d m nx L' st σ n Q) : EV d m pc L (x :: st) σ n Q := ev_stp hi (by decide) rfl (by simp only [stpM]; rw [if_pos hk, hL]) h
theorem e_iinc {x : Int} {L' : List AV} (hi : insF m pc = (5, nx, a, b, v, ts)) (hL : L[a]? = some (0, x)) (hk : b = 0 ∨ noLM L a = true) (hL' : L.set a (0, Zadd x v) = L') (h : EV d m nx L' st σ n Q) : EV d m pc L st σ n Q := ev_stp hi (by decide) rfl (by simp only [stpM, hL]; rw [if_pos ⟨trivial, hk⟩, hL']) h
theorem e_bin {x y z : Int} (hi : insF m pc = (6, nx, a, b, v, ts)) (hz : binM b x y = some z) (h : EV d m nx L ((0, z) :: st) σ n Q) : EV d m pc L ((0, y) :: (0, x) :: st) σ n Q := ev_stp hi (by decide) rfl (by simp only [stpM, hz]) h
theorem e_lbin {x y z : Int} (hi : insF m pc = (7, nx, a, b, v, ts)) (hz : lbinM b x y = some z) (h : EV d m nx L ((2, z) :: st) σ n Q) : EV d m pc L ((2, y) :: (2, x) :: st) σ n Q := ev_stp hi (by decide) rfl (by simp only [stpM, hz]) h
theorem e_i2l {x : Int} (hi : insF m pc = (8, nx, a, b, v, ts)) (h : EV d m nx L ((2, x) :: st) σ n Q) : EV d m pc L ((0, x) :: st) σ n Q := ev_stp hi (by decide) rfl rfl h
theorem e_i2b {x : Int} (hi : insF m pc = (9, nx, a, b, v, ts)) (h : EV d m nx L ((0, Zi2b x) :: st) σ n Q) : EV d m pc L ((0, x) :: st) σ n Q := ev_stp hi (by decide) rfl rfl h
theorem e_lcmp {x y : Int} (hi : insF m pc = (10, nx, a, b, v, ts)) (h : EV d m nx L ((0, Zlcmp x y) :: st) σ n Q) : EV d m pc L ((2, y) :: (2, x) :: st) σ n Q := ev_stp hi (by decide) rfl rfl h
theorem e_dup {x : AV} (hi : insF m pc = (11, nx, a, b, v, ts)) (hk : ¬ x.1 = 2) (h : EV d m nx L (x :: x :: st) σ n Q) : EV d m pc L (x :: st) σ n Q := ev_stp hi (by decide) rfl (by simp only [stpM]; rw [if_neg hk]) h
theorem e_dup2 {x y : AV} (hi : insF m pc = (12, nx, a, b, v, ts)) (hk : ¬ (x.1 = 2 ∨ y.1 = 2)) (h : EV d m nx L (x :: y :: x :: y :: st) σ n Q) : EV d m pc L (x :: y :: st) σ n Q := ev_stp hi (by decide) rfl (by simp only [stpM]; rw [if_neg hk]) h
theorem e_ifp {c : Prop} {x : Int} (hi : insF m pc = (13, nx, a, b, v, ts)) (hc : cmpM b x 0 = true ↔ c) (ht : c → EV d m a L st σ n Q) (hf : ¬ c → EV d m nx L st σ n Q) : EV d m pc L ((0, x) :: st) σ n Q := by
  refine ev_stp hi (by decide) rfl rfl ?_
  by_cases h : c
  · rw [if_pos (hc.mpr h)]; exact ht h
  · rw [if_neg (fun q => h (hc.mp q))]; exact hf h
theorem e_icp {c : Prop} {x y : Int} (hi : insF m pc = (14, nx, a, b, v, ts)) (hc : cmpM b x y = true ↔ c) (ht : c → EV d m a L st σ n Q) (hf : ¬ c → EV d m nx L st σ n Q) : EV d m pc L ((0, y) :: (0, x) :: st) σ n Q := by
  refine ev_stp hi (by decide) rfl rfl ?_
  by_cases h : c
  · rw [if_pos (hc.mpr h)]; exact ht h
  · rw [if_neg (fun q => h (hc.mp q))]; exact hf h
theorem c0 {x y : Int} : cmpM 0 x y = true ↔ x = y := decide_eq_true_iff
theorem c1 {x y : Int} : cmpM 1 x y = true ↔ ¬ x = y := decide_eq_true_iff
theorem c2 {x y : Int} : cmpM 2 x y = true ↔ x < y := decide_eq_true_iff
theorem c3 {x y : Int} : cmpM 3 x y = true ↔ y ≤ x := decide_eq_true_iff
theorem c4 {x y : Int} : cmpM 4 x y = true ↔ y < x := decide_eq_true_iff
theorem c5 {x y : Int} : cmpM 5 x y = true ↔ x ≤ y := decide_eq_true_iff
theorem e_ifnull {t : Nat} {x : Int} (hi : insF m pc = (15, nx, a, b, v, ts)) (hk : 10 ≤ t) (ht : x < 0 → EV d m a L st σ n Q) (hf : ¬ x < 0 → EV d m nx L st σ n Q) : EV d m pc L ((t, x) :: st) σ n Q := by
  refine ev_stp hi (by decide) rfl (by simp only [stpM]; rw [if_pos hk]) ?_
  by_cases h : x < 0
  · rw [if_pos h]; exact ht h
  · rw [if_neg h]; exact hf h
theorem e_ifnonnull {t : Nat} {x : Int} (hi : insF m pc = (16, nx, a, b, v, ts)) (hk : 10 ≤ t) (ht : ¬ x < 0 → EV d m a L st σ n Q) (hf : x < 0 → EV d m nx L st σ n Q) : EV d m pc L ((t, x) :: st) σ n Q := by
  refine ev_stp hi (by decide) rfl (by simp only [stpM]; rw [if_pos hk]) ?_
  by_cases h : x < 0
  · rw [if_pos h]; exact hf h
  · rw [if_neg h]; exact ht h
theorem e_acmp {t t2 : Nat} {x y : Int} (hi : insF m pc = (17, nx, a, b, v, ts)) (hk : 10 ≤ t ∧ 10 ≤ t2) (ht : x = y → EV d m a L st σ n Q) (hf : ¬ x = y → EV d m nx L st σ n Q) : EV d m pc L ((t2, y) :: (t, x) :: st) σ n Q := by
  refine ev_stp hi (by decide) rfl (by simp only [stpM]; rw [if_pos hk]) ?_
  by_cases h : x = y
  · rw [if_pos h]; exact ht h
  · rw [if_neg h]; exact hf h
theorem e_goto (hi : insF m pc = (18, nx, a, b, v, ts)) (h : EV d m a L st σ n Q) : EV d m pc L st σ n Q := ev_stp hi (by decide) rfl rfl h
theorem e_switch {x : Int} (hi : insF m pc = (19, nx, a, b, v, ts)) (h : EV d m ((ts.lookup x).getD a) L st σ n Q) : EV d m pc L ((0, x) :: st) σ n Q := ev_stp hi (by decide) rfl rfl h
theorem e_getf {t t' : Nat} {k : Int} (hi : insF m pc = (21, nx, a, b, v, ts)) (ht : t = 10 + a) (ht' : (if ftF a b = 7 then 0 else ftF a b) = t') (h0 : 0 ≤ k) (h : EV d m nx L ((t', σ k b) :: st) σ n Q) : EV d m pc L ((t, k) :: st) σ n Q := by
  refine ev_stp hi (by decide) rfl (by simp only [stpM]; rw [if_pos ⟨ht, h0⟩]) ?_
  show EV d m nx L ((if ftF a b = 7 then 0 else ftF a b, σ k b) :: st) σ n Q
  rw [ht']
  exact h
theorem e_putf {t t' : Nat} {k x : Int} (hi : insF m pc = (22, nx, a, b, v, ts)) (ht : t = 10 + a) (ht' : t' = ftF a b) (h0 : 0 ≤ k) (h : EV d m nx L st (wrM σ k b x) n Q) : EV d m pc L ((t', x) :: (t, k) :: st) σ n Q := ev_stp hi (by decide) rfl (by simp only [stpM]; rw [if_pos ⟨ht, h0, ht'⟩]) h
theorem e_putz {t : Nat} {k x : Int} (hi : insF m pc = (23, nx, a, b, v, ts)) (ht : t = 10 + a) (h0 : 0 ≤ k) (hx : x = 0 ∨ x = 1) (h : EV d m nx L st (wrM σ k b x) n Q) : EV d m pc L ((0, x) :: (t, k) :: st) σ n Q := ev_stp hi (by decide) rfl (by simp only [stpM]; rw [if_pos ⟨ht, h0, hx⟩]) h
theorem e_ald {t : Nat} {k i : Int} (hi : insF m pc = (24, nx, a, b, v, ts)) (ht : t = a) (h0 : 0 ≤ k) (i0 : 0 ≤ i ∧ i < lnF k) (h : EV d m nx L ((b, σ k i) :: st) σ n Q) : EV d m pc L ((0, i) :: (t, k) :: st) σ n Q := ev_stp hi (by decide) rfl (by simp only [stpM]; rw [if_pos ⟨ht, h0, i0.1, i0.2⟩]) h
theorem e_iast {k i x : Int} (hi : insF m pc = (28, nx, a, b, v, ts)) (h0 : 0 ≤ k) (i0 : 0 ≤ i ∧ i < lnF k) (h : EV d m nx L st (wrM σ k i x) n Q) : EV d m pc L ((0, x) :: (0, i) :: (50, k) :: st) σ n Q := ev_stp hi (by decide) rfl (by simp only [stpM]; rw [if_pos ⟨h0, i0.1, i0.2⟩]) h
theorem e_bast {k i x : Int} (hi : insF m pc = (29, nx, a, b, v, ts)) (h0 : 0 ≤ k) (i0 : 0 ≤ i ∧ i < lnF k) (h : EV d m nx L st (wrM σ k i (Zbnar x)) n Q) : EV d m pc L ((0, x) :: (0, i) :: (51, k) :: st) σ n Q := ev_stp hi (by decide) rfl (by simp only [stpM]; rw [if_pos ⟨h0, i0.1, i0.2⟩]) h
theorem e_zast {k i x : Int} (hi : insF m pc = (30, nx, a, b, v, ts)) (h0 : 0 ≤ k) (i0 : 0 ≤ i ∧ i < lnF k) (h : EV d m nx L st (wrM σ k i (Zznar x)) n Q) : EV d m pc L ((0, x) :: (0, i) :: (52, k) :: st) σ n Q := ev_stp hi (by decide) rfl (by simp only [stpM]; rw [if_pos ⟨h0, i0.1, i0.2⟩]) h
theorem e_aast {t t' : Nat} {k i x : Int} (hi : insF m pc = (31, nx, a, b, v, ts)) (ht : t = a ∧ t' = b) (hx : 0 ≤ x) (h0 : 0 ≤ k) (i0 : 0 ≤ i ∧ i < lnF k) (h : EV d m nx L st (wrM σ k i x) n Q) : EV d m pc L ((t', x) :: (0, i) :: (t, k) :: st) σ n Q := ev_stp hi (by decide) rfl (by simp only [stpM]; rw [if_pos ⟨ht.1, ht.2, hx, h0, i0.1, i0.2⟩]) h
theorem e_alen {k : Int} (hi : insF m pc = (32, nx, a, b, v, ts)) (h0 : 0 ≤ k) (h : EV d m nx L ((0, lnF k) :: st) σ n Q) : EV d m pc L ((50, k) :: st) σ n Q := ev_stp hi (by decide) rfl (by simp only [stpM]; rw [if_pos h0]; rfl) h
theorem e_new (hi : insF m pc = (33, nx, a, b, v, ts)) (hs : shF n = 10 + a) (h : EV d m nx L ((10 + a, (n : Int)) :: st) (mkM σ n (dfl a ftF)) (n + 1) Q) : EV d m pc L st σ n Q := ev_stp hi (by decide) rfl (by simp only [stpM]; exact if_pos hs) h
theorem e_newa {x : Int} (hi : insF m pc = (34, nx, a, b, v, ts)) (hs : shF n = a ∧ lnF n = x ∧ 0 ≤ x ∧ x ≤ 1000) (h : EV d m nx L ((a, (n : Int)) :: st) (mkM σ n (fun _ => 0)) (n + 1) Q) : EV d m pc L ((0, x) :: st) σ n Q := ev_stp hi (by decide) rfl (by simp only [stpM]; exact if_pos hs) h
theorem e_anew {x : Int} (hi : insF m pc = (35, nx, a, b, v, ts)) (hs : shF n = a ∧ lnF n = x ∧ 0 ≤ x ∧ x ≤ 1000) (h : EV d m nx L ((a, (n : Int)) :: st) (mkM σ n (fun _ => -1)) (n + 1) Q) : EV d m pc L ((0, x) :: st) σ n Q := ev_stp hi (by decide) rfl (by simp only [stpM]; exact if_pos hs) h
theorem e_obj {t : Nat} {k : Int} (hi : insF m pc = (37, nx, a, b, v, ts)) (ht : 10 ≤ t) (h0 : 0 ≤ k) (hs : (st.map catM).sum ≤ 8) (h : EV d m nx L st σ n Q) : EV d m pc L ((t, k) :: st) σ n Q := ev_stp hi (by decide) rfl (by simp only [stpM]; rw [if_pos ⟨ht, h0, hs⟩]) h
theorem e_str (hi : insF m pc = (43, nx, a, b, v, ts)) (h : EV d m nx L ((3, v) :: st) σ n Q) : EV d m pc L st σ n Q := ev_stp hi (by decide) rfl rfl h
theorem e_slen {k : Int} (hi : insF m pc = (44, nx, a, b, v, ts)) (hs : (st.map catM).sum ≤ 8) (h : EV d m nx L ((0, slF k) :: st) σ n Q) : EV d m pc L ((3, k) :: st) σ n Q := ev_stp hi (by decide) rfl (by simp only [stpM]; rw [if_pos hs]; rfl) h
theorem e_schr {k i : Int} (hi : insF m pc = (45, nx, a, b, v, ts)) (hs : (st.map catM).sum ≤ 8) (i0 : 0 ≤ i ∧ i < slF k) (h : EV d m nx L ((0, scF k i) :: st) σ n Q) : EV d m pc L ((0, i) :: (3, k) :: st) σ n Q := ev_stp hi (by decide) rfl (by simp only [stpM]; rw [if_pos ⟨i0.1, i0.2, hs⟩]; rfl) h
theorem e_copy {k1 k2 sp dp c : Int} (hi : insF m pc = (46, nx, a, b, v, ts)) (hs : (st.map catM).sum ≤ 8) (hk : 0 ≤ k1 ∧ 0 ≤ k2 ∧ ¬ k1 = k2 ∧ 0 ≤ c ∧ 0 ≤ sp ∧ 0 ≤ dp ∧ sp + c ≤ lnF k1 ∧ dp + c ≤ lnF k2) (h : EV d m nx L st (cpM σ k1 sp k2 dp c) n Q) : EV d m pc L ((0, c) :: (0, dp) :: (50, k2) :: (0, sp) :: (50, k1) :: st) σ n Q := by
  obtain ⟨h1, h2, h3, h4, h5, h6, h7, h8⟩ := hk
  exact ev_stp hi (by decide) rfl (by simp only [stpM]; rw [if_pos ⟨h1, h2, h3, h4, h5, h6, h7, h8, hs⟩]) h
theorem e_scr {w i : Int} (hi : insF m pc = (47, nx, a, b, v, ts)) (i0 : 0 ≤ i ∧ i < σ (-2) (-1)) (h : EV d m nx L ((0, σ (-2) i) :: st) σ n Q) : EV d m pc L ((0, i) :: (5, w) :: st) σ n Q := ev_stp hi (by decide) rfl (by simp only [stpM]; rw [if_pos i0]) h
theorem e_scl {w : Int} (hi : insF m pc = (48, nx, a, b, v, ts)) (h : EV d m nx L ((0, σ (-2) (-1)) :: st) σ n Q) : EV d m pc L ((5, w) :: st) σ n Q := ev_stp hi (by decide) rfl rfl h
theorem e_mm {x y z : Int} (hi : insF m pc = (49, nx, a, b, v, ts)) (hs : (st.map catM).sum ≤ 8) (hz : (if b = 0 then (if x < y then y else x) else (if y < x then y else x)) = z) (h : EV d m nx L ((0, z) :: st) σ n Q) : EV d m pc L ((0, y) :: (0, x) :: st) σ n Q := ev_stp hi (by decide) rfl (by simp only [stpM]; rw [if_pos hs, hz]) h
end EVR
end
section
/-- the arguments of a call on an object -/
theorem argM_v {kd c nL t : Nat} {k : Int} {tl : List AV} (hk : kd = 1 ∨ kd = 2) (ht : t = 10 + c) (h0 : 0 ≤ k) (h : (decide (((t, k) :: tl).length ≤ nL) && ((t, (0 : Int)) :: tl).all (fun x => decide (¬ x.1 = 2) && decide (¬ x.1 = 9))) = true) : argM kd c nL ((t, k) :: tl) = true := by
  simp only [Bool.and_eq_true, decide_eq_true_eq] at h
  unfold argM
  rw [Bool.and_eq_true, Bool.and_eq_true]
  refine ⟨⟨?_, decide_eq_true h.1⟩, ?_⟩
  · rcases hk with rfl | rfl <;> exact decide_eq_true ⟨ht, h0⟩
  · exact h.2
end
section
/-! String.length() and String.charAt(int) on the class's String constants -/
def yCo : MethodName := ⟨"java/lang/String", "coder", "()B"⟩
def yLe : MethodName := ⟨"java/lang/String", "length", "()I"⟩
def yCh : MethodName := ⟨"java/lang/String", "charAt", "(I)C"⟩
def yIl : MethodName := ⟨"java/lang/String", "isLatin1", "()Z"⟩
def yLc : MethodName := ⟨"java/lang/StringLatin1", "charAt", "([BI)C"⟩
def yCi : MethodName := ⟨"java/lang/String", "checkIndex", "(II)V"⟩
def yPi : MethodName := ⟨"jdk/internal/util/Preconditions", "checkIndex", "(IILjava/util/function/BiFunction;)I"⟩
abbrev kCo : ByteArray := prog_16_method_152_code
abbrev kLe : ByteArray := prog_16_method_54_code
abbrev kCh : ByteArray := prog_16_method_56_code
abbrev kIl : ByteArray := prog_16_method_154_code
abbrev kLc : ByteArray := prog_17_method_2_code
abbrev kCi : ByteArray := prog_16_method_155_code
abbrev kPi : ByteArray := prog_21_method_11_code
set_option maxRecDepth 100000 in
theorem jw1 : lw_tbl[799]? = some (Cond.methodLink "java/lang/String" 335 yCo) ∧ lw_tbl[800]? = some (Cond.instanceMethod yCo) ∧ lw_tbl[801]? = some (Cond.selects "java/lang/String" yCo yCo) ∧ lw_tbl[803]? = some (Cond.fieldLink "java/lang/String" 38 "java/lang/String" "COMPACT_STRINGS" "Z") ∧ lw_tbl[809]? = some (Cond.methodLink "java/lang/String" 492 yIl) ∧ lw_tbl[810]? = some (Cond.instanceMethod yIl) ∧ lw_tbl[811]? = some (Cond.selects "java/lang/String" yIl yIl) ∧ lw_tbl[813]? = some (Cond.methodLink "java/lang/String" 495 yLc) ∧ lw_tbl[814]? = some (Cond.static yLc) := by decide +kernel
set_option maxRecDepth 100000 in
theorem jw2 : lw_tbl[816]? = some (Cond.methodLink "java/lang/StringLatin1" 9 yCi) ∧ lw_tbl[817]? = some (Cond.static yCi) ∧ lw_tbl[819]? = some (Cond.fieldLink "java/lang/String" 1053 "jdk/internal/util/Preconditions" "SIOOBE_FORMATTER" "Ljava/util/function/BiFunction;") ∧ lw_tbl[821]? = some (Cond.methodLink "java/lang/String" 1059 yPi) ∧ lw_tbl[822]? = some (Cond.static yPi) ∧ lw_tbl[1371]? = some (Cond.fieldLink "java/lang/String" 9 "java/lang/String" "value" "[B") ∧ lw_tbl[1372]? = some (Cond.fieldLink "java/lang/String" 15 "java/lang/String" "coder" "B") ∧ lw_tbl[68]? = some (Cond.initialized "java/lang/String") ∧ lw_tbl[69]? = some (Cond.initialized "java/lang/StringLatin1") ∧ lw_tbl[70]? = some (Cond.initialized "jdk/internal/util/Preconditions") := by decide +kernel
set_option maxRecDepth 100000 in
theorem jw3 : lw_tbl[796]? = some (Cond.instanceMethod yLe) ∧ lw_tbl[797]? = some (Cond.selects "java/lang/String" yLe yLe) ∧ lw_tbl[806]? = some (Cond.instanceMethod yCh) ∧ lw_tbl[807]? = some (Cond.selects "java/lang/String" yCh yCh) := by decide +kernel
set_option maxRecDepth 100000 in
theorem jc1 : lw_tbl[802]? = some (Cond.code yCo kCo 1 (some .byte)) := rfl
set_option maxRecDepth 100000 in
theorem jc2 : lw_tbl[798]? = some (Cond.code yLe kLe 1 (some .int)) := rfl
set_option maxRecDepth 100000 in
theorem jc3 : lw_tbl[808]? = some (Cond.code yCh kCh 2 (some .char)) := rfl
set_option maxRecDepth 100000 in
theorem jc4 : lw_tbl[812]? = some (Cond.code yIl kIl 1 (some .boolean)) := rfl
set_option maxRecDepth 100000 in
theorem jc5 : lw_tbl[815]? = some (Cond.code yLc kLc 2 (some .char)) := rfl
set_option maxRecDepth 100000 in
theorem jc6 : lw_tbl[818]? = some (Cond.code yCi kCi 2 none) := rfl
set_option maxRecDepth 100000 in
theorem jc7 : lw_tbl[823]? = some (Cond.code yPi kPi 3 (some .int)) := rfl
theorem dCo0 : decode kCo 0 = .ok (.getstatic 38, 3) := by decide +kernel
theorem dCo3 : decode kCo 3 = .ok (.ifCond .eq 10, 3) := by decide +kernel
theorem dCo6 : decode kCo 6 = .ok (.aload_n 0, 1) := by decide +kernel
theorem dCo7 : decode kCo 7 = .ok (.getfield 15, 3) := by decide +kernel
theorem dCo10 : decode kCo 10 = .ok (.goto 4, 3) := by decide +kernel
theorem dCo14 : decode kCo 14 = .ok (.ireturn, 1) := by decide +kernel
theorem dIl0 : decode kIl 0 = .ok (.getstatic 38, 3) := by decide +kernel
theorem dIl3 : decode kIl 3 = .ok (.ifCond .eq 14, 3) := by decide +kernel
theorem dIl6 : decode kIl 6 = .ok (.aload_n 0, 1) := by decide +kernel
theorem dIl7 : decode kIl 7 = .ok (.getfield 15, 3) := by decide +kernel
theorem dIl10 : decode kIl 10 = .ok (.ifCond .ne 7, 3) := by decide +kernel
theorem dIl13 : decode kIl 13 = .ok (.iconst 1, 1) := by decide +kernel
theorem dIl14 : decode kIl 14 = .ok (.goto 4, 3) := by decide +kernel
theorem dIl18 : decode kIl 18 = .ok (.ireturn, 1) := by decide +kernel
theorem dLe0 : decode kLe 0 = .ok (.aload_n 0, 1) := by decide +kernel
theorem dLe1 : decode kLe 1 = .ok (.getfield 9, 3) := by decide +kernel
theorem dLe4 : decode kLe 4 = .ok (.arraylength, 1) := by decide +kernel
theorem dLe5 : decode kLe 5 = .ok (.aload_n 0, 1) := by decide +kernel
theorem dLe6 : decode kLe 6 = .ok (.invokevirtual 335, 3) := by decide +kernel
theorem dLe9 : decode kLe 9 = .ok (.ishr, 1) := by decide +kernel
theorem dLe10 : decode kLe 10 = .ok (.ireturn, 1) := by decide +kernel
theorem dCh0 : decode kCh 0 = .ok (.aload_n 0, 1) := by decide +kernel
theorem dCh1 : decode kCh 1 = .ok (.invokevirtual 492, 3) := by decide +kernel
theorem dCh4 : decode kCh 4 = .ok (.ifCond .eq 12, 3) := by decide +kernel
theorem dCh7 : decode kCh 7 = .ok (.aload_n 0, 1) := by decide +kernel
theorem dCh8 : decode kCh 8 = .ok (.getfield 9, 3) := by decide +kernel
theorem dCh11 : decode kCh 11 = .ok (.iload_n 1, 1) := by decide +kernel
theorem dCh12 : decode kCh 12 = .ok (.invokestatic 495, 3) := by decide +kernel
theorem dCh15 : decode kCh 15 = .ok (.ireturn, 1) := by decide +kernel
theorem dLc0 : decode kLc 0 = .ok (.iload_n 1, 1) := by decide +kernel
theorem dLc1 : decode kLc 1 = .ok (.aload_n 0, 1) := by decide +kernel
theorem dLc2 : decode kLc 2 = .ok (.arraylength, 1) := by decide +kernel
theorem dLc3 : decode kLc 3 = .ok (.invokestatic 9, 3) := by decide +kernel
theorem dLc6 : decode kLc 6 = .ok (.aload_n 0, 1) := by decide +kernel
theorem dLc7 : decode kLc 7 = .ok (.iload_n 1, 1) := by decide +kernel
theorem dLc8 : decode kLc 8 = .ok (.baload, 1) := by decide +kernel
theorem dLc9 : decode kLc 9 = .ok (.sipush 255, 3) := by decide +kernel
theorem dLc12 : decode kLc 12 = .ok (.iand, 1) := by decide +kernel
theorem dLc13 : decode kLc 13 = .ok (.i2c, 1) := by decide +kernel
theorem dLc14 : decode kLc 14 = .ok (.ireturn, 1) := by decide +kernel
theorem dCi0 : decode kCi 0 = .ok (.iload_n 0, 1) := by decide +kernel
theorem dCi1 : decode kCi 1 = .ok (.iload_n 1, 1) := by decide +kernel
theorem dCi2 : decode kCi 2 = .ok (.getstatic 1053, 3) := by decide +kernel
theorem dCi5 : decode kCi 5 = .ok (.invokestatic 1059, 3) := by decide +kernel
theorem dCi8 : decode kCi 8 = .ok (.pop, 1) := by decide +kernel
theorem dCi9 : decode kCi 9 = .ok (.return_, 1) := by decide +kernel
theorem dPi0 : decode kPi 0 = .ok (.iload_n 0, 1) := by decide +kernel
theorem dPi1 : decode kPi 1 = .ok (.ifCond .lt 8, 3) := by decide +kernel
theorem dPi4 : decode kPi 4 = .ok (.iload_n 0, 1) := by decide +kernel
theorem dPi5 : decode kPi 5 = .ok (.iload_n 1, 1) := by decide +kernel
theorem dPi6 : decode kPi 6 = .ok (.if_icmp .lt 10, 3) := by decide +kernel
theorem dPi16 : decode kPi 16 = .ok (.iload_n 0, 1) := by decide +kernel
theorem dPi17 : decode kPi 17 = .ok (.ireturn, 1) := by decide +kernel
def noA : Nat → Prop := fun _ => False
def PcS (adK adV : Nat → Nat) (av : List Value) : Array Value → State → Prop := va_Pc av (fun U => StrU adK adV noA U U.heap)
theorem PcS_b {adK adV : Nat → Nat} {av : List Value} : FrameBlind (PcS adK adV av) := fun a U g mk q => ⟨q.1, StrU.to (u := U) (U := U.calling g mk a) q.2 (Vm.Alike.refl U.vm) (fun _ _ _ => rfl) (fun _ h => h)⟩
theorem PcS_s {adK adV : Nat → Nat} {s : State} (h : StrU adK adV noA s s.heap) (av : List Value) : PreS s s.heap (PcS adK adV av) av := ⟨PcS_b, fun U hU hW => ⟨rfl, by show StrU adK adV noA U U.heap; rw [hU]; exact h.to hW.alike (fun _ _ _ => rfl) (fun _ h => h)⟩⟩
abbrev wsJ (y : MethodName) (k : ByteArray) (m : Nat) (r : Option FieldType) : List Cond := Cond.code y k m r :: gtbl
theorem wsJ_good {y : MethodName} {k : ByteArray} {m : Nat} {r : Option FieldType} {i : Nat} (h : lw_tbl[i]? = some (Cond.code y k m r)) : GoodIn gtbl (wsJ y k m r) := by
  intro w hw
  rcases List.mem_cons.mp hw with rfl | h2
  · exact gt_good _ (gt_of h rfl)
  · exact gt_good w h2
/-- Preconditions.checkIndex within -/
theorem c_Pi (l : Launch) (i n : Int) (w : Option Nat) (hi : in32 i) (hn : in32 n) (h0 : 0 ≤ i) (h1 : i < n) : Met l yPi (wsJ yPi kPi 3 (some .int)) (k2_rm 0 0) (va_Pc [.int (Int32.ofInt i), .int (Int32.ofInt n), va_rf w] (fun _ => True)) (QcRead (Int32.ofInt i)) 0 0 (fun _ => False) := by
  refine Met.ofW (cc := kPi) (maxL := 3) (ret := some .int) (by decide) rfl ?_
  intro p e s m args below meth c s₁ B hml hv
  obtain ⟨rfl, -⟩ := hv
  have hx := B.exec
  have hb := B.bytes
  have hr := B.returns
  have hlocks := B.notSynchronized
  have hl : lv_has ((lg_sl [.int (Int32.ofInt i), .int (Int32.ofInt n), va_rf w] ++ List.replicate (3 - (lg_sl [.int (Int32.ofInt i), .int (Int32.ofInt n), va_rf w]).length) Slot.unset).toArray) 3 [(0, .int (Int32.ofInt i)), (1, .int (Int32.ofInt n))] := by
    cases w with
    | none => exact lv_sub (lv_entry [.int (Int32.ofInt i), .int (Int32.ofInt n), va_rf none] (n := 3) (Nat.le_of_ble_eq_true rfl)) [0, 1] rfl
    | some t => exact lv_sub (lv_entry [.int (Int32.ofInt i), .int (Int32.ofInt n), va_rf (some t)] (n := 3) (Nat.le_of_ble_eq_true rfl)) [0, 1] rfl
  rw [lg_entry_eq]
  generalize (lg_sl [.int (Int32.ofInt i), .int (Int32.ofInt n), va_rf w] ++ List.replicate (3 - (lg_sl [.int (Int32.ofInt i), .int (Int32.ofInt n), va_rf w]).length) Slot.unset).toArray = ls at hl ⊢
  refine lv_iload_n hx hb dPi0 rfl (lv_at hl 0 rfl) ?_
  refine lv_if_lt (tgt := 9) hx hb dPi1 (by decide) (fun q => absurd q ?_) (fun _ => ?_)
  · rw [show (0 : Int32) = Int32.ofInt 0 from rfl, lt32 hi z32]
    omega
  refine lv_iload_n hx hb dPi4 rfl (lv_at hl 0 rfl) ?_
  refine lv_iload_n hx hb dPi5 rfl (lv_at hl 1 rfl) ?_
  refine lv_icmp_lt (tgt := 16) hx hb dPi6 (by decide) (fun _ => ?_) (fun q => absurd ((lt32 hi hn).mpr h1) q)
  refine lv_iload_n hx hb dPi16 rfl (lv_at hl 0 rfl) ?_
  exact W.iret hx hb hr (fun t ht _ => ⟨rfl, ht⟩) (fun _ h => by cases h) dPi17
/-- String.checkIndex within -/
theorem c_Ci (l : Launch) (adK adV : Nat → Nat) (i n : Int) (hi : in32 i) (hn : in32 n) (h0 : 0 ≤ i) (h1 : i < n) : Met l yCi (wsJ yCi kCi 2 none) (k2_rm 1 22) (PcS adK adV [.int (Int32.ofInt i), .int (Int32.ofInt n)]) (va_Sv (fun _ => True)) 0 0 (fun _ => False) := by
  refine Met.ofW (cc := kCi) (maxL := 2) (ret := none) (by decide) rfl ?_
  intro p e s m args below meth c s₁ B hml hv
  obtain ⟨rfl, hStr⟩ := hv
  have hx := B.exec
  have hb := B.bytes
  have hr := B.returns
  have hlocks := B.notSynchronized
  have hts : ∀ w ∈ gtbl, w.before _ s = true := fun w hw => atoms_spec (ws := wsJ yCi kCi 2 none) B.pre w (List.mem_cons_of_mem _ hw)
  have hown : s.vm.findClass "java/lang/String" = some m.cls := findClass_of_methodNamed B.named
  have hl := lv_entry [.int (Int32.ofInt i), .int (Int32.ofInt n)] (n := 2) (Nat.le_of_ble_eq_true rfl)
  rw [lg_entry_eq]
  generalize (lg_sl [.int (Int32.ofInt i), .int (Int32.ofInt n)] ++ List.replicate (2 - (lg_sl [.int (Int32.ofInt i), .int (Int32.ofInt n)]).length) Slot.unset).toArray = ls at hl ⊢
  have hl : lv_has ls 2 [(0, .int (Int32.ofInt i)), (1, .int (Int32.ofInt n))] := hl
  obtain ⟨w, hw⟩ : ∃ w : Option Nat, va_Z "jdk/internal/util/Preconditions" "SIOOBE_FORMATTER" "Ljava/util/function/BiFunction;" (va_rf w) noA s s.heap := by
    rcases hStr.2.2 with q | ⟨t, q⟩
    · exact ⟨none, q⟩
    · exact ⟨some t, q⟩
  refine lv_iload_n hx hb dCi0 rfl (lv_at hl 0 rfl) ?_
  refine lv_iload_n hx hb dCi1 rfl (lv_at hl 1 rfl) ?_
  refine va_gets hx hb hw va_S.rf hown (hts _ (gt_of jw2.2.2.1 rfl)) (fun _ h => h) dCi2 ?_
  refine W.callR (W.runS (As := [.int (Int32.ofInt i), .int (Int32.ofInt n), va_rf w]) (rest := []) ⟨hx, hb, hml, hown, hts⟩ (c_Pi l i n w hi hn h0 h1) ⟨callB_of 3 hts (wsJ_good jc7) rfl rfl rfl (hts _ (gt_of jw2.2.2.2.2.2.2.2.2.2 rfl)) (hts _ (gt_of jw2.2.2.2.1 rfl)) ⟨by decide, by decide, by decide +kernel⟩ ⟨Nat.le_of_ble_eq_true rfl, Nat.le_of_ble_eq_true rfl⟩, hts _ (gt_of jw2.2.2.2.2.1 rfl)⟩ ⟨fun _ _ _ _ q => q, fun U _ _ => ⟨rfl, trivial⟩⟩ rfl rfl hl.1 rfl (lv_room (Nat.le_of_ble_eq_true rfl)) dCi5 ⟨Nat.zero_le _, Nat.zero_le _⟩) ?_
  refine W.eq (g2 := F0 m 8 ls [.int (Int32.ofInt i)]) rfl ?_
  refine lv_pop hx hb dCi8 rfl ?_
  exact W.vret hx hb hr (fun t ht _ => ⟨rfl, trivial, ht⟩) (fun _ h => by cases h) dCi9
/-- coder() -/
theorem c_Co (l : Launch) (adK adV : Nat → Nat) (k : Nat) (hk : k < 7) : Met l yCo (wsJ yCo kCo 1 (some .byte)) (k2_rm 0 0) (PcS adK adV [.ref (adK k)]) (QcRead 0) 0 0 (fun _ => False) := by
  refine Met.ofW (cc := kCo) (maxL := 1) (ret := some .byte) (by decide) rfl ?_
  intro p e s m args below meth c s₁ B hml hv
  obtain ⟨rfl, hStr⟩ := hv
  have hx := B.exec
  have hb := B.bytes
  have hr := B.returns
  have hlocks := B.notSynchronized
  have hts : ∀ w ∈ gtbl, w.before _ s = true := fun w hw => atoms_spec (ws := wsJ yCo kCo 1 (some .byte)) B.pre w (List.mem_cons_of_mem _ hw)
  have hown : s.vm.findClass "java/lang/String" = some m.cls := findClass_of_methodNamed B.named
  have hl := lv_entry [.ref (adK k)] (n := 1) (Nat.le_of_ble_eq_true rfl)
  rw [lg_entry_eq]
  generalize (lg_sl [.ref (adK k)] ++ List.replicate (1 - (lg_sl [.ref (adK k)]).length) Slot.unset).toArray = ls at hl ⊢
  have hl : lv_has ls 1 [(0, .ref (adK k))] := hl
  refine va_gets hx hb hStr.2.1 va_S.rf hown (hts _ (gt_of jw1.2.2.2.1 rfl)) (fun _ h => h) dCo0 ?_
  refine lv_if_eq (tgt := 13) hx hb dCo3 (by decide) (fun q => absurd q (by decide)) (fun _ => ?_)
  refine lv_aload_n hx hb dCo6 rfl (lv_at hl 0 rfl) ?_
  refine vk_getf hx hb (hStr.1.1 k hk).2.1 va_S.rf hown (hts _ (gt_of jw2.2.2.2.2.2.2.1 rfl)) (fun _ h => h) dCo7 ?_
  refine lv_goto (tgt := 14) hx hb dCo10 (by decide) ?_
  exact W.zret (v := 0) (ty := .byte) hx hb hr rfl (fun t ht _ => ⟨rfl, ht⟩) (fun _ h => by cases h) dCo14
/-- isLatin1() -/
theorem c_Il (l : Launch) (adK adV : Nat → Nat) (k : Nat) (hk : k < 7) : Met l yIl (wsJ yIl kIl 1 (some .boolean)) (k2_rm 0 0) (PcS adK adV [.ref (adK k)]) (QcRead 1) 0 0 (fun _ => False) := by
  refine Met.ofW (cc := kIl) (maxL := 1) (ret := some .boolean) (by decide) rfl ?_
  intro p e s m args below meth c s₁ B hml hv
  obtain ⟨rfl, hStr⟩ := hv
  have hx := B.exec
  have hb := B.bytes
  have hr := B.returns
  have hlocks := B.notSynchronized
  have hts : ∀ w ∈ gtbl, w.before _ s = true := fun w hw => atoms_spec (ws := wsJ yIl kIl 1 (some .boolean)) B.pre w (List.mem_cons_of_mem _ hw)
  have hown : s.vm.findClass "java/lang/String" = some m.cls := findClass_of_methodNamed B.named
  have hl := lv_entry [.ref (adK k)] (n := 1) (Nat.le_of_ble_eq_true rfl)
  rw [lg_entry_eq]
  generalize (lg_sl [.ref (adK k)] ++ List.replicate (1 - (lg_sl [.ref (adK k)]).length) Slot.unset).toArray = ls at hl ⊢
  have hl : lv_has ls 1 [(0, .ref (adK k))] := hl
  refine va_gets hx hb hStr.2.1 va_S.rf hown (hts _ (gt_of jw1.2.2.2.1 rfl)) (fun _ h => h) dIl0 ?_
  refine lv_if_eq (tgt := 17) hx hb dIl3 (by decide) (fun q => absurd q (by decide)) (fun _ => ?_)
  refine lv_aload_n hx hb dIl6 rfl (lv_at hl 0 rfl) ?_
  refine vk_getf hx hb (hStr.1.1 k hk).2.1 va_S.rf hown (hts _ (gt_of jw2.2.2.2.2.2.2.1 rfl)) (fun _ h => h) dIl7 ?_
  refine lv_if_ne (tgt := 17) hx hb dIl10 (by decide) (fun q => absurd rfl q) (fun _ => ?_)
  refine lv_iconst (v := 1) hx hb dIl13 (by decide) ?_
  refine lv_goto (tgt := 18) hx hb dIl14 (by decide) ?_
  exact W.zret (v := 1) (ty := .boolean) hx hb hr rfl (fun t ht _ => ⟨rfl, ht⟩) (fun _ h => by cases h) dIl18
set_option maxRecDepth 100000 in
theorem st_len : ∀ k : Nat, k < 7 → lenS.getD k 0 = (slF k).toNat ∧ 0 ≤ slF k ∧ slF k ≤ 10 ∧ Int32.ofNat (lenS.getD k 0) >>> ((0 : Int32) &&& 31) = Int32.ofInt (slF k) := by decide +kernel
set_option maxRecDepth 100000 in
theorem st_chr : ∀ k : Nat, k < 7 → ∀ j : Nat, j < lenS.getD k 0 → ((((bytS.getD k []).getD j 0) &&& (Int16.ofInt 255).toInt32).toUInt32 % 65536).toInt32 = Int32.ofInt (scF k j) ∧ narrow .char (.int (Int32.ofInt (scF k j))) = .int (Int32.ofInt (scF k j)) := by decide +kernel
/-- length() -/
theorem c_Le (l : Launch) (adK adV : Nat → Nat) (k : Nat) (hk : k < 7) : Met l yLe (wsJ yLe kLe 1 (some .int)) (k2_rm 1 20) (PcS adK adV [.ref (adK k)]) (QcRead (Int32.ofInt (slF k))) 0 0 (fun _ => False) := by
  refine Met.ofW (cc := kLe) (maxL := 1) (ret := some .int) (by decide) rfl ?_
  intro p e s m args below meth c s₁ B hml hv
  obtain ⟨rfl, hStr⟩ := hv
  have hx := B.exec
  have hb := B.bytes
  have hr := B.returns
  have hlocks := B.notSynchronized
  have hts : ∀ w ∈ gtbl, w.before _ s = true := fun w hw => atoms_spec (ws := wsJ yLe kLe 1 (some .int)) B.pre w (List.mem_cons_of_mem _ hw)
  have hown : s.vm.findClass "java/lang/String" = some m.cls := findClass_of_methodNamed B.named
  have hl := lv_entry [.ref (adK k)] (n := 1) (Nat.le_of_ble_eq_true rfl)
  rw [lg_entry_eq]
  generalize (lg_sl [.ref (adK k)] ++ List.replicate (1 - (lg_sl [.ref (adK k)]).length) Slot.unset).toArray = ls at hl ⊢
  have hl : lv_has ls 1 [(0, .ref (adK k))] := hl
  obtain ⟨o1, o2, o3, o4⟩ := hStr.1.1 k hk
  refine lv_aload_n hx hb dLe0 rfl (lv_at hl 0 rfl) ?_
  refine vk_getf hx hb o3 va_S.rf hown (hts _ (gt_of jw2.2.2.2.2.2.1 rfl)) (fun _ h => h) dLe1 ?_
  refine va_tlen hx hb o4 va_S.rf rfl dLe4 ?_
  refine lv_aload_n hx hb dLe5 rfl (lv_at hl 0 rfl) ?_
  have hpre := PcS_s hStr [.ref (adK k)]
  refine W.callR (W.runV (C := "java/lang/String") (As := []) (rest := [.int (Int32.ofNat (lenS.getD k 0))]) ⟨hx, hb, hml, hown, hts⟩ (c_Co l adK adV k hk) ⟨callB_of 0 hts (wsJ_good jc1) rfl rfl rfl (hts _ (gt_of jw2.2.2.2.2.2.2.2.1 rfl)) (hts _ (gt_of jw1.1 rfl)) ⟨by decide, by decide, by decide +kernel⟩ ⟨Nat.le_of_ble_eq_true rfl, Nat.le_of_ble_eq_true rfl⟩, hts _ (gt_of jw1.2.1 rfl), hts _ (gt_of jw1.2.2.1 rfl)⟩ ⟨hpre.1, vk_recv hStr.1 hk va_S.rf, hpre.2⟩ rfl rfl hl.1 rfl (lv_room (Nat.le_of_ble_eq_true rfl)) dLe6 ⟨Nat.zero_le _, Nat.zero_le _⟩) ?_
  refine W.eq (g2 := F0 m 9 ls [.int 0, .int (Int32.ofNat (lenS.getD k 0))]) rfl ?_
  refine lv_ishr hx hb dLe9 ?_
  rw [(st_len k hk).2.2.2]
  exact W.iret hx hb hr (fun t ht _ => ⟨rfl, ht⟩) (fun _ h => by cases h) dLe10
/-- StringLatin1.charAt within -/
theorem c_Lc (l : Launch) (adK adV : Nat → Nat) (k j : Nat) (hk : k < 7) (hj : j < lenS.getD k 0) : Met l yLc (wsJ yLc kLc 2 (some .char)) (k2_rm 2 43) (PcS adK adV [.ref (adV k), .int (Int32.ofInt j)]) (QcRead (Int32.ofInt (scF k j))) 0 0 (fun _ => False) := by
  refine Met.ofW (cc := kLc) (maxL := 2) (ret := some .char) (by decide) rfl ?_
  intro p e s m args below meth c s₁ B hml hv
  obtain ⟨rfl, hStr⟩ := hv
  have hx := B.exec
  have hb := B.bytes
  have hr := B.returns
  have hlocks := B.notSynchronized
  have hts : ∀ w ∈ gtbl, w.before _ s = true := fun w hw => atoms_spec (ws := wsJ yLc kLc 2 (some .char)) B.pre w (List.mem_cons_of_mem _ hw)
  have hown : s.vm.findClass "java/lang/StringLatin1" = some m.cls := findClass_of_methodNamed B.named
  have hl := lv_entry [.ref (adV k), .int (Int32.ofInt j)] (n := 2) (Nat.le_of_ble_eq_true rfl)
  rw [lg_entry_eq]
  generalize (lg_sl [.ref (adV k), .int (Int32.ofInt j)] ++ List.replicate (2 - (lg_sl [.ref (adV k), .int (Int32.ofInt j)]).length) Slot.unset).toArray = ls at hl ⊢
  have hl : lv_has ls 2 [(0, .ref (adV k)), (1, .int (Int32.ofInt j))] := hl
  obtain ⟨o1, o2, o3, o4⟩ := hStr.1.1 k hk
  obtain ⟨s1, s2, s3, s4⟩ := st_len k hk
  have hj32 : in32 j := by unfold in32; omega
  have hn32 : in32 (lenS.getD k 0 : Nat) := by unfold in32; omega
  refine lv_iload_n hx hb dLc0 rfl (lv_at hl 1 rfl) ?_
  refine lv_aload_n hx hb dLc1 rfl (lv_at hl 0 rfl) ?_
  refine va_tlen hx hb o4 va_S.rf (v := Int32.ofInt ((lenS.getD k 0 : Nat) : Int)) Int32.ofInt_eq_ofNat.symm dLc2 ?_
  refine va_csv (W.runS (As := [.int (Int32.ofInt j), .int (Int32.ofInt ((lenS.getD k 0 : Nat) : Int))]) (rest := []) ⟨hx, hb, hml, hown, hts⟩ (c_Ci l adK adV j (lenS.getD k 0 : Nat) hj32 hn32 (by omega) (by omega)) ⟨callB_of 2 hts (wsJ_good jc6) rfl rfl rfl (hts _ (gt_of jw2.2.2.2.2.2.2.2.1 rfl)) (hts _ (gt_of jw2.1 rfl)) ⟨by decide, by decide, by decide +kernel⟩ ⟨Nat.le_of_ble_eq_true rfl, Nat.le_of_ble_eq_true rfl⟩, hts _ (gt_of jw2.2.1 rfl)⟩ (PcS_s hStr _) rfl rfl hl.1 rfl (lv_room (Nat.le_of_ble_eq_true rfl)) dLc3 ⟨Nat.zero_le _, Nat.zero_le _⟩) (fun _ => ?_)
  refine lv_aload_n hx hb dLc6 rfl (lv_at hl 0 rfl) ?_
  refine lv_iload_n hx hb dLc7 rfl (lv_at hl 1 rfl) ?_
  refine va_tb hx hb o4 va_S.rf (vin hj32 (by omega) (k := ((lenS.getD k 0 : Nat) : Int)) (by omega) (by omega)) rfl dLc8 ?_
  refine lv_sipush hx hb dLc9 rfl ?_
  refine lv_iand hx hb dLc12 ?_
  refine lv_i2c (v := Int32.ofInt (scF k j)) hx hb dLc13 ?_ ?_
  · rw [nc32 hj32, Int.toNat_natCast]
    exact (st_chr k hk j hj).1
  exact W.zret (ty := .char) hx hb hr (st_chr k hk j hj).2 (fun t ht _ => ⟨rfl, ht⟩) (fun _ h => by cases h) dLc14
/-- charAt within -/
theorem c_Ch (l : Launch) (adK adV : Nat → Nat) (k j : Nat) (hk : k < 7) (hj : j < lenS.getD k 0) : Met l yCh (wsJ yCh kCh 2 (some .char)) (k2_rm 3 64) (PcS adK adV [.ref (adK k), .int (Int32.ofInt j)]) (QcRead (Int32.ofInt (scF k j))) 0 0 (fun _ => False) := by
  refine Met.ofW (cc := kCh) (maxL := 2) (ret := some .char) (by decide) rfl ?_
  intro p e s m args below meth c s₁ B hml hv
  obtain ⟨rfl, hStr⟩ := hv
  have hx := B.exec
  have hb := B.bytes
  have hr := B.returns
  have hlocks := B.notSynchronized
  have hts : ∀ w ∈ gtbl, w.before _ s = true := fun w hw => atoms_spec (ws := wsJ yCh kCh 2 (some .char)) B.pre w (List.mem_cons_of_mem _ hw)
  have hown : s.vm.findClass "java/lang/String" = some m.cls := findClass_of_methodNamed B.named
  have hl := lv_entry [.ref (adK k), .int (Int32.ofInt j)] (n := 2) (Nat.le_of_ble_eq_true rfl)
  rw [lg_entry_eq]
  generalize (lg_sl [.ref (adK k), .int (Int32.ofInt j)] ++ List.replicate (2 - (lg_sl [.ref (adK k), .int (Int32.ofInt j)]).length) Slot.unset).toArray = ls at hl ⊢
  have hl : lv_has ls 2 [(0, .ref (adK k)), (1, .int (Int32.ofInt j))] := hl
  obtain ⟨o1, o2, o3, o4⟩ := hStr.1.1 k hk
  refine lv_aload_n hx hb dCh0 rfl (lv_at hl 0 rfl) ?_
  have hpre := PcS_s hStr [.ref (adK k)]
  refine W.callR (W.runV (C := "java/lang/String") (As := []) (rest := []) ⟨hx, hb, hml, hown, hts⟩ (c_Il l adK adV k hk) ⟨callB_of 0 hts (wsJ_good jc4) rfl rfl rfl (hts _ (gt_of jw2.2.2.2.2.2.2.2.1 rfl)) (hts _ (gt_of jw1.2.2.2.2.1 rfl)) ⟨by decide, by decide, by decide +kernel⟩ ⟨Nat.le_of_ble_eq_true rfl, Nat.le_of_ble_eq_true rfl⟩, hts _ (gt_of jw1.2.2.2.2.2.1 rfl), hts _ (gt_of jw1.2.2.2.2.2.2.1 rfl)⟩ ⟨hpre.1, vk_recv hStr.1 hk va_S.rf, hpre.2⟩ rfl rfl hl.1 rfl (lv_room (Nat.le_of_ble_eq_true rfl)) dCh1 ⟨Nat.zero_le _, Nat.zero_le _⟩) ?_
  refine W.eq (g2 := F0 m 4 ls [.int 1]) rfl ?_
  refine lv_if_eq (tgt := 16) hx hb dCh4 (by decide) (fun q => absurd q (by decide)) (fun _ => ?_)
  refine lv_aload_n hx hb dCh7 rfl (lv_at hl 0 rfl) ?_
  refine vk_getf hx hb o3 va_S.rf hown (hts _ (gt_of jw2.2.2.2.2.2.1 rfl)) (fun _ h => h) dCh8 ?_
  refine lv_iload_n hx hb dCh11 rfl (lv_at hl 1 rfl) ?_
  refine W.callR (W.runS (As := [.ref (adV k), .int (Int32.ofInt j)]) (rest := []) ⟨hx, hb, hml, hown, hts⟩ (c_Lc l adK adV k j hk hj) ⟨callB_of 2 hts (wsJ_good jc5) rfl rfl rfl (hts _ (gt_of jw2.2.2.2.2.2.2.2.2.1 rfl)) (hts _ (gt_of jw1.2.2.2.2.2.2.2.1 rfl)) ⟨by decide, by decide, by decide +kernel⟩ ⟨Nat.le_of_ble_eq_true rfl, Nat.le_of_ble_eq_true rfl⟩, hts _ (gt_of jw1.2.2.2.2.2.2.2.2 rfl)⟩ (PcS_s hStr _) rfl rfl hl.1 rfl (lv_room (Nat.le_of_ble_eq_true rfl)) dCh12 ⟨Nat.zero_le _, Nat.zero_le _⟩) ?_
  refine W.eq (g2 := F0 m 15 ls [.int (Int32.ofInt (scF k j))]) rfl ?_
  exact W.zret (ty := .char) hx hb hr (st_chr k hk j hj).2 (fun t ht _ => ⟨rfl, ht⟩) (fun _ h => by cases h) dCh15
theorem pre_S {adK adV : Nat → Nat} {A : Nat → Prop} {s : State} {H : Heap} {locs : List Loc} (hStr : StrU adK adV A s s.heap) (hS : va_S A s.heap H locs) (av : List Value) : PreS s H (PcS adK adV av) av := ⟨PcS_b, fun U hU hW => ⟨rfl, by show StrU adK adV noA U U.heap; rw [hU]; exact hStr.to hW.alike (fun a h1 h2 => hS.2.1 a h1 h2) (fun _ h => h.elim)⟩⟩
theorem s44 : S44 := by
  intro p l e R s mid args below meth c H locs cells slots Q m pc nx a b v ts ls rest adK adV A k hx hb hown hts hStr hS hsz hfr hlo hc hs hI k0 k7 hsum kk
  simp only [okI, Bool.and_eq_true, decide_eq_true_eq] at hI
  obtain ⟨⟨h1, rfl⟩, h2⟩ := hI
  obtain ⟨e, he, h3⟩ := List.any_eq_true.mp h2
  simp only [decide_eq_true_eq] at h3
  have hl := sl_ok e he
  rw [h3.1, h3.2] at hl
  have hk : k.toNat < 7 := by omega
  have hkk : ((k.toNat : Nat) : Int) = k := by omega
  have hpre := pre_S hStr hS [.ref (adK k.toNat)]
  refine W.callR (r := Int32.ofInt (slF k)) (W.runV (C := "java/lang/String") (As := []) (rest := rest) (cc := mcF m) (nL := c.maxLocals) ⟨hx, hb, rfl, hown, hts⟩ (by have q := c_Le l adK adV k.toNat hk; rw [hkk] at q; exact q) ⟨callB_of 0 hts (wsJ_good jc2) rfl rfl rfl (hts _ (gt_of jw2.2.2.2.2.2.2.2.1 rfl)) (hts _ (gt_of hl rfl)) ⟨by decide, by decide, by decide +kernel⟩ ⟨by show 1 + 1 ≤ _; omega, by show 8 + (1 + 11) + 20 ≤ _; omega⟩, hts _ (gt_of jw3.1 rfl), hts _ (gt_of jw3.2.1 rfl)⟩ ⟨hpre.1, vk_recv hStr.1 hk hS, hpre.2⟩ rfl rfl hsz rfl (lv_room hsum) (isI_d h1) ⟨hc, hs⟩) kk
theorem s45 : S45 := by
  intro p l e R s mid args below meth c H locs cells slots Q m pc nx a b v ts ls rest adK adV A k i hx hb hown hts hStr hS hsz hfr hlo hc hs hI k0 k7 i0 i1 hsum kk
  simp only [okI, Bool.and_eq_true, decide_eq_true_eq] at hI
  obtain ⟨⟨h1, rfl⟩, h2⟩ := hI
  obtain ⟨e, he, h3⟩ := List.any_eq_true.mp h2
  simp only [decide_eq_true_eq] at h3
  have hl := sg_ok e he
  rw [h3.1, h3.2] at hl
  have hk : k.toNat < 7 := by omega
  have hkk : ((k.toNat : Nat) : Int) = k := by omega
  have hii : ((i.toNat : Nat) : Int) = i := by omega
  have hj : i.toNat < lenS.getD k.toNat 0 := by
    rw [(st_len k.toNat hk).1, hkk]
    omega
  have hpre := pre_S hStr hS [.ref (adK k.toNat), .int (Int32.ofInt i)]
  refine W.callR (r := Int32.ofInt (scF k i)) (W.runV (C := "java/lang/String") (As := [.int (Int32.ofInt i)]) (rest := rest) (cc := mcF m) (nL := c.maxLocals) ⟨hx, hb, rfl, hown, hts⟩ (by have q := c_Ch l adK adV k.toNat i.toNat hk hj; rw [hkk, hii] at q; exact q) ⟨callB_of 1 hts (wsJ_good jc3) rfl rfl rfl (hts _ (gt_of jw2.2.2.2.2.2.2.2.1 rfl)) (hts _ (gt_of hl rfl)) ⟨by decide, by decide, by decide +kernel⟩ ⟨by show 3 + 1 ≤ _; omega, by show 8 + (2 + 11) + 64 ≤ _; omega⟩, hts _ (gt_of jw3.2.2.1 rfl), hts _ (gt_of jw3.2.2.2 rfl)⟩ ⟨hpre.1, vk_recv hStr.1 hk hS, hpre.2⟩ rfl rfl hsz rfl (lv_room hsum) (isI_d h1) ⟨hc, hs⟩) kk
end
section
/-! the law's entry: a run of the small machine from there is the claim's walk -/
def scM (L : Nat) (xs : Nat → Int32) : Mem := fun a b => if a = -2 then (if b = -1 then (L : Int) else if 0 ≤ b ∧ b < L then (xs b.toNat).toInt else 0) else 0
def tmS (i : Nat) : Term := Term.string "HearingDesk$Tape" ((stL.getD i (0, 0, 0)).2.1)
def flN : List Cond := flatC (Jvm.Cond.and given_1 narrow_1)
set_option maxRecDepth 100000 in
theorem fs1 : ∀ i, i < 7 → Cond.exactly (tmS i) "java/lang/String" ∈ flN ∧ Cond.eq (.field (tmS i) "java/lang/String" "coder" "B") (.int 0) ∈ flN ∧ Cond.arrayOf (.field (tmS i) "java/lang/String" "value" "[B") .byte ∈ flN ∧ Cond.eq (.length (.field (tmS i) "java/lang/String" "value" "[B")) (.int (Int32.ofNat (lenS.getD i 0))) ∈ flN ∧ lenS.getD i 0 < 2 ^ 31 := by decide +kernel
set_option maxRecDepth 100000 in
theorem fs2 : ∀ i, i < 7 → ∀ j, j < lenS.getD i 0 → Cond.eq (.elem (.field (tmS i) "java/lang/String" "value" "[B") (.int (Int32.ofNat j))) (.int ((bytS.getD i []).getD j 0)) ∈ flN := by decide +kernel
set_option maxRecDepth 100000 in
theorem fs3 : ∀ i, i < 7 → ∀ j, j < 7 → i ≠ j → Cond.not (Cond.eq (tmS i) (tmS j)) ∈ flN ∨ Cond.not (Cond.eq (tmS j) (tmS i)) ∈ flN := by decide +kernel
set_option maxRecDepth 100000 in
theorem fs4 : Cond.eq (.static "java/lang/String" "COMPACT_STRINGS" "Z") (.int 1) ∈ flN ∧ Cond.isRef (.static "jdk/internal/util/Preconditions" "SIOOBE_FORMATTER" "Ljava/util/function/BiFunction;") ∈ flN := by decide +kernel
set_option maxRecDepth 100000 in
theorem fs5 : (∀ e ∈ stL, Cond.stringRef (ownF e.1) e.2.1 (stxF e.2.2) ∈ lw_tbl ∧ e.2.2 < 7 ∧ tmS e.2.2 = Term.string (ownF e.1) e.2.1) ∧ (∀ w ∈ nstW, w ∈ lw_tbl ∧ w.onTables = true) ∧ Cond.arrayOver (.object RX3) ∈ lw_tbl ∧ Cond.arrayOver (.object RX9) ∈ lw_tbl ∧ Cond.laysStatic "java/lang/String" "COMPACT_STRINGS" "Z" ∈ lw_tbl ∧ Cond.initialized "java/lang/String" ∈ lw_tbl ∧ Cond.laysStatic "jdk/internal/util/Preconditions" "SIOOBE_FORMATTER" "Ljava/util/function/BiFunction;" ∈ lw_tbl ∧ Cond.initialized "jdk/internal/util/Preconditions" ∈ lw_tbl := by decide +kernel
set_option maxRecDepth 100000 in
theorem ss138 : ssM 138 ≤ 7302250 := by decide +kernel
theorem arr_K {args : Array Value} {s : State} {ty : FieldType} (hno : ∀ C, ¬ ty = .object C) (h : (Cond.arrayClass ty).before args s = true) : ∃ cA, ArrOfT s cA ty ∧ va_RA s cA ty := by
  obtain ⟨cA, kA, comp, h1, h2, h3⟩ := Cond.arrayClass_spec h
  refine ⟨cA, fun n z => ⟨fun k h => (by cases h), kA, h2, comp, h3⟩, ?_⟩
  cases ty with
  | object C => exact absurd rfl (hno C)
  | _ => exact h1
theorem arr_O {args : Array Value} {s : State} {C : String} (h : (Cond.arrayOver (.object C)).before args s = true) : ∃ cA, ArrOfT s cA (.object C) ∧ va_RA s cA (.object C) := by
  obtain ⟨comp, cA, kA, h1, h2, h3, h4, h5⟩ := Cond.arrayOver_spec h
  exact ⟨cA, fun n z => ⟨fun k h => (by cases h), kA, h3, comp, h4⟩, kA, comp, h3, h4, h1, h5⟩
theorem start_K {args : Array Value} {s : State} (hts : ∀ w ∈ lw_tbl, w.before args s = true) : ∃ (D : va_G) (C5 : Nat → ClassId), va_K D cl13 (tysM C5) s := by
  have hk : ∀ c : Nat, ∃ q : ClassId × (Nat → Nat), c < 13 → u_Kn s (clF c).1 (clF c).2.1 (clF c).2.2 q.1 q.2 := by
    intro c
    by_cases hc : c < 13
    · obtain ⟨cC, iS, h⟩ := u_known (C := (clF c).1) (T := (clF c).2.1) (N := (clF c).2.2) (n := nfF c) hts (fun w hw => gt_tbl (uw_in hc w hw)) (by rw [(cw_ok c hc).1]; exact hts _ (ui_ok c hc).1)
      exact ⟨(cC, iS), fun _ => h⟩
    · exact ⟨(0, fun _ => 0), fun h => absurd h hc⟩
  obtain ⟨f, hf⟩ := Classical.axiomOfChoice hk
  obtain ⟨aI, hI1, hI2⟩ := arr_K (ty := .int) (fun _ h => by cases h) (hts _ ow_ok.2.2.1)
  obtain ⟨aB, hB1, hB2⟩ := arr_K (ty := .byte) (fun _ h => by cases h) (hts _ ow_ok.2.2.2.1)
  obtain ⟨aZ, hZ1, hZ2⟩ := arr_K (ty := .boolean) (fun _ h => by cases h) (hts _ ow_ok.2.2.2.2.1)
  obtain ⟨aH, hH1, hH2⟩ := arr_O (hts _ fs5.2.2.1)
  obtain ⟨aT, hT1, hT2⟩ := arr_O (hts _ fs5.2.2.2.1)
  refine ⟨(fun c => (f c).1, fun c => (f c).2), fun t => if t = 50 then aI else if t = 51 then aB else if t = 52 then aZ else if t = 53 then aH else aT, ?_, ?_⟩
  · intro c q hq
    have hc : c < 13 := (List.getElem?_eq_some_iff.mp hq).1
    have e := (cx_ok c hc).symm.trans hq
    cases e
    exact hf c hc
  · intro k q hq
    match k, hq with
    | 0, hq => cases hq; exact ⟨hI1, hI2⟩
    | 1, hq => cases hq; exact ⟨hB1, hB2⟩
    | 2, hq => cases hq; exact ⟨hZ1, hZ2⟩
    | 3, hq => cases hq; exact ⟨hH1, hH2⟩
    | 4, hq => cases hq; exact ⟨hT1, hT2⟩
    | k + 5, hq => simp [tysM] at hq
theorem start_S {args : Array Value} {s : State} (hts : ∀ w ∈ lw_tbl, w.before args s = true) (hgv : (Jvm.Cond.and given_1 narrow_1).before args s = true) : ∃ (adK adV : Nat → Nat), StrU adK adV (fun q => s.heap.size ≤ q) s s.heap ∧ ∀ e ∈ stL, vk_R (ownF e.1) e.2.1 (stxF e.2.2) (adK e.2.2) s := by
  have hfl : ∀ c ∈ flN, c.before args s = true := flat_of_before _ hgv
  have hA : ∀ a : Nat, a < s.heap.size → ¬ (fun q : Nat => s.heap.size ≤ q) a := fun a h q => absurd q (Nat.not_le.mpr h)
  obtain ⟨adK, adV, h1, h2⟩ := vk_Sof (N := 7) (tm := tmS) (len := lenS) (byt := bytS) (A := fun q => s.heap.size ≤ q) (fun i hi => (fs1 i hi).2.2.2.2) (fun i hi => hfl _ (fs1 i hi).1) (fun i hi => hfl _ (fs1 i hi).2.1) (fun i hi => hfl _ (fs1 i hi).2.2.1) (fun i hi => hfl _ (fs1 i hi).2.2.2.1) (fun i hi j hj => hfl _ (fs2 i hi j hj)) (fun i j hi hj hne => (fs3 i hi j hj hne).imp (hfl _) (hfl _)) hA
  refine ⟨adK, adV, ⟨h1, va_Zof (hts _ fs5.2.2.2.2.1) (hts _ fs5.2.2.2.2.2.1) (va_eqi (hfl _ fs4.1)) hA, va_Zqof (hts _ fs5.2.2.2.2.2.2.1) (hts _ fs5.2.2.2.2.2.2.2) (hfl _ fs4.2) hA⟩, fun e he => ?_⟩
  obtain ⟨q1, q2, q3⟩ := fs5.1 e he
  have h3 := h2 e.2.2 q2
  rw [q3] at h3
  exact vk_R.of (hts _ q1) h3
set_option maxRecDepth 100000 in
theorem mc179 : mcF 179 = code := rfl
/-- the claim's walk, from a run of the small machine -/
theorem start_W (hEV : ∀ (L : Nat) (xs : Nat → Int32), L ≤ 4096 → EV 20 179 0 [(5, 0), (9, 0), (9, 0), (9, 0)] [] (scM L xs) 0 (fun r _ _ => r = some (0, 1))) {p : Program} {e : Env} {s : State} {m : MethodId} {below : List Frame} {meth : Method} {c : Code} (l : Launch) {b L : Nat} {xs : Nat → Int32} {Q : State → Prop} (hL : L ≤ 4096) (hx : p.tables.exec = Jvm.exec) (hb : c.code = code) (hml : c.maxLocals = 4) (hown : s.vm.findClass "HearingDeskLaw" = some m.cls) (hts : ∀ w ∈ lw_tbl, w.before #[Value.ref b] s = true) (hX : va_X b L xs s s.heap) (hbl : b < s.heap.size) (hgv : (Jvm.Cond.and given_1 narrow_1).before #[Value.ref b] s = true)
    (hret : ∀ (pc : Nat) (ls : Array Slot) (H : Heap), decode code pc = .ok (.ireturn, 1) → W p l e room_1 s m #[Value.ref b] below meth c H [] 600000 7302250 Q (F0 m pc ls [.int 1])) : W p l e room_1 s m #[Value.ref b] below meth c s.heap [] 0 0 Q (entryFrame m ([Value.ref b] : List Value).toArray 4) := by
  obtain ⟨f, r, σ', n', hrun, hr⟩ := hEV L xs hL
  subst hr
  obtain ⟨D, C5, hK⟩ := start_K hts
  obtain ⟨adK, adV, hStr, hvk⟩ := start_S hts hgv
  have hsc : ∀ j : Int, scM L xs (-2) j = (if j = -1 then (L : Int) else if 0 ≤ j ∧ j < L then (xs j.toNat).toInt else 0) := fun j => if_pos rfl
  have hM : okM 0 (scM L xs) := by
    refine ⟨by omega, fun j => ?_, fun k hk => absurd hk (Nat.not_lt_zero k)⟩
    rw [hsc]
    split
    · unfold in32; omega
    · split
      · exact t32 _
      · exact z32
  have ha : ∀ x ∈ ([(5, 0)] : List AV), okV 0 x := fun x hx => by
    rw [List.mem_singleton.mp hx]
    exact Or.inr (Or.inr (Or.inr (Or.inl rfl)))
  have h2 : ∀ x ∈ ([(5, 0)] : List AV), ¬ x.1 = 2 := fun x hx => by
    rw [List.mem_singleton.mp hx]
    simp
  have hC : okC 179 0 (entM 4 [(5, 0)]) [] (scM L xs) := ent_ok hM ha h2 4
  obtain ⟨z1, -, -, -⟩ := run_ok f 20 179 0 _ [] _ 0 _ σ' n' hrun hC
  have hX2 : CxM p room_1 s m #[Value.ref b] meth c D C5 adK adV b (fun q => s.heap.size ≤ q) 20 179 (fun j => scM L xs (-2) j) := by
    refine ⟨hx, by rw [mc179]; exact hb, hml, hown, fun w hw => hts w (gt_tbl hw), ⟨hK, fun w hw => va_Nw.of (fs5.2.1 w hw).2 (hts w (fs5.2.1 w hw).1), va_AO.of (hts _ fs5.2.2.1), va_AO.of (hts _ fs5.2.2.2.1), hvk⟩, hStr, fun _ h => h, fun q => absurd q (by decide), Nat.le_of_ble_eq_true rfl, Nat.le_of_ble_eq_true rfl, fun _ => ⟨?_, hbl, Nat.not_le.mpr hbl, ?_⟩⟩
    · have e1 : (scM L xs (-2) (-1)).toNat = L := by rw [hsc, if_pos rfl]; omega
      obtain ⟨scr, g1, g2, g3, g4, g5⟩ := hX
      refine ⟨scr, g1, g2, g3, by rw [e1]; exact g4, fun j hj => ?_⟩
      rw [e1] at hj
      rw [g5 j hj]
      show some (Value.int (xs j)) = some (Value.int (Int32.ofInt (scM L xs (-2) j)))
      rw [hsc, if_neg (by omega), if_pos (by omega), Int.toNat_natCast, r32]
    · show 0 ≤ scM L xs (-2) (-1)
      rw [hsc, if_pos rfl]
      omega
  have hw := snd_W s44 s45 f 20 179 0 _ [] _ 0 _ σ' n' hrun hC (l := l) (e := e) (below := below) (Q := Q) (H := s.heap) (locs := []) (ad := fun _ => 0) (ls := ((lg_sl ([(5, 0)].map (cnV (fun _ => 0) adK b)) ++ List.replicate (4 - (lg_sl ([(5, 0)].map (cnV (fun _ => 0) adK b))).length) Slot.unset).toArray)) 0 hX2 (Nat.le_refl _) (by have := z1.1; show n' - 0 ≤ 600000; omega) (by have := ss_mono z1.1; have := ss138; show ssM n' - ssM 0 ≤ 7302250; omega) (fun _ => rfl) (fun k q h => by simp [wsM] at h) ⟨fun i j p q h => by simp [wsM] at h, fun k q h => by simp [wsM] at h⟩ va_S.rf (ent_Lr (as := [(5, 0)]) (nL := 4) (by decide) h2) ?_
  · rw [lg_entry_eq]
    exact hw
  · intro op nx a b' v ts pc ls H locs ad' hI hre _ p1 p2 p3
    have hd : decode code pc = .ok (.ireturn, 1) := by
      unfold retM at hre
      split at hre
      · cases hre
      · simp only [okI, Bool.and_eq_true] at hI
        rw [← mc179]
        exact isI_d hI.1
      · simp only [okI, Bool.and_eq_true] at hI
        rw [← mc179]
        exact isI_d hI.1
      · cases hre
      · simp at hre
      · cases hre
    refine va_forget (fun q hq => p3.2.2 q hq) ?_
    refine W.widen (k := 600000) (n := 7302250) (by have := z1.1; omega) (by have := ss_mono z1.1; have := ss138; omega) ?_
    exact hret pc ls H hd
end
