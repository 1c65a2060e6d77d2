section
-- ===== PART A: goes FIRST, ahead of the names: the tables' words, and 'selects' of the private methods out of them =====
/-- a private method of a class that the tables say can be made, by its rows of tables_1 -/
def lw_okq (q : MethodName × Nat) : Prop := (q.1.cls ≠ "java/lang/invoke/MethodHandle" ∧ q.1.cls ≠ "java/lang/invoke/VarHandle") ∧ Cond.instantiable q.1.cls q.2 ∈ tables_1 ∧ Cond.privateMethod q.1 ∈ tables_1 ∧ Cond.instanceMethod q.1 ∈ tables_1
theorem lw_p0 : lw_okq (⟨"CrewOffice", "forgetPairings", "()V"⟩, 5) := ⟨⟨by decide +kernel, by decide +kernel⟩, List.mem_of_getElem? (i := 23) (by decide +kernel), List.mem_of_getElem? (i := 401) (by decide +kernel), List.mem_of_getElem? (i := 402) (by decide +kernel)⟩
theorem lw_p1 : lw_okq (⟨"CrewOffice$Listing", "goOn", "(I)V"⟩, 5) := ⟨⟨by decide +kernel, by decide +kernel⟩, List.mem_of_getElem? (i := 281) (by decide +kernel), List.mem_of_getElem? (i := 422) (by decide +kernel), List.mem_of_getElem? (i := 423) (by decide +kernel)⟩
theorem lw_p2 : lw_okq (⟨"CrewOffice$Listing", "canBeNext", "(II)Z"⟩, 5) := ⟨⟨by decide +kernel, by decide +kernel⟩, List.mem_of_getElem? (i := 281) (by decide +kernel), List.mem_of_getElem? (i := 426) (by decide +kernel), List.mem_of_getElem? (i := 427) (by decide +kernel)⟩
theorem lw_p3 : lw_okq (⟨"CrewOffice$Trip", "legAt", "(I)LCrewOffice$Leg;"⟩, 6) := ⟨⟨by decide +kernel, by decide +kernel⟩, List.mem_of_getElem? (i := 196) (by decide +kernel), List.mem_of_getElem? (i := 446) (by decide +kernel), List.mem_of_getElem? (i := 447) (by decide +kernel)⟩
theorem lw_p4 : lw_okq (⟨"CrewOffice$Trip", "isLinked", "()Z"⟩, 6) := ⟨⟨by decide +kernel, by decide +kernel⟩, List.mem_of_getElem? (i := 196) (by decide +kernel), List.mem_of_getElem? (i := 455) (by decide +kernel), List.mem_of_getElem? (i := 456) (by decide +kernel)⟩
theorem lw_p5 : lw_okq (⟨"CrewOffice$Trip", "hasTooManyLegs", "()Z"⟩, 6) := ⟨⟨by decide +kernel, by decide +kernel⟩, List.mem_of_getElem? (i := 196) (by decide +kernel), List.mem_of_getElem? (i := 460) (by decide +kernel), List.mem_of_getElem? (i := 461) (by decide +kernel)⟩
theorem lw_p6 : lw_okq (⟨"CrewOffice$Trip", "legsOf", "(I)I"⟩, 6) := ⟨⟨by decide +kernel, by decide +kernel⟩, List.mem_of_getElem? (i := 196) (by decide +kernel), List.mem_of_getElem? (i := 464) (by decide +kernel), List.mem_of_getElem? (i := 465) (by decide +kernel)⟩
theorem lw_p7 : lw_okq (⟨"CrewOffice$Trip", "hasTooLongDuty", "()Z"⟩, 6) := ⟨⟨by decide +kernel, by decide +kernel⟩, List.mem_of_getElem? (i := 196) (by decide +kernel), List.mem_of_getElem? (i := 468) (by decide +kernel), List.mem_of_getElem? (i := 469) (by decide +kernel)⟩
theorem lw_p8 : lw_okq (⟨"CrewOffice$Trip", "lengthOf", "(I)I"⟩, 6) := ⟨⟨by decide +kernel, by decide +kernel⟩, List.mem_of_getElem? (i := 196) (by decide +kernel), List.mem_of_getElem? (i := 472) (by decide +kernel), List.mem_of_getElem? (i := 473) (by decide +kernel)⟩
theorem lw_p9 : lw_okq (⟨"CrewOffice$Trip", "limitOf", "(I)I"⟩, 6) := ⟨⟨by decide +kernel, by decide +kernel⟩, List.mem_of_getElem? (i := 196) (by decide +kernel), List.mem_of_getElem? (i := 476) (by decide +kernel), List.mem_of_getElem? (i := 477) (by decide +kernel)⟩
theorem lw_p10 : lw_okq (⟨"CrewOffice$Trip", "hasTooShortRest", "()Z"⟩, 6) := ⟨⟨by decide +kernel, by decide +kernel⟩, List.mem_of_getElem? (i := 196) (by decide +kernel), List.mem_of_getElem? (i := 494) (by decide +kernel), List.mem_of_getElem? (i := 495) (by decide +kernel)⟩
theorem lw_p11 : lw_okq (⟨"CrewOffice$Trip", "lacksNightRest", "()Z"⟩, 6) := ⟨⟨by decide +kernel, by decide +kernel⟩, List.mem_of_getElem? (i := 196) (by decide +kernel), List.mem_of_getElem? (i := 501) (by decide +kernel), List.mem_of_getElem? (i := 502) (by decide +kernel)⟩
theorem lw_p12 : lw_okq (⟨"CrewOffice$Clock", "stretchEnd", "(II)I"⟩, 3) := ⟨⟨by decide +kernel, by decide +kernel⟩, List.mem_of_getElem? (i := 53) (by decide +kernel), List.mem_of_getElem? (i := 510) (by decide +kernel), List.mem_of_getElem? (i := 511) (by decide +kernel)⟩
theorem lw_p13 : lw_okq (⟨"CrewOffice$Listing", "addDraft", "()V"⟩, 5) := ⟨⟨by decide +kernel, by decide +kernel⟩, List.mem_of_getElem? (i := 281) (by decide +kernel), List.mem_of_getElem? (i := 526) (by decide +kernel), List.mem_of_getElem? (i := 527) (by decide +kernel)⟩
theorem lw_p14 : lw_okq (⟨"CrewOffice$Choice", "cheapest", "(I)I"⟩, 6) := ⟨⟨by decide +kernel, by decide +kernel⟩, List.mem_of_getElem? (i := 313) (by decide +kernel), List.mem_of_getElem? (i := 553) (by decide +kernel), List.mem_of_getElem? (i := 554) (by decide +kernel)⟩
theorem lw_p15 : lw_okq (⟨"CrewOffice$Choice", "priceOf", "(LCrewOffice$Work;)I"⟩, 6) := ⟨⟨by decide +kernel, by decide +kernel⟩, List.mem_of_getElem? (i := 313) (by decide +kernel), List.mem_of_getElem? (i := 558) (by decide +kernel), List.mem_of_getElem? (i := 559) (by decide +kernel)⟩
def lw_privs_1 : List (MethodName × Nat) := [(⟨"CrewOffice", "forgetPairings", "()V"⟩, 5), (⟨"CrewOffice$Listing", "goOn", "(I)V"⟩, 5), (⟨"CrewOffice$Listing", "canBeNext", "(II)Z"⟩, 5), (⟨"CrewOffice$Trip", "legAt", "(I)LCrewOffice$Leg;"⟩, 6), (⟨"CrewOffice$Trip", "isLinked", "()Z"⟩, 6), (⟨"CrewOffice$Trip", "hasTooManyLegs", "()Z"⟩, 6), (⟨"CrewOffice$Trip", "legsOf", "(I)I"⟩, 6), (⟨"CrewOffice$Trip", "hasTooLongDuty", "()Z"⟩, 6), (⟨"CrewOffice$Trip", "lengthOf", "(I)I"⟩, 6), (⟨"CrewOffice$Trip", "limitOf", "(I)I"⟩, 6), (⟨"CrewOffice$Trip", "hasTooShortRest", "()Z"⟩, 6), (⟨"CrewOffice$Trip", "lacksNightRest", "()Z"⟩, 6), (⟨"CrewOffice$Clock", "stretchEnd", "(II)I"⟩, 3), (⟨"CrewOffice$Listing", "addDraft", "()V"⟩, 5), (⟨"CrewOffice$Choice", "cheapest", "(I)I"⟩, 6), (⟨"CrewOffice$Choice", "priceOf", "(LCrewOffice$Work;)I"⟩, 6)]
theorem lw_r1 : ∀ q ∈ lw_privs_1, lw_okq q := List.forall_mem_cons.mpr ⟨lw_p0, List.forall_mem_cons.mpr ⟨lw_p1, List.forall_mem_cons.mpr ⟨lw_p2, List.forall_mem_cons.mpr ⟨lw_p3, List.forall_mem_cons.mpr ⟨lw_p4, List.forall_mem_cons.mpr ⟨lw_p5, List.forall_mem_cons.mpr ⟨lw_p6, List.forall_mem_cons.mpr ⟨lw_p7, List.forall_mem_cons.mpr ⟨lw_p8, List.forall_mem_cons.mpr ⟨lw_p9, List.forall_mem_cons.mpr ⟨lw_p10, List.forall_mem_cons.mpr ⟨lw_p11, List.forall_mem_cons.mpr ⟨lw_p12, List.forall_mem_cons.mpr ⟨lw_p13, List.forall_mem_cons.mpr ⟨lw_p14, List.forall_mem_cons.mpr ⟨lw_p15, fun _ h => absurd h List.not_mem_nil⟩⟩⟩⟩⟩⟩⟩⟩⟩⟩⟩⟩⟩⟩⟩⟩
theorem lw_p16 : lw_okq (⟨"CrewOffice$Choice", "take", "(J)V"⟩, 6) := ⟨⟨by decide +kernel, by decide +kernel⟩, List.mem_of_getElem? (i := 313) (by decide +kernel), List.mem_of_getElem? (i := 565) (by decide +kernel), List.mem_of_getElem? (i := 566) (by decide +kernel)⟩
theorem lw_p17 : lw_okq (⟨"java/lang/Throwable", "fillInStackTrace", "(I)Ljava/lang/Throwable;"⟩, 6) := ⟨⟨by decide +kernel, by decide +kernel⟩, List.mem_of_getElem? (i := 627) (by decide +kernel), List.mem_of_getElem? (i := 625) (by decide +kernel), List.mem_of_getElem? (i := 626) (by decide +kernel)⟩
theorem lw_p18 : lw_okq (⟨"CrewOffice", "isListed", "(I)Z"⟩, 5) := ⟨⟨by decide +kernel, by decide +kernel⟩, List.mem_of_getElem? (i := 23) (by decide +kernel), List.mem_of_getElem? (i := 805) (by decide +kernel), List.mem_of_getElem? (i := 806) (by decide +kernel)⟩
theorem lw_p19 : lw_okq (⟨"CrewOffice$Sharing", "orderMembers", "()V"⟩, 9) := ⟨⟨by decide +kernel, by decide +kernel⟩, List.mem_of_getElem? (i := 342) (by decide +kernel), List.mem_of_getElem? (i := 846) (by decide +kernel), List.mem_of_getElem? (i := 847) (by decide +kernel)⟩
theorem lw_p20 : lw_okq (⟨"CrewOffice$Sharing", "findAllowed", "()V"⟩, 9) := ⟨⟨by decide +kernel, by decide +kernel⟩, List.mem_of_getElem? (i := 342) (by decide +kernel), List.mem_of_getElem? (i := 850) (by decide +kernel), List.mem_of_getElem? (i := 851) (by decide +kernel)⟩
theorem lw_p21 : lw_okq (⟨"CrewOffice$Sharing", "workAt", "(I)LCrewOffice$Work;"⟩, 9) := ⟨⟨by decide +kernel, by decide +kernel⟩, List.mem_of_getElem? (i := 342) (by decide +kernel), List.mem_of_getElem? (i := 854) (by decide +kernel), List.mem_of_getElem? (i := 855) (by decide +kernel)⟩
theorem lw_p22 : lw_okq (⟨"CrewOffice$Sharing", "findRivals", "()V"⟩, 9) := ⟨⟨by decide +kernel, by decide +kernel⟩, List.mem_of_getElem? (i := 342) (by decide +kernel), List.mem_of_getElem? (i := 862) (by decide +kernel), List.mem_of_getElem? (i := 863) (by decide +kernel)⟩
theorem lw_p23 : lw_okq (⟨"CrewOffice$Sharing", "areRivals", "(LCrewOffice$Work;LCrewOffice$Work;)Z"⟩, 9) := ⟨⟨by decide +kernel, by decide +kernel⟩, List.mem_of_getElem? (i := 342) (by decide +kernel), List.mem_of_getElem? (i := 866) (by decide +kernel), List.mem_of_getElem? (i := 867) (by decide +kernel)⟩
theorem lw_p24 : lw_okq (⟨"CrewOffice$Sharing", "bestSet", "(II)I"⟩, 9) := ⟨⟨by decide +kernel, by decide +kernel⟩, List.mem_of_getElem? (i := 342) (by decide +kernel), List.mem_of_getElem? (i := 870) (by decide +kernel), List.mem_of_getElem? (i := 871) (by decide +kernel)⟩
theorem lw_p25 : lw_okq (⟨"CrewOffice$Sharing", "fits", "(II)Z"⟩, 9) := ⟨⟨by decide +kernel, by decide +kernel⟩, List.mem_of_getElem? (i := 342) (by decide +kernel), List.mem_of_getElem? (i := 874) (by decide +kernel), List.mem_of_getElem? (i := 875) (by decide +kernel)⟩
theorem lw_p26 : lw_okq (⟨"CrewOffice$Sharing", "timesMet", "(III)I"⟩, 9) := ⟨⟨by decide +kernel, by decide +kernel⟩, List.mem_of_getElem? (i := 342) (by decide +kernel), List.mem_of_getElem? (i := 882) (by decide +kernel), List.mem_of_getElem? (i := 883) (by decide +kernel)⟩
theorem lw_p27 : lw_okq (⟨"CrewOffice$Sharing", "canGiveRest", "(III)Z"⟩, 9) := ⟨⟨by decide +kernel, by decide +kernel⟩, List.mem_of_getElem? (i := 342) (by decide +kernel), List.mem_of_getElem? (i := 898) (by decide +kernel), List.mem_of_getElem? (i := 899) (by decide +kernel)⟩
theorem lw_p28 : lw_okq (⟨"CrewOfficeModel", "fails", "(ZI)Z"⟩, 54) := ⟨⟨by decide +kernel, by decide +kernel⟩, List.mem_of_getElem? (i := 947) (by decide +kernel), List.mem_of_getElem? (i := 1129) (by decide +kernel), List.mem_of_getElem? (i := 1130) (by decide +kernel)⟩
theorem lw_p29 : lw_okq (⟨"CrewOfficeModel", "loses", "()V"⟩, 54) := ⟨⟨by decide +kernel, by decide +kernel⟩, List.mem_of_getElem? (i := 947) (by decide +kernel), List.mem_of_getElem? (i := 1133) (by decide +kernel), List.mem_of_getElem? (i := 1134) (by decide +kernel)⟩
theorem lw_p30 : lw_okq (⟨"CrewOfficeModel", "uncovers", "()V"⟩, 54) := ⟨⟨by decide +kernel, by decide +kernel⟩, List.mem_of_getElem? (i := 947) (by decide +kernel), List.mem_of_getElem? (i := 1137) (by decide +kernel), List.mem_of_getElem? (i := 1138) (by decide +kernel)⟩
theorem lw_p31 : lw_okq (⟨"CrewOfficeModel", "unawards", "()V"⟩, 54) := ⟨⟨by decide +kernel, by decide +kernel⟩, List.mem_of_getElem? (i := 947) (by decide +kernel), List.mem_of_getElem? (i := 1141) (by decide +kernel), List.mem_of_getElem? (i := 1142) (by decide +kernel)⟩
def lw_privs_2 : List (MethodName × Nat) := [(⟨"CrewOffice$Choice", "take", "(J)V"⟩, 6), (⟨"java/lang/Throwable", "fillInStackTrace", "(I)Ljava/lang/Throwable;"⟩, 6), (⟨"CrewOffice", "isListed", "(I)Z"⟩, 5), (⟨"CrewOffice$Sharing", "orderMembers", "()V"⟩, 9), (⟨"CrewOffice$Sharing", "findAllowed", "()V"⟩, 9), (⟨"CrewOffice$Sharing", "workAt", "(I)LCrewOffice$Work;"⟩, 9), (⟨"CrewOffice$Sharing", "findRivals", "()V"⟩, 9), (⟨"CrewOffice$Sharing", "areRivals", "(LCrewOffice$Work;LCrewOffice$Work;)Z"⟩, 9), (⟨"CrewOffice$Sharing", "bestSet", "(II)I"⟩, 9), (⟨"CrewOffice$Sharing", "fits", "(II)Z"⟩, 9), (⟨"CrewOffice$Sharing", "timesMet", "(III)I"⟩, 9), (⟨"CrewOffice$Sharing", "canGiveRest", "(III)Z"⟩, 9), (⟨"CrewOfficeModel", "fails", "(ZI)Z"⟩, 54), (⟨"CrewOfficeModel", "loses", "()V"⟩, 54), (⟨"CrewOfficeModel", "uncovers", "()V"⟩, 54), (⟨"CrewOfficeModel", "unawards", "()V"⟩, 54)]
theorem lw_r2 : ∀ q ∈ lw_privs_2, lw_okq q := List.forall_mem_cons.mpr ⟨lw_p16, List.forall_mem_cons.mpr ⟨lw_p17, List.forall_mem_cons.mpr ⟨lw_p18, List.forall_mem_cons.mpr ⟨lw_p19, List.forall_mem_cons.mpr ⟨lw_p20, List.forall_mem_cons.mpr ⟨lw_p21, List.forall_mem_cons.mpr ⟨lw_p22, List.forall_mem_cons.mpr ⟨lw_p23, List.forall_mem_cons.mpr ⟨lw_p24, List.forall_mem_cons.mpr ⟨lw_p25, List.forall_mem_cons.mpr ⟨lw_p26, List.forall_mem_cons.mpr ⟨lw_p27, List.forall_mem_cons.mpr ⟨lw_p28, List.forall_mem_cons.mpr ⟨lw_p29, List.forall_mem_cons.mpr ⟨lw_p30, List.forall_mem_cons.mpr ⟨lw_p31, fun _ h => absurd h List.not_mem_nil⟩⟩⟩⟩⟩⟩⟩⟩⟩⟩⟩⟩⟩⟩⟩⟩
theorem lw_p32 : lw_okq (⟨"CrewOfficeModel", "isWhole", "()Z"⟩, 54) := ⟨⟨by decide +kernel, by decide +kernel⟩, List.mem_of_getElem? (i := 947) (by decide +kernel), List.mem_of_getElem? (i := 1192) (by decide +kernel), List.mem_of_getElem? (i := 1193) (by decide +kernel)⟩
theorem lw_p33 : lw_okq (⟨"CrewOfficeModel", "judge", "(I)I"⟩, 54) := ⟨⟨by decide +kernel, by decide +kernel⟩, List.mem_of_getElem? (i := 947) (by decide +kernel), List.mem_of_getElem? (i := 1196) (by decide +kernel), List.mem_of_getElem? (i := 1197) (by decide +kernel)⟩
theorem lw_p34 : lw_okq (⟨"CrewOfficeModel", "parts", "()V"⟩, 54) := ⟨⟨by decide +kernel, by decide +kernel⟩, List.mem_of_getElem? (i := 947) (by decide +kernel), List.mem_of_getElem? (i := 1200) (by decide +kernel), List.mem_of_getElem? (i := 1201) (by decide +kernel)⟩
theorem lw_p35 : lw_okq (⟨"CrewOfficeModel", "dutyRule", "()I"⟩, 54) := ⟨⟨by decide +kernel, by decide +kernel⟩, List.mem_of_getElem? (i := 947) (by decide +kernel), List.mem_of_getElem? (i := 1204) (by decide +kernel), List.mem_of_getElem? (i := 1205) (by decide +kernel)⟩
theorem lw_p36 : lw_okq (⟨"CrewOfficeModel", "clock", "(II)I"⟩, 54) := ⟨⟨by decide +kernel, by decide +kernel⟩, List.mem_of_getElem? (i := 947) (by decide +kernel), List.mem_of_getElem? (i := 1208) (by decide +kernel), List.mem_of_getElem? (i := 1209) (by decide +kernel)⟩
theorem lw_p37 : lw_okq (⟨"CrewOfficeModel", "localOf", "(II)I"⟩, 54) := ⟨⟨by decide +kernel, by decide +kernel⟩, List.mem_of_getElem? (i := 947) (by decide +kernel), List.mem_of_getElem? (i := 1212) (by decide +kernel), List.mem_of_getElem? (i := 1213) (by decide +kernel)⟩
theorem lw_p38 : lw_okq (⟨"CrewOfficeModel", "nextRest", "(II)I"⟩, 54) := ⟨⟨by decide +kernel, by decide +kernel⟩, List.mem_of_getElem? (i := 947) (by decide +kernel), List.mem_of_getElem? (i := 1216) (by decide +kernel), List.mem_of_getElem? (i := 1217) (by decide +kernel)⟩
theorem lw_p39 : lw_okq (⟨"CrewOfficeModel", "isNight", "(II)Z"⟩, 54) := ⟨⟨by decide +kernel, by decide +kernel⟩, List.mem_of_getElem? (i := 947) (by decide +kernel), List.mem_of_getElem? (i := 1221) (by decide +kernel), List.mem_of_getElem? (i := 1222) (by decide +kernel)⟩
theorem lw_p40 : lw_okq (⟨"CrewOfficeModel", "crewRule", "(I)I"⟩, 54) := ⟨⟨by decide +kernel, by decide +kernel⟩, List.mem_of_getElem? (i := 947) (by decide +kernel), List.mem_of_getElem? (i := 1225) (by decide +kernel), List.mem_of_getElem? (i := 1226) (by decide +kernel)⟩
theorem lw_p41 : lw_okq (⟨"CrewOfficeModel", "flying", "()I"⟩, 54) := ⟨⟨by decide +kernel, by decide +kernel⟩, List.mem_of_getElem? (i := 947) (by decide +kernel), List.mem_of_getElem? (i := 1229) (by decide +kernel), List.mem_of_getElem? (i := 1230) (by decide +kernel)⟩
theorem lw_p42 : lw_okq (⟨"CrewOfficeModel", "lays", "(I)Z"⟩, 54) := ⟨⟨by decide +kernel, by decide +kernel⟩, List.mem_of_getElem? (i := 947) (by decide +kernel), List.mem_of_getElem? (i := 1244) (by decide +kernel), List.mem_of_getElem? (i := 1245) (by decide +kernel)⟩
theorem lw_p43 : lw_okq (⟨"CrewOfficeModel", "isBefore", "(I)Z"⟩, 54) := ⟨⟨by decide +kernel, by decide +kernel⟩, List.mem_of_getElem? (i := 947) (by decide +kernel), List.mem_of_getElem? (i := 1248) (by decide +kernel), List.mem_of_getElem? (i := 1249) (by decide +kernel)⟩
theorem lw_p44 : lw_okq (⟨"CrewOfficeModel", "copies", "(II)V"⟩, 54) := ⟨⟨by decide +kernel, by decide +kernel⟩, List.mem_of_getElem? (i := 947) (by decide +kernel), List.mem_of_getElem? (i := 1252) (by decide +kernel), List.mem_of_getElem? (i := 1253) (by decide +kernel)⟩
theorem lw_p45 : lw_okq (⟨"CrewOfficeModel", "orders", "()V"⟩, 54) := ⟨⟨by decide +kernel, by decide +kernel⟩, List.mem_of_getElem? (i := 947) (by decide +kernel), List.mem_of_getElem? (i := 1280) (by decide +kernel), List.mem_of_getElem? (i := 1281) (by decide +kernel)⟩
theorem lw_p46 : lw_okq (⟨"CrewOfficeModel", "tables", "()V"⟩, 54) := ⟨⟨by decide +kernel, by decide +kernel⟩, List.mem_of_getElem? (i := 947) (by decide +kernel), List.mem_of_getElem? (i := 1284) (by decide +kernel), List.mem_of_getElem? (i := 1285) (by decide +kernel)⟩
theorem lw_p47 : lw_okq (⟨"CrewOfficeModel", "mayGet", "(II)Z"⟩, 54) := ⟨⟨by decide +kernel, by decide +kernel⟩, List.mem_of_getElem? (i := 947) (by decide +kernel), List.mem_of_getElem? (i := 1288) (by decide +kernel), List.mem_of_getElem? (i := 1289) (by decide +kernel)⟩
def lw_privs_3 : List (MethodName × Nat) := [(⟨"CrewOfficeModel", "isWhole", "()Z"⟩, 54), (⟨"CrewOfficeModel", "judge", "(I)I"⟩, 54), (⟨"CrewOfficeModel", "parts", "()V"⟩, 54), (⟨"CrewOfficeModel", "dutyRule", "()I"⟩, 54), (⟨"CrewOfficeModel", "clock", "(II)I"⟩, 54), (⟨"CrewOfficeModel", "localOf", "(II)I"⟩, 54), (⟨"CrewOfficeModel", "nextRest", "(II)I"⟩, 54), (⟨"CrewOfficeModel", "isNight", "(II)Z"⟩, 54), (⟨"CrewOfficeModel", "crewRule", "(I)I"⟩, 54), (⟨"CrewOfficeModel", "flying", "()I"⟩, 54), (⟨"CrewOfficeModel", "lays", "(I)Z"⟩, 54), (⟨"CrewOfficeModel", "isBefore", "(I)Z"⟩, 54), (⟨"CrewOfficeModel", "copies", "(II)V"⟩, 54), (⟨"CrewOfficeModel", "orders", "()V"⟩, 54), (⟨"CrewOfficeModel", "tables", "()V"⟩, 54), (⟨"CrewOfficeModel", "mayGet", "(II)Z"⟩, 54)]
theorem lw_r3 : ∀ q ∈ lw_privs_3, lw_okq q := List.forall_mem_cons.mpr ⟨lw_p32, List.forall_mem_cons.mpr ⟨lw_p33, List.forall_mem_cons.mpr ⟨lw_p34, List.forall_mem_cons.mpr ⟨lw_p35, List.forall_mem_cons.mpr ⟨lw_p36, List.forall_mem_cons.mpr ⟨lw_p37, List.forall_mem_cons.mpr ⟨lw_p38, List.forall_mem_cons.mpr ⟨lw_p39, List.forall_mem_cons.mpr ⟨lw_p40, List.forall_mem_cons.mpr ⟨lw_p41, List.forall_mem_cons.mpr ⟨lw_p42, List.forall_mem_cons.mpr ⟨lw_p43, List.forall_mem_cons.mpr ⟨lw_p44, List.forall_mem_cons.mpr ⟨lw_p45, List.forall_mem_cons.mpr ⟨lw_p46, List.forall_mem_cons.mpr ⟨lw_p47, fun _ h => absurd h List.not_mem_nil⟩⟩⟩⟩⟩⟩⟩⟩⟩⟩⟩⟩⟩⟩⟩⟩
theorem lw_p48 : lw_okq (⟨"CrewOfficeModel", "chooses", "(II)I"⟩, 54) := ⟨⟨by decide +kernel, by decide +kernel⟩, List.mem_of_getElem? (i := 947) (by decide +kernel), List.mem_of_getElem? (i := 1292) (by decide +kernel), List.mem_of_getElem? (i := 1293) (by decide +kernel)⟩
theorem lw_p49 : lw_okq (⟨"CrewOfficeModel", "gives", "(II)V"⟩, 54) := ⟨⟨by decide +kernel, by decide +kernel⟩, List.mem_of_getElem? (i := 947) (by decide +kernel), List.mem_of_getElem? (i := 1296) (by decide +kernel), List.mem_of_getElem? (i := 1297) (by decide +kernel)⟩
theorem lw_p50 : lw_okq (⟨"CrewOfficeModel", "scoreOf", "(I)I"⟩, 54) := ⟨⟨by decide +kernel, by decide +kernel⟩, List.mem_of_getElem? (i := 947) (by decide +kernel), List.mem_of_getElem? (i := 1300) (by decide +kernel), List.mem_of_getElem? (i := 1301) (by decide +kernel)⟩
theorem lw_p51 : lw_okq (⟨"CrewOfficeModel", "holds", "(II)I"⟩, 54) := ⟨⟨by decide +kernel, by decide +kernel⟩, List.mem_of_getElem? (i := 947) (by decide +kernel), List.mem_of_getElem? (i := 1304) (by decide +kernel), List.mem_of_getElem? (i := 1305) (by decide +kernel)⟩
theorem lw_p52 : lw_okq (⟨"CrewOfficeModel", "takes", "(I)V"⟩, 54) := ⟨⟨by decide +kernel, by decide +kernel⟩, List.mem_of_getElem? (i := 947) (by decide +kernel), List.mem_of_getElem? (i := 1308) (by decide +kernel), List.mem_of_getElem? (i := 1309) (by decide +kernel)⟩
def lw_privs_4 : List (MethodName × Nat) := [(⟨"CrewOfficeModel", "chooses", "(II)I"⟩, 54), (⟨"CrewOfficeModel", "gives", "(II)V"⟩, 54), (⟨"CrewOfficeModel", "scoreOf", "(I)I"⟩, 54), (⟨"CrewOfficeModel", "holds", "(II)I"⟩, 54), (⟨"CrewOfficeModel", "takes", "(I)V"⟩, 54)]
theorem lw_r4 : ∀ q ∈ lw_privs_4, lw_okq q := List.forall_mem_cons.mpr ⟨lw_p48, List.forall_mem_cons.mpr ⟨lw_p49, List.forall_mem_cons.mpr ⟨lw_p50, List.forall_mem_cons.mpr ⟨lw_p51, List.forall_mem_cons.mpr ⟨lw_p52, fun _ h => absurd h List.not_mem_nil⟩⟩⟩⟩⟩
def lw_privs : List (MethodName × Nat) := lw_privs_1 ++ (lw_privs_2 ++ (lw_privs_3 ++ (lw_privs_4)))
def lw_tbl : List Cond := k2_sels lw_privs ++ tables_1
theorem lw_privs_ok : ∀ q ∈ lw_privs, lw_okq q := by
  show ∀ q ∈ lw_privs_1 ++ (lw_privs_2 ++ (lw_privs_3 ++ (lw_privs_4))), lw_okq q
  exact List.forall_mem_append.mpr ⟨lw_r1, List.forall_mem_append.mpr ⟨lw_r2, List.forall_mem_append.mpr ⟨lw_r3, lw_r4⟩⟩⟩
end
section
/-! the classes of the system: names, fields (declaring class, name, descriptor, final), their types -/
def am_T0 : u_T := fun k => match k with
  | 0 => ("CrewOffice$Clock", "first", "I", false)
  | 1 => ("CrewOffice$Clock", "change", "I", false)
  | _ => ("CrewOffice$Clock", "second", "I", false)
def am_ty0 : Nat → FieldType := fun k => match k with
  | 0 => .int
  | 1 => .int
  | _ => .int
def am_T1 : u_T := fun k => match k with
  | 0 => ("CrewOffice$Leg", "there", "Z", false)
  | 1 => ("CrewOffice$Leg", "from", "I", false)
  | 2 => ("CrewOffice$Leg", "to", "I", false)
  | 3 => ("CrewOffice$Leg", "departs", "I", false)
  | 4 => ("CrewOffice$Leg", "arrives", "I", false)
  | _ => ("CrewOffice$Leg", "type", "I", false)
def am_ty1 : Nat → FieldType := fun k => match k with
  | 0 => .boolean
  | 1 => .int
  | 2 => .int
  | 3 => .int
  | 4 => .int
  | _ => .int
def am_T2 : u_T := fun k => match k with
  | 0 => ("CrewOffice$Member", "there", "Z", false)
  | 1 => ("CrewOffice$Member", "base", "I", false)
  | 2 => ("CrewOffice$Member", "rank", "I", false)
  | 3 => ("CrewOffice$Member", "types", "I", false)
  | 4 => ("CrewOffice$Member", "flown", "I", false)
  | 5 => ("CrewOffice$Member", "offFrom", "I", false)
  | 6 => ("CrewOffice$Member", "offTo", "I", false)
  | 7 => ("CrewOffice$Member", "bids", "I", false)
  | 8 => ("CrewOffice$Member", "kinds", "[I", true)
  | 9 => ("CrewOffice$Member", "arguments", "[I", true)
  | _ => ("CrewOffice$Member", "weights", "[I", true)
def am_ty2 : Nat → FieldType := fun k => match k with
  | 0 => .boolean
  | 1 => .int
  | 2 => .int
  | 3 => .int
  | 4 => .int
  | 5 => .int
  | 6 => .int
  | 7 => .int
  | 8 => .array (.int)
  | 9 => .array (.int)
  | _ => .array (.int)
def am_T3 : u_T := fun k => match k with
  | 0 => ("CrewOffice$Plan", "clocks", "[LCrewOffice$Clock;", true)
  | 1 => ("CrewOffice$Plan", "legs", "[LCrewOffice$Leg;", true)
  | 2 => ("CrewOffice$Plan", "members", "[LCrewOffice$Member;", true)
  | 3 => ("CrewOffice$Plan", "values", "[I", true)
  | _ => ("CrewOffice$Plan", "limits", "[[I", true)
def am_ty3 : Nat → FieldType := fun k => match k with
  | 0 => .array (.object "CrewOffice$Clock")
  | 1 => .array (.object "CrewOffice$Leg")
  | 2 => .array (.object "CrewOffice$Member")
  | 3 => .array (.int)
  | _ => .array (.array (.int))
def am_T4 : u_T := fun k => match k with
  | 0 => ("CrewOffice$Work", "row", "[I", true)
  | 1 => ("CrewOffice$Work", "size", "I", false)
  | 2 => ("CrewOffice$Work", "base", "I", false)
  | 3 => ("CrewOffice$Work", "begin", "I", false)
  | 4 => ("CrewOffice$Work", "end", "I", false)
  | 5 => ("CrewOffice$Work", "air", "I", false)
  | 6 => ("CrewOffice$Work", "types", "I", false)
  | _ => ("CrewOffice$Work", "flights", "I", false)
def am_ty4 : Nat → FieldType := fun k => match k with
  | 0 => .array (.int)
  | 1 => .int
  | 2 => .int
  | 3 => .int
  | 4 => .int
  | 5 => .int
  | 6 => .int
  | _ => .int
def am_T5 : u_T := fun k => match k with
  | 0 => ("CrewOffice$Trip", "plan", "LCrewOffice$Plan;", true)
  | 1 => ("CrewOffice$Trip", "whole", "LCrewOffice$Work;", true)
  | 2 => ("CrewOffice$Trip", "duties", "I", false)
  | 3 => ("CrewOffice$Trip", "firsts", "[I", true)
  | 4 => ("CrewOffice$Trip", "begins", "[I", true)
  | _ => ("CrewOffice$Trip", "ends", "[I", true)
def am_ty5 : Nat → FieldType := fun k => match k with
  | 0 => .object "CrewOffice$Plan"
  | 1 => .object "CrewOffice$Work"
  | 2 => .int
  | 3 => .array (.int)
  | 4 => .array (.int)
  | _ => .array (.int)
def am_T6 : u_T := fun k => match k with
  | 0 => ("CrewOffice$Listing", "plan", "LCrewOffice$Plan;", true)
  | 1 => ("CrewOffice$Listing", "draft", "LCrewOffice$Trip;", true)
  | 2 => ("CrewOffice$Listing", "works", "[LCrewOffice$Work;", true)
  | 3 => ("CrewOffice$Listing", "count", "I", false)
  | _ => ("CrewOffice$Listing", "tooMany", "Z", false)
def am_ty6 : Nat → FieldType := fun k => match k with
  | 0 => .object "CrewOffice$Plan"
  | 1 => .object "CrewOffice$Trip"
  | 2 => .array (.object "CrewOffice$Work")
  | 3 => .int
  | _ => .boolean
def am_T7 : u_T := fun k => match k with
  | 0 => ("CrewOffice$Choice", "plan", "LCrewOffice$Plan;", true)
  | 1 => ("CrewOffice$Choice", "listing", "LCrewOffice$Listing;", true)
  | 2 => ("CrewOffice$Choice", "taken", "[I", true)
  | 3 => ("CrewOffice$Choice", "count", "I", false)
  | 4 => ("CrewOffice$Choice", "prices", "[I", true)
  | _ => ("CrewOffice$Choice", "pickings", "[J", true)
def am_ty7 : Nat → FieldType := fun k => match k with
  | 0 => .object "CrewOffice$Plan"
  | 1 => .object "CrewOffice$Listing"
  | 2 => .array (.int)
  | 3 => .int
  | 4 => .array (.int)
  | _ => .array (.long)
def am_T8 : u_T := fun k => match k with
  | 0 => ("CrewOffice$Sharing", "plan", "LCrewOffice$Plan;", true)
  | 1 => ("CrewOffice$Sharing", "listing", "LCrewOffice$Listing;", true)
  | 2 => ("CrewOffice$Sharing", "choice", "LCrewOffice$Choice;", true)
  | 3 => ("CrewOffice$Sharing", "shares", "[I", true)
  | 4 => ("CrewOffice$Sharing", "order", "[I", true)
  | 5 => ("CrewOffice$Sharing", "served", "I", false)
  | 6 => ("CrewOffice$Sharing", "allowed", "[I", true)
  | 7 => ("CrewOffice$Sharing", "held", "[I", true)
  | _ => ("CrewOffice$Sharing", "rivals", "[I", true)
def am_ty8 : Nat → FieldType := fun k => match k with
  | 0 => .object "CrewOffice$Plan"
  | 1 => .object "CrewOffice$Listing"
  | 2 => .object "CrewOffice$Choice"
  | 3 => .array (.int)
  | 4 => .array (.int)
  | 5 => .int
  | 6 => .array (.int)
  | 7 => .array (.int)
  | _ => .array (.int)
def am_T9 : u_T := fun k => match k with
  | 0 => ("CrewOffice", "plan", "LCrewOffice$Plan;", true)
  | 1 => ("CrewOffice", "trip", "LCrewOffice$Trip;", true)
  | 2 => ("CrewOffice", "listing", "LCrewOffice$Listing;", true)
  | 3 => ("CrewOffice", "choice", "LCrewOffice$Choice;", true)
  | _ => ("CrewOffice", "sharing", "LCrewOffice$Sharing;", true)
def am_ty9 : Nat → FieldType := fun k => match k with
  | 0 => .object "CrewOffice$Plan"
  | 1 => .object "CrewOffice$Trip"
  | 2 => .object "CrewOffice$Listing"
  | 3 => .object "CrewOffice$Choice"
  | _ => .object "CrewOffice$Sharing"
def am_T10 : u_T := fun k => match k with
  | 0 => ("CrewOfficeModel", "thrown", "I", false)
  | 1 => ("CrewOfficeModel", "early", "[I", true)
  | 2 => ("CrewOfficeModel", "change", "[I", true)
  | 3 => ("CrewOfficeModel", "late", "[I", true)
  | 4 => ("CrewOfficeModel", "rest", "[I", true)
  | 5 => ("CrewOfficeModel", "known", "[Z", true)
  | 6 => ("CrewOfficeModel", "there", "[Z", true)
  | 7 => ("CrewOfficeModel", "from", "[I", true)
  | 8 => ("CrewOfficeModel", "to", "[I", true)
  | 9 => ("CrewOfficeModel", "departs", "[I", true)
  | 10 => ("CrewOfficeModel", "arrives", "[I", true)
  | 11 => ("CrewOfficeModel", "type", "[I", true)
  | 12 => ("CrewOfficeModel", "hired", "[Z", true)
  | 13 => ("CrewOfficeModel", "base", "[I", true)
  | 14 => ("CrewOfficeModel", "rank", "[I", true)
  | 15 => ("CrewOfficeModel", "types", "[I", true)
  | 16 => ("CrewOfficeModel", "flown", "[I", true)
  | 17 => ("CrewOfficeModel", "offFrom", "[I", true)
  | 18 => ("CrewOfficeModel", "offTo", "[I", true)
  | 19 => ("CrewOfficeModel", "bids", "[I", true)
  | 20 => ("CrewOfficeModel", "bidKind", "[I", true)
  | 21 => ("CrewOfficeModel", "bidArg", "[I", true)
  | 22 => ("CrewOfficeModel", "bidWeight", "[I", true)
  | 23 => ("CrewOfficeModel", "value", "[I", true)
  | 24 => ("CrewOfficeModel", "limits", "[I", true)
  | 25 => ("CrewOfficeModel", "chained", "[I", true)
  | 26 => ("CrewOfficeModel", "chain", "I", false)
  | 27 => ("CrewOfficeModel", "row", "[I", true)
  | 28 => ("CrewOfficeModel", "n", "I", false)
  | 29 => ("CrewOfficeModel", "duties", "I", false)
  | 30 => ("CrewOfficeModel", "first", "[I", true)
  | 31 => ("CrewOfficeModel", "last", "[I", true)
  | 32 => ("CrewOfficeModel", "begin", "[I", true)
  | 33 => ("CrewOfficeModel", "end", "[I", true)
  | 34 => ("CrewOfficeModel", "listed", "I", false)
  | 35 => ("CrewOfficeModel", "flights", "[I", true)
  | 36 => ("CrewOfficeModel", "size", "[I", true)
  | 37 => ("CrewOfficeModel", "starts", "[I", true)
  | 38 => ("CrewOfficeModel", "ends", "[I", true)
  | 39 => ("CrewOfficeModel", "air", "[I", true)
  | 40 => ("CrewOfficeModel", "mask", "[I", true)
  | 41 => ("CrewOfficeModel", "covered", "Z", false)
  | 42 => ("CrewOfficeModel", "taken", "[Z", true)
  | 43 => ("CrewOfficeModel", "owners", "[I", true)
  | 44 => ("CrewOfficeModel", "cost", "[J", true)
  | 45 => ("CrewOfficeModel", "costNext", "[J", true)
  | 46 => ("CrewOfficeModel", "made", "[J", true)
  | 47 => ("CrewOfficeModel", "madeNext", "[J", true)
  | 48 => ("CrewOfficeModel", "item", "[I", true)
  | 49 => ("CrewOfficeModel", "items", "I", false)
  | 50 => ("CrewOfficeModel", "turn", "[I", true)
  | 51 => ("CrewOfficeModel", "turns", "I", false)
  | 52 => ("CrewOfficeModel", "may", "[Z", true)
  | _ => ("CrewOfficeModel", "can", "[Z", true)
def am_ty10 : Nat → FieldType := fun k => match k with
  | 0 => .int
  | 1 => .array (.int)
  | 2 => .array (.int)
  | 3 => .array (.int)
  | 4 => .array (.int)
  | 5 => .array (.boolean)
  | 6 => .array (.boolean)
  | 7 => .array (.int)
  | 8 => .array (.int)
  | 9 => .array (.int)
  | 10 => .array (.int)
  | 11 => .array (.int)
  | 12 => .array (.boolean)
  | 13 => .array (.int)
  | 14 => .array (.int)
  | 15 => .array (.int)
  | 16 => .array (.int)
  | 17 => .array (.int)
  | 18 => .array (.int)
  | 19 => .array (.int)
  | 20 => .array (.int)
  | 21 => .array (.int)
  | 22 => .array (.int)
  | 23 => .array (.int)
  | 24 => .array (.int)
  | 25 => .array (.int)
  | 26 => .int
  | 27 => .array (.int)
  | 28 => .int
  | 29 => .int
  | 30 => .array (.int)
  | 31 => .array (.int)
  | 32 => .array (.int)
  | 33 => .array (.int)
  | 34 => .int
  | 35 => .array (.int)
  | 36 => .array (.int)
  | 37 => .array (.int)
  | 38 => .array (.int)
  | 39 => .array (.int)
  | 40 => .array (.int)
  | 41 => .boolean
  | 42 => .array (.boolean)
  | 43 => .array (.int)
  | 44 => .array (.long)
  | 45 => .array (.long)
  | 46 => .array (.long)
  | 47 => .array (.long)
  | 48 => .array (.int)
  | 49 => .int
  | 50 => .array (.int)
  | 51 => .int
  | 52 => .array (.boolean)
  | _ => .array (.boolean)
def am_C : Nat → String := fun c => match c with
  | 0 => "CrewOffice$Clock"
  | 1 => "CrewOffice$Leg"
  | 2 => "CrewOffice$Member"
  | 3 => "CrewOffice$Plan"
  | 4 => "CrewOffice$Work"
  | 5 => "CrewOffice$Trip"
  | 6 => "CrewOffice$Listing"
  | 7 => "CrewOffice$Choice"
  | 8 => "CrewOffice$Sharing"
  | 9 => "CrewOffice"
  | _ => "CrewOfficeModel"
def am_T : Nat → u_T := fun c => match c with
  | 0 => am_T0
  | 1 => am_T1
  | 2 => am_T2
  | 3 => am_T3
  | 4 => am_T4
  | 5 => am_T5
  | 6 => am_T6
  | 7 => am_T7
  | 8 => am_T8
  | 9 => am_T9
  | _ => am_T10
def am_ty : Nat → Nat → FieldType := fun c => match c with
  | 0 => am_ty0
  | 1 => am_ty1
  | 2 => am_ty2
  | 3 => am_ty3
  | 4 => am_ty4
  | 5 => am_ty5
  | 6 => am_ty6
  | 7 => am_ty7
  | 8 => am_ty8
  | 9 => am_ty9
  | _ => am_ty10
def am_N : Nat → Nat := fun c => match c with
  | 0 => 3
  | 1 => 6
  | 2 => 11
  | 3 => 5
  | 4 => 8
  | 5 => 6
  | 6 => 5
  | 7 => 6
  | 8 => 9
  | 9 => 5
  | _ => 54
def am_cl : List vw_C := (List.range 11).map (fun c => (am_C c, am_T c, am_N c))
theorem am_cl_get {c : Nat} (h : c < 11) : am_cl[c]? = some (am_C c, am_T c, am_N c) := by simp [am_cl, h]
set_option maxRecDepth 20000 in
theorem am_in0 : ∀ w ∈ u_ws (am_C 0) (am_T 0) (am_N 0), w ∈ lw_tbl := by decide +kernel
theorem am_nm0 : ∀ a, a < am_N 0 → ∀ b, b < am_N 0 → a ≠ b → (am_T 0 a).2.1 ≠ (am_T 0 b).2.1 := by decide +kernel
theorem am_tk0 : ∀ k, k < am_N 0 → parseFieldDescriptor (am_T 0 k).2.2.1 = some (am_ty 0 k) := by decide +kernel
theorem am_ow0 : ∀ k, k < am_N 0 → (am_T 0 k).1 = am_C 0 := by decide +kernel
set_option maxRecDepth 20000 in
theorem am_in1 : ∀ w ∈ u_ws (am_C 1) (am_T 1) (am_N 1), w ∈ lw_tbl := by decide +kernel
theorem am_nm1 : ∀ a, a < am_N 1 → ∀ b, b < am_N 1 → a ≠ b → (am_T 1 a).2.1 ≠ (am_T 1 b).2.1 := by decide +kernel
theorem am_tk1 : ∀ k, k < am_N 1 → parseFieldDescriptor (am_T 1 k).2.2.1 = some (am_ty 1 k) := by decide +kernel
theorem am_ow1 : ∀ k, k < am_N 1 → (am_T 1 k).1 = am_C 1 := by decide +kernel
set_option maxRecDepth 20000 in
theorem am_in2 : ∀ w ∈ u_ws (am_C 2) (am_T 2) (am_N 2), w ∈ lw_tbl := by decide +kernel
theorem am_nm2 : ∀ a, a < am_N 2 → ∀ b, b < am_N 2 → a ≠ b → (am_T 2 a).2.1 ≠ (am_T 2 b).2.1 := by decide +kernel
theorem am_tk2 : ∀ k, k < am_N 2 → parseFieldDescriptor (am_T 2 k).2.2.1 = some (am_ty 2 k) := by decide +kernel
theorem am_ow2 : ∀ k, k < am_N 2 → (am_T 2 k).1 = am_C 2 := by decide +kernel
set_option maxRecDepth 20000 in
theorem am_in3 : ∀ w ∈ u_ws (am_C 3) (am_T 3) (am_N 3), w ∈ lw_tbl := by decide +kernel
theorem am_nm3 : ∀ a, a < am_N 3 → ∀ b, b < am_N 3 → a ≠ b → (am_T 3 a).2.1 ≠ (am_T 3 b).2.1 := by decide +kernel
theorem am_tk3 : ∀ k, k < am_N 3 → parseFieldDescriptor (am_T 3 k).2.2.1 = some (am_ty 3 k) := by decide +kernel
theorem am_ow3 : ∀ k, k < am_N 3 → (am_T 3 k).1 = am_C 3 := by decide +kernel
set_option maxRecDepth 20000 in
theorem am_in4 : ∀ w ∈ u_ws (am_C 4) (am_T 4) (am_N 4), w ∈ lw_tbl := by decide +kernel
theorem am_nm4 : ∀ a, a < am_N 4 → ∀ b, b < am_N 4 → a ≠ b → (am_T 4 a).2.1 ≠ (am_T 4 b).2.1 := by decide +kernel
theorem am_tk4 : ∀ k, k < am_N 4 → parseFieldDescriptor (am_T 4 k).2.2.1 = some (am_ty 4 k) := by decide +kernel
theorem am_ow4 : ∀ k, k < am_N 4 → (am_T 4 k).1 = am_C 4 := by decide +kernel
set_option maxRecDepth 20000 in
theorem am_in5 : ∀ w ∈ u_ws (am_C 5) (am_T 5) (am_N 5), w ∈ lw_tbl := by decide +kernel
theorem am_nm5 : ∀ a, a < am_N 5 → ∀ b, b < am_N 5 → a ≠ b → (am_T 5 a).2.1 ≠ (am_T 5 b).2.1 := by decide +kernel
theorem am_tk5 : ∀ k, k < am_N 5 → parseFieldDescriptor (am_T 5 k).2.2.1 = some (am_ty 5 k) := by decide +kernel
theorem am_ow5 : ∀ k, k < am_N 5 → (am_T 5 k).1 = am_C 5 := by decide +kernel
set_option maxRecDepth 20000 in
theorem am_in6 : ∀ w ∈ u_ws (am_C 6) (am_T 6) (am_N 6), w ∈ lw_tbl := by decide +kernel
theorem am_nm6 : ∀ a, a < am_N 6 → ∀ b, b < am_N 6 → a ≠ b → (am_T 6 a).2.1 ≠ (am_T 6 b).2.1 := by decide +kernel
theorem am_tk6 : ∀ k, k < am_N 6 → parseFieldDescriptor (am_T 6 k).2.2.1 = some (am_ty 6 k) := by decide +kernel
theorem am_ow6 : ∀ k, k < am_N 6 → (am_T 6 k).1 = am_C 6 := by decide +kernel
set_option maxRecDepth 20000 in
theorem am_in7 : ∀ w ∈ u_ws (am_C 7) (am_T 7) (am_N 7), w ∈ lw_tbl := by decide +kernel
theorem am_nm7 : ∀ a, a < am_N 7 → ∀ b, b < am_N 7 → a ≠ b → (am_T 7 a).2.1 ≠ (am_T 7 b).2.1 := by decide +kernel
theorem am_tk7 : ∀ k, k < am_N 7 → parseFieldDescriptor (am_T 7 k).2.2.1 = some (am_ty 7 k) := by decide +kernel
theorem am_ow7 : ∀ k, k < am_N 7 → (am_T 7 k).1 = am_C 7 := by decide +kernel
set_option maxRecDepth 20000 in
theorem am_in8 : ∀ w ∈ u_ws (am_C 8) (am_T 8) (am_N 8), w ∈ lw_tbl := by decide +kernel
theorem am_nm8 : ∀ a, a < am_N 8 → ∀ b, b < am_N 8 → a ≠ b → (am_T 8 a).2.1 ≠ (am_T 8 b).2.1 := by decide +kernel
theorem am_tk8 : ∀ k, k < am_N 8 → parseFieldDescriptor (am_T 8 k).2.2.1 = some (am_ty 8 k) := by decide +kernel
theorem am_ow8 : ∀ k, k < am_N 8 → (am_T 8 k).1 = am_C 8 := by decide +kernel
set_option maxRecDepth 20000 in
theorem am_in9 : ∀ w ∈ u_ws (am_C 9) (am_T 9) (am_N 9), w ∈ lw_tbl := by decide +kernel
theorem am_nm9 : ∀ a, a < am_N 9 → ∀ b, b < am_N 9 → a ≠ b → (am_T 9 a).2.1 ≠ (am_T 9 b).2.1 := by decide +kernel
theorem am_tk9 : ∀ k, k < am_N 9 → parseFieldDescriptor (am_T 9 k).2.2.1 = some (am_ty 9 k) := by decide +kernel
theorem am_ow9 : ∀ k, k < am_N 9 → (am_T 9 k).1 = am_C 9 := by decide +kernel
set_option maxRecDepth 20000 in
theorem am_in10 : ∀ w ∈ u_ws (am_C 10) (am_T 10) (am_N 10), w ∈ lw_tbl := by decide +kernel
theorem am_nm10 : ∀ a, a < am_N 10 → ∀ b, b < am_N 10 → a ≠ b → (am_T 10 a).2.1 ≠ (am_T 10 b).2.1 := by decide +kernel
theorem am_tk10 : ∀ k, k < am_N 10 → parseFieldDescriptor (am_T 10 k).2.2.1 = some (am_ty 10 k) := by decide +kernel
theorem am_ow10 : ∀ k, k < am_N 10 → (am_T 10 k).1 = am_C 10 := by decide +kernel
theorem am_inl {c : Nat} (h : c < 11) : ∀ w ∈ u_ws (am_C c) (am_T c) (am_N c), w ∈ lw_tbl := by
  match c, h with
  | 0, _ => exact am_in0
  | 1, _ => exact am_in1
  | 2, _ => exact am_in2
  | 3, _ => exact am_in3
  | 4, _ => exact am_in4
  | 5, _ => exact am_in5
  | 6, _ => exact am_in6
  | 7, _ => exact am_in7
  | 8, _ => exact am_in8
  | 9, _ => exact am_in9
  | 10, _ => exact am_in10
  | k + 11, h => exact absurd h (by omega)
theorem am_nm {c : Nat} (h : c < 11) : ∀ a, a < am_N c → ∀ b, b < am_N c → a ≠ b → (am_T c a).2.1 ≠ (am_T c b).2.1 := by
  match c, h with
  | 0, _ => exact am_nm0
  | 1, _ => exact am_nm1
  | 2, _ => exact am_nm2
  | 3, _ => exact am_nm3
  | 4, _ => exact am_nm4
  | 5, _ => exact am_nm5
  | 6, _ => exact am_nm6
  | 7, _ => exact am_nm7
  | 8, _ => exact am_nm8
  | 9, _ => exact am_nm9
  | 10, _ => exact am_nm10
  | k + 11, h => exact absurd h (by omega)
theorem am_tk {c : Nat} (h : c < 11) : ∀ k, k < am_N c → parseFieldDescriptor (am_T c k).2.2.1 = some (am_ty c k) := by
  match c, h with
  | 0, _ => exact am_tk0
  | 1, _ => exact am_tk1
  | 2, _ => exact am_tk2
  | 3, _ => exact am_tk3
  | 4, _ => exact am_tk4
  | 5, _ => exact am_tk5
  | 6, _ => exact am_tk6
  | 7, _ => exact am_tk7
  | 8, _ => exact am_tk8
  | 9, _ => exact am_tk9
  | 10, _ => exact am_tk10
  | k + 11, h => exact absurd h (by omega)
theorem am_ow {c : Nat} (h : c < 11) : ∀ k, k < am_N c → (am_T c k).1 = am_C c := by
  match c, h with
  | 0, _ => exact am_ow0
  | 1, _ => exact am_ow1
  | 2, _ => exact am_ow2
  | 3, _ => exact am_ow3
  | 4, _ => exact am_ow4
  | 5, _ => exact am_ow5
  | 6, _ => exact am_ow6
  | 7, _ => exact am_ow7
  | 8, _ => exact am_ow8
  | 9, _ => exact am_ow9
  | 10, _ => exact am_ow10
  | k + 11, h => exact absurd h (by omega)
/-- the words that stay true wherever the system goes -/
def am_nl : Cond → Bool
  | .laysStatic .. => false
  | .stringRef .. => false
  | .arrayOver .. => false
  | _ => true
def am_ws : List Cond := lw_tbl.filter am_nl
theorem am_mem {w : Cond} (h : w ∈ lw_tbl) (hn : am_nl w = true) : w ∈ am_ws := List.mem_filter.mpr ⟨h, hn⟩
theorem am_in {c : Nat} (h : c < 11) : ∀ w ∈ u_ws (am_C c) (am_T c) (am_N c), w ∈ am_ws := fun w hw => am_mem (am_inl h w hw) (by
  obtain ⟨k, -, rfl⟩ := List.mem_map.mp hw
  unfold u_lay
  split <;> rfl)
def am_odd : Cond → Bool
  | .castable .. => true
  | .declares .. => true
  | .methodLinkNest .. => true
  | .fieldLinkNest .. => true
  | .privateMethod .. => true
  | _ => false
set_option maxRecDepth 100000 in
theorem am_oddk : lw_tbl.all (fun w => !am_nl w || (goodWord w || am_odd w)) = true := by decide +kernel
theorem am_keepw {args a' : Array Value} {s U : State} (hW : s.WarmedH U.vm) (h : ∀ w ∈ am_ws, w.before args s = true) : ∀ w ∈ am_ws, w.before a' U = true := by
  intro w hw
  have hb := h w hw
  obtain ⟨h1, h2⟩ := List.mem_filter.mp hw
  have hk := List.all_eq_true.mp am_oddk w h1
  rw [h2] at hk
  by_cases hg : goodWord w = true
  · exact word_at hW (good_of_word hg) hb
  · have ho : am_odd w = true := by simpa [hg] using hk
    cases w with
    | castable a b => exact va_Nw.use rfl (va_Nw.warmC hW (va_Nw.of rfl hb))
    | declares a => exact va_Nw.use rfl (va_Nw.warmD hW (va_Nw.of rfl hb))
    | methodLinkNest a b c d => exact va_Nw.use rfl (va_Nw.warmM hW (va_Nw.of rfl hb))
    | fieldLinkNest a b c d e f => exact va_Nw.use rfl (va_Nw.warmF hW (va_Nw.of rfl hb))
    | privateMethod a => exact va_tabs rfl (rfl : (s.setVm U.vm).vm = U.vm) ((Cond.privateMethod_setVm (args := args) hW.alike a).trans hb)
    | _ => cases ho
end
section
/-! ===== the memory of the system apart from where its cells lie; the judgement AW of a frame over it ===== -/
/-- a memory: how many cells; of each its kind and size ((0, class) or (array type + 1, length)); its whole numbers, its longs, its references (to numbers of cells); how many throwables were made beside -/
abbrev am_M : Type := Nat × (Nat → Nat × Nat) × (Nat → Nat → Int32) × (Nat → Nat → Int64) × (Nat → Nat → Option Nat) × Nat
abbrev am_n (M : am_M) : Nat := M.1
abbrev am_s (M : am_M) : Nat → Nat × Nat := M.2.1
abbrev am_i (M : am_M) : Nat → Nat → Int32 := M.2.2.1
abbrev am_l (M : am_M) : Nat → Nat → Int64 := M.2.2.2.1
abbrev am_r (M : am_M) : Nat → Nat → Option Nat := M.2.2.2.2.1
abbrev am_x (M : am_M) : Nat := M.2.2.2.2.2
/-- where things are: numbers of the classes, places of fields, numbers of array classes, the first cell's address, addresses of what was there before -/
abbrev am_G : Type := (Nat → ClassId) × (Nat → Nat → Nat) × (Nat → ClassId) × Nat × (Nat → Nat)
abbrev am_b (G : am_G) : Nat := G.2.2.2.1
def am_CB : Nat := 1000000
def am_a (G : am_G) (i : Nat) : Nat := if i < am_CB then am_b G + i else G.2.2.2.2 (i - am_CB)
def am_v (G : am_G) (v : Value) : Value := match v with
  | .ref i => .ref (am_a G i)
  | v => v
theorem am_v_cat (G : am_G) (v : Value) : (am_v G v).category = v.category := by cases v <;> rfl
def am_fv (G : am_G) (M : am_M) (i : Nat) (ty : FieldType) (k : Nat) : Value := match ty with
  | .long => .long (am_l M i k)
  | .object _ => va_rf ((am_r M i k).map (am_a G))
  | .array _ => va_rf ((am_r M i k).map (am_a G))
  | _ => .int (am_i M i k)
/-- the array types -/
def am_aty : Nat → FieldType := fun j => match j with
  | 0 => .int
  | 1 => .long
  | 2 => .boolean
  | 3 => .object "CrewOffice$Clock"
  | 4 => .object "CrewOffice$Leg"
  | 5 => .object "CrewOffice$Member"
  | 6 => .object "CrewOffice$Work"
  | _ => .array .int
def am_tys (G : am_G) : List (ClassId × FieldType) := (List.range 8).map (fun j => (G.2.2.1 j, am_aty j))
theorem am_tys_get (G : am_G) {j : Nat} (h : j < 8) : (am_tys G)[j]? = some (G.2.2.1 j, am_aty j) := by simp [am_tys, h]
def am_K (G : am_G) (U : State) : Prop := va_K (G.1, G.2.1) am_cl (am_tys G) U
def am_at (G : am_G) (M : am_M) (i : Nat) (H : Heap) : Prop := match (am_s M i).1 with
  | 0 => (am_s M i).2 < 11 ∧ t_OB (am_a G i) (G.1 (am_s M i).2) (am_N (am_s M i).2) (G.2.1 (am_s M i).2) H (fun k => am_fv G M i (am_ty (am_s M i).2 k) k)
  | j + 1 => j < 8 ∧ H[am_a G i]? = some (arrV (G.2.2.1 j) (am_s M i).2 (fun k => am_fv G M i (am_aty j) k))
def am_P (G : am_G) (M : am_M) (H : Heap) : Prop := H.size = am_b G + am_n M + am_x M ∧ am_n M ≤ am_CB ∧ ∀ i, i < am_n M → am_at G M i H
/-- which cells the system may write -/
abbrev am_A (G : am_G) : Nat → Prop := fun q => am_b G ≤ q
theorem am_a_lt {G : am_G} {i : Nat} (h : i < am_CB) : am_a G i = am_b G + i := if_pos h
/-- what is there before: three arrays of the class, named by its static fields -/
def am_kn : Nat → String := fun j => match j with
  | 0 => "LEAST_VALUES"
  | 1 => "MOST_VALUES"
  | _ => "FIRST_VALUES"
def am_kv : Nat → Nat → Int32 := fun j k => match j with
  | 0 => ([0, 0, 0, 120, 0, 1, 1, 60, 0, 0, 0] : List Int32).getD k 0
  | 1 => ([120, 120, 180, 900, 900, 8, 8, 20160, 10000, 1, 20000] : List Int32).getD k 0
  | _ => ([60, 30, 30, 300, 600, 4, 3, 4320, 200, 1, 6000] : List Int32).getD k 0
def am_X : Nat → String := fun k => match k with
  | 0 => "java/lang/IllegalArgumentException"
  | 1 => "java/util/NoSuchElementException"
  | _ => "java/lang/IllegalStateException"
/-- the throwables' texts, entries of the class's pool -/
def am_tx : Nat → Nat × String := fun k => match k with
  | 0 => (234, "an argument is out of its bounds")
  | 1 => (241, "there is none such")
  | _ => (246, "not in this state")
/-- a static reference that nobody writes -/
def am_sf (A : Nat → Prop) (C n d : String) (U : State) : Prop := (Cond.laysStatic C n d).before #[] U = true ∧ (Cond.isRef (.static C n d)).before #[] U = true ∧ ∀ (c : ClassId) (k : Class) (i : Nat) (f : Field) (a : Nat), U.fieldFound? C n d = some (c, k, i, f) → k.statics = some a → ¬ A a
/-- what else is there before: Throwable's two statics, the throwables' texts, the array classes of the system's own classes -/
def am_Y (G : am_G) (U : State) : Prop :=
  am_sf (am_A G) "java/lang/Throwable" "UNASSIGNED_STACK" "[Ljava/lang/StackTraceElement;" U ∧ am_sf (am_A G) "java/lang/Throwable" "SUPPRESSED_SENTINEL" "Ljava/util/List;" U ∧
  (∀ k, k < 3 → ∃ a, vk_R "CrewOffice" (am_tx k).1 (am_tx k).2 a U) ∧ (∀ C ∈ ["CrewOffice$Clock", "CrewOffice$Leg", "CrewOffice$Member", "CrewOffice$Work"], va_AO C U) ∧ (∀ a b, a < 3 → b < 3 → a ≠ b → va_Nc (am_X a) (am_X b) U) ∧ (Cond.arrayOver (.array .int)).before #[] U = true
def am_Z (G : am_G) (U : State) (H : Heap) : Prop := am_Y G U ∧ ∀ j, j < 3 → va_Z "CrewOffice" (am_kn j) "[I" (.ref (G.2.2.2.2 j)) (am_A G) U H ∧ va_T .int (G.2.2.2.2 j) 11 (fun k => .int (am_kv j k)) (am_A G) U H
/-- a method's own: class, name, code, locals, what it returns, its handlers -/
abbrev am_U : Type := String × String × ByteArray × Nat × Option FieldType × List (Nat × Nat × Nat × Nat)
def am_F (u : am_U) (p : Program) (s : State) (m : MethodId) (args : Array Value) (meth : Method) (c : Code) : Prop :=
  p.tables.exec = Jvm.exec ∧ c.code = u.2.2.1 ∧ c.maxLocals = u.2.2.2.1 ∧ s.vm.findClass u.1 = some m.cls ∧ (∀ w ∈ am_ws, w.before args s = true) ∧ meth.sig.returnType = u.2.2.2.2.1 ∧ meth.locks = false ∧ meth.name = u.2.1 ∧
  c.exceptionTable.toList.map (fun x => (x.startPc, x.endPc, x.handlerPc, x.catchType)) = u.2.2.2.2.2
/-- how a method ends: an answer, or a throwable of a kind -/
abbrev am_R : Type := Option Value ⊕ Nat
def am_o (G : am_G) (r : am_R) (o : Outcome) (t : State) : Prop := match r with
  | .inl v => o = .returned (v.map (am_v G))
  | .inr k => ∃ (a : Addr) (cell : Cell), o = .threw a ∧ t.heap[a]? = some cell ∧ cell.vm.isStatics = false ∧ t.vm.findClass (am_X k) = some cell.cls
def am_E (first t : State) (L : List Loc) (k n : Nat) : Prop := first.WarmedH t.vm ∧ first.sameButNew ({ t with vm := first.vm } : State) L k n
def am_Q (G : am_G) (post : am_R → am_M → Prop) (mc ms : Nat) (st : State) (o : Outcome) (t : State) : Prop :=
  (∃ (r : am_R) (M : am_M), post r M ∧ am_o G r o t ∧ am_P G M t.heap) ∧ va_F (am_A G) st t ∧ ∃ L, am_E st t L mc ms ∧ ∀ q ∈ L, am_b G ≤ q.base
def am_MQ (G : am_G) (below : List Frame) (post : am_R → am_M → Prop) (mc ms : Nat) (s : State) : State → Prop := fun t => ∃ o, t.status = .running ∧ Ended t below o ∧ am_Q G post mc ms s o t
/-- the launch writes no stack traces -/
def am_L (l : Launch) : Prop := ∀ e : Env, l.admits e → e.platform.stackTraces = false
def am_lv (G : am_G) (ls : List (Nat × Value)) : List (Nat × Value) := ls.map (fun q => (q.1, am_v G q.2))
/-- THE JUDGEMENT: wherever the memory M lies, the method's frame at pc, with these locals and this stack, comes to an end of which 'post' holds -/
def AW (u : am_U) (R : Room) (ce sl pc : Nat) (ls : List (Nat × Value)) (st : List Value) (M : am_M) (post : am_R → am_M → Prop) : Prop :=
  ∀ (G : am_G) (p : Program) (l : Launch) (e : Env) (s : State) (m : MethodId) (args : Array Value) (below : List Frame) (meth : Method) (c : Code) (H : Heap) (locs : List Loc) (la : Array Slot),
    am_F u p s m args meth c → am_L l → am_K G s → am_Z G s s.heap → am_P G M H → va_S (am_A G) s.heap H locs → am_b G ≤ s.heap.size → lv_has la u.2.2.2.1 (am_lv G ls) →
    W p l e R s m args below meth c H locs ce sl (am_MQ G below post R.cells R.slots s) (F0 m pc la (st.map (am_v G)))
def am_get (ls : List (Nat × Value)) (i : Nat) : Option Value := match ls with
  | [] => none
  | q :: r => if q.1 = i then some q.2 else am_get r i
def am_set (i : Nat) (v : Value) (ls : List (Nat × Value)) : List (Nat × Value) := (i, v) :: ls.filter (fun q => !(q.1 == i) && !(q.1 + 1 == i && q.2.category == 2))
def am_set2 (i : Nat) (v : Value) (ls : List (Nat × Value)) : List (Nat × Value) := (i, v) :: ls.filter (fun q => !(q.1 == i) && (!(q.1 == i + 1) && !(q.1 + 1 == i && q.2.category == 2)))
theorem am_get_mem : ∀ {ls : List (Nat × Value)} {i : Nat} {v : Value}, am_get ls i = some v → (i, v) ∈ ls
  | [], i, v, h => by cases h
  | q :: r, i, v, h => by
    unfold am_get at h
    by_cases e : q.1 = i
    · rw [if_pos e] at h
      cases h
      subst e
      exact List.mem_cons_self
    · rw [if_neg e] at h
      exact List.mem_cons_of_mem _ (am_get_mem h)
theorem am_at_get {G : am_G} {la : Array Slot} {nL : Nat} {ls : List (Nat × Value)} {i : Nat} {v : Value} (h : lv_has la nL (am_lv G ls)) (hg : am_get ls i = some v) : la[i]? = some (.val (am_v G v)) :=
  h.2.2 (i, am_v G v) (List.mem_map.mpr ⟨(i, v), am_get_mem hg, rfl⟩)
theorem am_lv_set (G : am_G) (i : Nat) (v : Value) (ls : List (Nat × Value)) : (i, am_v G v) :: (am_lv G ls).filter (fun q => !(q.1 == i) && !(q.1 + 1 == i && q.2.category == 2)) = am_lv G (am_set i v ls) := by
  unfold am_lv am_set
  rw [List.map_cons, List.filter_map]
  congr 2
  apply List.filter_congr
  intro q _
  simp only [Function.comp, am_v_cat]
theorem am_lv_set2 (G : am_G) (i : Nat) (v : Value) (ls : List (Nat × Value)) : (i, am_v G v) :: (am_lv G ls).filter (fun q => !(q.1 == i) && (!(q.1 == i + 1) && !(q.1 + 1 == i && q.2.category == 2))) = am_lv G (am_set2 i v ls) := by
  unfold am_lv am_set2
  rw [List.map_cons, List.filter_map]
  congr 2
  apply List.filter_congr
  intro q _
  simp only [Function.comp, am_v_cat]
theorem am_W_mono {p : Program} {l : Launch} {e : Env} {R : Room} {s : State} {m : MethodId} {args : Array Value} {below : List Frame} {meth : Method} {c : Code} {H : Heap} {locs : List Loc} {ce sl : Nat} {Q Q' : State → Prop} {g : JFrame} (h : ∀ t, Q t → Q' t) (k : W p l e R s m args below meth c H locs ce sl Q g) : W p l e R s m args below meth c H locs ce sl Q' g := by
  intro T hT X
  obtain ⟨t, a, b⟩ := k T hT X
  exact ⟨t, a, h t b⟩
section AWR
variable {u : am_U} {R : Room} {ce sl pc : Nat} {ls : List (Nat × Value)} {st : List Value} {M : am_M} {post : am_R → am_M → Prop}
theorem aw_iconst {n : Int} {v : Int32} (hd : decode u.2.2.1 pc = .ok (.iconst n, 1)) (hv : Int32.ofInt n = v) (k : AW u R ce sl (pc + 1) ls (.int v :: st) M post) : AW u R ce sl pc ls (st) M post := by
  intro G p l e s m args below meth c H locs la hF hL hK hZ hP hS hb hl
  exact lv_iconst hF.1 hF.2.1 hd hv (k G p l e s m args below meth c H locs la hF hL hK hZ hP hS hb hl)
theorem aw_bipush {n : Int} {v : Int32} (hd : decode u.2.2.1 pc = .ok (.bipush n, 2)) (hv : (Int8.ofInt n).toInt32 = v) (k : AW u R ce sl (pc + 2) ls (.int v :: st) M post) : AW u R ce sl pc ls (st) M post := by
  intro G p l e s m args below meth c H locs la hF hL hK hZ hP hS hb hl
  exact lv_bipush hF.1 hF.2.1 hd hv (k G p l e s m args below meth c H locs la hF hL hK hZ hP hS hb hl)
theorem aw_sipush {n : Int} {v : Int32} (hd : decode u.2.2.1 pc = .ok (.sipush n, 3)) (hv : (Int16.ofInt n).toInt32 = v) (k : AW u R ce sl (pc + 3) ls (.int v :: st) M post) : AW u R ce sl pc ls (st) M post := by
  intro G p l e s m args below meth c H locs la hF hL hK hZ hP hS hb hl
  exact lv_sipush hF.1 hF.2.1 hd hv (k G p l e s m args below meth c H locs la hF hL hK hZ hP hS hb hl)
theorem aw_lconst {n : Fin 2} {v : Int64} (hd : decode u.2.2.1 pc = .ok (.lconst n, 1)) (hv : Int64.ofNat (n : Nat) = v) (k : AW u R ce sl (pc + 1) ls (.long v :: st) M post) : AW u R ce sl pc ls (st) M post := by
  intro G p l e s m args below meth c H locs la hF hL hK hZ hP hS hb hl
  exact lv_lconst hF.1 hF.2.1 hd hv (k G p l e s m args below meth c H locs la hF hL hK hZ hP hS hb hl)
theorem aw_iadd {x y : Int32} (hd : decode u.2.2.1 pc = .ok (.iadd, 1)) (k : AW u R ce sl (pc + 1) ls (.int (x + y) :: st) M post) : AW u R ce sl pc ls (.int y :: .int x :: st) M post := by
  intro G p l e s m args below meth c H locs la hF hL hK hZ hP hS hb hl
  exact lv_iadd hF.1 hF.2.1 hd (k G p l e s m args below meth c H locs la hF hL hK hZ hP hS hb hl)
theorem aw_isub {x y : Int32} (hd : decode u.2.2.1 pc = .ok (.isub, 1)) (k : AW u R ce sl (pc + 1) ls (.int (x - y) :: st) M post) : AW u R ce sl pc ls (.int y :: .int x :: st) M post := by
  intro G p l e s m args below meth c H locs la hF hL hK hZ hP hS hb hl
  exact lv_isub hF.1 hF.2.1 hd (k G p l e s m args below meth c H locs la hF hL hK hZ hP hS hb hl)
theorem aw_imul {x y : Int32} (hd : decode u.2.2.1 pc = .ok (.imul, 1)) (k : AW u R ce sl (pc + 1) ls (.int (x * y) :: st) M post) : AW u R ce sl pc ls (.int y :: .int x :: st) M post := by
  intro G p l e s m args below meth c H locs la hF hL hK hZ hP hS hb hl
  exact lv_imul hF.1 hF.2.1 hd (k G p l e s m args below meth c H locs la hF hL hK hZ hP hS hb hl)
theorem aw_iand {x y : Int32} (hd : decode u.2.2.1 pc = .ok (.iand, 1)) (k : AW u R ce sl (pc + 1) ls (.int (x &&& y) :: st) M post) : AW u R ce sl pc ls (.int y :: .int x :: st) M post := by
  intro G p l e s m args below meth c H locs la hF hL hK hZ hP hS hb hl
  exact lv_iand hF.1 hF.2.1 hd (k G p l e s m args below meth c H locs la hF hL hK hZ hP hS hb hl)
theorem aw_ior {x y : Int32} (hd : decode u.2.2.1 pc = .ok (.ior, 1)) (k : AW u R ce sl (pc + 1) ls (.int (x ||| y) :: st) M post) : AW u R ce sl pc ls (.int y :: .int x :: st) M post := by
  intro G p l e s m args below meth c H locs la hF hL hK hZ hP hS hb hl
  exact lv_ior hF.1 hF.2.1 hd (k G p l e s m args below meth c H locs la hF hL hK hZ hP hS hb hl)
theorem aw_ixor {x y : Int32} (hd : decode u.2.2.1 pc = .ok (.ixor, 1)) (k : AW u R ce sl (pc + 1) ls (.int (x ^^^ y) :: st) M post) : AW u R ce sl pc ls (.int y :: .int x :: st) M post := by
  intro G p l e s m args below meth c H locs la hF hL hK hZ hP hS hb hl
  exact lv_ixor hF.1 hF.2.1 hd (k G p l e s m args below meth c H locs la hF hL hK hZ hP hS hb hl)
theorem aw_ishl {x y : Int32} (hd : decode u.2.2.1 pc = .ok (.ishl, 1)) (k : AW u R ce sl (pc + 1) ls (.int (x <<< (y &&& 31)) :: st) M post) : AW u R ce sl pc ls (.int y :: .int x :: st) M post := by
  intro G p l e s m args below meth c H locs la hF hL hK hZ hP hS hb hl
  exact lv_ishl hF.1 hF.2.1 hd (k G p l e s m args below meth c H locs la hF hL hK hZ hP hS hb hl)
theorem aw_ishr {x y : Int32} (hd : decode u.2.2.1 pc = .ok (.ishr, 1)) (k : AW u R ce sl (pc + 1) ls (.int (x >>> (y &&& 31)) :: st) M post) : AW u R ce sl pc ls (.int y :: .int x :: st) M post := by
  intro G p l e s m args below meth c H locs la hF hL hK hZ hP hS hb hl
  exact lv_ishr hF.1 hF.2.1 hd (k G p l e s m args below meth c H locs la hF hL hK hZ hP hS hb hl)
theorem aw_idiv {x y : Int32} (hd : decode u.2.2.1 pc = .ok (.idiv, 1)) (hne : ¬ y = 0) (k : AW u R ce sl (pc + 1) ls (.int (x / y) :: st) M post) : AW u R ce sl pc ls (.int y :: .int x :: st) M post := by
  intro G p l e s m args below meth c H locs la hF hL hK hZ hP hS hb hl
  exact lv_idiv hF.1 hF.2.1 hd hne (k G p l e s m args below meth c H locs la hF hL hK hZ hP hS hb hl)
theorem aw_irem {x y : Int32} (hd : decode u.2.2.1 pc = .ok (.irem, 1)) (hne : ¬ y = 0) (k : AW u R ce sl (pc + 1) ls (.int (x - x / y * y) :: st) M post) : AW u R ce sl pc ls (.int y :: .int x :: st) M post := by
  intro G p l e s m args below meth c H locs la hF hL hK hZ hP hS hb hl
  exact lv_irem hF.1 hF.2.1 hd hne (k G p l e s m args below meth c H locs la hF hL hK hZ hP hS hb hl)
theorem aw_iushr {x y : Int32} (hd : decode u.2.2.1 pc = .ok (.iushr, 1)) (k : AW u R ce sl (pc + 1) ls (.int ((x.toUInt32 >>> (y.toUInt32 &&& Int32.toUInt32 31)).toInt32) :: st) M post) : AW u R ce sl pc ls (.int y :: .int x :: st) M post := by
  intro G p l e s m args below meth c H locs la hF hL hK hZ hP hS hb hl
  exact lv_iushr hF.1 hF.2.1 hd rfl (k G p l e s m args below meth c H locs la hF hL hK hZ hP hS hb hl)
theorem aw_ineg {x : Int32} (hd : decode u.2.2.1 pc = .ok (.ineg, 1)) (k : AW u R ce sl (pc + 1) ls (.int (-x) :: st) M post) : AW u R ce sl pc ls (.int x :: st) M post := by
  intro G p l e s m args below meth c H locs la hF hL hK hZ hP hS hb hl
  exact lv_ineg hF.1 hF.2.1 hd (k G p l e s m args below meth c H locs la hF hL hK hZ hP hS hb hl)
theorem aw_lneg {x : Int64} (hd : decode u.2.2.1 pc = .ok (.lneg, 1)) (k : AW u R ce sl (pc + 1) ls (.long (-x) :: st) M post) : AW u R ce sl pc ls (.long x :: st) M post := by
  intro G p l e s m args below meth c H locs la hF hL hK hZ hP hS hb hl
  exact lv_lneg hF.1 hF.2.1 hd (k G p l e s m args below meth c H locs la hF hL hK hZ hP hS hb hl)
theorem aw_ladd {x y : Int64} (hd : decode u.2.2.1 pc = .ok (.ladd, 1)) (k : AW u R ce sl (pc + 1) ls (.long (x + y) :: st) M post) : AW u R ce sl pc ls (.long y :: .long x :: st) M post := by
  intro G p l e s m args below meth c H locs la hF hL hK hZ hP hS hb hl
  exact lv_ladd hF.1 hF.2.1 hd (k G p l e s m args below meth c H locs la hF hL hK hZ hP hS hb hl)
theorem aw_lsub {x y : Int64} (hd : decode u.2.2.1 pc = .ok (.lsub, 1)) (k : AW u R ce sl (pc + 1) ls (.long (x - y) :: st) M post) : AW u R ce sl pc ls (.long y :: .long x :: st) M post := by
  intro G p l e s m args below meth c H locs la hF hL hK hZ hP hS hb hl
  exact lv_lsub hF.1 hF.2.1 hd (k G p l e s m args below meth c H locs la hF hL hK hZ hP hS hb hl)
theorem aw_lmul {x y : Int64} (hd : decode u.2.2.1 pc = .ok (.lmul, 1)) (k : AW u R ce sl (pc + 1) ls (.long (x * y) :: st) M post) : AW u R ce sl pc ls (.long y :: .long x :: st) M post := by
  intro G p l e s m args below meth c H locs la hF hL hK hZ hP hS hb hl
  exact lv_lmul hF.1 hF.2.1 hd (k G p l e s m args below meth c H locs la hF hL hK hZ hP hS hb hl)
theorem aw_land {x y : Int64} (hd : decode u.2.2.1 pc = .ok (.land, 1)) (k : AW u R ce sl (pc + 1) ls (.long (x &&& y) :: st) M post) : AW u R ce sl pc ls (.long y :: .long x :: st) M post := by
  intro G p l e s m args below meth c H locs la hF hL hK hZ hP hS hb hl
  exact lv_land hF.1 hF.2.1 hd (k G p l e s m args below meth c H locs la hF hL hK hZ hP hS hb hl)
theorem aw_lor {x y : Int64} (hd : decode u.2.2.1 pc = .ok (.lor, 1)) (k : AW u R ce sl (pc + 1) ls (.long (x ||| y) :: st) M post) : AW u R ce sl pc ls (.long y :: .long x :: st) M post := by
  intro G p l e s m args below meth c H locs la hF hL hK hZ hP hS hb hl
  exact lv_lor hF.1 hF.2.1 hd (k G p l e s m args below meth c H locs la hF hL hK hZ hP hS hb hl)
theorem aw_lxor {x y : Int64} (hd : decode u.2.2.1 pc = .ok (.lxor, 1)) (k : AW u R ce sl (pc + 1) ls (.long (x ^^^ y) :: st) M post) : AW u R ce sl pc ls (.long y :: .long x :: st) M post := by
  intro G p l e s m args below meth c H locs la hF hL hK hZ hP hS hb hl
  exact lv_lxor hF.1 hF.2.1 hd (k G p l e s m args below meth c H locs la hF hL hK hZ hP hS hb hl)
theorem aw_lshl {x : Int64} {y : Int32} (hd : decode u.2.2.1 pc = .ok (.lshl, 1)) (k : AW u R ce sl (pc + 1) ls (.long (x <<< (y.toInt64 &&& 63)) :: st) M post) : AW u R ce sl pc ls (.int y :: .long x :: st) M post := by
  intro G p l e s m args below meth c H locs la hF hL hK hZ hP hS hb hl
  exact lv_lshl hF.1 hF.2.1 hd rfl (k G p l e s m args below meth c H locs la hF hL hK hZ hP hS hb hl)
theorem aw_lshr {x : Int64} {y : Int32} (hd : decode u.2.2.1 pc = .ok (.lshr, 1)) (k : AW u R ce sl (pc + 1) ls (.long (x >>> (y.toInt64 &&& 63)) :: st) M post) : AW u R ce sl pc ls (.int y :: .long x :: st) M post := by
  intro G p l e s m args below meth c H locs la hF hL hK hZ hP hS hb hl
  exact lv_lshr hF.1 hF.2.1 hd rfl (k G p l e s m args below meth c H locs la hF hL hK hZ hP hS hb hl)
theorem aw_i2l {x : Int32} (hd : decode u.2.2.1 pc = .ok (.i2l, 1)) (k : AW u R ce sl (pc + 1) ls (.long x.toInt64 :: st) M post) : AW u R ce sl pc ls (.int x :: st) M post := by
  intro G p l e s m args below meth c H locs la hF hL hK hZ hP hS hb hl
  exact lv_i2l hF.1 hF.2.1 hd rfl (k G p l e s m args below meth c H locs la hF hL hK hZ hP hS hb hl)
theorem aw_l2i {x : Int64} (hd : decode u.2.2.1 pc = .ok (.l2i, 1)) (k : AW u R ce sl (pc + 1) ls (.int x.toInt32 :: st) M post) : AW u R ce sl pc ls (.long x :: st) M post := by
  intro G p l e s m args below meth c H locs la hF hL hK hZ hP hS hb hl
  exact lv_l2i hF.1 hF.2.1 hd rfl (k G p l e s m args below meth c H locs la hF hL hK hZ hP hS hb hl)
theorem aw_dup {va : Value} (hd : decode u.2.2.1 pc = .ok (.dup, 1)) (hv : va.category = 1) (k : AW u R ce sl (pc + 1) ls (va :: va :: st) M post) : AW u R ce sl pc ls (va :: st) M post := by
  intro G p l e s m args below meth c H locs la hF hL hK hZ hP hS hb hl
  exact lv_dup hF.1 hF.2.1 hd ((am_v_cat G va).trans hv) (k G p l e s m args below meth c H locs la hF hL hK hZ hP hS hb hl)
theorem aw_pop {va : Value} (hd : decode u.2.2.1 pc = .ok (.pop, 1)) (hv : va.category = 1) (k : AW u R ce sl (pc + 1) ls (st) M post) : AW u R ce sl pc ls (va :: st) M post := by
  intro G p l e s m args below meth c H locs la hF hL hK hZ hP hS hb hl
  exact lv_pop hF.1 hF.2.1 hd ((am_v_cat G va).trans hv) (k G p l e s m args below meth c H locs la hF hL hK hZ hP hS hb hl)
theorem aw_dup_x1 {va vb : Value} (hd : decode u.2.2.1 pc = .ok (.dup_x1, 1)) (hv : va.category = 1) (hw : vb.category = 1) (k : AW u R ce sl (pc + 1) ls (va :: vb :: va :: st) M post) : AW u R ce sl pc ls (va :: vb :: st) M post := by
  intro G p l e s m args below meth c H locs la hF hL hK hZ hP hS hb hl
  exact lv_dup_x1 hF.1 hF.2.1 hd ((am_v_cat G va).trans hv) ((am_v_cat G vb).trans hw) (k G p l e s m args below meth c H locs la hF hL hK hZ hP hS hb hl)
theorem aw_dup_x2 {va vb vd : Value} (hd : decode u.2.2.1 pc = .ok (.dup_x2, 1)) (hv : va.category = 1) (hw : vb.category = 1) (hz : vd.category = 1) (k : AW u R ce sl (pc + 1) ls (va :: vb :: vd :: va :: st) M post) : AW u R ce sl pc ls (va :: vb :: vd :: st) M post := by
  intro G p l e s m args below meth c H locs la hF hL hK hZ hP hS hb hl
  exact lv_dup_x2 hF.1 hF.2.1 hd ((am_v_cat G va).trans hv) ((am_v_cat G vb).trans hw) ((am_v_cat G vd).trans hz) (k G p l e s m args below meth c H locs la hF hL hK hZ hP hS hb hl)
theorem aw_dup2 {va vb : Value} (hd : decode u.2.2.1 pc = .ok (.dup2, 1)) (hv : va.category = 1) (hw : vb.category = 1) (k : AW u R ce sl (pc + 1) ls (va :: vb :: va :: vb :: st) M post) : AW u R ce sl pc ls (va :: vb :: st) M post := by
  intro G p l e s m args below meth c H locs la hF hL hK hZ hP hS hb hl
  exact lv_dup2_11 hF.1 hF.2.1 hd ((am_v_cat G va).trans hv) ((am_v_cat G vb).trans hw) (k G p l e s m args below meth c H locs la hF hL hK hZ hP hS hb hl)
theorem aw_iload_n {n : Fin 4} {i : Nat} {x : Int32} (hd : decode u.2.2.1 pc = .ok (.iload_n n, 1)) (hi : (n : Nat) = i) (hg : am_get ls i = some (.int x)) (k : AW u R ce sl (pc + 1) ls (.int x :: st) M post) : AW u R ce sl pc ls st M post := by
  intro G p l e s m args below meth c H locs la hF hL hK hZ hP hS hb hl
  exact lv_iload_n hF.1 hF.2.1 hd hi (am_at_get hl hg) (k G p l e s m args below meth c H locs la hF hL hK hZ hP hS hb hl)
theorem aw_iload {i : Nat} {x : Int32} (hd : decode u.2.2.1 pc = .ok (.iload i, 2)) (hg : am_get ls i = some (.int x)) (k : AW u R ce sl (pc + 2) ls (.int x :: st) M post) : AW u R ce sl pc ls st M post := by
  intro G p l e s m args below meth c H locs la hF hL hK hZ hP hS hb hl
  exact lv_iload hF.1 hF.2.1 hd (am_at_get hl hg) (k G p l e s m args below meth c H locs la hF hL hK hZ hP hS hb hl)
theorem aw_lload_n {n : Fin 4} {i : Nat} {x : Int64} (hd : decode u.2.2.1 pc = .ok (.lload_n n, 1)) (hi : (n : Nat) = i) (hg : am_get ls i = some (.long x)) (k : AW u R ce sl (pc + 1) ls (.long x :: st) M post) : AW u R ce sl pc ls st M post := by
  intro G p l e s m args below meth c H locs la hF hL hK hZ hP hS hb hl
  exact lv_lload_n hF.1 hF.2.1 hd hi (am_at_get hl hg) (k G p l e s m args below meth c H locs la hF hL hK hZ hP hS hb hl)
theorem aw_lload {i : Nat} {x : Int64} (hd : decode u.2.2.1 pc = .ok (.lload i, 2)) (hg : am_get ls i = some (.long x)) (k : AW u R ce sl (pc + 2) ls (.long x :: st) M post) : AW u R ce sl pc ls st M post := by
  intro G p l e s m args below meth c H locs la hF hL hK hZ hP hS hb hl
  exact lv_lload hF.1 hF.2.1 hd (am_at_get hl hg) (k G p l e s m args below meth c H locs la hF hL hK hZ hP hS hb hl)
theorem aw_aload_n {n : Fin 4} {i : Nat} {x : Nat} (hd : decode u.2.2.1 pc = .ok (.aload_n n, 1)) (hi : (n : Nat) = i) (hg : am_get ls i = some (.ref x)) (k : AW u R ce sl (pc + 1) ls (.ref x :: st) M post) : AW u R ce sl pc ls st M post := by
  intro G p l e s m args below meth c H locs la hF hL hK hZ hP hS hb hl
  exact lv_aload_n hF.1 hF.2.1 hd hi (am_at_get hl hg) (k G p l e s m args below meth c H locs la hF hL hK hZ hP hS hb hl)
theorem aw_aload {i : Nat} {x : Nat} (hd : decode u.2.2.1 pc = .ok (.aload i, 2)) (hg : am_get ls i = some (.ref x)) (k : AW u R ce sl (pc + 2) ls (.ref x :: st) M post) : AW u R ce sl pc ls st M post := by
  intro G p l e s m args below meth c H locs la hF hL hK hZ hP hS hb hl
  exact lv_aload hF.1 hF.2.1 hd (am_at_get hl hg) (k G p l e s m args below meth c H locs la hF hL hK hZ hP hS hb hl)
theorem aw_istore_n {n : Fin 4} {i : Nat} {x : Int32} {ls' : List (Nat × Value)} (hd : decode u.2.2.1 pc = .ok (.istore_n n, 1)) (hi : (n : Nat) = i) (hn : i < u.2.2.2.1) (hs : am_set i (.int x) ls = ls') (k : AW u R ce sl (pc + 1) ls' st M post) : AW u R ce sl pc ls (.int x :: st) M post := by
  subst hs
  intro G p l e s m args below meth c H locs la hF hL hK hZ hP hS hb hl
  exact lv_istore_n hF.1 hF.2.1 hd hi hl hn (am_lv_set G i (.int x) ls) (fun la hl => k G p l e s m args below meth c H locs la hF hL hK hZ hP hS hb hl)
theorem aw_istore {i : Nat} {x : Int32} {ls' : List (Nat × Value)} (hd : decode u.2.2.1 pc = .ok (.istore i, 2)) (hn : i < u.2.2.2.1) (hs : am_set i (.int x) ls = ls') (k : AW u R ce sl (pc + 2) ls' st M post) : AW u R ce sl pc ls (.int x :: st) M post := by
  subst hs
  intro G p l e s m args below meth c H locs la hF hL hK hZ hP hS hb hl
  exact lv_istore hF.1 hF.2.1 hd hl hn (am_lv_set G i (.int x) ls) (fun la hl => k G p l e s m args below meth c H locs la hF hL hK hZ hP hS hb hl)
theorem aw_lstore_n {n : Fin 4} {i : Nat} {x : Int64} {ls' : List (Nat × Value)} (hd : decode u.2.2.1 pc = .ok (.lstore_n n, 1)) (hi : (n : Nat) = i) (hn : i + 1 < u.2.2.2.1) (hs : am_set2 i (.long x) ls = ls') (k : AW u R ce sl (pc + 1) ls' st M post) : AW u R ce sl pc ls (.long x :: st) M post := by
  subst hs
  intro G p l e s m args below meth c H locs la hF hL hK hZ hP hS hb hl
  exact lv_lstore_n hF.1 hF.2.1 hd hi hl hn (am_lv_set2 G i (.long x) ls) (fun la hl => k G p l e s m args below meth c H locs la hF hL hK hZ hP hS hb hl)
theorem aw_lstore {i : Nat} {x : Int64} {ls' : List (Nat × Value)} (hd : decode u.2.2.1 pc = .ok (.lstore i, 2)) (hn : i + 1 < u.2.2.2.1) (hs : am_set2 i (.long x) ls = ls') (k : AW u R ce sl (pc + 2) ls' st M post) : AW u R ce sl pc ls (.long x :: st) M post := by
  subst hs
  intro G p l e s m args below meth c H locs la hF hL hK hZ hP hS hb hl
  exact lv_lstore hF.1 hF.2.1 hd hl hn (am_lv_set2 G i (.long x) ls) (fun la hl => k G p l e s m args below meth c H locs la hF hL hK hZ hP hS hb hl)
theorem aw_astore_n {n : Fin 4} {i : Nat} {x : Nat} {ls' : List (Nat × Value)} (hd : decode u.2.2.1 pc = .ok (.astore_n n, 1)) (hi : (n : Nat) = i) (hn : i < u.2.2.2.1) (hs : am_set i (.ref x) ls = ls') (k : AW u R ce sl (pc + 1) ls' st M post) : AW u R ce sl pc ls (.ref x :: st) M post := by
  subst hs
  intro G p l e s m args below meth c H locs la hF hL hK hZ hP hS hb hl
  exact lv_astore_n hF.1 hF.2.1 hd hi hl hn (am_lv_set G i (.ref x) ls) (fun la hl => k G p l e s m args below meth c H locs la hF hL hK hZ hP hS hb hl)
theorem aw_astore {i : Nat} {x : Nat} {ls' : List (Nat × Value)} (hd : decode u.2.2.1 pc = .ok (.astore i, 2)) (hn : i < u.2.2.2.1) (hs : am_set i (.ref x) ls = ls') (k : AW u R ce sl (pc + 2) ls' st M post) : AW u R ce sl pc ls (.ref x :: st) M post := by
  subst hs
  intro G p l e s m args below meth c H locs la hF hL hK hZ hP hS hb hl
  exact lv_astore hF.1 hF.2.1 hd hl hn (am_lv_set G i (.ref x) ls) (fun la hl => k G p l e s m args below meth c H locs la hF hL hK hZ hP hS hb hl)
theorem am_lv_mem {G : am_G} {ls : List (Nat × Value)} {i : Nat} {v : Value} (hg : am_get ls i = some v) : ∃ k : Nat, (am_lv G ls)[k]? = some (i, am_v G v) := by
  obtain ⟨k, hk⟩ := List.getElem?_of_mem (am_get_mem hg)
  exact ⟨k, by unfold am_lv; rw [List.getElem?_map, hk]; rfl⟩
theorem aw_iinc {i : Nat} {n : Int} {x v : Int32} {ls' : List (Nat × Value)} (hd : decode u.2.2.1 pc = .ok (.iinc i n, 3)) (hg : am_get ls i = some (.int x)) (hv : x + Int32.ofInt n = v) (hn : i < u.2.2.2.1) (hs : am_set i (.int v) ls = ls') (k : AW u R ce sl (pc + 3) ls' st M post) : AW u R ce sl pc ls st M post := by
  subst hs
  intro G p l e s m args below meth c H locs la hF hL hK hZ hP hS hb hl
  obtain ⟨j, hj⟩ := am_lv_mem (G := G) hg
  exact lv_iinc (k := j) (x := x) hF.1 hF.2.1 hd hl hj hv hn (am_lv_set G i (.int v) ls) (fun la hl => k G p l e s m args below meth c H locs la hF hL hK hZ hP hS hb hl)
theorem aw_if_eq {x : Int32} {off : Int} {tgt : Nat} (hd : decode u.2.2.1 pc = .ok (.ifCond .eq off, 3)) (ht : (pc : Int) + off = (tgt : Int)) (kt : x = 0 → AW u R ce sl tgt ls st M post) (kf : ¬ x = 0 → AW u R ce sl (pc + 3) ls st M post) : AW u R ce sl pc ls (.int x :: st) M post := by
  intro G p l e s m args below meth c H locs la hF hL hK hZ hP hS hb hl
  exact lv_if_eq hF.1 hF.2.1 hd ht (fun h => kt h G p l e s m args below meth c H locs la hF hL hK hZ hP hS hb hl) (fun h => kf h G p l e s m args below meth c H locs la hF hL hK hZ hP hS hb hl)
theorem aw_icmp_eq {x y : Int32} {off : Int} {tgt : Nat} (hd : decode u.2.2.1 pc = .ok (.if_icmp .eq off, 3)) (ht : (pc : Int) + off = (tgt : Int)) (kt : x = y → AW u R ce sl tgt ls st M post) (kf : ¬ x = y → AW u R ce sl (pc + 3) ls st M post) : AW u R ce sl pc ls (.int y :: .int x :: st) M post := by
  intro G p l e s m args below meth c H locs la hF hL hK hZ hP hS hb hl
  exact lv_icmp_eq hF.1 hF.2.1 hd ht (fun h => kt h G p l e s m args below meth c H locs la hF hL hK hZ hP hS hb hl) (fun h => kf h G p l e s m args below meth c H locs la hF hL hK hZ hP hS hb hl)
theorem aw_if_ne {x : Int32} {off : Int} {tgt : Nat} (hd : decode u.2.2.1 pc = .ok (.ifCond .ne off, 3)) (ht : (pc : Int) + off = (tgt : Int)) (kt : ¬ x = 0 → AW u R ce sl tgt ls st M post) (kf : x = 0 → AW u R ce sl (pc + 3) ls st M post) : AW u R ce sl pc ls (.int x :: st) M post := by
  intro G p l e s m args below meth c H locs la hF hL hK hZ hP hS hb hl
  exact lv_if_ne hF.1 hF.2.1 hd ht (fun h => kt h G p l e s m args below meth c H locs la hF hL hK hZ hP hS hb hl) (fun h => kf h G p l e s m args below meth c H locs la hF hL hK hZ hP hS hb hl)
theorem aw_icmp_ne {x y : Int32} {off : Int} {tgt : Nat} (hd : decode u.2.2.1 pc = .ok (.if_icmp .ne off, 3)) (ht : (pc : Int) + off = (tgt : Int)) (kt : ¬ x = y → AW u R ce sl tgt ls st M post) (kf : x = y → AW u R ce sl (pc + 3) ls st M post) : AW u R ce sl pc ls (.int y :: .int x :: st) M post := by
  intro G p l e s m args below meth c H locs la hF hL hK hZ hP hS hb hl
  exact lv_icmp_ne hF.1 hF.2.1 hd ht (fun h => kt h G p l e s m args below meth c H locs la hF hL hK hZ hP hS hb hl) (fun h => kf h G p l e s m args below meth c H locs la hF hL hK hZ hP hS hb hl)
theorem aw_if_lt {x : Int32} {off : Int} {tgt : Nat} (hd : decode u.2.2.1 pc = .ok (.ifCond .lt off, 3)) (ht : (pc : Int) + off = (tgt : Int)) (kt : x < 0 → AW u R ce sl tgt ls st M post) (kf : ¬ x < 0 → AW u R ce sl (pc + 3) ls st M post) : AW u R ce sl pc ls (.int x :: st) M post := by
  intro G p l e s m args below meth c H locs la hF hL hK hZ hP hS hb hl
  exact lv_if_lt hF.1 hF.2.1 hd ht (fun h => kt h G p l e s m args below meth c H locs la hF hL hK hZ hP hS hb hl) (fun h => kf h G p l e s m args below meth c H locs la hF hL hK hZ hP hS hb hl)
theorem aw_icmp_lt {x y : Int32} {off : Int} {tgt : Nat} (hd : decode u.2.2.1 pc = .ok (.if_icmp .lt off, 3)) (ht : (pc : Int) + off = (tgt : Int)) (kt : x < y → AW u R ce sl tgt ls st M post) (kf : ¬ x < y → AW u R ce sl (pc + 3) ls st M post) : AW u R ce sl pc ls (.int y :: .int x :: st) M post := by
  intro G p l e s m args below meth c H locs la hF hL hK hZ hP hS hb hl
  exact lv_icmp_lt hF.1 hF.2.1 hd ht (fun h => kt h G p l e s m args below meth c H locs la hF hL hK hZ hP hS hb hl) (fun h => kf h G p l e s m args below meth c H locs la hF hL hK hZ hP hS hb hl)
theorem aw_if_ge {x : Int32} {off : Int} {tgt : Nat} (hd : decode u.2.2.1 pc = .ok (.ifCond .ge off, 3)) (ht : (pc : Int) + off = (tgt : Int)) (kt : 0 ≤ x → AW u R ce sl tgt ls st M post) (kf : ¬ 0 ≤ x → AW u R ce sl (pc + 3) ls st M post) : AW u R ce sl pc ls (.int x :: st) M post := by
  intro G p l e s m args below meth c H locs la hF hL hK hZ hP hS hb hl
  exact lv_if_ge hF.1 hF.2.1 hd ht (fun h => kt h G p l e s m args below meth c H locs la hF hL hK hZ hP hS hb hl) (fun h => kf h G p l e s m args below meth c H locs la hF hL hK hZ hP hS hb hl)
theorem aw_icmp_ge {x y : Int32} {off : Int} {tgt : Nat} (hd : decode u.2.2.1 pc = .ok (.if_icmp .ge off, 3)) (ht : (pc : Int) + off = (tgt : Int)) (kt : y ≤ x → AW u R ce sl tgt ls st M post) (kf : ¬ y ≤ x → AW u R ce sl (pc + 3) ls st M post) : AW u R ce sl pc ls (.int y :: .int x :: st) M post := by
  intro G p l e s m args below meth c H locs la hF hL hK hZ hP hS hb hl
  exact lv_icmp_ge hF.1 hF.2.1 hd ht (fun h => kt h G p l e s m args below meth c H locs la hF hL hK hZ hP hS hb hl) (fun h => kf h G p l e s m args below meth c H locs la hF hL hK hZ hP hS hb hl)
theorem aw_if_gt {x : Int32} {off : Int} {tgt : Nat} (hd : decode u.2.2.1 pc = .ok (.ifCond .gt off, 3)) (ht : (pc : Int) + off = (tgt : Int)) (kt : 0 < x → AW u R ce sl tgt ls st M post) (kf : ¬ 0 < x → AW u R ce sl (pc + 3) ls st M post) : AW u R ce sl pc ls (.int x :: st) M post := by
  intro G p l e s m args below meth c H locs la hF hL hK hZ hP hS hb hl
  exact lv_if_gt hF.1 hF.2.1 hd ht (fun h => kt h G p l e s m args below meth c H locs la hF hL hK hZ hP hS hb hl) (fun h => kf h G p l e s m args below meth c H locs la hF hL hK hZ hP hS hb hl)
theorem aw_icmp_gt {x y : Int32} {off : Int} {tgt : Nat} (hd : decode u.2.2.1 pc = .ok (.if_icmp .gt off, 3)) (ht : (pc : Int) + off = (tgt : Int)) (kt : y < x → AW u R ce sl tgt ls st M post) (kf : ¬ y < x → AW u R ce sl (pc + 3) ls st M post) : AW u R ce sl pc ls (.int y :: .int x :: st) M post := by
  intro G p l e s m args below meth c H locs la hF hL hK hZ hP hS hb hl
  exact lv_icmp_gt hF.1 hF.2.1 hd ht (fun h => kt h G p l e s m args below meth c H locs la hF hL hK hZ hP hS hb hl) (fun h => kf h G p l e s m args below meth c H locs la hF hL hK hZ hP hS hb hl)
theorem aw_if_le {x : Int32} {off : Int} {tgt : Nat} (hd : decode u.2.2.1 pc = .ok (.ifCond .le off, 3)) (ht : (pc : Int) + off = (tgt : Int)) (kt : x ≤ 0 → AW u R ce sl tgt ls st M post) (kf : ¬ x ≤ 0 → AW u R ce sl (pc + 3) ls st M post) : AW u R ce sl pc ls (.int x :: st) M post := by
  intro G p l e s m args below meth c H locs la hF hL hK hZ hP hS hb hl
  exact lv_if_le hF.1 hF.2.1 hd ht (fun h => kt h G p l e s m args below meth c H locs la hF hL hK hZ hP hS hb hl) (fun h => kf h G p l e s m args below meth c H locs la hF hL hK hZ hP hS hb hl)
theorem aw_icmp_le {x y : Int32} {off : Int} {tgt : Nat} (hd : decode u.2.2.1 pc = .ok (.if_icmp .le off, 3)) (ht : (pc : Int) + off = (tgt : Int)) (kt : x ≤ y → AW u R ce sl tgt ls st M post) (kf : ¬ x ≤ y → AW u R ce sl (pc + 3) ls st M post) : AW u R ce sl pc ls (.int y :: .int x :: st) M post := by
  intro G p l e s m args below meth c H locs la hF hL hK hZ hP hS hb hl
  exact lv_icmp_le hF.1 hF.2.1 hd ht (fun h => kt h G p l e s m args below meth c H locs la hF hL hK hZ hP hS hb hl) (fun h => kf h G p l e s m args below meth c H locs la hF hL hK hZ hP hS hb hl)
theorem aw_goto {off : Int} {tgt : Nat} (hd : decode u.2.2.1 pc = .ok (.goto off, 3)) (ht : (pc : Int) + off = (tgt : Int)) (k : AW u R ce sl tgt ls st M post) : AW u R ce sl pc ls st M post := by
  intro G p l e s m args below meth c H locs la hF hL hK hZ hP hS hb hl
  exact lv_goto hF.1 hF.2.1 hd ht (k G p l e s m args below meth c H locs la hF hL hK hZ hP hS hb hl)
theorem aw_lookup {dflt : Int} {ps : Array (Int × Int)} {len : Nat} {x : Int32} {off : Int} {tgt : Nat} (hd : decode u.2.2.1 pc = .ok (.lookupswitch dflt ps, len)) (hp : (ps.toList.zip (ps.toList.drop 1)).all (fun (a, next) => a.1 < next.1) = true) (ho : Op.lookupswitch.offset ps.toList dflt x.toInt = off) (ht : (pc : Int) + off = (tgt : Int)) (k : AW u R ce sl tgt ls st M post) : AW u R ce sl pc ls (.int x :: st) M post := by
  intro G p l e s m args below meth c H locs la hF hL hK hZ hP hS hb hl
  exact lv_lookup hF.1 hF.2.1 hd hp ho ht (k G p l e s m args below meth c H locs la hF hL hK hZ hP hS hb hl)
theorem aw_tableOut {dflt lo hi : Int} {offs : Array Int} {len : Nat} {x : Int32} {tgt : Nat} (hd : decode u.2.2.1 pc = .ok (.tableswitch dflt lo hi offs, len)) (h : x.toInt < lo ∨ hi < x.toInt) (ht : (pc : Int) + dflt = (tgt : Int)) (k : AW u R ce sl tgt ls st M post) : AW u R ce sl pc ls (.int x :: st) M post := by
  intro G p l e s m args below meth c H locs la hF hL hK hZ hP hS hb hl
  exact lv_tableOut hF.1 hF.2.1 hd h ht (k G p l e s m args below meth c H locs la hF hL hK hZ hP hS hb hl)
theorem aw_tableIn {dflt lo hi : Int} {offs : Array Int} {len : Nat} {x : Int32} {off : Int} {tgt : Nat} (hd : decode u.2.2.1 pc = .ok (.tableswitch dflt lo hi offs, len)) (h1 : ¬ x.toInt < lo) (h2 : ¬ hi < x.toInt) (ho : offs[(x.toInt - lo).toNat]? = some off) (ht : (pc : Int) + off = (tgt : Int)) (k : AW u R ce sl tgt ls st M post) : AW u R ce sl pc ls (.int x :: st) M post := by
  intro G p l e s m args below meth c H locs la hF hL hK hZ hP hS hb hl
  exact lv_tableIn hF.1 hF.2.1 hd h1 h2 ho ht (k G p l e s m args below meth c H locs la hF hL hK hZ hP hS hb hl)
theorem aw_ldc {idx : Nat} {v : Int32} (hd : decode u.2.2.1 pc = .ok (.ldc idx, 2)) (hw : Cond.constant u.1 idx v ∈ lw_tbl) (k : AW u R ce sl (pc + 2) ls (.int v :: st) M post) : AW u R ce sl pc ls st M post := by
  intro G p l e s m args below meth c H locs la hF hL hK hZ hP hS hb hl
  exact lv_ldc hF.1 hF.2.1 hF.2.2.2.1 (hF.2.2.2.2.1 _ (am_mem hw rfl)) hd (k G p l e s m args below meth c H locs la hF hL hK hZ hP hS hb hl)
theorem aw_ldc2 {idx : Nat} {v : Int64} (hd : decode u.2.2.1 pc = .ok (.ldc2_w idx, 3)) (hw : Cond.constantLong u.1 idx v ∈ lw_tbl) (k : AW u R ce sl (pc + 3) ls (.long v :: st) M post) : AW u R ce sl pc ls st M post := by
  intro G p l e s m args below meth c H locs la hF hL hK hZ hP hS hb hl
  exact lv_ldc2 hF.1 hF.2.1 hF.2.2.2.1 (hF.2.2.2.2.1 _ (am_mem hw rfl)) hd (k G p l e s m args below meth c H locs la hF hL hK hZ hP hS hb hl)
theorem aw_more {ce' sl' : Nat} (h1 : ce ≤ ce') (h2 : sl ≤ sl') (k : AW u R ce' sl' pc ls st M post) : AW u R ce sl pc ls st M post := by
  intro G p l e s m args below meth c H locs la hF hL hK hZ hP hS hb hl
  exact W.widen h1 h2 (k G p l e s m args below meth c H locs la hF hL hK hZ hP hS hb hl)
theorem am_MQ_of {G : am_G} {below : List Frame} {args : Array Value} {s t : State} {mc ms : Nat} {r : Option Value} {H : Heap} {locs : List Loc} (hP : am_P G M H) (hS : va_S (am_A G) s.heap H locs) (hp : post (.inl r) M)
    (h : MQ below (fun _ _ o t => o = .returned (r.map (am_v G)) ∧ t.heap = H) args s mc ms (am_A G) t) : am_MQ G below post mc ms s t := by
  obtain ⟨o, h1, h2, ⟨h3, h4⟩, L, ⟨-, h5, h6⟩, h7⟩ := h
  exact ⟨o, h1, h2, ⟨.inl r, M, hp, h3, by rw [h4]; exact hP⟩, hS.F h4, L, ⟨h5, h6⟩, h7⟩
theorem aw_ireturn {v : Int32} (hd : decode u.2.2.1 pc = .ok (.ireturn, 1)) (hr : u.2.2.2.2.1 = some .int) (h1 : ce ≤ R.cells) (h2 : sl ≤ R.slots) (hp : post (.inl (some (.int v))) M) : AW u R ce sl pc ls ([.int v]) M post := by
  intro G p l e s m args below meth c H locs la hF hL hK hZ hP hS hb hl
  refine W.widen h1 h2 (am_W_mono (fun t h => am_MQ_of (args := args) (r := (some (.int v))) hP hS hp h) ?_)
  exact W.iret hF.1 hF.2.1 (hF.2.2.2.2.2.1.trans hr) (fun t ht _ => ⟨rfl, ht⟩) hS.2.2 hd hF.2.2.2.2.2.2.1
theorem aw_zreturn {v : Int32} (hd : decode u.2.2.1 pc = .ok (.ireturn, 1)) (hr : u.2.2.2.2.1 = some .boolean) (hz : narrow .boolean (.int v) = .int v) (h1 : ce ≤ R.cells) (h2 : sl ≤ R.slots) (hp : post (.inl (some (.int v))) M) : AW u R ce sl pc ls ([.int v]) M post := by
  intro G p l e s m args below meth c H locs la hF hL hK hZ hP hS hb hl
  refine W.widen h1 h2 (am_W_mono (fun t h => am_MQ_of (args := args) (r := (some (.int v))) hP hS hp h) ?_)
  exact W.zret hF.1 hF.2.1 (hF.2.2.2.2.2.1.trans hr) hz (fun t ht _ => ⟨rfl, ht⟩) hS.2.2 hd hF.2.2.2.2.2.2.1
theorem aw_vreturn (hd : decode u.2.2.1 pc = .ok (.return_, 1)) (hr : u.2.2.2.2.1 = none) (h1 : ce ≤ R.cells) (h2 : sl ≤ R.slots) (hp : post (.inl none) M) : AW u R ce sl pc ls ([]) M post := by
  intro G p l e s m args below meth c H locs la hF hL hK hZ hP hS hb hl
  refine W.widen h1 h2 (am_W_mono (fun t h => am_MQ_of (args := args) (r := none) hP hS hp h) ?_)
  exact W.vret hF.1 hF.2.1 (hF.2.2.2.2.2.1.trans hr) (fun t ht _ => ⟨rfl, ht⟩) hS.2.2 hd hF.2.2.2.2.2.2.1
theorem aw_lreturn {v : Int64} (hd : decode u.2.2.1 pc = .ok (.lreturn, 1)) (hr : u.2.2.2.2.1 = some .long) (h1 : ce ≤ R.cells) (h2 : sl ≤ R.slots) (hp : post (.inl (some (.long v))) M) : AW u R ce sl pc ls ([.long v]) M post := by
  intro G p l e s m args below meth c H locs la hF hL hK hZ hP hS hb hl
  refine W.widen h1 h2 (am_W_mono (fun t h => am_MQ_of (args := args) (r := (some (.long v))) hP hS hp h) ?_)
  exact W.lret hF.1 hF.2.1 (hF.2.2.2.2.2.1.trans hr) (fun t ht _ => ⟨rfl, ht⟩) hS.2.2 hd hF.2.2.2.2.2.2.1
theorem aw_areturn {v : Nat} {nm : String} (hd : decode u.2.2.1 pc = .ok (.areturn, 1)) (hr : u.2.2.2.2.1 = some (.object nm)) (h1 : ce ≤ R.cells) (h2 : sl ≤ R.slots) (hp : post (.inl (some (.ref v))) M) : AW u R ce sl pc ls ([.ref v]) M post := by
  intro G p l e s m args below meth c H locs la hF hL hK hZ hP hS hb hl
  refine W.widen h1 h2 (am_W_mono (fun t h => am_MQ_of (args := args) (r := (some (.ref v))) hP hS hp h) ?_)
  exact W.aret hF.1 hF.2.1 (hF.2.2.2.2.2.1.trans hr) (Or.inl ⟨nm, rfl⟩) (Or.inr ⟨_, rfl⟩) (fun t ht _ => ⟨rfl, ht⟩) hS.2.2 hd hF.2.2.2.2.2.2.1
end AWR
end
section
/-! ===== rows of the judgement AW over fields and arrays ===== -/
def am_same (M M1 : am_M) (i : Nat) : Prop := am_s M1 i = am_s M i ∧ am_i M1 i = am_i M i ∧ am_l M1 i = am_l M i ∧ am_r M1 i = am_r M i
theorem am_fv_same {G : am_G} {M M1 : am_M} {i : Nat} (h : am_same M M1 i) (ty : FieldType) (k : Nat) : am_fv G M1 i ty k = am_fv G M i ty k := by
  obtain ⟨-, h2, h3, h4⟩ := h
  unfold am_fv
  rw [h2, h3, h4]
theorem am_at.kept {G : am_G} {M M1 : am_M} {i : Nat} {H H1 : Heap} (h : am_at G M i H) (hs : am_same M M1 i) (hq : H1[am_a G i]? = H[am_a G i]?) : am_at G M1 i H1 := by
  have hf := am_fv_same (G := G) hs
  unfold am_at at h ⊢
  rw [hs.1]
  cases hc : (am_s M i).1 with
  | zero =>
    rw [hc] at h
    exact ⟨h.1, (h.2.kept hq).to (fun k _ => (hf _ k).symm)⟩
  | succ j =>
    rw [hc] at h
    refine ⟨h.1, ?_⟩
    simp only [hf]
    exact hq.trans h.2
theorem am_P.put {G : am_G} {M M1 : am_M} {H H1 : Heap} {i : Nat} (h : am_P G M H) (hi : i < am_n M) (hn : am_n M1 = am_n M) (hx : am_x M1 = am_x M) (ho : ∀ j, j ≠ i → am_same M M1 j) (z : H1.size = H.size) (oq : ∀ q, q ≠ am_a G i → H1[q]? = H[q]?) (hat : am_at G M1 i H1) : am_P G M1 H1 := by
  obtain ⟨h1, h2, h3⟩ := h
  refine ⟨by rw [z, h1, hn, hx], by rw [hn]; exact h2, fun j hj => ?_⟩
  rw [hn] at hj
  by_cases e : j = i
  · subst e
    exact hat
  · exact (h3 j hj).kept (ho j e) (oq _ (by rw [am_a_lt (Nat.lt_of_lt_of_le hj h2), am_a_lt (Nat.lt_of_lt_of_le hi h2)]; omega))
/-- the memories behind a write -/
def am_pi (M : am_M) (i k : Nat) (x : Int32) : am_M := (M.1, M.2.1, fun a b => if a = i ∧ b = k then x else M.2.2.1 a b, M.2.2.2.1, M.2.2.2.2.1, M.2.2.2.2.2)
def am_pl (M : am_M) (i k : Nat) (x : Int64) : am_M := (M.1, M.2.1, M.2.2.1, fun a b => if a = i ∧ b = k then x else M.2.2.2.1 a b, M.2.2.2.2.1, M.2.2.2.2.2)
def am_pr (M : am_M) (i k : Nat) (x : Option Nat) : am_M := (M.1, M.2.1, M.2.2.1, M.2.2.2.1, fun a b => if a = i ∧ b = k then x else M.2.2.2.2.1 a b, M.2.2.2.2.2)
theorem am_pi_o (M : am_M) (i k : Nat) (x : Int32) : ∀ j, j ≠ i → am_same M (am_pi M i k x) j := fun j hj => ⟨rfl, funext fun b => if_neg (fun q => hj q.1), rfl, rfl⟩
theorem am_pl_o (M : am_M) (i k : Nat) (x : Int64) : ∀ j, j ≠ i → am_same M (am_pl M i k x) j := fun j hj => ⟨rfl, rfl, funext fun b => if_neg (fun q => hj q.1), rfl⟩
theorem am_pr_o (M : am_M) (i k : Nat) (x : Option Nat) : ∀ j, j ≠ i → am_same M (am_pr M i k x) j := fun j hj => ⟨rfl, rfl, rfl, funext fun b => if_neg (fun q => hj q.1)⟩
/-- kinds of types -/
def am_tI (ty : FieldType) : Prop := ty = .int ∨ ty = .boolean
def am_tR (ty : FieldType) : Prop := (∃ n, ty = .object n) ∨ ∃ t, ty = .array t
theorem am_fv_I {G : am_G} {M : am_M} {i k : Nat} {ty : FieldType} (h : am_tI ty) : am_fv G M i ty k = .int (am_i M i k) := by rcases h with rfl | rfl <;> rfl
theorem am_fv_L {G : am_G} {M : am_M} {i k : Nat} : am_fv G M i .long k = .long (am_l M i k) := rfl
theorem am_fv_R {G : am_G} {M : am_M} {i k : Nat} {ty : FieldType} (h : am_tR ty) : am_fv G M i ty k = va_rf ((am_r M i k).map (am_a G)) := by rcases h with ⟨n, rfl⟩ | ⟨t, rfl⟩ <;> rfl
theorem am_hv_pi {G : am_G} {M : am_M} {i k : Nat} {x : Int32} {ty : Nat → FieldType} (h : am_tI (ty k)) (b : Nat) : am_fv G (am_pi M i k x) i (ty b) b = if b = k then .int x else am_fv G M i (ty b) b := by
  by_cases hb : b = k
  · subst hb
    rw [if_pos rfl, am_fv_I h]
    show Value.int (if i = i ∧ b = b then x else _) = _
    rw [if_pos ⟨rfl, rfl⟩]
  · rw [if_neg hb]
    have e1 : am_i (am_pi M i k x) i b = am_i M i b := if_neg (fun q => hb q.2)
    unfold am_fv
    rw [e1]
    rfl
theorem am_hv_pl {G : am_G} {M : am_M} {i k : Nat} {x : Int64} {ty : Nat → FieldType} (h : ty k = .long) (b : Nat) : am_fv G (am_pl M i k x) i (ty b) b = if b = k then .long x else am_fv G M i (ty b) b := by
  by_cases hb : b = k
  · subst hb
    rw [if_pos rfl, h, am_fv_L]
    show Value.long (if i = i ∧ b = b then x else _) = _
    rw [if_pos ⟨rfl, rfl⟩]
  · rw [if_neg hb]
    have e1 : am_l (am_pl M i k x) i b = am_l M i b := if_neg (fun q => hb q.2)
    unfold am_fv
    rw [e1]
    rfl
theorem am_hv_pr {G : am_G} {M : am_M} {i k : Nat} {x : Option Nat} {ty : Nat → FieldType} (h : am_tR (ty k)) (b : Nat) : am_fv G (am_pr M i k x) i (ty b) b = if b = k then va_rf (x.map (am_a G)) else am_fv G M i (ty b) b := by
  by_cases hb : b = k
  · subst hb
    rw [if_pos rfl, am_fv_R h]
    show va_rf (Option.map (am_a G) (if i = i ∧ b = b then x else _)) = _
    rw [if_pos ⟨rfl, rfl⟩]
  · rw [if_neg hb]
    have e1 : am_r (am_pr M i k x) i b = am_r M i b := if_neg (fun q => hb q.2)
    unfold am_fv
    rw [e1]
    rfl
/-- a field by its link: the entry of the class's pool, the class and the place of the field -/
def am_fl (own : String) (idx c k : Nat) : Prop := c < 11 ∧ k < am_N c ∧ Cond.fieldLink own idx (am_C c) (am_T c k).2.1 (am_T c k).2.2.1 ∈ lw_tbl
section AWH
variable {u : am_U} {R : Room} {ce sl pc : Nat} {ls : List (Nat × Value)} {st : List Value} {M : am_M} {post : am_R → am_M → Prop}
variable {p : Program} {l : Launch} {e : Env} {s : State} {m : MethodId} {args : Array Value} {below : List Frame} {meth : Method} {c : Code} {H : Heap} {locs : List Loc} {la : Array Slot} {Q : State → Prop} {rest : List Value} {G : am_G}
theorem am_getW {i ci k idx : Nat} (hF : am_F u p s m args meth c) (hK : am_K G s) (hP : am_P G M H) (hd : decode u.2.2.1 pc = .ok (.getfield idx, 3)) (hf : am_fl u.1 idx ci k) (hi : i < am_n M) (hs : am_s M i = (0, ci))
    (kk : W p l e R s m args below meth c H locs ce sl Q (F0 m (pc + 3) la (am_fv G M i (am_ty ci k) k :: rest))) : W p l e R s m args below meth c H locs ce sl Q (F0 m pc la (.ref (am_a G i) :: rest)) := by
  have hat := hP.2.2 i hi
  unfold am_at at hat
  rw [hs] at hat
  obtain ⟨hc, cell, q1, q2, q3, q4⟩ := hat
  obtain ⟨-, hk, hlink⟩ := hf
  obtain ⟨hS', hfc, kC, hkC, hkind⟩ := hK.1 ci _ (am_cl_get hc)
  obtain ⟨cf, kf, fi, f, hi', hsl⟩ := hS' k hk
  have hts := hF.2.2.2.2.1
  have hst := (u_facts hfc hkC (u_lays hts (am_in hc) hk) hi').1
  refine W.getf hF.1 hF.2.1 hF.2.2.2.1 (hts _ (am_mem hlink rfl)) (by rw [← am_ow hc k hk]; exact hi') hst q1 (by rw [q3]; intro q; cases q) (by rw [hsl]; exact q4 k hk) rfl rfl hd kk
theorem aw_geti {i ci k idx : Nat} (hd : decode u.2.2.1 pc = .ok (.getfield idx, 3)) (hf : am_fl u.1 idx ci k) (hi : i < am_n M) (hs : am_s M i = (0, ci)) (ht : am_tI (am_ty ci k)) (k : AW u R ce sl (pc + 3) ls (.int (am_i M i k) :: st) M post) : AW u R ce sl pc ls (.ref i :: st) M post := by
  intro G p l e s m args below meth c H locs la hF hL hK hZ hP hS hb hl
  refine am_getW hF hK hP hd hf hi hs ?_
  rw [am_fv_I ht]
  exact k G p l e s m args below meth c H locs la hF hL hK hZ hP hS hb hl
theorem aw_getr {i ci k idx j : Nat} (hd : decode u.2.2.1 pc = .ok (.getfield idx, 3)) (hf : am_fl u.1 idx ci k) (hi : i < am_n M) (hs : am_s M i = (0, ci)) (ht : am_tR (am_ty ci k)) (hj : am_r M i k = some j) (k : AW u R ce sl (pc + 3) ls (.ref j :: st) M post) : AW u R ce sl pc ls (.ref i :: st) M post := by
  intro G p l e s m args below meth c H locs la hF hL hK hZ hP hS hb hl
  refine am_getW hF hK hP hd hf hi hs ?_
  rw [am_fv_R ht, hj]
  exact k G p l e s m args below meth c H locs la hF hL hK hZ hP hS hb hl
theorem am_putW {i ci k idx : Nat} {v : Value} {M1 : am_M} (hF : am_F u p s m args meth c) (hK : am_K G s) (hP : am_P G M H) (hS : va_S (am_A G) s.heap H locs) (hd : decode u.2.2.1 pc = .ok (.putfield idx, 3)) (hf : am_fl u.1 idx ci k) (hi : i < am_n M) (hs : am_s M i = (0, ci))
    (hfin : (am_T ci k).2.2.2 = false ∨ ((am_T ci k).2.2.2 = true ∧ u.2.1 = "<init>" ∧ u.1 = am_C ci)) (hn : narrow (am_ty ci k) v = v) (hfit : fits (am_ty ci k) v = true)
    (hn1 : am_n M1 = am_n M) (hx1 : am_x M1 = am_x M) (hs1 : am_s M1 i = am_s M i) (ho : ∀ j, j ≠ i → am_same M M1 j) (hv : ∀ b, b < am_N ci → am_fv G M1 i (am_ty ci b) b = if b = k then v else am_fv G M i (am_ty ci b) b)
    (kk : ∀ (H1 : Heap) (locs1 : List Loc), am_P G M1 H1 → va_S (am_A G) s.heap H1 locs1 → W p l e R s m args below meth c H1 locs1 ce sl Q (F0 m (pc + 3) la rest)) : W p l e R s m args below meth c H locs ce sl Q (F0 m pc la (v :: .ref (am_a G i) :: rest)) := by
  have hat := hP.2.2 i hi
  unfold am_at at hat
  rw [hs] at hat
  obtain ⟨hc, cell, q1, q2, q3, q4⟩ := hat
  obtain ⟨-, hk, hlink⟩ := hf
  have hKn := hK.1 ci _ (am_cl_get hc)
  obtain ⟨hS', hfc, kC, hkC, hkind⟩ := hKn
  obtain ⟨cf, kf, fi, f, hi', hsl⟩ := hS' k hk
  have hts := hF.2.2.2.2.1
  have hap := va_apart (own := u.1) hts (am_in hc) (am_ty ci) (am_tk hc) (am_nm hc) hK (am_cl_get hc)
  have hst := (u_facts hfc hkC (u_lays hts (am_in hc) hk) hi').1
  have hiC : s.fieldFound? (am_C ci) (am_T ci k).2.1 (am_T ci k).2.2.1 = some (cf, kf, fi, f) := by rw [← am_ow hc k hk]; exact hi'
  have fin : ∀ H' : Heap, H'[am_a G i]? = some (cell.setSlot f.slot v) → H'.size = H.size → (∀ q, q ≠ am_a G i → H'[q]? = H[q]?) → W p l e R s m args below meth c H' (locs ++ [⟨am_a G i, f.slot⟩]) ce sl Q (F0 m (pc + 3) la rest) := by
    intro H' e1 e2 e3
    refine kk H' _ (hP.put hi hn1 hx1 ho e2 e3 ?_) (hS.put e2 e3 (by show am_b G ≤ am_a G i; rw [am_a_lt (Nat.lt_of_lt_of_le hi hP.2.1)]; omega))
    unfold am_at
    rw [hs1, hs]
    refine ⟨hc, cell.setSlot f.slot v, e1, q2, q3, fun j hj => ?_⟩
    rw [hsl, t_set q4 hap hk v j hj]
    show some (updV _ k v j) = some (am_fv G M1 i (am_ty ci j) j)
    rw [hv j hj]
    rfl
  rcases hfin with hfin | ⟨hft, hini, hown⟩
  · have hlay := hts _ (am_in hc _ (u_in_lay hk))
    unfold u_lay at hlay
    rw [if_neg (by rw [hfin]; decide)] at hlay
    have h6 := u_store hfc hkC hkind hlay hi' (am_tk hc k hk) hn hfit
    exact W.putK hF.1 hF.2.1 (f := f) ⟨hF.2.2.2.1, hts _ (am_mem hlink rfl), ⟨_, _, _, hiC⟩, hst⟩ (by rw [q2]; exact h6) q1 q3 (by rw [hsl]; exact k2_hasslot (q4 k hk)) rfl rfl hd fin
  · have hlay := hts _ (am_in hc _ (u_in_lay hk))
    unfold u_lay at hlay
    rw [if_pos hft] at hlay
    have hcf : m.cls = cf := by
      obtain ⟨_, _, c', _, _, _, -, -, hf', -, -, -, hown2, -⟩ := Cond.laysFinal_spec hlay
      have e1 : c' = cf := by have := hi'.symm.trans hf'; simp at this; exact this.1.symm
      have h8 := hF.2.2.2.1
      rw [hown, ← am_ow hc k hk] at h8
      rw [← e1]; exact Option.some.inj (h8.symm.trans hown2)
    have h6 := u_fits hfc hkC hkind (Or.inr hlay) hi' (am_tk hc k hk) hn hfit
    exact W.putFinK hF.1 hF.2.1 hF.2.2.2.1 (hts _ (am_mem hlink rfl)) hiC hst hcf (hF.2.2.2.2.2.2.2.1.trans hini) (by rw [q2]; exact h6) q1 q3 (by rw [hsl]; exact k2_hasslot (q4 k hk)) rfl rfl hd fin
theorem am_zn {x : Int32} (h : x = 0 ∨ x = 1) : narrow .boolean (.int x) = .int x ∧ fits .boolean (.int x) = true := by rcases h with rfl | rfl <;> exact ⟨by decide, by decide⟩
theorem aw_puti {i ci k idx : Nat} {x : Int32} (hd : decode u.2.2.1 pc = .ok (.putfield idx, 3)) (hf : am_fl u.1 idx ci k) (hi : i < am_n M) (hs : am_s M i = (0, ci)) (ht : am_ty ci k = .int) (hfin : (am_T ci k).2.2.2 = false) (kk : AW u R ce sl (pc + 3) ls st (am_pi M i k x) post) : AW u R ce sl pc ls (.int x :: .ref i :: st) M post := by
  intro G p l e s m args below meth c H locs la hF hL hK hZ hP hS hb hl
  refine am_putW (M1 := am_pi M i k x) (v := .int x) hF hK hP hS hd hf hi hs (Or.inl hfin) (by rw [ht]; rfl) (by rw [ht]; rfl) rfl rfl rfl (am_pi_o M i k x) (fun b _ => am_hv_pi (ty := am_ty ci) (Or.inl ht) b) (fun H1 locs1 hP1 hS1 => ?_)
  exact kk G p l e s m args below meth c H1 locs1 la hF hL hK hZ hP1 hS1 hb hl
theorem aw_putz {i ci k idx : Nat} {x : Int32} (hd : decode u.2.2.1 pc = .ok (.putfield idx, 3)) (hf : am_fl u.1 idx ci k) (hi : i < am_n M) (hs : am_s M i = (0, ci)) (ht : am_ty ci k = .boolean) (hfin : (am_T ci k).2.2.2 = false) (hx : x = 0 ∨ x = 1) (kk : AW u R ce sl (pc + 3) ls st (am_pi M i k x) post) : AW u R ce sl pc ls (.int x :: .ref i :: st) M post := by
  intro G p l e s m args below meth c H locs la hF hL hK hZ hP hS hb hl
  refine am_putW (M1 := am_pi M i k x) (v := .int x) hF hK hP hS hd hf hi hs (Or.inl hfin) (by rw [ht]; exact (am_zn hx).1) (by rw [ht]; exact (am_zn hx).2) rfl rfl rfl (am_pi_o M i k x) (fun b _ => am_hv_pi (ty := am_ty ci) (Or.inr ht) b) (fun H1 locs1 hP1 hS1 => ?_)
  exact kk G p l e s m args below meth c H1 locs1 la hF hL hK hZ hP1 hS1 hb hl
theorem am_rn {ty : FieldType} (h : am_tR ty) (a : Nat) : narrow ty (.ref a) = .ref a ∧ fits ty (.ref a) = true := by rcases h with ⟨n, rfl⟩ | ⟨t, rfl⟩ <;> exact ⟨rfl, rfl⟩
/-- a final reference, in a constructor -/
theorem aw_putr {i ci k idx j : Nat} (hd : decode u.2.2.1 pc = .ok (.putfield idx, 3)) (hf : am_fl u.1 idx ci k) (hi : i < am_n M) (hs : am_s M i = (0, ci)) (ht : am_tR (am_ty ci k)) (hfin : (am_T ci k).2.2.2 = true ∧ u.2.1 = "<init>" ∧ u.1 = am_C ci) (kk : AW u R ce sl (pc + 3) ls st (am_pr M i k (some j)) post) : AW u R ce sl pc ls (.ref j :: .ref i :: st) M post := by
  intro G p l e s m args below meth c H locs la hF hL hK hZ hP hS hb hl
  refine am_putW (M1 := am_pr M i k (some j)) (v := .ref (am_a G j)) hF hK hP hS hd hf hi hs (Or.inr hfin) (am_rn ht _).1 (am_rn ht _).2 rfl rfl rfl (am_pr_o M i k (some j)) (fun b _ => am_hv_pr (ty := am_ty ci) ht b) (fun H1 locs1 hP1 hS1 => ?_)
  exact kk G p l e s m args below meth c H1 locs1 la hF hL hK hZ hP1 hS1 hb hl
/-- an index and the place that it names -/
def am_ix (j : Int32) (len n : Nat) : Prop := n < len ∧ j.toInt = (n : Int)
theorem am_ix_in {j : Int32} {len n : Nat} (h : am_ix j len n) : vp_in j len ∧ j.toNatClampNeg = n := by
  obtain ⟨h1, h2⟩ := h
  refine ⟨vp_in_iff.mpr ⟨by omega, by omega⟩, ?_⟩
  show j.toInt.toNat = n
  rw [h2]
  rfl
theorem am_ix_n {n len : Nat} (h : n < len) (hl : len < 2 ^ 31) : am_ix (nI n) len n := ⟨h, nI_toInt (by omega)⟩
theorem am_arr {i len j : Nat} (hP : am_P G M H) (hi : i < am_n M) (hs : am_s M i = (j + 1, len)) : j < 8 ∧ H[am_a G i]? = some (arrV (G.2.2.1 j) len (fun k => am_fv G M i (am_aty j) k)) := by
  have hat := hP.2.2 i hi
  unfold am_at at hat
  rw [hs] at hat
  exact hat
theorem am_in_sz {cA : ClassId} {len : Nat} {f : Nat → Value} {j : Int32} {n : Nat} (h : am_ix j len n) : ¬ (j < 0 ∨ (arrV cA len f).slots.size ≤ j.toNatClampNeg) := by
  rw [arrV_size]
  exact (am_ix_in h).1
theorem am_rd {cA : ClassId} {len : Nat} {f : Nat → Value} {j : Int32} {n : Nat} (h : am_ix j len n) : (arrV cA len f).slots[j.toNatClampNeg]? = some (f n) := by
  rw [(am_ix_in h).2]
  exact arrV_read _ _ h.1
theorem aw_iaload {i len n : Nat} {j : Int32} (hd : decode u.2.2.1 pc = .ok (.iaload, 1)) (hi : i < am_n M) (hs : am_s M i = (1, len)) (hx : am_ix j len n) (k : AW u R ce sl (pc + 1) ls (.int (am_i M i n) :: st) M post) : AW u R ce sl pc ls (.int j :: .ref i :: st) M post := by
  intro G p l e s m args below meth c H locs la hF hL hK hZ hP hS hb hl
  obtain ⟨h8, ha⟩ := am_arr (j := 0) hP hi hs
  exact W.iald hF.1 hF.2.1 ha ((hK.2 0 _ (am_tys_get G h8)).1 _ _) (fun q => by cases q) (am_in_sz hx) (am_rd hx) rfl rfl hd (k G p l e s m args below meth c H locs la hF hL hK hZ hP hS hb hl)
theorem aw_laload {i len n : Nat} {j : Int32} (hd : decode u.2.2.1 pc = .ok (.laload, 1)) (hi : i < am_n M) (hs : am_s M i = (2, len)) (hx : am_ix j len n) (k : AW u R ce sl (pc + 1) ls (.long (am_l M i n) :: st) M post) : AW u R ce sl pc ls (.int j :: .ref i :: st) M post := by
  intro G p l e s m args below meth c H locs la hF hL hK hZ hP hS hb hl
  obtain ⟨h8, ha⟩ := am_arr (j := 1) hP hi hs
  exact W.lald hF.1 hF.2.1 ha ((hK.2 1 _ (am_tys_get G h8)).1 _ _) (fun q => by cases q) (am_in_sz hx) (am_rd hx) rfl rfl hd (k G p l e s m args below meth c H locs la hF hL hK hZ hP hS hb hl)
theorem aw_baload {i len n : Nat} {j : Int32} (hd : decode u.2.2.1 pc = .ok (.baload, 1)) (hi : i < am_n M) (hs : am_s M i = (3, len)) (hx : am_ix j len n) (k : AW u R ce sl (pc + 1) ls (.int (am_i M i n) :: st) M post) : AW u R ce sl pc ls (.int j :: .ref i :: st) M post := by
  intro G p l e s m args below meth c H locs la hF hL hK hZ hP hS hb hl
  obtain ⟨h8, ha⟩ := am_arr (j := 2) hP hi hs
  exact W.zald hF.1 hF.2.1 ha ((hK.2 2 _ (am_tys_get G h8)).1 _ _) (fun q => by cases q) (am_in_sz hx) (am_rd hx) rfl rfl hd (k G p l e s m args below meth c H locs la hF hL hK hZ hP hS hb hl)
theorem am_aR : ∀ j, 3 ≤ j → am_tR (am_aty j) := by
  intro j h
  match j, h with
  | 3, _ => exact Or.inl ⟨_, rfl⟩
  | 4, _ => exact Or.inl ⟨_, rfl⟩
  | 5, _ => exact Or.inl ⟨_, rfl⟩
  | 6, _ => exact Or.inl ⟨_, rfl⟩
  | k + 7, _ => exact Or.inr ⟨_, rfl⟩
theorem aw_aaload {i len n a r : Nat} {j : Int32} (hd : decode u.2.2.1 pc = .ok (.aaload, 1)) (hi : i < am_n M) (hs : am_s M i = (a + 1, len)) (ha3 : 3 ≤ a) (hx : am_ix j len n) (hr : am_r M i n = some r) (k : AW u R ce sl (pc + 1) ls (.ref r :: st) M post) : AW u R ce sl pc ls (.int j :: .ref i :: st) M post := by
  intro G p l e s m args below meth c H locs la hF hL hK hZ hP hS hb hl
  obtain ⟨h8, ha⟩ := am_arr (j := a) hP hi hs
  have hv : am_fv G M i (am_aty a) n = .ref (am_a G r) := by rw [am_fv_R (am_aR a ha3), hr]; rfl
  exact W.aald (ty := am_aty a) hF.1 hF.2.1 ha ((hK.2 a _ (am_tys_get G h8)).1 _ _) (by rcases am_aR a ha3 with ⟨x, hx⟩ | ⟨x, hx⟩ <;> rw [hx] <;> rfl) (fun q => by cases q) (am_in_sz hx) ((am_rd hx).trans (congrArg some hv)) rfl rfl hd (k G p l e s m args below meth c H locs la hF hL hK hZ hP hS hb hl)
theorem am_cons (M1 : am_M) {i len a : Nat} {j : Int32} {n : Nat} {v : Value} {H1 : Heap} (hP : am_P G M H) (hi : i < am_n M) (hs : am_s M i = (a + 1, len)) (hx : am_ix j len n) (hn1 : am_n M1 = am_n M) (hx1 : am_x M1 = am_x M) (hs1 : am_s M1 i = am_s M i) (ho : ∀ b, b ≠ i → am_same M M1 b)
    (hv : ∀ b, am_fv G M1 i (am_aty a) b = if b = n then v else am_fv G M i (am_aty a) b) (e1 : H1[am_a G i]? = some ((arrV (G.2.2.1 a) len (fun k => am_fv G M i (am_aty a) k)).setSlot j.toNatClampNeg v)) (e2 : H1.size = H.size) (e3 : ∀ q, q ≠ am_a G i → H1[q]? = H[q]?) : am_P G M1 H1 := by
  refine hP.put hi hn1 hx1 ho e2 e3 ?_
  unfold am_at
  rw [hs1, hs]
  refine ⟨(am_arr hP hi hs).1, ?_⟩
  rw [e1, arrV_store, (am_ix_in hx).2]
  show some (arrV _ _ _) = some (arrV _ _ _)
  congr 2
  funext b
  show updV _ n v b = am_fv G M1 i (am_aty a) b
  rw [hv b]
  rfl
theorem am_Sput {i k : Nat} {H1 : Heap} (hP : am_P G M H) (hi : i < am_n M) (hS : va_S (am_A G) s.heap H locs) (e2 : H1.size = H.size) (e3 : ∀ q, q ≠ am_a G i → H1[q]? = H[q]?) : va_S (am_A G) s.heap H1 (locs ++ [⟨am_a G i, k⟩]) :=
  hS.put e2 e3 (by show am_b G ≤ am_a G i; rw [am_a_lt (Nat.lt_of_lt_of_le hi hP.2.1)]; omega)
theorem aw_iastore {i len n : Nat} {j x : Int32} (hd : decode u.2.2.1 pc = .ok (.iastore, 1)) (hi : i < am_n M) (hs : am_s M i = (1, len)) (hx : am_ix j len n) (k : AW u R ce sl (pc + 1) ls st (am_pi M i n x) post) : AW u R ce sl pc ls (.int x :: .int j :: .ref i :: st) M post := by
  intro G p l e s m args below meth c H locs la hF hL hK hZ hP hS hb hl
  obtain ⟨h8, ha⟩ := am_arr (j := 0) hP hi hs
  refine W.iast hF.1 hF.2.1 ha ((hK.2 0 _ (am_tys_get G h8)).1 _ _) (fun q => by cases q) (am_in_sz hx) rfl rfl hd (fun H1 e1 e2 e3 => ?_)
  exact k G p l e s m args below meth c H1 _ la hF hL hK hZ (am_cons (am_pi M i n x) hP hi hs hx rfl rfl rfl (am_pi_o M i n x) (fun b => am_hv_pi (ty := fun _ => am_aty 0) (Or.inl rfl) b) e1 e2 e3) (am_Sput hP hi hS e2 e3) hb hl
theorem aw_lastore {i len n : Nat} {j : Int32} {x : Int64} (hd : decode u.2.2.1 pc = .ok (.lastore, 1)) (hi : i < am_n M) (hs : am_s M i = (2, len)) (hx : am_ix j len n) (k : AW u R ce sl (pc + 1) ls st (am_pl M i n x) post) : AW u R ce sl pc ls (.long x :: .int j :: .ref i :: st) M post := by
  intro G p l e s m args below meth c H locs la hF hL hK hZ hP hS hb hl
  obtain ⟨h8, ha⟩ := am_arr (j := 1) hP hi hs
  refine W.last hF.1 hF.2.1 ha ((hK.2 1 _ (am_tys_get G h8)).1 _ _) (fun q => by cases q) (am_in_sz hx) rfl rfl hd (fun H1 e1 e2 e3 => ?_)
  exact k G p l e s m args below meth c H1 _ la hF hL hK hZ (am_cons (am_pl M i n x) hP hi hs hx rfl rfl rfl (am_pl_o M i n x) (fun b => am_hv_pl (ty := fun _ => am_aty 1) rfl b) e1 e2 e3) (am_Sput hP hi hS e2 e3) hb hl
theorem aw_bastore {i len n : Nat} {j x : Int32} (hd : decode u.2.2.1 pc = .ok (.bastore, 1)) (hi : i < am_n M) (hs : am_s M i = (3, len)) (hx : am_ix j len n) (h01 : x = 0 ∨ x = 1) (k : AW u R ce sl (pc + 1) ls st (am_pi M i n x) post) : AW u R ce sl pc ls (.int x :: .int j :: .ref i :: st) M post := by
  intro G p l e s m args below meth c H locs la hF hL hK hZ hP hS hb hl
  obtain ⟨h8, ha⟩ := am_arr (j := 2) hP hi hs
  refine W.zast hF.1 hF.2.1 ha ((hK.2 2 _ (am_tys_get G h8)).1 _ _) (fun q => by cases q) (am_in_sz hx) rfl rfl hd (fun H1 e1 e2 e3 => ?_)
  rw [(am_zn h01).1] at e1
  exact k G p l e s m args below meth c H1 _ la hF hL hK hZ (am_cons (am_pi M i n x) hP hi hs hx rfl rfl rfl (am_pi_o M i n x) (fun b => am_hv_pi (ty := fun _ => am_aty 2) (Or.inr rfl) b) e1 e2 e3) (am_Sput hP hi hS e2 e3) hb hl
theorem aw_alen {i len a : Nat} {v : Int32} (hd : decode u.2.2.1 pc = .ok (.arraylength, 1)) (hi : i < am_n M) (hs : am_s M i = (a + 1, len)) (hv : Int32.ofNat len = v) (k : AW u R ce sl (pc + 1) ls (.int v :: st) M post) : AW u R ce sl pc ls (.ref i :: st) M post := by
  intro G p l e s m args below meth c H locs la hF hL hK hZ hP hS hb hl
  obtain ⟨h8, ha⟩ := am_arr (j := a) hP hi hs
  exact W.alen (ty := am_aty a) (n := v) hF.1 hF.2.1 ha ((hK.2 a _ (am_tys_get G h8)).1 _ _) (by rw [arrV_size]; exact hv) rfl rfl hd (k G p l e s m args below meth c H locs la hF hL hK hZ hP hS hb hl)
theorem aw_lcmp {x y : Int64} (hd : decode u.2.2.1 pc = .ok (.lcmp, 1)) (k : AW u R ce sl (pc + 1) ls (.int (lg_cmp x y) :: st) M post) : AW u R ce sl pc ls (.long y :: .long x :: st) M post := by
  intro G p l e s m args below meth c H locs la hF hL hK hZ hP hS hb hl
  exact W.lcmp hF.1 hF.2.1 hd (k G p l e s m args below meth c H locs la hF hL hK hZ hP hS hb hl)
theorem am_a_k {G : am_G} {j : Nat} : am_a G (am_CB + j) = G.2.2.2.2 j := by
  unfold am_a
  rw [if_neg (by omega), Nat.add_sub_cancel_left]
/-- the class's three written arrays -/
theorem aw_gets {idx j : Nat} (hd : decode u.2.2.1 pc = .ok (.getstatic idx, 3)) (hj : j < 3) (hw : Cond.fieldLink u.1 idx "CrewOffice" (am_kn j) "[I" ∈ lw_tbl) (k : AW u R ce sl (pc + 3) ls (.ref (am_CB + j) :: st) M post) : AW u R ce sl pc ls st M post := by
  intro G p l e s m args below meth c H locs la hF hL hK hZ hP hS hb hl
  refine va_gets hF.1 hF.2.1 (hZ.2 j hj).1 hS hF.2.2.2.1 (hF.2.2.2.2.1 _ (am_mem hw rfl)) (fun _ h => h) hd ?_
  have k := k G p l e s m args below meth c H locs la hF hL hK hZ hP hS hb hl
  rw [List.map_cons, show am_v G (.ref (am_CB + j)) = .ref (G.2.2.2.2 j) from congrArg Value.ref am_a_k] at k
  exact k
theorem aw_kload {n a : Nat} {j : Int32} (hd : decode u.2.2.1 pc = .ok (.iaload, 1)) (ha : a < 3) (hx : am_ix j 11 n) (k : AW u R ce sl (pc + 1) ls (.int (am_kv a n) :: st) M post) : AW u R ce sl pc ls (.int j :: .ref (am_CB + a) :: st) M post := by
  intro G p l e s m args below meth c H locs la hF hL hK hZ hP hS hb hl
  rw [List.map_cons, List.map_cons, show am_v G (.ref (am_CB + a)) = .ref (G.2.2.2.2 a) from congrArg Value.ref am_a_k]
  refine va_ti hF.1 hF.2.1 (hZ.2 a ha).2 hS (am_ix_in hx).1 (v := .int (am_kv a n)) (by rw [(am_ix_in hx).2]) hd ?_
  exact k G p l e s m args below meth c H locs la hF hL hK hZ hP hS hb hl
end AWH
end
section
/-! ===== a method's contract over the memory, and calls ===== -/
theorem am_sf.go {A : Nat → Prop} {C n d : String} {s U : State} (hW : s.WarmedH U.vm) (hq : ∀ a : Nat, a < s.heap.size → ¬ A a → U.heap[a]? = s.heap[a]?) (h : am_sf A C n d s) : am_sf A C n d U := by
  obtain ⟨h1, h2, h3⟩ := h
  obtain ⟨c, k, i, f, a, cell, hc, hi, hst, ha, hcell, hs, hcls, hlt, hty⟩ := Cond.laysStatic_spec h1
  obtain ⟨k', hi', hk'⟩ := State.fieldFound?_setVm (s := s) hW.alike hi
  have hiU : U.fieldFound? C n d = some (c, k', i, f) := by simpa only [State.fieldFound?, State.vm_setVm] using hi'
  have hna := h3 c k i f a hi ha
  have ha' : k'.statics = some a := by rw [hk']; exact ha
  have hU : U.heap[a]? = some cell := (hq a (Array.getElem?_eq_some_iff.mp hcell).1 hna).trans hcell
  refine ⟨Cond.laysStatic_of (s := U) (by rw [hW.alike.findClass]; exact hc) hiU hst ha' hU hs hcls hlt (by rw [hk']; exact hty), ?_, fun c' k2 i' f' a' g1 g2 => ?_⟩
  · cases hv : (Term.static C n d).eval #[] s none [] s with
    | none => simp [Cond.before, Cond.holds, Cond.value, hv] at h2
    | some v =>
      obtain ⟨-, a2, cell2, ha2, hcell2, -, hslot⟩ := Term.static_spec hi hv
      cases ha.symm.trans ha2
      cases hcell.symm.trans hcell2
      have e := Term.static_eval (args := #[]) (first := U) (o := none) (idx := []) (s := U) hiU hst ha' hU hs hslot
      simp only [Cond.before, Cond.holds, Cond.value, hv, e] at h2 ⊢
      exact h2
  · cases hiU.symm.trans g1
    cases ha'.symm.trans g2
    exact hna
def am_ac (comp : ClassId) (x : Class) : Bool := match x.kind with
  | .array component _ => component == comp
  | _ => false
def am_ak (f : String → Option ClassId) (c : ClassId) (k : Class) : Bool := match k.kind with
  | .array _ ty => decide (ty = FieldType.array FieldType.int) && decide (f ("[" ++ (FieldType.array FieldType.int).toString) = some c)
  | _ => false
theorem am_AOe (V : State) : (Cond.arrayOver (.array .int)).before #[] V = ((V.vm.findClass (FieldType.array FieldType.int).toString).bind (fun comp => (V.vm.classes.findIdx? (am_ac comp)).bind (fun c => (V.vm.classes[c]?).map (am_ak (fun n => V.vm.findClass n) c))) == some true) := rfl
theorem am_AOA {u U : State} (hvm : u.vm.Alike U.vm) (h : (Cond.arrayOver (.array .int)).before #[] u = true) : (Cond.arrayOver (.array .int)).before #[] U = true := by
  have hbare : U.vm.bare = u.vm.bare := by first | exact hvm.bare_eq | exact hvm.bare_eq.symm
  have e1 : ∀ comp, U.vm.classes.findIdx? (am_ac comp) = u.vm.classes.findIdx? (am_ac comp) := fun comp => by
    have a1 : U.vm.bare.classes.findIdx? (am_ac comp) = U.vm.classes.findIdx? (am_ac comp) := va_idx_bare U.vm comp
    have a2 : u.vm.bare.classes.findIdx? (am_ac comp) = u.vm.classes.findIdx? (am_ac comp) := va_idx_bare u.vm comp
    rw [← a1, ← a2, hbare]
  have e2 : ∀ n, U.vm.findClass n = u.vm.findClass n := fun n => hvm.findClass n none
  rw [am_AOe] at h ⊢
  simp only [e2]
  cases hc : u.vm.findClass (FieldType.array FieldType.int).toString with
  | none => rw [hc] at h; simp at h
  | some comp =>
    rw [hc] at h
    simp only [Option.bind_some] at h ⊢
    rw [e1 comp]
    cases hi : u.vm.classes.findIdx? (am_ac comp) with
    | none =>
      rw [hi] at h
      simp at h
    | some c =>
      rw [hi] at h
      simp only [Option.bind_some] at h ⊢
      cases hk : u.vm.classes[c]? with
      | none => rw [hk] at h; simp at h
      | some k =>
        obtain ⟨k', hk', he⟩ := hvm.2.2 _ _ hk
        rw [hk] at h
        rw [hk']
        simp only [Option.map_some] at h ⊢
        have e4 : k'.kind = k.kind := by rw [he]
        have e5 : am_ak (fun n => u.vm.findClass n) c k' = am_ak (fun n => u.vm.findClass n) c k := by unfold am_ak; rw [e4]
        rw [e5]
        exact h
theorem am_Z.go {G : am_G} {s U : State} {H : Heap} (hW : s.WarmedH U.vm) (hH : U.heap = H) (hq : ∀ a : Nat, a < s.heap.size → ¬ am_A G a → H[a]? = s.heap[a]?) (h : am_Z G s s.heap) : am_Z G U H := by
  subst hH
  obtain ⟨⟨h1, h2, h3, h4, h6, h7⟩, h5⟩ := h
  refine ⟨⟨h1.go hW hq, h2.go hW hq, fun k hk => ?_, fun C hC => (h4 C hC).moved hW.alike, fun a b ha hb hab => (h6 a b ha hb hab).moved hW.alike, am_AOA hW.alike h7⟩, fun j hj => ⟨((h5 j hj).1.moved hW.alike).kept hq, ((h5 j hj).2.moved hW.alike).kept hq⟩⟩
  obtain ⟨a, ha⟩ := h3 k hk
  exact ⟨a, ha.warm hW⟩
/-- the word of a method's code -/
def am_code (y : MethodName) (u : am_U) : Cond := match u.2.2.2.2.2 with
  | [] => .code y u.2.2.1 u.2.2.2.1 u.2.2.2.2.1
  | h :: hs => .codeWith y u.2.2.1 u.2.2.2.1 u.2.2.2.2.1 (h :: hs)
theorem am_code_spec {y : MethodName} {u : am_U} {args : Array Value} {s : State} {m : MethodId} (hn : s.methodNamed? y = some m) (h : (am_code y u).before args s = true) :
    ∃ meth c, s.vm.method? m = some meth ∧ meth.code = some c ∧ c.code = u.2.2.1 ∧ c.maxLocals = u.2.2.2.1 ∧ meth.sig.returnType = u.2.2.2.2.1 ∧ meth.locks = false ∧
      c.exceptionTable.toList.map (fun x => (x.startPc, x.endPc, x.handlerPc, x.catchType)) = u.2.2.2.2.2 ∧ parseMethodDescriptor y.desc = some meth.sig := by
  unfold am_code at h
  cases he : u.2.2.2.2.2 with
  | nil =>
    rw [he] at h
    obtain ⟨meth, c, h1, h2, h3, h4, h5, h6, h7, h8⟩ := Cond.code_spec hn h
    refine ⟨meth, c, h1, h2, h3, h4, h5, h6, ?_, h8⟩
    have e : c.exceptionTable = #[] := Array.isEmpty_iff.mp h7
    rw [e]
    rfl
  | cons a as =>
    rw [he] at h
    obtain ⟨m', meth, c, h0, h1, h2, h3, h4, h5, h6, h7, h8⟩ := Cond.codeWith_spec h
    cases hn.symm.trans h0
    exact ⟨meth, c, h1, h2, h3, h4, h6, h7, h5, h8⟩
def AMet (y : MethodName) (u : am_U) (R : Room) (As : List Value) (M : am_M) (post : am_R → am_M → Prop) : Prop :=
  ∀ l : Launch, am_L l → ∀ G : am_G, MetFree l y (headSpec am_ws R) (fun v U => v = (As.map (am_v G)).toArray ∧ am_P G M U.heap ∧ am_K G U ∧ am_Z G U U.heap ∧ am_b G ≤ U.heap.size) (fun _ _ _ _ _ => True) (fun _ st o t => am_Q G post R.cells R.slots st o t)
theorem am_lv_args (G : am_G) : ∀ (As : List Value) (i : Nat), am_lv G (lv_args i As) = lv_args i (As.map (am_v G))
  | [], i => rfl
  | v :: vs, i => by
    show (i, am_v G v) :: am_lv G (lv_args _ vs) = (i, am_v G v) :: lv_args _ (vs.map (am_v G))
    rw [am_v_cat, am_lv_args G vs]
theorem am_sl_len (G : am_G) : ∀ As : List Value, (lg_sl (As.map (am_v G))).length = (lg_sl As).length
  | [] => rfl
  | v :: vs => by
    have h := am_sl_len G vs
    unfold lg_sl at h ⊢
    rw [List.map_cons, List.flatMap_cons, List.flatMap_cons, List.length_append, List.length_append, h, am_v_cat]
    by_cases e : v.category = 2
    · rw [if_pos e, if_pos e]; rfl
    · rw [if_neg e, if_neg e]; rfl
/-- a contract out of a walk of the method's body -/
theorem am_met {y : MethodName} {u : am_U} {R : Room} {As : List Value} {M : am_M} {post : am_R → am_M → Prop} (hy : plainFor y = true) (hc : am_code y u ∈ am_ws) (hown : y.cls = u.1) (hnm : y.name = u.2.1) (hlen : (lg_sl As).length ≤ u.2.2.2.1)
    (k : AW u R 0 0 0 (lv_args 0 As) [] M post) : AMet y u R As M post := by
  intro l hL G
  refine MetFree.of_bodySF (code := u.2.2.1) (maxLocals := u.2.2.2.1) (ret := u.2.2.2.2.1) hy ?_ ?_
  · intro args s m h hn
    obtain ⟨meth, c, h1, h2, h3, h4, h5, h6, -, -⟩ := am_code_spec hn (atoms_spec (ws := am_ws) h _ hc)
    exact ⟨meth, c, h1, h2, h3, h4, h5, h6⟩
  · intro p e s m args below meth c s₁ B hml hv _
    obtain ⟨rfl, hP, hK, hZ, hb⟩ := hv
    have hts := atoms_spec (ws := am_ws) B.pre
    have hh0 : s₁.heap = s.heap := by rw [B.state]; rfl
    have X₀ := Stand.of_body B
    have hname : s.vm.findClass u.1 = some m.cls := by rw [← hown]; exact findClass_of_methodNamed B.named
    have hF : am_F u p s m (As.map (am_v G)).toArray meth c := by
      obtain ⟨meth', c', h1, h2, h3, h4, h5, h6, h7, -⟩ := am_code_spec B.named (hts _ hc)
      cases B.method.symm.trans h1
      cases X₀.code.symm.trans h2
      exact ⟨B.exec, B.bytes, hml, hname, hts, h5, h6, ((name_of_methodNamed B.named B.method).1).trans hnm, h7⟩
    have hl := lv_entry (As.map (am_v G)) (n := u.2.2.2.1) (by rw [am_sl_len]; exact hlen)
    rw [← am_lv_args] at hl
    have K := k G p l e s m _ below meth c s.heap [] _ hF hL hK hZ hP va_S.rf hb hl
    rw [lg_entry_eq]
    obtain ⟨t, a1, o, b1, b2, b3⟩ := K s₁ hh0 X₀
    exact ⟨t, o, a1, b1, b2, b3⟩
section AWC
variable {p : Program} {l : Launch} {e : Env} {R : Room} {s : State} {m : MethodId} {args : Array Value} {below : List Frame} {meth : Method} {c : Code} {locs : List Loc} {ce sl : Nat} {G : am_G} {U : State} {H : Heap}
/-- a call of a method with a contract: it comes back with an answer, or a throwable comes out of it -/
theorem am_call {y : MethodName} {u u' : am_U} {R' : Room} {As : List Value} {M : am_M} {post : am_R → am_M → Prop} {g : JFrame} {ig : Instr} {len : Nat} {mk : MethodId} (hF : am_F u p s m args meth c) (hL : am_L l) (hK : am_K G s) (hZ : am_Z G s s.heap) (hP : am_P G M U.heap) (hS : va_S (am_A G) s.heap U.heap locs) (hb : am_b G ≤ s.heap.size)
    (hM : AMet y u' R' As M post) (hc : am_code y u' ∈ am_ws) (hini : Cond.initialized y.cls ∈ am_ws) (hfr : R'.frames + 1 ≤ R.frames) (hlo : 8 + (u'.2.2.2.1 + 11) + R'.locals ≤ R.locals) (hce : ce + R'.cells ≤ R.cells) (hsl : sl + R'.slots ≤ R.slots)
    (X : Stand p l e R s m args below meth c U locs ce sl) (hg : g.method = m) (hsize : g.locals.size = c.maxLocals) (hdg : decode c.code g.pc = .ok (ig, len)) (hW : 2 * g.monitorRoom + (g.stack.map fun v => v.category).sum ≤ 8) (hn : U.methodNamed? y = some mk) :
    ∃ (r : am_R) (M' : am_M) (T' : State) (L : List Loc), post r M' ∧ am_P G M' T'.heap ∧ Stand p l e R s m args below meth c T' (locs ++ L) (ce + R'.cells) (sl + R'.slots) ∧ va_S (am_A G) s.heap T'.heap (locs ++ L) ∧
      match r with
      | .inl v => ∀ tg, Steps p.tables e below (T'.setTop { g with pc := g.pc + len, stack := (v.map (am_v G)).toList ++ g.stack }) tg → Steps p.tables e below (doInvoke e (U.setTop g) [] mk (As.map (am_v G)).toArray).1 tg
      | .inr k => ∃ (a : Addr) (cell : Cell), T'.heap[a]? = some cell ∧ cell.vm.isStatics = false ∧ s.vm.findClass (am_X k) = some cell.cls ∧ ∀ tg, Steps p.tables e below ((T'.setTop g).pushFrame (.throwing a)) tg → Steps p.tables e below (doInvoke e (U.setTop g) [] mk (As.map (am_v G)).toArray).1 tg := by
  have hts : ∀ (a' : Array Value) (V : State), s.WarmedH V.vm → ∀ w ∈ am_ws, w.before a' V = true := fun a' V hW => am_keepw hW hF.2.2.2.2.1
  have htU := hts (As.map (am_v G)).toArray U X.warmed
  obtain ⟨methY, cY, hmY, hcY, -, hlY, -, -, -, -⟩ := am_code_spec hn (htU _ hc)
  obtain ⟨kY, hkY, -⟩ := className_of_methodNamed hn
  have hinitY : kY.init = .initialized := Cond.initialized_spec (findClass_of_methodNamed hn) hkY (htU _ hini)
  have h : At U g.method c below := by rw [hg]; exact X.here
  have happ : (headSpec am_ws R').appliesLoose y e.platform (U.calling g mk (As.map (am_v G)).toArray) = true :=
    Spec.appliesLoose_calling (g := g) h hdg hn hkY hinitY
      (X.room_calling (g := g) (R' := R') hsize hmY hcY hfr (by rw [hlY]; omega) hce hsl) (atoms_intro htU)
  obtain ⟨mid, hmid⟩ := h.above
  have hfr2 : (U.setTop g).frames = (.java g :: mid) ++ below := by rw [State.frames_setTop' g h.top, hmid]; rfl
  have hZU : am_Z G (U.calling g mk (As.map (am_v G)).toArray) (U.calling g mk (As.map (am_v G)).toArray).heap := hZ.go (show s.WarmedH (U.calling g mk (As.map (am_v G)).toArray).vm from X.warmed) rfl (fun a h1 h2 => hS.2.1 a h1 h2)
  have hKU : am_K G (U.calling g mk (As.map (am_v G)).toArray) := va_K.moved (u := s) (U := U.calling g mk (As.map (am_v G)).toArray) (show s.vm.Alike (U.calling g mk (As.map (am_v G)).toArray).vm from X.warmed.alike) hK
  obtain ⟨o, s₂, hsteps, -, hend, hq⟩ := Steps.callFree (hM l hL G) p X.admits X.cas X.clock (acts := []) hfr2 happ ⟨rfl, hP, hKU, hZU, Nat.le_trans hb hS.1⟩ trivial
  have hq' : am_Q G post R'.cells R'.slots (U.calling g mk (As.map (am_v G)).toArray) o s₂ := hq
  obtain ⟨⟨r, M', hpost, ho, hP'⟩, hVF, L, ⟨hW₂, hsame⟩, hL'⟩ := hq'
  rw [State.frames_setTop' g h.top] at hend
  have hSn : va_S (am_A G) s.heap s₂.heap (locs ++ L) := by
    refine ⟨Nat.le_trans hS.1 hVF.1, fun q h1 h2 => (hVF.2 q (Nat.lt_of_lt_of_le h1 hS.1) h2).trans (hS.2.1 q h1 h2), fun q hq => ?_⟩
    rcases List.mem_append.mp hq with h | h
    · exact hS.2.2 q h
    · exact hL' q h
  cases r with
  | inr k =>
    obtain ⟨a, cell, rfl, hcell, hns, hcls⟩ := ho
    rw [X.tail] at hend
    obtain ⟨T', X', hWT, -, ht⟩ := X.outOfThrown hg hend hW₂ hsame
    have hTh : T'.heap = s₂.heap := by rw [ht]; rfl
    have hTv : T'.vm = s₂.vm := by rw [ht]; rfl
    refine ⟨.inr k, M', T', L, hpost, by rw [hTh]; exact hP', X', by rw [hTh]; exact hSn, a, cell, by rw [hTh]; exact hcell, hns, ?_, fun tg h => ?_⟩
    · rw [← X'.warmed.alike.findClass, hTv]; exact hcls
    · rw [← ht] at h
      exact hsteps.trans h
  | inl v =>
    obtain rfl : o = .returned (v.map (am_v G)) := ho
    obtain ⟨e2, q2, q3, q4, q5, q6⟩ := id hsame
    have e3 : s₂ = ({ (U.calling g mk (As.map (am_v G)).toArray).setFrames s₂.frames with heap := s₂.heap, slotsUsed := s₂.slotsUsed } : State).setVm s₂.vm := by
      have : s₂ = ({ s₂ with vm := (U.calling g mk (As.map (am_v G)).toArray).vm } : State).setVm s₂.vm := rfl
      rw [e2] at this
      exact this
    obtain ⟨c₂, i₂, len₂, hc₂, hd₂, hf₂⟩ := hend
    have hW' : U.WarmedH s₂.vm := hW₂
    have hcc : c₂ = c := by
      have h1 : s₂.code? g.method = U.code? g.method := by
        rw [State.code?_eq, State.code?_eq, hW'.alike.method?]
      exact Option.some.inj (hc₂.symm.trans (h1.trans h.code))
    subst hcc
    have hlen : len₂ = len := by rw [hdg] at hd₂; cases hd₂; rfl
    subst hlen
    obtain ⟨g₀, hg0⟩ := Option.isSome_iff_exists.mp h.top
    obtain ⟨r, hr⟩ := State.topJava?_eq_some.mp hg0
    have hs₂ : s₂ = (({ U with heap := s₂.heap, slotsUsed := s₂.slotsUsed } : State).setVm s₂.vm).setTop { g with pc := g.pc + len₂, stack := (v.map (am_v G)).toList ++ g.stack } := by
      have hr' : (({ U with heap := s₂.heap, slotsUsed := s₂.slotsUsed } : State).setVm s₂.vm).frames = .java g₀ :: r := hr
      refine e3.trans ?_
      rw [hf₂, State.calling_eq h.top, State.setFrames_setFrames, State.setTop_of_frames _ hr', hr]
      rfl
    have hsame2 : U.sameButNew ({ U with heap := s₂.heap, slotsUsed := s₂.slotsUsed } : State) L R'.cells R'.slots := by
      refine ⟨?_, q2, q3, q4, q5, q6⟩
      obtain ⟨t, ht, -⟩ := State.frames_cons hr
      show ({ U with heap := s₂.heap, slotsUsed := s₂.slotsUsed } : State) = { U.setFrames U.frames with heap := s₂.heap, slotsUsed := s₂.slotsUsed }
      rw [State.setFrames_self ht]
    subst hg
    refine ⟨.inl v, M', (({ U with heap := s₂.heap, slotsUsed := s₂.slotsUsed } : State).setVm s₂.vm), L, hpost, hP',
      ⟨X.admits, X.cas, X.clock, X.frames, X.room, X.hears, X.method, X.code, (X.here.setHeapUsed s₂.heap s₂.slotsUsed).setVm hW'.alike, X.tail, State.WarmedH.trans X.warmed hW', X.limits, X.bytes, X.same.trans (hsame2.setVm s.vm)⟩, hSn, fun tg ht => ?_⟩
    rw [← hs₂] at ht
    exact hsteps.trans ht
end AWC
end
section
/-! ===== rows of the judgement AW over calls ===== -/
def am_noMH (y : MethodName) (n : Nat) : Prop := (y.cls ≠ "java/lang/invoke/MethodHandle" ∧ y.cls ≠ "java/lang/invoke/VarHandle") ∧ (parseMethodDescriptor y.desc).map (fun d => d.parameters.length) = some n
/-- what a call needs of the tables: a static method, an instance's, a constructor, a nest mate's constructor -/
def am_kS (own : String) (idx : Nat) (y : MethodName) (u' : am_U) (n : Nat) : Prop := Cond.methodLink own idx y ∈ lw_tbl ∧ Cond.static y ∈ lw_tbl ∧ Cond.initialized y.cls ∈ lw_tbl ∧ am_code y u' ∈ am_ws ∧ am_noMH y n
def am_kV (own : String) (idx ci : Nat) (y : MethodName) (u' : am_U) (n : Nat) : Prop := Cond.methodLink own idx y ∈ lw_tbl ∧ (Cond.instanceMethod y ∈ lw_tbl ∧ Cond.selects (am_C ci) y y ∈ lw_tbl) ∧ Cond.initialized y.cls ∈ lw_tbl ∧ am_code y u' ∈ am_ws ∧ am_noMH y n
def am_kI (own : String) (idx : Nat) (y : MethodName) (u' : am_U) (n : Nat) : Prop := (Cond.methodLink own idx y ∈ lw_tbl ∨ ∃ host, Cond.methodLinkNest own idx y host ∈ lw_tbl) ∧ (Cond.instanceMethod y ∈ lw_tbl ∧ y.name = "<init>" ∧ u'.2.2.2.2.1 = none ∧ u'.2.2.2.2.2 = []) ∧ Cond.initialized y.cls ∈ lw_tbl ∧ am_code y u' ∈ am_ws ∧ am_noMH y n
/-- room for a callee -/
def am_rm (R R' : Room) (u' : am_U) (ce sl : Nat) : Prop := R'.frames + 1 ≤ R.frames ∧ 8 + (u'.2.2.2.1 + 11) + R'.locals ≤ R.locals ∧ ce + R'.cells ≤ R.cells ∧ sl + R'.slots ≤ R.slots
theorem am_noMH_len {y : MethodName} {n : Nat} (h : am_noMH y n) {As : List Value} (hA : As.length = n) : ∀ sig, parseMethodDescriptor y.desc = some sig → As.length = sig.parameters.length := by
  intro sig hs
  have h2 := h.2
  rw [hs] at h2
  exact hA.trans (Option.some.inj h2).symm
section AWK
variable {u : am_U} {R : Room} {ce sl pc : Nat} {ls : List (Nat × Value)} {st : List Value} {M : am_M} {post : am_R → am_M → Prop}
variable {p : Program} {l : Launch} {e : Env} {s : State} {m : MethodId} {args : Array Value} {below : List Frame} {meth : Method} {c : Code} {H : Heap} {locs : List Loc} {la : Array Slot} {G : am_G} {U T : State}
variable {y : MethodName} {u' : am_U} {R' : Room} {As : List Value} {post' : am_R → am_M → Prop} {idx n : Nat}
theorem am_cats (G : am_G) (st : List Value) : ((st.map (am_v G)).map fun v => v.category).sum = (st.map fun v => v.category).sum := by
  rw [List.map_map]
  congr 1
  apply List.map_congr_left
  intro v _
  exact am_v_cat G v
/-- a throwable that no handler of the method covers leaves it -/
theorem am_leave {g : JFrame} {k : Nat} {a : Addr} {cell : Cell} (X : Stand p l e R s m args below meth c T locs ce sl) (hF : am_F u p s m args meth c) (hh : u.2.2.2.2.2 = []) (hg : g.method = m) (hlk : g.locked = none) (hen : g.entered = []) (hce : ce ≤ R.cells) (hsl : sl ≤ R.slots) (hP : am_P G M T.heap) (hS : va_S (am_A G) s.heap T.heap locs)
    (hp : post (.inr k) M) (h1 : T.heap[a]? = some cell) (h2 : cell.vm.isStatics = false) (h3 : s.vm.findClass (am_X k) = some cell.cls) : ∃ t, Steps p.tables e below ((T.setTop g).pushFrame (.throwing a)) t ∧ am_MQ G below post R.cells R.slots s t := by
  have hout : ∀ x ∈ c.exceptionTable.toList, covers x g.pc = false := by
    intro x hx
    have h9 := hF.2.2.2.2.2.2.2.2
    rw [hh] at h9
    rw [List.map_eq_nil_iff.mp h9] at hx
    cases hx
  obtain ⟨r1, r2, r3, r4, r5⟩ := X.leaveThrown a hg hlk hen hout (hlocks := hF.2.2.2.2.2.2.1)
  refine ⟨_, r1, .threw a, r2, r3, ⟨.inr k, M, hp, ⟨a, cell, rfl, h1, h2, ?_⟩, hP⟩, hS.F rfl, locs, ⟨r4, r5.mono hce hsl⟩, hS.2.2⟩
  rw [r4.alike.findClass]
  exact h3
theorem am_goes {g : JFrame} {ig : Instr} {mk : MethodId} {rest : List Value} (hF : am_F u p s m args meth c) (hL : am_L l) (hK : am_K G s) (hZ : am_Z G s s.heap) (hP : am_P G M U.heap) (hS : va_S (am_A G) s.heap U.heap locs) (hb : am_b G ≤ s.heap.size) (hl : lv_has la u.2.2.2.1 (am_lv G ls))
    (hM : AMet y u' R' As M post') (hc : am_code y u' ∈ am_ws) (hini : Cond.initialized y.cls ∈ lw_tbl) (hrm : am_rm R R' u' ce sl) (hro : (rest.map fun v => v.category).sum ≤ 8)
    (X : Stand p l e R s m args below meth c U locs ce sl) (hdg : decode u.2.2.1 pc = .ok (ig, 3)) (hn : U.methodNamed? y = some mk) (hg : g = F0 m pc la (rest.map (am_v G)))
    (kk : ∀ v M', post' (.inl v) M' → AW u R (ce + R'.cells) (sl + R'.slots) (pc + 3) ls (v.toList ++ rest) M' post) (kt : ∀ k M', post' (.inr k) M' → u.2.2.2.2.2 = [] ∧ post (.inr k) M') :
    ∃ t, Steps p.tables e below (doInvoke e (U.setTop g) [] mk (As.map (am_v G)).toArray).1 t ∧ am_MQ G below post R.cells R.slots s t := by
  subst hg
  obtain ⟨hfr, hlo, hce, hsl⟩ := hrm
  obtain ⟨r, M', T', L, hpost, hP', X', hS', hr⟩ := am_call (g := F0 m pc la (rest.map (am_v G))) (ig := ig) (len := 3) hF hL hK hZ hP hS hb hM hc (am_mem hini rfl) hfr hlo hce hsl X rfl (hl.1.trans hF.2.2.1.symm) (by rw [hF.2.1]; exact hdg)
    (by show 2 * 0 + _ ≤ 8; rw [am_cats]; omega) hn
  cases r with
  | inl v =>
    have K := kk v M' hpost G p l e s m args below meth c T'.heap _ la hF hL hK hZ hP' hS' hb hl
    obtain ⟨t, a1, b1⟩ := K T' rfl X'
    refine ⟨t, hr t ?_, b1⟩
    have e1 : (v.toList ++ rest).map (am_v G) = (v.map (am_v G)).toList ++ rest.map (am_v G) := by
      rw [List.map_append]
      cases v <;> rfl
    rw [e1] at a1
    exact a1
  | inr k =>
    obtain ⟨a, cell, h1, h2, h3, h4⟩ := hr
    obtain ⟨hh, hp⟩ := kt k M' hpost
    obtain ⟨t, a1, b1⟩ := am_leave X' hF hh (g := F0 m pc la (rest.map (am_v G))) rfl rfl rfl hce hsl hP' hS' hp h1 h2 h3
    exact ⟨t, h4 t a1, b1⟩
theorem aw_callS {rest : List Value} (hd : decode u.2.2.1 pc = .ok (.invokestatic idx, 3)) (hw : am_kS u.1 idx y u' n) (hrm : am_rm R R' u' ce sl) (hM : AMet y u' R' As M post') (hA : As.length = n) (hst : As.reverse ++ rest = st) (hro : (rest.map fun v => v.category).sum ≤ 8)
    (kt : ∀ k M', post' (.inr k) M' → u.2.2.2.2.2 = [] ∧ post (.inr k) M') (kk : ∀ v M', post' (.inl v) M' → AW u R (ce + R'.cells) (sl + R'.slots) (pc + 3) ls (v.toList ++ rest) M' post) : AW u R ce sl pc ls st M post := by
  subst hst
  intro G p l e s m args below meth c H locs la hF hL hK hZ hP hS hb hl T hT X
  obtain ⟨w1, w2, w3, w4, w5⟩ := hw
  have hts := hF.2.2.2.2.1
  have hcode := hts _ w4
  obtain ⟨mk, hnamed⟩ : ∃ mk, s.methodNamed? y = some mk := by
    unfold am_code at hcode
    split at hcode
    · exact Cond.code_named hcode
    · obtain ⟨m', _, _, h0, -⟩ := Cond.codeWith_spec hcode
      exact ⟨m', h0⟩
  obtain ⟨methM, cM, hmethM, -, -, -, -, -, -, hsigM⟩ := am_code_spec hnamed hcode
  have hstatic : methM.isStatic = true := Cond.static_spec hnamed hmethM (hts _ (am_mem w2 rfl))
  obtain ⟨kP, hkP, -⟩ := className_of_methodNamed hnamed
  have hinitP : kP.init = .initialized := Cond.initialized_spec (findClass_of_methodNamed hnamed) hkP (hts _ (am_mem w3 rfl))
  have hlen := am_noMH_len w5 hA
  obtain ⟨vm₁, X₁, hstep₁⟩ := X.invokestatic hF.1 hF.2.2.2.1 (hts _ (am_mem w1 rfl)) hnamed hmethM hstatic hkP hinitP w5.1 (g := F0 m pc la ((As.reverse ++ rest).map (am_v G))) rfl (argsL := As.map (am_v G)) (rest := rest.map (am_v G)) (by rw [List.length_map]; exact hlen _ hsigM) (by rw [List.map_append, List.map_reverse]) (by rw [hF.2.1]; exact hd)
  obtain ⟨t, a1, b1⟩ := am_goes (U := T.setVm vm₁) hF hL hK hZ (by show am_P G M T.heap; rw [hT]; exact hP) (by show va_S (am_A G) s.heap T.heap locs; rw [hT]; exact hS) hb hl hM w4 w3 hrm hro X₁ hd (X₁.named hnamed) rfl kk kt
  exact ⟨t, hstep₁ _ fun acts => by rw [doInvoke_state]; exact a1, b1⟩
theorem am_recv {i ci : Nat} (hK : am_K G s) (hP : am_P G M H) (hi : i < am_n M) (hs : am_s M i = (0, ci)) : ∃ cell : Cell, H[am_a G i]? = some cell ∧ cell.vm.isStatics = false ∧ s.vm.findClass (am_C ci) = some cell.cls := by
  have hat := hP.2.2 i hi
  unfold am_at at hat
  rw [hs] at hat
  obtain ⟨hc, cell, q1, q2, q3, q4⟩ := hat
  obtain ⟨hS', hfc, kC, hkC, hkind⟩ := hK.1 ci _ (am_cl_get hc)
  exact ⟨cell, q1, by rw [q3]; rfl, by rw [q2]; exact hfc⟩
theorem aw_callV {i ci : Nat} {rest : List Value} (hd : decode u.2.2.1 pc = .ok (.invokevirtual idx, 3)) (hw : am_kV u.1 idx ci y u' n) (hi : i < am_n M) (hs : am_s M i = (0, ci)) (hrm : am_rm R R' u' ce sl) (hM : AMet y u' R' (.ref i :: As) M post') (hA : As.length = n) (hst : As.reverse ++ .ref i :: rest = st) (hro : (rest.map fun v => v.category).sum ≤ 8)
    (kt : ∀ k M', post' (.inr k) M' → u.2.2.2.2.2 = [] ∧ post (.inr k) M') (kk : ∀ v M', post' (.inl v) M' → AW u R (ce + R'.cells) (sl + R'.slots) (pc + 3) ls (v.toList ++ rest) M' post) : AW u R ce sl pc ls st M post := by
  subst hst
  intro G p l e s m args below meth c H locs la hF hL hK hZ hP hS hb hl T hT X
  obtain ⟨w1, w2, w3, w4, w5⟩ := hw
  have hts := hF.2.2.2.2.1
  obtain ⟨cellB, hcB, hoB, hclB⟩ := am_recv (s := s) hK hP hi hs
  obtain ⟨mk, methM, hnamed, hmethM, hstM, habM⟩ := Cond.instanceMethod_spec (hts _ (am_mem w2.1 rfl))
  obtain ⟨methM', cM, hmethM', -, -, -, -, -, -, hsigM⟩ := am_code_spec hnamed (hts _ w4)
  cases hmethM.symm.trans hmethM'
  obtain ⟨c2, r2, m2, q1, q2, q3, q4, kP, hkP, hkPi⟩ := Cond.selects_spec (hts _ (am_mem w2.2 rfl))
  cases hclB.symm.trans q1
  cases (State.methodFound?_of_named hnamed w5.1).symm.trans q2
  cases hnamed.symm.trans q3
  have hselP : selectMethod e.platform s.vm cellB.cls mk = .method mk := by rw [Launch.admits_selectMethod X.admits]; exact q4
  have hlen := am_noMH_len w5 hA
  obtain ⟨vm₁, X₁, hstep₁⟩ := X.invokevirtual hF.1 hF.2.2.2.1 (hts _ (am_mem w1 rfl)) hnamed hmethM hstM hkP hkPi w5.1 (a := am_a G i) (cell := cellB) (by rw [hT]; exact hcB)
    (fun z h => by rw [h] at hoB; cases hoB) hselP hmethM habM hkP hkPi (g := F0 m pc la ((As.reverse ++ .ref i :: rest).map (am_v G))) rfl (argsL := As.map (am_v G)) (rest := rest.map (am_v G)) (by rw [List.length_map]; exact hlen _ hsigM) (by rw [List.map_append, List.map_reverse]; rfl) (by rw [hF.2.1]; exact hd)
  obtain ⟨t, a1, b1⟩ := am_goes (U := T.setVm vm₁) hF hL hK hZ (by show am_P G M T.heap; rw [hT]; exact hP) (by show va_S (am_A G) s.heap T.heap locs; rw [hT]; exact hS) hb hl hM w4 w3 hrm hro X₁ hd (X₁.named hnamed) rfl kk kt
  exact ⟨t, hstep₁ _ fun acts => by rw [doInvoke_state]; exact a1, b1⟩
theorem aw_callI {i : Nat} {rest : List Value} (hd : decode u.2.2.1 pc = .ok (.invokespecial idx, 3)) (hw : am_kI u.1 idx y u' n) (hrm : am_rm R R' u' ce sl) (hM : AMet y u' R' (.ref i :: As) M post') (hA : As.length = n) (hst : As.reverse ++ .ref i :: rest = st) (hro : (rest.map fun v => v.category).sum ≤ 8)
    (kt : ∀ k M', post' (.inr k) M' → u.2.2.2.2.2 = [] ∧ post (.inr k) M') (kk : ∀ v M', post' (.inl v) M' → AW u R (ce + R'.cells) (sl + R'.slots) (pc + 3) ls (v.toList ++ rest) M' post) : AW u R ce sl pc ls st M post := by
  subst hst
  intro G p l e s m args below meth c H locs la hF hL hK hZ hP hS hb hl T hT X
  obtain ⟨w1, ⟨w2, wn, wr, wh⟩, w3, w4, w5⟩ := hw
  have hts := hF.2.2.2.2.1
  have hcode : (Cond.code y u'.2.2.1 u'.2.2.2.1 none).before args s = true := by
    have h := hts _ w4
    unfold am_code at h
    rw [wh, wr] at h
    exact h
  have hlen := am_noMH_len w5 hA
  have hpl : e.platform.magicAccessors = ({} : Platform).magicAccessors := by rw [X.admits.platform]
  have hlen' : ∀ sig, parseMethodDescriptor y.desc = some sig → (As.map (am_v G)).length = sig.parameters.length := fun sig h => by rw [List.length_map]; exact hlen sig h
  have hstk : (F0 m pc la ((As.reverse ++ .ref i :: rest).map (am_v G))).stack = (As.map (am_v G)).reverse ++ .ref (am_a G i) :: rest.map (am_v G) := by
    show (As.reverse ++ .ref i :: rest).map (am_v G) = _
    rw [List.map_append, List.map_reverse]; rfl
  have hdg : decode c.code (F0 m pc la ((As.reverse ++ .ref i :: rest).map (am_v G))).pc = .ok (.invokespecial idx, 3) := by rw [hF.2.1]; exact hd
  have fin : ∀ (mk : MethodId) (vm₁ : Vm), s.methodNamed? y = some mk → s.WarmedH vm₁ → (∀ target, (∀ acts, Steps p.tables e below (doInvoke e ((T.setVm vm₁).setTop (F0 m pc la (rest.map (am_v G)))) acts mk (Value.ref (am_a G i) :: As.map (am_v G)).toArray).1 target) → Steps p.tables e below (T.setTop (F0 m pc la ((As.reverse ++ .ref i :: rest).map (am_v G)))) target) →
      ∃ t, Steps p.tables e below (T.setTop (F0 m pc la ((As.reverse ++ .ref i :: rest).map (am_v G)))) t ∧ am_MQ G below post R.cells R.slots s t := by
    intro mk vm₁ hnamed hW₁ hstep₁
    have X₁ := X.noted hW₁
    obtain ⟨t, a1, b1⟩ := am_goes (U := T.setVm vm₁) hF hL hK hZ (by show am_P G M T.heap; rw [hT]; exact hP) (by show va_S (am_A G) s.heap T.heap locs; rw [hT]; exact hS) hb hl hM w4 w3 hrm hro X₁ hd (X₁.named hnamed) rfl kk kt
    exact ⟨t, hstep₁ _ fun acts => by rw [doInvoke_state]; exact a1, b1⟩
  rcases w1 with w1 | ⟨host, w1⟩
  · obtain ⟨mk, methM, cM, kP, vm₁, hnamed, hmethM, hcodeM, -, hlocalsM, -, hkP, -, hW₁, hstep₁⟩ := Steps.initColdArgs (e := e) X.here hF.1 X.warmed hpl hF.2.2.2.1 wn w5.1 (hts _ (am_mem w1 rfl)) (hts _ (am_mem w2 rfl)) hcode (f := F0 m pc la ((As.reverse ++ .ref i :: rest).map (am_v G))) rfl hlen' hstk hdg
    exact fin mk vm₁ hnamed hW₁ hstep₁
  · obtain ⟨mk, methM, cM, kP, vm₁, hnamed, hmethM, hcodeM, -, hlocalsM, -, hkP, -, hW₁, hstep₁⟩ := Steps.initColdArgsNest (e := e) X.here hF.1 X.warmed hpl hF.2.2.2.1 wn w5.1 (hts _ (am_mem w1 rfl)) (hts _ (am_mem w2 rfl)) hcode (f := F0 m pc la ((As.reverse ++ .ref i :: rest).map (am_v G))) rfl hlen' hstk hdg
    exact fin mk vm₁ hnamed hW₁ hstep₁
end AWK
end
section
/-! ===== what an instruction does to a memory, as a function: none where it may not be used; and its row ===== -/
def q_gti (M : am_M) (i c k : Nat) : Option Int32 := if i < am_n M ∧ am_s M i = (0, c) then some (am_i M i k) else none
def q_gtr (M : am_M) (i c k : Nat) : Option Nat := if i < am_n M ∧ am_s M i = (0, c) then am_r M i k else none
def q_ix (j : Int32) (len : Nat) : Option Nat := if 0 ≤ j.toInt ∧ j.toInt < (len : Int) then some j.toInt.toNat else none
def q_ldi (M : am_M) (i : Nat) (j : Int32) : Option Int32 := if i < am_n M ∧ (am_s M i).1 = 1 then (q_ix j (am_s M i).2).map (am_i M i) else none
def q_ldl (M : am_M) (i : Nat) (j : Int32) : Option Int64 := if i < am_n M ∧ (am_s M i).1 = 2 then (q_ix j (am_s M i).2).map (am_l M i) else none
def q_ldz (M : am_M) (i : Nat) (j : Int32) : Option Int32 := if i < am_n M ∧ (am_s M i).1 = 3 then (q_ix j (am_s M i).2).map (am_i M i) else none
def q_ldr (M : am_M) (i : Nat) (j : Int32) : Option Nat := if i < am_n M ∧ 4 ≤ (am_s M i).1 then (q_ix j (am_s M i).2).bind (am_r M i) else none
def q_sti (M : am_M) (i : Nat) (j x : Int32) : Option am_M := if i < am_n M ∧ (am_s M i).1 = 1 then (q_ix j (am_s M i).2).map (fun n => am_pi M i n x) else none
def q_stl (M : am_M) (i : Nat) (j : Int32) (x : Int64) : Option am_M := if i < am_n M ∧ (am_s M i).1 = 2 then (q_ix j (am_s M i).2).map (fun n => am_pl M i n x) else none
def q_stz (M : am_M) (i : Nat) (j x : Int32) : Option am_M := if i < am_n M ∧ (am_s M i).1 = 3 ∧ (x = 0 ∨ x = 1) then (q_ix j (am_s M i).2).map (fun n => am_pi M i n x) else none
def q_pti (M : am_M) (i c k : Nat) (x : Int32) : Option am_M := if i < am_n M ∧ am_s M i = (0, c) then some (am_pi M i k x) else none
def q_ptz (M : am_M) (i c k : Nat) (x : Int32) : Option am_M := if i < am_n M ∧ am_s M i = (0, c) ∧ (x = 0 ∨ x = 1) then some (am_pi M i k x) else none
def q_len (M : am_M) (i : Nat) : Option Int32 := if i < am_n M ∧ 1 ≤ (am_s M i).1 then some (Int32.ofNat (am_s M i).2) else none
def q_ldk (a : Nat) (j : Int32) : Option Int32 := (q_ix j 11).map (am_kv a)
def q_div (x y : Int32) : Option Int32 := if y = 0 then none else some (x / y)
def q_rem (x y : Int32) : Option Int32 := if y = 0 then none else some (x - x / y * y)
def q_z (x : Int32) : Option Int32 := if x = 0 ∨ x = 1 then some x else none
theorem q_bind {α β : Type} {o : Option α} {f : α → Option β} {r : β} (h : o.bind f = some r) : ∃ x, o = some x ∧ f x = some r := Option.bind_eq_some_iff.mp h
theorem q_ix_spec {j : Int32} {len n : Nat} (h : q_ix j len = some n) : am_ix j len n := by
  unfold q_ix at h
  split at h
  · next h1 =>
    cases h
    exact ⟨by omega, by omega⟩
  · cases h
theorem q_if {α : Type} {c : Prop} [Decidable c] {o : Option α} {x : α} (h : (if c then o else none) = some x) : c ∧ o = some x := by
  split at h
  · next h1 => exact ⟨h1, h⟩
  · cases h
theorem q_mp {α : Type} {j : Int32} {len : Nat} {f : Nat → α} {x : α} (h : (q_ix j len).map f = some x) : ∃ n, am_ix j len n ∧ f n = x := by
  obtain ⟨n, h1, h2⟩ := Option.map_eq_some_iff.mp h
  exact ⟨n, q_ix_spec h1, h2⟩
theorem am_pair {M : am_M} {i a : Nat} (h : (am_s M i).1 = a) : am_s M i = (a, (am_s M i).2) := by rw [← h]
section AWP
variable {u : am_U} {R : Room} {ce sl pc : Nat} {ls : List (Nat × Value)} {st : List Value} {M : am_M} {post : am_R → am_M → Prop}
theorem aw_gti {i ci k idx : Nat} {x : Int32} (hd : decode u.2.2.1 pc = .ok (.getfield idx, 3)) (hf : am_fl u.1 idx ci k) (ht : am_tI (am_ty ci k)) (hg : q_gti M i ci k = some x) (kk : AW u R ce sl (pc + 3) ls (.int x :: st) M post) : AW u R ce sl pc ls (.ref i :: st) M post := by
  obtain ⟨⟨h1, h2⟩, h3⟩ := q_if hg
  cases h3
  exact aw_geti hd hf h1 h2 ht kk
theorem aw_gtr {i ci k idx j : Nat} (hd : decode u.2.2.1 pc = .ok (.getfield idx, 3)) (hf : am_fl u.1 idx ci k) (ht : am_tR (am_ty ci k)) (hg : q_gtr M i ci k = some j) (kk : AW u R ce sl (pc + 3) ls (.ref j :: st) M post) : AW u R ce sl pc ls (.ref i :: st) M post := by
  obtain ⟨⟨h1, h2⟩, h3⟩ := q_if hg
  exact aw_getr hd hf h1 h2 ht h3 kk
theorem aw_pti {i ci k idx : Nat} {x : Int32} {M1 : am_M} (hd : decode u.2.2.1 pc = .ok (.putfield idx, 3)) (hf : am_fl u.1 idx ci k) (ht : am_ty ci k = .int) (hfin : (am_T ci k).2.2.2 = false) (hg : q_pti M i ci k x = some M1) (kk : AW u R ce sl (pc + 3) ls st M1 post) : AW u R ce sl pc ls (.int x :: .ref i :: st) M post := by
  obtain ⟨⟨h1, h2⟩, h3⟩ := q_if hg
  cases h3
  exact aw_puti hd hf h1 h2 ht hfin kk
theorem aw_ptz {i ci k idx : Nat} {x : Int32} {M1 : am_M} (hd : decode u.2.2.1 pc = .ok (.putfield idx, 3)) (hf : am_fl u.1 idx ci k) (ht : am_ty ci k = .boolean) (hfin : (am_T ci k).2.2.2 = false) (hg : q_ptz M i ci k x = some M1) (kk : AW u R ce sl (pc + 3) ls st M1 post) : AW u R ce sl pc ls (.int x :: .ref i :: st) M post := by
  obtain ⟨⟨h1, h2, h4⟩, h3⟩ := q_if hg
  cases h3
  exact aw_putz hd hf h1 h2 ht hfin h4 kk
theorem aw_ldi {i : Nat} {j x : Int32} (hd : decode u.2.2.1 pc = .ok (.iaload, 1)) (hg : q_ldi M i j = some x) (kk : AW u R ce sl (pc + 1) ls (.int x :: st) M post) : AW u R ce sl pc ls (.int j :: .ref i :: st) M post := by
  obtain ⟨⟨h1, h2⟩, h3⟩ := q_if hg
  obtain ⟨n, h4, rfl⟩ := q_mp h3
  exact aw_iaload hd h1 (am_pair h2) h4 kk
theorem aw_ldl {i : Nat} {j : Int32} {x : Int64} (hd : decode u.2.2.1 pc = .ok (.laload, 1)) (hg : q_ldl M i j = some x) (kk : AW u R ce sl (pc + 1) ls (.long x :: st) M post) : AW u R ce sl pc ls (.int j :: .ref i :: st) M post := by
  obtain ⟨⟨h1, h2⟩, h3⟩ := q_if hg
  obtain ⟨n, h4, rfl⟩ := q_mp h3
  exact aw_laload hd h1 (am_pair h2) h4 kk
theorem aw_ldz {i : Nat} {j x : Int32} (hd : decode u.2.2.1 pc = .ok (.baload, 1)) (hg : q_ldz M i j = some x) (kk : AW u R ce sl (pc + 1) ls (.int x :: st) M post) : AW u R ce sl pc ls (.int j :: .ref i :: st) M post := by
  obtain ⟨⟨h1, h2⟩, h3⟩ := q_if hg
  obtain ⟨n, h4, rfl⟩ := q_mp h3
  exact aw_baload hd h1 (am_pair h2) h4 kk
theorem aw_ldr {i r : Nat} {j : Int32} (hd : decode u.2.2.1 pc = .ok (.aaload, 1)) (hg : q_ldr M i j = some r) (kk : AW u R ce sl (pc + 1) ls (.ref r :: st) M post) : AW u R ce sl pc ls (.int j :: .ref i :: st) M post := by
  obtain ⟨⟨h1, h2⟩, h3⟩ := q_if hg
  obtain ⟨n, h4, h5⟩ := q_bind h3
  obtain ⟨a, ha⟩ : ∃ a, (am_s M i).1 = a + 1 := ⟨(am_s M i).1 - 1, by omega⟩
  exact aw_aaload hd h1 (am_pair ha) (by omega) (q_ix_spec h4) h5 kk
theorem aw_sti {i : Nat} {j x : Int32} {M1 : am_M} (hd : decode u.2.2.1 pc = .ok (.iastore, 1)) (hg : q_sti M i j x = some M1) (kk : AW u R ce sl (pc + 1) ls st M1 post) : AW u R ce sl pc ls (.int x :: .int j :: .ref i :: st) M post := by
  obtain ⟨⟨h1, h2⟩, h3⟩ := q_if hg
  obtain ⟨n, h4, rfl⟩ := q_mp h3
  exact aw_iastore hd h1 (am_pair h2) h4 kk
theorem aw_stl {i : Nat} {j : Int32} {x : Int64} {M1 : am_M} (hd : decode u.2.2.1 pc = .ok (.lastore, 1)) (hg : q_stl M i j x = some M1) (kk : AW u R ce sl (pc + 1) ls st M1 post) : AW u R ce sl pc ls (.long x :: .int j :: .ref i :: st) M post := by
  obtain ⟨⟨h1, h2⟩, h3⟩ := q_if hg
  obtain ⟨n, h4, rfl⟩ := q_mp h3
  exact aw_lastore hd h1 (am_pair h2) h4 kk
theorem aw_stz {i : Nat} {j x : Int32} {M1 : am_M} (hd : decode u.2.2.1 pc = .ok (.bastore, 1)) (hg : q_stz M i j x = some M1) (kk : AW u R ce sl (pc + 1) ls st M1 post) : AW u R ce sl pc ls (.int x :: .int j :: .ref i :: st) M post := by
  obtain ⟨⟨h1, h2, h5⟩, h3⟩ := q_if hg
  obtain ⟨n, h4, rfl⟩ := q_mp h3
  exact aw_bastore hd h1 (am_pair h2) h4 h5 kk
theorem aw_len {i : Nat} {x : Int32} (hd : decode u.2.2.1 pc = .ok (.arraylength, 1)) (hg : q_len M i = some x) (kk : AW u R ce sl (pc + 1) ls (.int x :: st) M post) : AW u R ce sl pc ls (.ref i :: st) M post := by
  obtain ⟨⟨h1, h2⟩, h3⟩ := q_if hg
  cases h3
  obtain ⟨a, ha⟩ : ∃ a, (am_s M i).1 = a + 1 := ⟨(am_s M i).1 - 1, by omega⟩
  exact aw_alen hd h1 (am_pair ha) rfl kk
theorem aw_ldk {a : Nat} {j x : Int32} (hd : decode u.2.2.1 pc = .ok (.iaload, 1)) (ha : a < 3) (hg : q_ldk a j = some x) (kk : AW u R ce sl (pc + 1) ls (.int x :: st) M post) : AW u R ce sl pc ls (.int j :: .ref (am_CB + a) :: st) M post := by
  obtain ⟨n, h4, rfl⟩ := q_mp hg
  exact aw_kload hd ha h4 kk
theorem aw_div {x y z : Int32} (hd : decode u.2.2.1 pc = .ok (.idiv, 1)) (hg : q_div x y = some z) (kk : AW u R ce sl (pc + 1) ls (.int z :: st) M post) : AW u R ce sl pc ls (.int y :: .int x :: st) M post := by
  unfold q_div at hg
  split at hg
  · cases hg
  · next h => cases hg; exact aw_idiv hd h kk
theorem aw_rem {x y z : Int32} (hd : decode u.2.2.1 pc = .ok (.irem, 1)) (hg : q_rem x y = some z) (kk : AW u R ce sl (pc + 1) ls (.int z :: st) M post) : AW u R ce sl pc ls (.int y :: .int x :: st) M post := by
  unfold q_rem at hg
  split at hg
  · cases hg
  · next h => cases hg; exact aw_irem hd h kk
theorem q_z_spec {x z : Int32} (h : q_z x = some z) : z = x ∧ narrow .boolean (.int x) = .int x := by
  obtain ⟨h1, h2⟩ := q_if h
  cases h2
  exact ⟨rfl, (am_zn h1).1⟩
theorem aw_ldcw {idx : Nat} {v : Int32} (hd : decode u.2.2.1 pc = .ok (.ldc_w idx, 3)) (hw : Cond.constant u.1 idx v ∈ lw_tbl) (k : AW u R ce sl (pc + 3) ls (.int v :: st) M post) : AW u R ce sl pc ls st M post := by
  intro G p l e s m args below meth c H locs la hF hL hK hZ hP hS hb hl
  exact lv_ldcw hF.1 hF.2.1 hF.2.2.2.1 (hF.2.2.2.2.1 _ (am_mem hw rfl)) hd (k G p l e s m args below meth c H locs la hF hL hK hZ hP hS hb hl)
theorem aw_pick {ls' : List (Nat × Value)} (ks : List Nat) (h : lv_pick ls ks = ls') (k : AW u R ce sl pc ls' st M post) : AW u R ce sl pc ls st M post := by
  intro G p l e s m args below meth c H locs la hF hL hK hZ hP hS hb hl
  refine k G p l e s m args below meth c H locs la hF hL hK hZ hP hS hb (lv_sub hl ks ?_)
  rw [← h]
  unfold lv_pick am_lv
  rw [List.map_filterMap]
  congr 1
  funext i
  rw [List.getElem?_map]
-- calls of methods that come back with one answer and one memory
variable {y : MethodName} {u' : am_U} {R' : Room} {As rest : List Value} {idx n : Nat} {M1 : am_M}
theorem aw_cS {v : Option Value} {st' : List Value} (hd : decode u.2.2.1 pc = .ok (.invokestatic idx, 3)) (hw : am_kS u.1 idx y u' n) (hrm : am_rm R R' u' ce sl) (hA : As.length = n) (hst : As.reverse ++ rest = st) (hro : (rest.map fun v => v.category).sum ≤ 8) (hst' : v.toList ++ rest = st') (hM : AMet y u' R' As M (fun r M' => r = .inl v ∧ M' = M1))
    (kk : AW u R (ce + R'.cells) (sl + R'.slots) (pc + 3) ls st' M1 post) : AW u R ce sl pc ls st M post := by
  subst hst'
  refine aw_callS hd hw hrm hM hA hst hro (fun k M' h => by cases h.1) (fun w M' h => ?_)
  obtain ⟨h1, rfl⟩ := h
  cases h1
  exact kk
theorem aw_cV {i ci : Nat} {v : Option Value} {st' : List Value} (hd : decode u.2.2.1 pc = .ok (.invokevirtual idx, 3)) (hw : am_kV u.1 idx ci y u' n) (hi : i < am_n M) (hs : am_s M i = (0, ci)) (hrm : am_rm R R' u' ce sl) (hA : As.length = n) (hst : As.reverse ++ .ref i :: rest = st) (hro : (rest.map fun v => v.category).sum ≤ 8) (hst' : v.toList ++ rest = st') (hM : AMet y u' R' (.ref i :: As) M (fun r M' => r = .inl v ∧ M' = M1))
    (kk : AW u R (ce + R'.cells) (sl + R'.slots) (pc + 3) ls st' M1 post) : AW u R ce sl pc ls st M post := by
  subst hst'
  refine aw_callV hd hw hi hs hrm hM hA hst hro (fun k M' h => by cases h.1) (fun w M' h => ?_)
  obtain ⟨h1, rfl⟩ := h
  cases h1
  exact kk
end AWP
/-- the receiver of a call -/
def q_ob (M : am_M) (i c : Nat) : Option Unit := if i < am_n M ∧ am_s M i = (0, c) then some () else none
theorem q_ob_spec {M : am_M} {i c : Nat} {x : Unit} (h : q_ob M i c = some x) : i < am_n M ∧ am_s M i = (0, c) := (q_if h).1
end
section
/-! ===== 'throw new E("..")' of the three kinds, and arraycopy ===== -/
def am_px (M : am_M) : am_M := (M.1, M.2.1, M.2.2.1, M.2.2.2.1, M.2.2.2.2.1, M.2.2.2.2.2 + 1)
def am_ic : Nat → Nat := fun k => match k with
  | 0 => 236
  | 1 => 243
  | _ => 248
def am_sw : List Cond := [.laysStatic "java/lang/Throwable" "UNASSIGNED_STACK" "[Ljava/lang/StackTraceElement;", .laysStatic "java/lang/Throwable" "SUPPRESSED_SENTINEL" "Ljava/util/List;", .isRef (.static "java/lang/Throwable" "UNASSIGNED_STACK" "[Ljava/lang/StackTraceElement;"), .isRef (.static "java/lang/Throwable" "SUPPRESSED_SENTINEL" "Ljava/util/List;")]
/-- the words of a throwable of class X under RuntimeException, whose own constructor's entry is i5 -/
def am_tw (ic : Nat) (X : String) (i5 : Nat) (b5 : ByteArray) : List Cond :=
  Bundle.throwableAtoms ++ Bundle.throwableSAtoms ++ Bundle.chainSAtoms "java/lang/RuntimeException" ["java/lang/Exception"] ++ Bundle.passSAtoms X "java/lang/RuntimeException" i5 b5 ++
  [.methodLink "CrewOffice" ic (Bundle.initS X), .instantiable X 6, .selects X Bundle.tFill0 Bundle.tFill0, .selects X Bundle.tFill Bundle.tFill,
   .lays X Bundle.tN "cause" "Ljava/lang/Throwable;", .lays X Bundle.tN "stackTrace" Bundle.steD, .lays X Bundle.tN "suppressedExceptions" Bundle.listD, .lays X Bundle.tN "detailMessage" "Ljava/lang/String;",
   .isRef (.static Bundle.tN "UNASSIGNED_STACK" Bundle.steD), .isRef (.static Bundle.tN "SUPPRESSED_SENTINEL" Bundle.listD),
   .fieldLink Bundle.tN 198 Bundle.tN "backtrace" "Ljava/lang/Object;", .lays Bundle.tN Bundle.tN "backtrace" "Ljava/lang/Object;", .lays X Bundle.tN "backtrace" "Ljava/lang/Object;"]
set_option maxHeartbeats 4000000 in
/-- a constructor of such a throwable, called behind 'new' and 'dup', and the throw behind it, in a method that has written nothing -/
theorem am_ctorThrow {p : Program} {l : Launch} {e : Env} {R : Room} {s : State} {m₀ : MethodId} {args : Array Value} {below : List Frame} {meth : Method} {c : Code} {W : State} {cells slots : Nat} {ic i5 : Nat} {cls : String} {b5 : ByteArray}
    (X : Stand p l e R s m₀ args below meth c W [] cells slots) (hexec : p.tables.exec = Jvm.exec) (htr : e.platform.stackTraces = false) (hown : s.vm.findClass "CrewOffice" = some m₀.cls) (hcls : Bundle.fit cls = true)
    (h50 : decode b5 0 = .ok (.aload_n 0, 1)) (h51 : decode b5 1 = .ok (.aload_n 1, 1)) (h52 : decode b5 2 = .ok (.invokespecial i5, 3)) (h55 : decode b5 5 = .ok (.return_, 1))
    (h : ∀ a ∈ am_tw ic cls i5 b5, a.before args s = true) {a : Addr} {cX : ClassId} {kX : Class} (hfoundX : s.vm.findClass cls = some cX) (hkX : s.vm.classes[cX]? = some kX) (hcell : W.heap[a]? = some (freshCell cX kX)) (hnew : s.heap.size ≤ a)
    {msg : Value} (hmsg : msg.isRef = true) {g : JFrame} (hg : g.method = m₀) (hsize : g.locals.size = c.maxLocals) (hlocked : g.locked = none) (hentered : g.entered = []) {rest : List Value} (hstack : g.stack = msg :: .ref a :: .ref a :: rest)
    (hd6 : decode c.code g.pc = .ok (.invokespecial ic, 3)) (hd9 : decode c.code (g.pc + 3) = .ok (.athrow, 1)) (hout : ∀ x ∈ c.exceptionTable.toList, covers x (g.pc + 3) = false)
    (hRframes : 5 < R.frames) (hRlocals : 2 * g.monitorRoom + ((Value.ref a :: rest).map fun v => v.category).sum + 81 ≤ R.locals) (hlocks : meth.locks = false) :
    ∃ U : State, Steps p.tables e below (W.setTop g) U ∧ U.status = .running ∧ Ended U below (.threw a) ∧ s.WarmedH U.vm ∧ s.sameButNew ({ U with vm := s.vm } : State) [] cells slots ∧
      ∃ ce, U.heap[a]? = some ce ∧ s.vm.findClass cls = some ce.cls ∧ ce.vm = .none := by
  have howns : e.platform.frameOwnsMonitors = true := by rw [X.admits.platform]
  have hfin : e.platform.finalization = false := by rw [X.admits.platform]
  have hpl : e.platform.magicAccessors = ({} : Platform).magicAccessors := by rw [X.admits.platform]
  have a' : ∀ x, x ∈ am_tw ic cls i5 b5 → x.holds args s none s [] = true := fun x hx => h x hx
  obtain ⟨T, Z0, L, -, Y⟩ := ThrowableC.of_atoms (args := args) howns hfin hpl (fun x hx => h x (by simp only [am_tw, List.mem_append]; exact Or.inl (Or.inl (Or.inl (Or.inl hx)))))
  obtain ⟨Z, M, LZ, LM, hnZ⟩ := Init0T.ofS_atoms (args := args) hpl L Y (fun x hx => h x (by simp only [am_tw, List.mem_append]; exact Or.inl (Or.inl (Or.inl (Or.inr hx)))))
  obtain ⟨P1, Ps, hlen, L1, hL, hP1m, hlink1, hlink⟩ := Bundle.chainS (args := args) hpl hnZ ["java/lang/Exception"] "java/lang/RuntimeException" (by decide +kernel) (by decide +kernel) (fun x hx => h x (by simp only [am_tw, List.mem_append]; exact Or.inl (Or.inl (Or.inr hx))))
  obtain ⟨P0, L0, hP0m, hP0s⟩ := PassC.ofS_atoms (args := args) (s := s) hpl (X := cls) (Y := "java/lang/RuntimeException") (Bundle.fit_spec hcls).1 (by decide) h50 h51 h52 h55 (fun x hx => h x (by simp only [am_tw, List.mem_append]; exact Or.inl (Or.inr hx)))
  have hsup0 : P0.sup = P1.m := Option.some.inj (hP0s.symm.trans hP1m)
  have hfound : s.vm.findClass cls = some P0.m.cls := findClass_of_methodNamed hP0m
  cases Option.some.inj (hfoundX.symm.trans hfound)
  obtain ⟨c1, kX', hc1, hk, hord, -, -, hn6⟩ := Cond.instantiable_spec (a' (.instantiable cls 6) (by simp [am_tw]))
  cases Option.some.inj (hc1.symm.trans hfound)
  cases Option.some.inj (hkX.symm.trans hk)
  have hsel0 : selectMethod e.platform s.vm P0.m.cls T.fill0 = .method T.fill0 := by
    obtain ⟨c2, r2, m2, q1, q2, q3, q4, -⟩ := Cond.selects_spec (a' (.selects cls Bundle.tFill0 Bundle.tFill0) (by simp [am_tw]))
    cases Option.some.inj (q1.symm.trans hfound)
    cases Option.some.inj (q2.symm.trans (State.methodFound?_of_named Y.fill0 (by decide)))
    cases Option.some.inj (q3.symm.trans Y.fill0)
    rw [Launch.admits_selectMethod X.admits]; exact q4
  have hselF : selectMethod e.platform s.vm P0.m.cls T.fill = .method T.fill := by
    obtain ⟨c2, r2, m2, q1, q2, q3, q4, -⟩ := Cond.selects_spec (a' (.selects cls Bundle.tFill Bundle.tFill) (by simp [am_tw]))
    cases Option.some.inj (q1.symm.trans hfound)
    cases Option.some.inj (q2.symm.trans (State.methodFound?_of_named Y.fill (by decide)))
    cases Option.some.inj (q3.symm.trans Y.fill)
    rw [Launch.admits_selectMethod X.admits]; exact q4
  obtain ⟨cellS0, hcS0, hiss⟩ := Y.statics
  obtain ⟨u0, hu0⟩ := Cond.staticRefV Y.unassigned L.unassignedStatic L.statics hcS0 hiss (a' (.isRef (.static Bundle.tN "UNASSIGNED_STACK" Bundle.steD)) (by simp [am_tw]))
  obtain ⟨sen, hsen⟩ := Cond.staticRefV Y.sentinel L.sentinelStatic L.statics hcS0 hiss (a' (.isRef (.static Bundle.tN "SUPPRESSED_SENTINEL" Bundle.listD)) (by simp [am_tw]))
  obtain ⟨ci198, i198, fB, hk198, hg198, ha198, hsB, -, hnB, htB, hffB⟩ := Cond.ownField (t := .object "java/lang/Object") Y.found L.cls (by decide +kernel) (a' (.fieldLink Bundle.tN 198 Bundle.tN "backtrace" "Ljava/lang/Object;") (by simp [am_tw])) (a' (.lays Bundle.tN Bundle.tN "backtrace" "Ljava/lang/Object;") (by simp [am_tw])) e.platform hpl
  have hcellS : W.heap[T.aS]? = some cellS0 := State.sameButNew.old_cell (s' := W.setVm s.vm) X.same hcS0
  have hknownS : cellS0.vm ≠ .unknown := by
    intro hu
    rw [hu] at hiss
    cases hiss
  have hneS : T.aS ≠ a := Nat.ne_of_lt (Nat.lt_of_lt_of_le (Array.getElem?_eq_some_iff.mp hcS0).1 hnew)
  obtain ⟨iM, hffM⟩ := Y.msg
  obtain ⟨tyC, dC, hdC, hdnC⟩ := Cond.laysAt hfound hk Y.cause (a' (.lays cls Bundle.tN "cause" "Ljava/lang/Throwable;") (by simp [am_tw]))
  obtain ⟨tyS, dS, hdS, hdnS⟩ := Cond.laysAt hfound hk Y.stack (a' (.lays cls Bundle.tN "stackTrace" Bundle.steD) (by simp [am_tw]))
  obtain ⟨tyP, dP, hdP, hdnP⟩ := Cond.laysAt hfound hk Y.supp (a' (.lays cls Bundle.tN "suppressedExceptions" Bundle.listD) (by simp [am_tw]))
  obtain ⟨tyM, dM, hdM, hdnM⟩ := Cond.laysAt hfound hk hffM (a' (.lays cls Bundle.tN "detailMessage" "Ljava/lang/String;") (by simp [am_tw]))
  obtain ⟨tyB, dB, hdB, hdnB⟩ := Cond.laysAt hfound hk hffB (a' (.lays cls Bundle.tN "backtrace" "Ljava/lang/Object;") (by simp [am_tw]))
  have bC := Cond.laysApart hdB hdC hdnB hdnC (by rw [hnB, Y.causeName]; decide)
  have bS := Cond.laysApart hdB hdS hdnB hdnS (by rw [hnB, Y.stackName]; decide)
  have bP := Cond.laysApart hdB hdP hdnB hdnP (by rw [hnB, Y.suppName]; decide)
  have hskip : SkipFacts T e.platform s (fun u => u) u0 ((preparedCellV T.toThrowableT (freshCell P0.m.cls kX) a u0 sen).withEntry W.cur) :=
    ⟨{ ci198 := ci198, i198 := i198, fBack := fB }, ⟨hk198, hg198, ha198, hsB⟩, by
      have := fresh_default (c := P0.m.cls) tyB
      rw [htB] at this
      simpa [preparedCellV, Cell.setSlot, Cell.withEntry, Array.getElem?_setIfInBounds, bC, bS, bP, bC.symm, bS.symm, bP.symm, defaultValue] using this, fun _ _ => rfl⟩
  obtain ⟨tm, methC, cdC, kC, vm₁, hnC, -, -, -, -, -, -, -, hW₁, st1⟩ := Steps.initColdS (tb := p.tables) (e := e) (below := below) (s := s) (U := W) X.here hexec X.warmed hpl hown (t := Bundle.initS cls) rfl rfl (Bundle.fit_spec hcls).2
    (a' (.methodLink "CrewOffice" ic (Bundle.initS cls)) (by simp [am_tw])) (h (.instanceMethod (Bundle.initS cls)) (by simp [am_tw, Bundle.passSAtoms])) (bytes := b5) (maxL := 2) (h (.code (Bundle.initS cls) b5 2 none) (by simp [am_tw, Bundle.passSAtoms]))
    (f := g) hg (a := a) (msg := msg) (rest := .ref a :: rest) hstack hd6
  cases Option.some.inj (hnC.symm.trans hP0m)
  have X₁ := X.noted hW₁
  obtain ⟨vm₂, X₂, st2⟩ := X₁.ctorMessageOffV hexec (g := { g with stack := .ref a :: rest }) hg hsize T L Z LZ M LM (P0 :: P1 :: Ps)
    (fun P hP => by rcases List.mem_cons.mp hP with rfl | hP; exact L0; rcases List.mem_cons.mp hP with rfl | hP; exact L1; exact hL P hP) ⟨hsup0, hlink1, hlink⟩ (u0 := u0) (sen := sen) (self := a) hmsg (cell := freshCell P0.m.cls kX) (cellS := cellS0)
    hcell (fun _ => by simp) (by simp) rfl rfl hsel0 hselF hcellS hneS hknownS hu0 hsen
    (Takes.of_laid hk hord tyC (by rw [Y.causeType]; rfl)) (Takes.of_laid hk hord tyS (by rw [Y.stackType]; exact fits_refV_array _ u0)) (Takes.of_laid hk hord tyP (by rw [Y.suppType]; exact fits_refV_object _ sen))
    (Takes.of_laid hk hord tyM (by rw [Y.msgType]; exact fits_refV_object _ ⟨msg, hmsg⟩)) Y.objLocals hskip htr [] hd6
    (by simp only [List.length_cons, hlen]; simp; omega) (by simp only [List.length_cons, hlen]; simp at hRlocals ⊢; omega)
  obtain ⟨hwalk, hrun, hended, hWU, hsame⟩ := X₂.athrowLeaves hexec (g := { g with stack := .ref a :: rest, pc := g.pc + 3 }) hg hlocked hentered hout (a := a) (rest := rest) rfl hd9 (hlocks := hlocks)
  have hlt : a < ((W.setVm vm₁).setVm vm₂).heap.size := (Array.getElem?_eq_some_iff.mp hcell).1
  have hU := heapAt_setCell_self (s := (W.setVm vm₁).setVm vm₂) (plainBareV T.toThrowableT (freshCell P0.m.cls kX) a u0 sen msg) hlt
  refine ⟨_, st1 _ (fun acts => ?_), hrun, hended, hWU, hsame.weaken (fun y hy hlt' => ?_) (Nat.le_refl _) (Nat.le_refl _), _, hU, hfound, rfl⟩
  · rw [doInvoke_state]
    exact st2 _ hwalk
  · exfalso
    have hb : y.base = a := by
      simp only [List.nil_append, List.mem_cons, List.not_mem_nil, or_false] at hy
      rcases hy with rfl | rfl | rfl | rfl | rfl <;> rfl
    rw [hb] at hlt'
    exact Nat.not_lt.mpr hnew hlt'
def am_i5 : Nat → Nat × ByteArray := fun k => match k with
  | 0 => (7, prog_15_method_2_code)
  | 1 => (13, prog_24_method_4_code)
  | _ => (7, prog_16_method_2_code)
set_option maxRecDepth 100000 in
theorem am_own0 : ∀ w ∈ am_tw (am_ic 0) (am_X 0) (am_i5 0).1 (am_i5 0).2, w ∈ am_sw ∨ w ∈ am_ws := by decide +kernel
set_option maxRecDepth 100000 in
theorem am_own1 : ∀ w ∈ am_tw (am_ic 1) (am_X 1) (am_i5 1).1 (am_i5 1).2, w ∈ am_sw ∨ w ∈ am_ws := by decide +kernel
set_option maxRecDepth 100000 in
theorem am_own2 : ∀ w ∈ am_tw (am_ic 2) (am_X 2) (am_i5 2).1 (am_i5 2).2, w ∈ am_sw ∨ w ∈ am_ws := by decide +kernel
theorem am_sf.args {A : Nat → Prop} {C n d : String} {U : State} (h : am_sf A C n d U) (args : Array Value) : (Cond.laysStatic C n d).before args U = true ∧ (Cond.isRef (.static C n d)).before args U = true := ⟨h.1, h.2.1⟩
end
section
/-! ===== the three methods that throw where a condition doesn't hold ===== -/
theorem am_own {k : Nat} (hk : k < 3) : ∀ w ∈ am_tw (am_ic k) (am_X k) (am_i5 k).1 (am_i5 k).2, w ∈ am_sw ∨ w ∈ am_ws := by
  match k, hk with
  | 0, _ => exact am_own0
  | 1, _ => exact am_own1
  | 2, _ => exact am_own2
  | k + 3, h => exact absurd h (by omega)
theorem am_fit {k : Nat} (hk : k < 3) : Bundle.fit (am_X k) = true ∧ (decode (am_i5 k).2 0 = .ok (.aload_n 0, 1) ∧ decode (am_i5 k).2 1 = .ok (.aload_n 1, 1)) ∧ decode (am_i5 k).2 2 = .ok (.invokespecial (am_i5 k).1, 3) ∧ decode (am_i5 k).2 5 = .ok (.return_, 1) := by
  match k, hk with
  | 0, _ => exact ⟨by decide +kernel, ⟨by decide +kernel, by decide +kernel⟩, by decide +kernel, by decide +kernel⟩
  | 1, _ => exact ⟨by decide +kernel, ⟨by decide +kernel, by decide +kernel⟩, by decide +kernel, by decide +kernel⟩
  | 2, _ => exact ⟨by decide +kernel, ⟨by decide +kernel, by decide +kernel⟩, by decide +kernel, by decide +kernel⟩
  | k + 3, h => exact absurd h (by omega)
def am_nix : Nat → Nat := fun k => match k with
  | 0 => 232
  | 1 => 239
  | _ => 244
theorem am_inw {k : Nat} (hk : k < 3) : Cond.classLink "CrewOffice" (am_nix k) (am_X k) ∈ lw_tbl ∧ Cond.instantiable (am_X k) 6 ∈ lw_tbl ∧ Cond.initialized (am_X k) ∈ lw_tbl := by
  match k, hk with
  | 0, _ => exact ⟨by decide +kernel, by decide +kernel, by decide +kernel⟩
  | 1, _ => exact ⟨by decide +kernel, by decide +kernel, by decide +kernel⟩
  | 2, _ => exact ⟨by decide +kernel, by decide +kernel, by decide +kernel⟩
  | k + 3, h => exact absurd h (by omega)
def am_nR : Room := { frames := 8, cells := 1, slots := 6, locals := 200 }
theorem am_Ppx {G : am_G} {M : am_M} {H H1 : Heap} (h : am_P G M H) (z : H1.size = H.size + 1) (o : ∀ q, q < H.size → H1[q]? = H[q]?) : am_P G (am_px M) H1 := by
  obtain ⟨h1, h2, h3⟩ := h
  refine ⟨by rw [z, h1]; show _ = am_b G + am_n M + (am_x M + 1); omega, h2, fun i hi => ?_⟩
  refine (h3 i hi).kept (M1 := am_px M) ⟨rfl, rfl, rfl, rfl⟩ (o _ ?_)
  have hi' : i < am_n M := hi
  rw [am_a_lt (Nat.lt_of_lt_of_le hi' h2), h1]
  omega
set_option maxHeartbeats 4000000 in
theorem am_need {k : Nat} {y : MethodName} {u : am_U} {M : am_M} (hk : k < 3) (hy : plainFor y = true) (hc : am_code y u ∈ am_ws) (hown : y.cls = "CrewOffice") (hu1 : u.1 = "CrewOffice") (hnm : y.name = u.2.1) (hul : u.2.2.2.1 = 1) (hur : u.2.2.2.2.1 = none) (huh : u.2.2.2.2.2 = [])
    (d0 : decode u.2.2.1 0 = .ok (.iload_n 0, 1)) (d1 : decode u.2.2.1 1 = .ok (.ifCond .ne 13, 3)) (d4 : decode u.2.2.1 4 = .ok (.new (am_nix k), 3)) (d7 : decode u.2.2.1 7 = .ok (.dup, 1)) (d8 : decode u.2.2.1 8 = .ok (.ldc (am_tx k).1, 2)) (d10 : decode u.2.2.1 10 = .ok (.invokespecial (am_ic k), 3)) (d13 : decode u.2.2.1 13 = .ok (.athrow, 1)) :
    AMet y u am_nR [.int 0] M (fun r M' => r = .inr k ∧ M' = am_px M) := by
  intro l hL G
  refine MetFree.of_bodySF (code := u.2.2.1) (maxLocals := u.2.2.2.1) (ret := u.2.2.2.2.1) hy ?_ ?_
  · intro args s m h hn
    obtain ⟨meth, c, h1, h2, h3, h4, h5, h6, -, -⟩ := am_code_spec hn (atoms_spec (ws := am_ws) h _ hc)
    exact ⟨meth, c, h1, h2, h3, h4, h5, h6⟩
  · intro p e s m args below meth c s₁ B hml hv _
    obtain ⟨rfl, hP, hK, hZ, hb⟩ := hv
    have hts := atoms_spec (ws := am_ws) B.pre
    have hh0 : s₁.heap = s.heap := by rw [B.state]; rfl
    have X₀ := Stand.of_body B
    have hnm1 : s.vm.findClass "CrewOffice" = some m.cls := by rw [← hown]; exact findClass_of_methodNamed B.named
    obtain ⟨meth', c', h1, h2, h3, h4, h5, h6, h7, -⟩ := am_code_spec B.named (hts _ hc)
    cases B.method.symm.trans h1
    cases X₀.code.symm.trans h2
    have hx := B.exec
    have hbb := B.bytes
    have hout : ∀ x ∈ c.exceptionTable.toList, covers x 13 = false := by
      intro x hx
      rw [huh] at h7
      rw [List.map_eq_nil_iff.mp h7] at hx
      cases hx
    obtain ⟨wL, wI, wN⟩ := am_inw hk
    obtain ⟨cX, kX0, hfX, hkX0, -⟩ := Cond.instantiable_spec (hts _ (am_mem wI rfl))
    obtain ⟨qt, htx⟩ := hZ.1.2.2.1 k hk
    have hl := lv_entry ([.int 0] : List Value) (n := u.2.2.2.1) (by rw [hul]; exact Nat.le_of_ble_eq_true rfl)
    show ∃ s₂ o, Steps p.tables e below (s₁.setTop (entryFrame m ([.int 0] : List Value).toArray u.2.2.2.1)) s₂ ∧ _
    rw [lg_entry_eq]
    generalize (lg_sl ([.int 0] : List Value) ++ List.replicate (u.2.2.2.1 - (lg_sl ([.int 0] : List Value)).length) Slot.unset).toArray = la at hl ⊢
    have K : W p l e am_nR s m (List.map (am_v G) [Value.int 0]).toArray below meth c s.heap [] 0 0 (am_MQ G below (fun r M' => r = .inr k ∧ M' = am_px M) am_nR.cells am_nR.slots s) (F0 m 0 la []) := by
      refine lv_iload_n hx hbb d0 rfl (lv_at hl 0 rfl) ?_
      refine lv_if_ne (tgt := 14) hx hbb d1 (by decide) (fun h => absurd rfl h) (fun _ => ?_)
      refine W.newcK (H := s.heap) (g := F0 m 4 la []) hx hbb hnm1 (hts _ (am_mem wL rfl)) (hts _ (am_mem wI rfl)) (hts _ (am_mem wN rfl)) rfl d4 (by decide) (by decide) hfX rfl (fun H' kC hkC e1 z1 o1 => ?_)
      refine lv_dup (pc := 7) (ls := la) hx hbb d7 rfl ?_
      refine va_ldcS hx hbb hnm1 htx d8 ?_
      intro T hT X
      have hat : ∀ w ∈ am_tw (am_ic k) (am_X k) (am_i5 k).1 (am_i5 k).2, w.before (List.map (am_v G) [Value.int 0]).toArray s = true := by
        intro w hw
        rcases am_own hk w hw with h | h
        · obtain ⟨y1, y2⟩ := hZ.1.1.args (List.map (am_v G) [Value.int 0]).toArray
          obtain ⟨y3, y4⟩ := hZ.1.2.1.args (List.map (am_v G) [Value.int 0]).toArray
          simp only [am_sw, List.mem_cons, List.not_mem_nil, or_false] at h
          rcases h with rfl | rfl | rfl | rfl
          · exact y1
          · exact y3
          · exact y2
          · exact y4
        · exact hts w h
      obtain ⟨f0, ⟨f1, f2⟩, f3, f4⟩ := am_fit hk
      obtain ⟨U, st, hrun, hend, hWm, hsame, ce, hce, hcls, hvm⟩ := am_ctorThrow (ic := am_ic k) (i5 := (am_i5 k).1) (b5 := (am_i5 k).2) X hx (hL e X.admits) hnm1 f0 f1 f2 f3 f4 hat hfX hkC (a := s.heap.size) (by rw [hT]; exact e1) (Nat.le_refl _) (msg := .ref qt) rfl (g := F0 m 10 la [.ref qt, .ref s.heap.size, .ref s.heap.size]) rfl (hl.1.trans hml.symm) rfl rfl (rest := []) rfl (by rw [hbb]; exact d10) (by rw [hbb]; exact d13) hout (by decide) (by show 2 * 0 + (1 + 0) + 81 ≤ 200; omega) h6
      have hold : ∀ q, q < s.heap.size → U.heap[q]? = s.heap[q]? := by
        intro q hq
        have hcq : s.heap[q]? = some s.heap[q] := Array.getElem?_eq_getElem hq
        rw [hcq]
        exact State.sameButNew.old_cell hsame hcq
      have hsz : U.heap.size = s.heap.size + 1 := by
        have hs3 : U.heap.size ≤ s.heap.size + (0 + 1) := hsame.2.2.1
        have hs4 := (Array.getElem?_eq_some_iff.mp hce).1
        omega
      refine ⟨U, st, .threw s.heap.size, hrun, hend, ⟨.inr k, am_px M, ⟨rfl, rfl⟩, ⟨s.heap.size, ce, rfl, hce, by rw [hvm]; rfl, by rw [hWm.alike.findClass]; exact hcls⟩, am_Ppx hP hsz hold⟩, ⟨by omega, fun q h1 _ => hold q h1⟩, [], ⟨hWm, hsame⟩, fun q h => by cases h⟩
    obtain ⟨t, a1, o, b1, b2, b3⟩ := K s₁ hh0 X₀
    exact ⟨t, o, a1, b1, b2, b3⟩
end
section
/-! ===== System.arraycopy of ints ===== -/
def am_cp (M : am_M) (i0 i1 sp dp n : Nat) : am_M := (M.1, M.2.1, fun a b => if a = i1 ∧ dp ≤ b ∧ b < dp + n then M.2.2.1 i0 (sp + (b - dp)) else M.2.2.1 a b, M.2.2.2.1, M.2.2.2.2.1, M.2.2.2.2.2)
def q_cpy (M : am_M) (i0 : Nat) (sp : Int32) (i1 : Nat) (dp n : Int32) : Option am_M :=
  if (i0 < am_n M ∧ (am_s M i0).1 = 1 ∧ i1 < am_n M ∧ (am_s M i1).1 = 1) ∧ 0 ≤ sp.toInt ∧ 0 ≤ dp.toInt ∧ 0 ≤ n.toInt ∧ sp.toInt + n.toInt ≤ ((am_s M i0).2 : Int) ∧ dp.toInt + n.toInt ≤ ((am_s M i1).2 : Int) then some (am_cp M i0 i1 sp.toInt.toNat dp.toInt.toNat n.toInt.toNat) else none
theorem am_copyw : Cond.native arraycopyName ∈ lw_tbl ∧ Cond.static arraycopyName ∈ lw_tbl ∧ Cond.initialized "java/lang/System" ∈ lw_tbl := ⟨by decide +kernel, by decide +kernel, by decide +kernel⟩
theorem am_ge0 {x : Int32} (h : 0 ≤ x.toInt) : ¬ x < 0 := by
  intro h1
  have h2 := Int32.lt_iff_toInt_lt.mp h1
  have h3 : (0 : Int32).toInt = 0 := by decide
  omega
set_option maxHeartbeats 1000000 in
theorem aw_cpy {u : am_U} {R : Room} {ce sl pc : Nat} {ls : List (Nat × Value)} {st : List Value} {M M1 : am_M} {post : am_R → am_M → Prop} {i0 i1 idx : Nat} {sp dp n : Int32} (hd : decode u.2.2.1 pc = .ok (.invokestatic idx, 3)) (hw : Cond.methodLink u.1 idx arraycopyName ∈ lw_tbl) (hfr : 1 ≤ R.frames) (hlo : (st.map fun v => v.category).sum + 18 ≤ R.locals)
    (hg : q_cpy M i0 sp i1 dp n = some M1) (kk : AW u R ce sl (pc + 3) ls st M1 post) : AW u R ce sl pc ls (.int n :: .int dp :: .ref i1 :: .int sp :: .ref i0 :: st) M post := by
  obtain ⟨⟨⟨g1, g2, g3, g4⟩, g5, g6, g7, g8, g9⟩, hM⟩ := q_if hg
  cases hM
  intro G p l e s m args below meth c H locs la hF hL hK hZ hP hS hb hl
  obtain ⟨h80, ha0⟩ := am_arr (j := 0) hP g1 (am_pair g2)
  obtain ⟨h81, ha1⟩ := am_arr (j := 0) hP g3 (am_pair g4)
  intro T hT X
  have hts := hF.2.2.2.2.1
  obtain ⟨w1, w2, w3⟩ := am_copyw
  have hAr := (hK.2 0 _ (am_tys_get G h80)).1
  obtain ⟨-, k0, hk0, cm0, hkk0⟩ := hAr (am_s M i0).2 (fun k => am_fv G M i0 (am_aty 0) k)
  have hk1 : s.vm.classes[(arrV (G.2.2.1 0) (am_s M i1).2 (fun k => am_fv G M i1 (am_aty 0) k)).cls]? = some k0 := hk0
  obtain ⟨vm', X', step⟩ := X.arraycopy hF.1 hF.2.2.2.1 (hts _ (am_mem hw rfl)) (hts _ (am_mem w1 rfl)) (hts _ (am_mem w2 rfl)) (hts _ (am_mem w3 rfl)) (src := am_a G i0) (dst := am_a G i1) (srcPos := sp) (destPos := dp) (n := n) (by rw [hT]; exact ha0) (by rw [hT]; exact ha1)
    (fun _ h => by cases h) (fun _ h => by cases h) (fun h => by cases h) (fun h => by cases h) hk0 hk1 hkk0 hkk0 (by simp [am_aty, refKind]) (am_ge0 g5) (am_ge0 g6) (am_ge0 g7)
    (by rw [arrV_size]; omega) (by rw [arrV_size]; omega)
    (fun vm₁ _ i hi => by
      have hi' : i < n.toInt.toNat := hi
      have e : (arrV (G.2.2.1 0) (am_s M i0).2 (fun k => am_fv G M i0 (am_aty 0) k)).slots.getD (sp.toNatClampNeg + i) .null = .int (am_i M i0 (sp.toNatClampNeg + i)) := by
        rw [Array.getD_eq_getD_getElem?, arrV_read _ _ (by show sp.toInt.toNat + i < _; omega)]
        rfl
      refine ⟨?_, ?_⟩
      · rw [e]
        rfl
      · rw [e]
        exact trivial)
    (g := F0 m pc la ((.int n :: .int dp :: .ref i1 :: .int sp :: .ref i0 :: st).map (am_v G))) rfl (hl.1.trans hF.2.2.1.symm) (rest := st.map (am_v G)) rfl (by rw [hF.2.1]; exact hd) hfr (by show 2 * 0 + _ + (5 + 2 + 11) ≤ _; rw [am_cats]; omega)
  have e1 : copied (arrV (G.2.2.1 0) (am_s M i0).2 (fun k => am_fv G M i0 (am_aty 0) k)) (arrV (G.2.2.1 0) (am_s M i1).2 (fun k => am_fv G M i1 (am_aty 0) k)) sp dp n = arrV (G.2.2.1 0) (am_s M i1).2 (fun j => .int (va_cpy (am_i M i0) (am_i M i1) sp.toNatClampNeg dp.toNatClampNeg n.toNatClampNeg j)) := va_copied (fun z => .int z) _ _ (am_i M i0) (am_i M i1) (by show sp.toInt.toNat + n.toInt.toNat ≤ _; omega)
  rw [e1] at X' step
  have hlt : am_a G i1 < H.size := (Array.getElem?_eq_some_iff.mp ha1).1
  have oq : ∀ q : Nat, q ≠ am_a G i1 → (H.setIfInBounds (am_a G i1) (arrV (G.2.2.1 0) (am_s M i1).2 (fun j => .int (va_cpy (am_i M i0) (am_i M i1) sp.toNatClampNeg dp.toNatClampNeg n.toNatClampNeg j))))[q]? = H[q]? := fun q hq => by simp [Array.getElem?_setIfInBounds, Ne.symm hq]
  have hP1 : am_P G (am_cp M i0 i1 sp.toInt.toNat dp.toInt.toNat n.toInt.toNat) (H.setIfInBounds (am_a G i1) (arrV (G.2.2.1 0) (am_s M i1).2 (fun j => .int (va_cpy (am_i M i0) (am_i M i1) sp.toNatClampNeg dp.toNatClampNeg n.toNatClampNeg j)))) := by
    refine hP.put g3 rfl rfl (fun j hj => ⟨rfl, funext fun b => if_neg (fun q => hj q.1), rfl, rfl⟩) (by simp) oq ?_
    unfold am_at
    rw [show am_s (am_cp M i0 i1 sp.toInt.toNat dp.toInt.toNat n.toInt.toNat) i1 = (0 + 1, (am_s M i1).2) from am_pair g4]
    refine ⟨by decide, ?_⟩
    have e2 : (H.setIfInBounds (am_a G i1) (arrV (G.2.2.1 0) (am_s M i1).2 (fun j => .int (va_cpy (am_i M i0) (am_i M i1) sp.toNatClampNeg dp.toNatClampNeg n.toNatClampNeg j))))[am_a G i1]? = some (arrV (G.2.2.1 0) (am_s M i1).2 (fun j => .int (va_cpy (am_i M i0) (am_i M i1) sp.toNatClampNeg dp.toNatClampNeg n.toNatClampNeg j))) := by simp [Array.getElem?_setIfInBounds, hlt]
    rw [e2]
    congr 2
    funext j
    show Value.int _ = Value.int (if i1 = i1 ∧ _ then _ else _)
    unfold va_cpy
    by_cases hj : dp.toNatClampNeg ≤ j ∧ j < dp.toNatClampNeg + n.toNatClampNeg
    · rw [if_pos hj, if_pos ⟨rfl, hj⟩]
      rfl
    · rw [if_neg hj, if_neg (fun q => hj q.2)]
  have hS1 : va_S (am_A G) s.heap (H.setIfInBounds (am_a G i1) (arrV (G.2.2.1 0) (am_s M i1).2 (fun j => .int (va_cpy (am_i M i0) (am_i M i1) sp.toNatClampNeg dp.toNatClampNeg n.toNatClampNeg j)))) (locs ++ ((arrV (G.2.2.1 0) (am_s M i0).2 (fun k => am_fv G M i0 (am_aty 0) k)).stretch sp.toNatClampNeg n.toNatClampNeg).zipIdx.map fun q => ⟨am_a G i1, dp.toNatClampNeg + q.2⟩) := by
    have hA1 : am_b G ≤ am_a G i1 := by rw [am_a_lt (Nat.lt_of_lt_of_le g3 hP.2.1)]; omega
    refine ⟨by simp; exact hS.1, fun q k1 k2 => ?_, fun q hq => ?_⟩
    · rw [oq q (fun e => k2 (by rw [e]; exact hA1))]
      exact hS.2.1 q k1 k2
    · rcases List.mem_append.mp hq with h | h
      · exact hS.2.2 q h
      · obtain ⟨z, -, hz⟩ := List.mem_map.mp h
        rw [← hz]
        exact hA1
  obtain ⟨t, a1, b1⟩ := kk G p l e s m args below meth c _ _ la hF hL hK hZ hP1 hS1 hb hl _ (by rw [← hT]; rfl) X'
  exact ⟨t, step t a1, b1⟩
end
section
/-! ===== methods that may throw, as functions of the memory ===== -/
def q_try {α β : Type} (p : (α ⊕ Nat) × am_M) (f : α → am_M → Option ((β ⊕ Nat) × am_M)) : Option ((β ⊕ Nat) × am_M) := match p.1 with
  | .inr k => some (.inr k, p.2)
  | .inl v => f v p.2
def am_rU : Unit ⊕ Nat → am_R := fun r => match r with
  | .inl _ => .inl none
  | .inr k => .inr k
def am_rI : Int32 ⊕ Nat → am_R := fun r => match r with
  | .inl v => .inl (some (.int v))
  | .inr k => .inr k
theorem aw_cSx {u : am_U} {R : Room} {ce sl pc : Nat} {ls : List (Nat × Value)} {st : List Value} {M M1 : am_M} {post : am_R → am_M → Prop} {y : MethodName} {u' : am_U} {R' : Room} {As rest : List Value} {idx n k : Nat} (hd : decode u.2.2.1 pc = .ok (.invokestatic idx, 3)) (hw : am_kS u.1 idx y u' n) (hrm : am_rm R R' u' ce sl) (hA : As.length = n) (hst : As.reverse ++ rest = st) (hro : (rest.map fun v => v.category).sum ≤ 8) (hM : AMet y u' R' As M (fun r M' => r = .inr k ∧ M' = M1))
    (hh : u.2.2.2.2.2 = []) (hp : post (.inr k) M1) : AW u R ce sl pc ls st M post := by
  refine aw_callS hd hw hrm hM hA hst hro (fun k' M' h => ?_) (fun w M' h => by cases h.1)
  obtain ⟨h1, rfl⟩ := h
  cases h1
  exact ⟨hh, hp⟩
end
section
/-! ===== a throwable caught by the method's own handler: the search may resolve the handlers' classes on its way ===== -/
def am_FG (e : Env) (s : State) (f : JFrame) (a : Addr) (t : List ExceptionTableEntry) (h : Handler) (s' : State) : Prop :=
  ∀ (Q : Handler → Pre) (E : CtlPost) (d : Bool) (acts : List Action), wp (findHandler.go f a t) Q E e d acts s ↔ Q h d acts s'
theorem am_go_cold {E : CtlPost} {e : Env} {d : Bool} {acts : List Action} {s : State} {f : JFrame} {a : Addr} {Q : Handler → Pre} {x : ExceptionTableEntry} {t : List ExceptionTableEntry} {c : ClassId} {cell : Cell} {vm' : Vm} (hx : covers x f.pc = true) (h0 : x.catchType ≠ 0)
    (hg : (Jvm.resolveClass f.method.cls x.catchType).Gives e.toSetting s.vm (.ok c) vm') (hsz : vm'.classes.size ≤ s.vm.classes.size) (hcell : s.heap[a]? = some cell) (hobj : ∀ k, cell.vm ≠ .statics k)
    (hk : ∃ k, vm'.classes[cell.cls]? = some k) (hc : ∃ k, vm'.classes[c]? = some k) :
    wp (findHandler.go f a (x :: t)) Q E e d acts s ↔
      if vm'.assignable cell.cls c = true then Q (.found x.handlerPc) d acts (s.setVm vm') else wp (findHandler.go f a t) Q E e d acts (s.setVm vm') := by
  simp only [covers] at hx
  obtain ⟨ha, ht⟩ := hg.op (op := VmOp.resolveClass f.method.cls x.catchType) rfl
  cases hfit : vm'.assignable cell.cls c <;>
    simp [findHandler.go, hx, h0, ha, ht, hsz, hcell, hobj, hk, hc, hfit, VmOp.dirties, VmOp.acts]
def am_first : List ExceptionTableEntry → List Nat → Nat → Option Nat
  | x :: xs, j :: js, k => if j = k then some x.handlerPc else am_first xs js k
  | _, _, _ => none
theorem am_castX {k : Nat} (hk : k < 3) : Cond.castable (am_X k) (am_X k) ∈ lw_tbl := by
  match k, hk with
  | 0, _ => decide +kernel
  | 1, _ => decide +kernel
  | 2, _ => decide +kernel
  | k + 3, h => exact absurd h (by omega)
section AWX
variable {p : Program} {l : Launch} {e : Env} {R : Room} {s : State} {m : MethodId} {args : Array Value} {below : List Frame} {meth : Method} {c : Code} {locs : List Loc} {ce sl : Nat} {G : am_G} {T : State}
theorem am_findL {u : am_U} {k : Nat} {a : Addr} {cell : Cell} {g : JFrame} (hF : am_F u p s m args meth c) (hZ : am_Z G s s.heap) (X : Stand p l e R s m args below meth c T locs ce sl) (hg : g.method = m) (hk : k < 3) (h1 : T.heap[a]? = some cell) (h2 : cell.vm.isStatics = false) (h3 : s.vm.findClass (am_X k) = some cell.cls) :
    ∀ (es : List ExceptionTableEntry) (ks : List Nat) (vm : Vm) (hp : Nat), s.WarmedH vm → (∀ (i : Nat) (x : ExceptionTableEntry) (j : Nat), es[i]? = some x → ks[i]? = some j → covers x g.pc = true ∧ x.catchType ≠ 0 ∧ j < 3 ∧ Cond.classLink u.1 x.catchType (am_X j) ∈ lw_tbl) → am_first es ks k = some hp →
      ∃ vm' : Vm, s.WarmedH vm' ∧ am_FG e (((T.setVm vm).setTop g).pushFrame (.throwing a)) g a es (.found hp) (((T.setVm vm').setTop g).pushFrame (.throwing a)) := by
  have hts := hF.2.2.2.2.1
  have hpl : e.platform.magicAccessors = ({} : Platform).magicAccessors := by rw [X.admits.platform]
  intro es
  induction es with
  | nil =>
    intro ks vm hp _ _ h
    cases h
  | cons x xs ih =>
    intro ks vm hp hw hall h
    cases ks with
    | nil => cases h
    | cons j js =>
      obtain ⟨c1, c2, c3, c4⟩ := hall 0 x j rfl rfl
      obtain ⟨cc, hfcc, hcl⟩ := Cond.classLink_spec hF.2.2.2.1 (hts _ (am_mem c4 rfl)) e.platform hpl
      obtain ⟨hg₁, hwarm₁, -⟩ := State.classEntry (e := e) hw hcl
      generalize vm.noted m.cls x.catchType (.cls cc) = vm₁ at hg₁ hwarm₁
      have hsz : vm₁.classes.size ≤ vm.classes.size := by rw [hwarm₁.2.1, hw.2.1]; exact Nat.le_refl _
      obtain ⟨kc, hkc⟩ := Vm.classAt_of_findClass h3
      obtain ⟨kc', hkc', -⟩ := hwarm₁.alike.2.2 _ _ hkc
      obtain ⟨kd, hkd⟩ := Vm.classAt_of_findClass hfcc
      obtain ⟨kd', hkd', -⟩ := hwarm₁.alike.2.2 _ _ hkd
      have hgo : ∀ (Q : Handler → Pre) (E : CtlPost) (d : Bool) (acts : List Action), wp (findHandler.go g a (x :: xs)) Q E e d acts (((T.setVm vm).setTop g).pushFrame (.throwing a)) ↔
          if vm₁.assignable cell.cls cc = true then Q (.found x.handlerPc) d acts (((T.setVm vm₁).setTop g).pushFrame (.throwing a)) else wp (findHandler.go g a xs) Q E e d acts (((T.setVm vm₁).setTop g).pushFrame (.throwing a)) :=
        fun Q E d acts => am_go_cold (s := ((T.setVm vm).setTop g).pushFrame (.throwing a)) (vm' := vm₁) c1 c2 (by rw [hg]; exact hg₁) hsz (cell := cell) h1 (VmData.ne_statics_of h2) ⟨kc', hkc'⟩ ⟨kd', hkd'⟩
      unfold am_first at h
      by_cases hjk : j = k
      · rw [if_pos hjk] at h
        cases h
        subst hjk
        cases hfcc.symm.trans h3
        obtain ⟨q1, q2, r1, r2, r3⟩ := Cond.castable_spec (hts _ (am_mem (am_castX hk) rfl))
        cases r1.symm.trans h3
        cases r2.symm.trans h3
        have hass : vm₁.assignable cell.cls cell.cls = true := by rw [hwarm₁.alike.assignable]; exact r3
        refine ⟨vm₁, hwarm₁, fun Q E d acts => ?_⟩
        rw [hgo Q E d acts, if_pos hass]
      · rw [if_neg hjk] at h
        obtain ⟨q1, q2, r1, r2, r3⟩ := hZ.1.2.2.2.2.1 k j hk c3 (Ne.symm hjk)
        cases r1.symm.trans h3
        cases r2.symm.trans hfcc
        have hass : vm₁.assignable cell.cls cc = false := by rw [hwarm₁.alike.assignable]; exact r3
        obtain ⟨vm', hw', hFG⟩ := ih js vm₁ hp hwarm₁ (fun i x' j' a1 a2 => hall (i + 1) x' j' a1 a2) h
        refine ⟨vm', hw', fun Q E d acts => ?_⟩
        rw [hgo Q E d acts, if_neg (by rw [hass]; decide)]
        exact hFG Q E d acts
theorem am_catchV {s s' : State} {a : Addr} {f : JFrame} {r : List Frame} {pc : Nat} (hfind : ∀ (Q : Handler → Pre) (E : CtlPost) (d : Bool) (acts : List Action), wp (findHandler f a) Q E e d acts s ↔ Q (.found pc) d acts s') :
    (stepThrowing e s a (.java f :: r)).Is (s'.setFrames (.java { f with pc := pc, stack := [.ref a] } :: r)) [] := by
  simp only [stepThrowing, searchFrame, vmDo]
  generalize hr : Sem.go _ e false [] s = res
  obtain ⟨as, rfl, ha⟩ := Sem.eq_ok_of hr (a := Handler.found pc) (s' := s') (acts' := []) (by simp [hfind _ _ _ _])
  exact ⟨rfl, ha⟩
theorem am_caught {tb : Tables} {g : JFrame} {a : Addr} {target : State} {vm' : Vm} (h : At T g.method c below) {pc : Nat} (hfind : ∀ (Q : Handler → Pre) (E : CtlPost) (d : Bool) (acts : List Action), wp (findHandler g a) Q E e d acts ((T.setTop g).pushFrame (.throwing a)) ↔ Q (.found pc) d acts (((T.setVm vm').setTop g).pushFrame (.throwing a)))
    (hrest : Steps tb e below ((T.setVm vm').setTop { g with pc := pc, stack := [.ref a] }) target) : Steps tb e below ((T.setTop g).pushFrame (.throwing a)) target := by
  obtain ⟨hgo, hw⟩ := h.throwing a
  refine Steps.head hgo hw ?_
  rw [stepThread_throwing (frames_entered h.top _), (am_catchV (s := (T.setTop g).pushFrame (.throwing a)) hfind).1]
  obtain ⟨g₀, hg⟩ := Option.isSome_iff_exists.mp h.top
  obtain ⟨r, hr⟩ := State.topJava?_eq_some.mp hg
  have hr' : (T.setVm vm').frames = .java g₀ :: r := hr
  rw [State.pushFrame, State.setFrames_setFrames, State.setTop_of_frames _ hr', State.setFrames_setFrames]
  rw [State.setTop_of_frames _ hr'] at hrest
  rw [hr]
  exact hrest
end AWX
end
section
/-! ===== a call in a method that has handlers round it ===== -/
def am_firstQ : List (Nat × Nat × Nat × Nat) → List Nat → Nat → Option Nat
  | x :: xs, j :: js, k => if j = k then some x.2.2.1 else am_firstQ xs js k
  | _, _, _ => none
theorem am_first_eq : ∀ (es : List ExceptionTableEntry) (ks : List Nat) (k : Nat), am_first es ks k = am_firstQ (es.map (fun x => (x.startPc, x.endPc, x.handlerPc, x.catchType))) ks k
  | [], ks, k => by cases ks <;> rfl
  | x :: xs, [], k => rfl
  | x :: xs, j :: js, k => by
    show (if j = k then some x.handlerPc else am_first xs js k) = (if j = k then some x.handlerPc else am_firstQ _ js k)
    rw [am_first_eq xs js k]
def am_drop (j : Nat) (ls : List (Nat × Value)) : List (Nat × Value) := ls.filter (fun q => !(q.1 == j) && !(q.1 + 1 == j && q.2.category == 2))
theorem am_lv_drop (G : am_G) (j : Nat) (ls : List (Nat × Value)) : (am_lv G ls).filter (fun q => !(q.1 == j) && !(q.1 + 1 == j && q.2.category == 2)) = am_lv G (am_drop j ls) := by
  unfold am_lv am_drop
  rw [List.filter_map]
  congr 1
  apply List.filter_congr
  intro q _
  simp only [Function.comp, am_v_cat]
set_option maxHeartbeats 1000000 in
theorem aw_callVH {u : am_U} {R : Room} {ce sl pc : Nat} {ls : List (Nat × Value)} {st : List Value} {M : am_M} {post : am_R → am_M → Prop} {y : MethodName} {u' : am_U} {R' : Room} {As : List Value} {post' : am_R → am_M → Prop} {idx n i ci : Nat} {rest : List Value} (ks : List Nat)
    (hd : decode u.2.2.1 pc = .ok (.invokevirtual idx, 3)) (hw : am_kV u.1 idx ci y u' n) (hi : i < am_n M) (hs : am_s M i = (0, ci)) (hrm : am_rm R R' u' ce sl) (hM : AMet y u' R' (.ref i :: As) M post') (hA : As.length = n) (hst : As.reverse ++ .ref i :: rest = st) (hro : (rest.map fun v => v.category).sum ≤ 8)
    (hall : ∀ (a : Nat) (q : Nat × Nat × Nat × Nat) (j : Nat), u.2.2.2.2.2[a]? = some q → ks[a]? = some j → (q.1 ≤ pc ∧ pc < q.2.1) ∧ q.2.2.2 ≠ 0 ∧ j < 3 ∧ Cond.classLink u.1 q.2.2.2 (am_X j) ∈ lw_tbl)
    (kt : ∀ k M', post' (.inr k) M' → k < 3 ∧ ∃ (hp : Nat) (jn : Fin 4), am_firstQ u.2.2.2.2.2 ks k = some hp ∧ decode u.2.2.1 hp = .ok (.astore_n jn, 1) ∧ (jn : Nat) < u.2.2.2.1 ∧ AW u R (ce + R'.cells) (sl + R'.slots) (hp + 1) (am_drop jn ls) [] M' post)
    (kk : ∀ v M', post' (.inl v) M' → AW u R (ce + R'.cells) (sl + R'.slots) (pc + 3) ls (v.toList ++ rest) M' post) : AW u R ce sl pc ls st M post := by
  subst hst
  intro G p l e s m args below meth c H locs la hF hL hK hZ hP hS hb hl T hT X
  obtain ⟨w1, w2, w3, w4, w5⟩ := hw
  have hts := hF.2.2.2.2.1
  obtain ⟨cellB, hcB, hoB, hclB⟩ := am_recv (s := s) hK hP hi hs
  obtain ⟨mk, methM, hnamed, hmethM, hstM, habM⟩ := Cond.instanceMethod_spec (hts _ (am_mem w2.1 rfl))
  obtain ⟨methM', cM, hmethM', -, -, -, -, -, -, hsigM⟩ := am_code_spec hnamed (hts _ w4)
  cases hmethM.symm.trans hmethM'
  obtain ⟨c2, r2, m2, q1, q2, q3, q4, kP, hkP, hkPi⟩ := Cond.selects_spec (hts _ (am_mem w2.2 rfl))
  cases hclB.symm.trans q1
  cases (State.methodFound?_of_named hnamed w5.1).symm.trans q2
  cases hnamed.symm.trans q3
  have hselP : selectMethod e.platform s.vm cellB.cls mk = .method mk := by rw [Launch.admits_selectMethod X.admits]; exact q4
  have hlen := am_noMH_len w5 hA
  obtain ⟨vm₁, X₁, hstep₁⟩ := X.invokevirtual hF.1 hF.2.2.2.1 (hts _ (am_mem w1 rfl)) hnamed hmethM hstM hkP hkPi w5.1 (a := am_a G i) (cell := cellB) (by rw [hT]; exact hcB)
    (fun z h => by rw [h] at hoB; cases hoB) hselP hmethM habM hkP hkPi (g := F0 m pc la ((As.reverse ++ .ref i :: rest).map (am_v G))) rfl (argsL := As.map (am_v G)) (rest := rest.map (am_v G)) (by rw [List.length_map]; exact hlen _ hsigM) (by rw [List.map_append, List.map_reverse]; rfl) (by rw [hF.2.1]; exact hd)
  obtain ⟨hfr, hlo, hce, hsl⟩ := hrm
  obtain ⟨r, M', T', L, hpost, hP', X', hS', hr⟩ := am_call (U := T.setVm vm₁) (g := F0 m pc la (rest.map (am_v G))) (ig := .invokevirtual idx) (len := 3) hF hL hK hZ (by show am_P G M T.heap; rw [hT]; exact hP) (by show va_S (am_A G) s.heap T.heap locs; rw [hT]; exact hS) hb hM w4 (am_mem w3 rfl) hfr hlo hce hsl X₁ rfl (hl.1.trans hF.2.2.1.symm) (by rw [hF.2.1]; exact hd)
    (by show 2 * 0 + _ ≤ 8; rw [am_cats]; omega) (X₁.named hnamed)
  cases r with
  | inl v =>
    have K := kk v M' hpost G p l e s m args below meth c T'.heap _ la hF hL hK hZ hP' hS' hb hl
    obtain ⟨t, a1, b1⟩ := K T' rfl X'
    have e1 : (v.toList ++ rest).map (am_v G) = (v.map (am_v G)).toList ++ rest.map (am_v G) := by
      rw [List.map_append]
      cases v <;> rfl
    rw [e1] at a1
    exact ⟨t, hstep₁ _ fun acts => by rw [doInvoke_state]; exact hr t a1, b1⟩
  | inr k =>
    obtain ⟨a, cell, h1, h2, h3, h4⟩ := hr
    obtain ⟨hk3, hp, jn, hq1, hq2, hq3, hq4⟩ := kt k M' hpost
    have htab := hF.2.2.2.2.2.2.2.2
    have hfst : am_first c.exceptionTable.toList ks k = some hp := by rw [am_first_eq, htab]; exact hq1
    obtain ⟨vm', hw', hFG⟩ := am_findL (g := F0 m pc la (rest.map (am_v G))) hF hZ X' rfl hk3 h1 h2 h3 c.exceptionTable.toList ks T'.vm hp X'.warmed (fun i' x j a1 a2 => by
      have a3 : u.2.2.2.2.2[i']? = some (x.startPc, x.endPc, x.handlerPc, x.catchType) := by rw [← htab, List.getElem?_map, a1]; rfl
      obtain ⟨b1, b2, b3, b4⟩ := hall i' _ j a3 a2
      refine ⟨?_, b2, b3, b4⟩
      unfold covers
      simp only [Bool.and_eq_true, decide_eq_true_eq]
      exact b1) hfst
    have X2 := X'.noted hw'
    have hl2 : W p l e R s m args below meth c T'.heap (locs ++ L) (ce + R'.cells) (sl + R'.slots) (am_MQ G below post R.cells R.slots s) (F0 m hp la [.ref a]) := by
      refine lv_astore_n hF.1 hF.2.1 hq2 rfl hl hq3 rfl (fun la' hl' => ?_)
      refine hq4 G p l e s m args below meth c T'.heap _ la' hF hL hK hZ hP' hS' hb ⟨hl'.1, hl'.2.1, fun q hq => hl'.2.2 q (List.mem_cons_of_mem _ ?_)⟩
      rw [am_lv_drop]
      exact hq
    obtain ⟨t, a1, b1⟩ := hl2 (T'.setVm vm') rfl X2
    refine ⟨t, hstep₁ _ fun acts => ?_, b1⟩
    rw [doInvoke_state]
    refine h4 t (am_caught (vm' := vm') (pc := hp) X'.here (fun Q E d acts => ?_) a1)
    rw [W.findHandler_eq (meth := meth) (code := c) (by exact X'.method') X'.code]
    exact hFG Q E d acts
end
section
/-! ===== rows that make cells ===== -/
def am_nw (M : am_M) (sh : Nat × Nat) : am_M := (M.1 + 1, fun i => if i = M.1 then sh else M.2.1 i, fun i k => if i = M.1 then 0 else M.2.2.1 i k, fun i k => if i = M.1 then 0 else M.2.2.2.1 i k, fun i k => if i = M.1 then none else M.2.2.2.2.1 i k, M.2.2.2.2.2)
def am_okt : FieldType → Bool
  | .int => true
  | .boolean => true
  | .long => true
  | .object _ => true
  | .array _ => true
  | _ => false
theorem am_dflt {G : am_G} {M : am_M} {sh : Nat × Nat} {ty : FieldType} (h : am_okt ty = true) (k : Nat) : defaultValue ty = am_fv G (am_nw M sh) (am_n M) ty k := by
  have e1 : am_i (am_nw M sh) (am_n M) k = 0 := if_pos rfl
  have e2 : am_l (am_nw M sh) (am_n M) k = 0 := if_pos rfl
  have e3 : am_r (am_nw M sh) (am_n M) k = none := if_pos rfl
  unfold am_fv
  rw [e1, e2, e3]
  cases ty <;> first | rfl | cases h
theorem am_nw_o (M : am_M) (sh : Nat × Nat) : ∀ j, j ≠ am_n M → am_same M (am_nw M sh) j := fun j hj => ⟨if_neg hj, funext fun _ => if_neg hj, funext fun _ => if_neg hj, funext fun _ => if_neg hj⟩
theorem am_okc {c : Nat} (h : c < 11) : ∀ k, k < am_N c → am_okt (am_ty c k) = true := by
  match c, h with
  | 0, _ => decide +kernel
  | 1, _ => decide +kernel
  | 2, _ => decide +kernel
  | 3, _ => decide +kernel
  | 4, _ => decide +kernel
  | 5, _ => decide +kernel
  | 6, _ => decide +kernel
  | 7, _ => decide +kernel
  | 8, _ => decide +kernel
  | 9, _ => decide +kernel
  | 10, _ => decide +kernel
  | k + 11, h => exact absurd h (by omega)
theorem am_Pnw {G : am_G} {M : am_M} {sh : Nat × Nat} {H H1 : Heap} (h : am_P G M H) (hx : am_x M = 0) (hn : am_n M < am_CB) (z : H1.size = H.size + 1) (o : ∀ q, q < H.size → H1[q]? = H[q]?) (hat : am_at G (am_nw M sh) (am_n M) H1) : am_P G (am_nw M sh) H1 := by
  obtain ⟨h1, h2, h3⟩ := h
  refine ⟨by rw [z, h1]; show _ = am_b G + (am_n M + 1) + am_x M; omega, hn, fun i hi => ?_⟩
  have hi' : i < am_n M + 1 := hi
  by_cases e : i = am_n M
  · subst e
    exact hat
  · have hlt : i < am_n M := by omega
    exact (h3 i hlt).kept (am_nw_o M sh i e) (o _ (by rw [am_a_lt (by omega), h1]; omega))
theorem am_top {G : am_G} {M : am_M} {H : Heap} (h : am_P G M H) (hx : am_x M = 0) (hn : am_n M < am_CB) : H.size = am_a G (am_n M) := by rw [am_a_lt hn, h.1, hx]; omega
def am_kN (own : String) (idx c : Nat) : Prop := c < 11 ∧ Cond.classLink own idx (am_C c) ∈ lw_tbl ∧ Cond.instantiable (am_C c) (am_N c) ∈ lw_tbl ∧ Cond.initialized (am_C c) ∈ lw_tbl
section AWN
variable {u : am_U} {R : Room} {ce sl pc : Nat} {ls : List (Nat × Value)} {st : List Value} {M : am_M} {post : am_R → am_M → Prop}
theorem am_Snew {G : am_G} {s : State} {H H1 : Heap} {locs : List Loc} (hS : va_S (am_A G) s.heap H locs) (z : H1.size = H.size + 1) (o : ∀ q, q < H.size → H1[q]? = H[q]?) : va_S (am_A G) s.heap H1 locs :=
  ⟨Nat.le_trans hS.1 (by omega), fun q h1 h2 => (o q (Nat.lt_of_lt_of_le h1 hS.1)).trans (hS.2.1 q h1 h2), hS.2.2⟩
theorem aw_new {idx c : Nat} (hd : decode u.2.2.1 pc = .ok (.new idx, 3)) (hw : am_kN u.1 idx c) (hx : am_x M = 0) (hn : am_n M < am_CB) (hce : ce + 1 ≤ R.cells) (hsl : sl + am_N c ≤ R.slots) (k : AW u R (ce + 1) (sl + am_N c) (pc + 3) ls (.ref (am_n M) :: st) (am_nw M (0, c)) post) : AW u R ce sl pc ls st M post := by
  intro G p l e s m args below meth c0 H locs la hF hL hK hZ hP hS hb hl
  obtain ⟨hc, w1, w2, w3⟩ := hw
  have hts := hF.2.2.2.2.1
  have hKn := hK.1 c _ (am_cl_get hc)
  have htop := am_top hP hx hn
  refine W.newcK (g := F0 m pc la (st.map (am_v G))) hF.1 hF.2.1 hF.2.2.2.1 (hts _ (am_mem w1 rfl)) (hts _ (am_mem w2 rfl)) (hts _ (am_mem w3 rfl)) rfl hd hce hsl hKn.2.1 htop (fun H' kC hkC e1 z1 o1 => ?_)
  rw [← htop] at z1 o1
  refine k G p l e s m args below meth c0 H' locs la hF hL hK hZ (am_Pnw hP hx hn z1 o1 ?_) (am_Snew hS z1 o1) hb hl
  unfold am_at
  rw [show am_s (am_nw M (0, c)) (am_n M) = (0, c) from if_pos rfl]
  exact ⟨hc, (u_born (am_ty c) hts (am_in hc) hKn hkC e1 (am_tk hc)).to (fun j hj => am_dflt (am_okc hc j hj) j)⟩
theorem aw_newarray {atype : ArrayType} {j n : Nat} {v : Int32} (hd : decode u.2.2.1 pc = .ok (.newarray atype, 2)) (hj : j < 3) (hty : newarray.typeOf atype = am_aty j) (hw : Cond.arrayClass (am_aty j) ∈ lw_tbl) (hv : am_ix v (n + 1) n) (hsm : n ≤ 1000000) (hx : am_x M = 0) (hn : am_n M < am_CB) (hce : ce + 1 ≤ R.cells) (hsl : sl + n ≤ R.slots) (k : AW u R (ce + 1) (sl + n) (pc + 2) ls (.ref (am_n M) :: st) (am_nw M (j + 1, n)) post) : AW u R ce sl pc ls (.int v :: st) M post := by
  intro G p l e s m args below meth c0 H locs la hF hL hK hZ hP hS hb hl
  have hts := hF.2.2.2.2.1
  have htop := am_top hP hx hn
  have hv0 : ¬ v < 0 := am_ge0 (by rw [hv.2]; omega)
  have hcb : n * componentBytes (newarray.typeOf atype) ≤ 536870912 := by
    have h8 : componentBytes (newarray.typeOf atype) ≤ 8 := by cases atype <;> decide
    calc n * componentBytes (newarray.typeOf atype) ≤ n * 8 := Nat.mul_le_mul_left n h8
      _ ≤ 536870912 := by omega
  refine va_newaK (g := F0 m pc la (.int v :: st.map (am_v G))) hF.1 hF.2.1 (by rw [hty]; exact hts _ (am_mem hw rfl)) rfl hd rfl hv0 (am_ix_in hv).2 hcb hce hsl htop (fun H' cA e1 z1 o1 hA hN => ?_)
  rw [← htop] at z1 o1
  refine k G p l e s m args below meth c0 H' locs la hF hL hK hZ (am_Pnw hP hx hn z1 o1 ?_) (am_Snew hS z1 o1) hb hl
  have hcA : cA = G.2.2.1 j := by
    have hra := (hK.2 j _ (am_tys_get G (by omega))).2
    rw [hty] at hN
    match j, hj, hra, hN with
    | 0, _, hra, hN => exact Option.some.inj (hN.symm.trans hra)
    | 1, _, hra, hN => exact Option.some.inj (hN.symm.trans hra)
    | 2, _, hra, hN => exact Option.some.inj (hN.symm.trans hra)
  subst hcA
  unfold am_at
  rw [show am_s (am_nw M (j + 1, n)) (am_n M) = (j + 1, n) from if_pos rfl]
  refine ⟨by omega, ?_⟩
  rw [e1, hty]
  congr 2
  funext b
  exact am_dflt (by match j, hj with
    | 0, _ => rfl
    | 1, _ => rfl
    | 2, _ => rfl) b
theorem aw_anewarray {idx j n : Nat} {C : String} {v : Int32} (hd : decode u.2.2.1 pc = .ok (.anewarray idx, 3)) (hj : 3 ≤ j ∧ j < 7) (hC : am_aty j = .object C) (hCm : C ∈ ["CrewOffice$Clock", "CrewOffice$Leg", "CrewOffice$Member", "CrewOffice$Work"]) (hw : Cond.classLink u.1 idx C ∈ lw_tbl) (hv : am_ix v (n + 1) n) (hsm : n ≤ 1000000) (hx : am_x M = 0) (hn : am_n M < am_CB) (hce : ce + 1 ≤ R.cells) (hsl : sl + n ≤ R.slots) (k : AW u R (ce + 1) (sl + n) (pc + 3) ls (.ref (am_n M) :: st) (am_nw M (j + 1, n)) post) : AW u R ce sl pc ls (.int v :: st) M post := by
  intro G p l e s m args below meth c0 H locs la hF hL hK hZ hP hS hb hl
  have hts := hF.2.2.2.2.1
  have htop := am_top hP hx hn
  have hv0 : ¬ v < 0 := am_ge0 (by rw [hv.2]; omega)
  have hvn := (am_ix_in hv).2
  refine W.anew (g := F0 m pc la (.int v :: st.map (am_v G))) hF.1 hF.2.1 hF.2.2.2.1 (hts _ (am_mem hw rfl)) (va_AO.use (hZ.1.2.2.2.1 C hCm)) rfl hd rfl hv0 (by rw [hvn]; omega) hce (by rw [hvn]; exact hsl) (fun cA kA comp f1 f2 f3 f4 => ?_)
  rw [hvn]
  generalize hH1 : H.push ({ cls := cA, slots := Array.replicate n .null, vm := .none } : Cell) = H1
  have z1 : H1.size = H.size + 1 := by rw [← hH1, Array.size_push]
  have e1 : H1[H.size]? = some (arrV cA n (fun _ => .null)) := by rw [← hH1, Array.getElem?_push_size, ← arrV_new]
  have o1 : ∀ q : Nat, q < H.size → H1[q]? = H[q]? := fun q hq => by rw [← hH1, Array.getElem?_push, if_neg (Nat.ne_of_lt hq)]
  have hcA : cA = G.2.2.1 j := by
    have hra := (hK.2 j _ (am_tys_get G (by omega))).2
    rw [hC] at hra
    obtain ⟨kA', comp', g1, g2, g3, g4⟩ := hra
    exact Option.some.inj (f1.symm.trans g4)
  subst hcA
  rw [htop]
  refine k G p l e s m args below meth c0 H1 locs la hF hL hK hZ (am_Pnw hP hx hn z1 o1 ?_) (am_Snew hS z1 o1) hb hl
  unfold am_at
  rw [show am_s (am_nw M (j + 1, n)) (am_n M) = (j + 1, n) from if_pos rfl]
  refine ⟨by omega, ?_⟩
  rw [← htop, e1]
  congr 2
  funext b
  have h9 := am_dflt (G := G) (M := M) (sh := (j + 1, n)) (ty := am_aty j) (by rw [hC]; rfl) b
  rw [← h9, hC]
  rfl
theorem aw_objInit {idx i : Nat} (hd : decode u.2.2.1 pc = .ok (.invokespecial idx, 3)) (hw : Cond.methodLink u.1 idx objectInit ∈ lw_tbl) (hw2 : Cond.instanceMethod objectInit ∈ lw_tbl) (hw3 : Cond.code objectInit ⟨#[0xb1]⟩ 1 none ∈ lw_tbl) (hfr : 1 ≤ R.frames) (hlo : (st.map fun v => v.category).sum + 12 ≤ R.locals) (k : AW u R ce sl (pc + 3) ls st M post) : AW u R ce sl pc ls (.ref i :: st) M post := by
  intro G p l e s m args below meth c H locs la hF hL hK hZ hP hS hb hl
  have hts := hF.2.2.2.2.1
  exact W.objInit (g := F0 m pc la (.ref (am_a G i) :: st.map (am_v G))) hF.1 hF.2.1 hF.2.2.2.1 (hts _ (am_mem hw rfl)) (hts _ (am_mem hw2 rfl)) (hts _ (am_mem hw3 rfl)) rfl (hl.1.trans hF.2.2.1.symm) rfl hd hfr (by show 2 * 0 + _ + 12 ≤ _; rw [am_cats]; omega) (k G p l e s m args below meth c H locs la hF hL hK hZ hP hS hb hl)
theorem aw_getsN {idx j : Nat} {host : String} (hd : decode u.2.2.1 pc = .ok (.getstatic idx, 3)) (hj : j < 3) (hw : Cond.fieldLinkNest u.1 idx "CrewOffice" (am_kn j) "[I" host ∈ lw_tbl) (k : AW u R ce sl (pc + 3) ls (.ref (am_CB + j) :: st) M post) : AW u R ce sl pc ls st M post := by
  intro G p l e s m args below meth c H locs la hF hL hK hZ hP hS hb hl
  refine va_getsN hF.1 hF.2.1 (hZ.2 j hj).1 hS hF.2.2.2.1 (hF.2.2.2.2.1 _ (am_mem hw rfl)) (fun _ h => h) hd ?_
  have k := k G p l e s m args below meth c H locs la hF hL hK hZ hP hS hb hl
  rw [List.map_cons, show am_v G (.ref (am_CB + j)) = .ref (G.2.2.2.2 j) from congrArg Value.ref am_a_k] at k
  exact k
end AWN
end
section
/-! ===== references into arrays; new int[a][b]; clone of a written array ===== -/
/-- two memories one behind another: n cells of ints, each of k places, behind an array of references to them -/
def am_mn (M : am_M) (n k : Nat) : am_M := (M.1 + 1 + n, fun i => if i = M.1 then (8, n) else if M.1 < i ∧ i ≤ M.1 + n then (1, k) else M.2.1 i, fun i b => if M.1 ≤ i ∧ i ≤ M.1 + n then 0 else M.2.2.1 i b, fun i b => if M.1 ≤ i ∧ i ≤ M.1 + n then 0 else M.2.2.2.1 i b,
  fun i b => if i = M.1 then (if b < n then some (M.1 + 1 + b) else none) else if M.1 < i ∧ i ≤ M.1 + n then none else M.2.2.2.2.1 i b, M.2.2.2.2.2)
/-- a copy of a written array -/
def am_cl9 (M : am_M) (j : Nat) : am_M := (M.1 + 1, fun i => if i = M.1 then (1, 11) else M.2.1 i, fun i k => if i = M.1 then am_kv j k else M.2.2.1 i k, fun i k => if i = M.1 then 0 else M.2.2.2.1 i k, fun i k => if i = M.1 then none else M.2.2.2.2.1 i k, M.2.2.2.2.2)
theorem am_outer (c : ClassId) (N h0 : Nat) : ∀ i : Nat, Jvm.Free.Multi.outerC c N h0 i = arrV c N (fun j => va_rf (if j < i then some (h0 + 1 + j) else none))
  | 0 => by
    show ({ cls := c, slots := Array.replicate N .null, vm := .none } : Cell) = _
    rw [arrV_new]
    refine congrArg (arrV c N) (funext fun j => ?_)
    simp [va_rf]
  | i + 1 => by
    show (Jvm.Free.Multi.outerC c N h0 i).setSlot i (.ref (h0 + 1 + i)) = _
    rw [am_outer c N h0 i, arrV_store]
    refine congrArg (arrV c N) (funext fun j => ?_)
    unfold updV
    by_cases e : j = i
    · rw [if_pos e, if_pos (by omega), e]
      rfl
    · rw [if_neg e]
      show va_rf (if j < i then some (h0 + 1 + j) else none) = va_rf (if j < i + 1 then some (h0 + 1 + j) else none)
      by_cases h : j < i
      · rw [if_pos h, if_pos (by omega)]
      · rw [if_neg h, if_neg (by omega)]
section AWM
variable {u : am_U} {R : Room} {ce sl pc : Nat} {ls : List (Nat × Value)} {st : List Value} {M : am_M} {post : am_R → am_M → Prop}
theorem aw_aastore {i len n a v c : Nat} {j : Int32} (hd : decode u.2.2.1 pc = .ok (.aastore, 1)) (hi : i < am_n M) (hs : am_s M i = (a + 1, len)) (ha : am_aty a = .object (am_C c)) (hx : am_ix j len n) (hv : v < am_n M) (hvs : am_s M v = (0, c)) (k : AW u R ce sl (pc + 1) ls st (am_pr M i n (some v)) post) : AW u R ce sl pc ls (.ref v :: .int j :: .ref i :: st) M post := by
  intro G p l e s m args below meth c0 H locs la hF hL hK hZ hP hS hb hl
  obtain ⟨h8, hA⟩ := am_arr (j := a) hP hi hs
  have hat := hP.2.2 v hv
  unfold am_at at hat
  rw [hvs] at hat
  obtain ⟨hc, cell, q1, q2, q3, q4⟩ := hat
  obtain ⟨hS', hfc, kC, hkC, hkind⟩ := hK.1 c _ (am_cl_get hc)
  have hra := (hK.2 a _ (am_tys_get G h8)).2
  rw [ha] at hra
  obtain ⟨kA, comp, g1, g2, g3, g4⟩ := hra
  have hcomp : comp = G.1 c := Option.some.inj (g3.symm.trans hfc)
  subst hcomp
  have hass := va_assign (s := s) (C := am_C c) (cC := G.1 c) ⟨hfc, kC, hkC, hkind⟩
  refine W.aast (t := .object (am_C c)) (g := F0 m pc la (.ref (am_a G v) :: .int j :: .ref (am_a G i) :: st.map (am_v G))) hF.1 hF.2.1 hA (fun q h => by cases h) (fun h => by cases h) g1 g2 rfl hkC ⟨am_ge0 (by rw [hx.2]; omega), by rw [arrV_size, (am_ix_in hx).2]; exact hx.1⟩ q1 (fun q h => by rw [q3] at h; cases h) (by rw [q2]; exact hkC) (by rw [q2]; exact hass) rfl rfl hd (fun H1 e1 e2 e3 => ?_)
  refine k G p l e s m args below meth c0 H1 _ la hF hL hK hZ (am_cons (am_pr M i n (some v)) hP hi hs hx rfl rfl rfl (am_pr_o M i n (some v)) (fun b => am_hv_pr (ty := fun _ => am_aty a) (by rw [ha]; exact Or.inl ⟨_, rfl⟩) b) e1 e2 e3) (am_Sput hP hi hS e2 e3) hb hl
set_option maxHeartbeats 1000000 in
theorem aw_multi {idx n b : Nat} {v w : Int32} (hd : decode u.2.2.1 pc = .ok (.multianewarray idx 2, 4)) (hw : Cond.classLink u.1 idx ("[" ++ (FieldType.array FieldType.int).toString) ∈ lw_tbl) (hw2 : Cond.arrayClass .int ∈ lw_tbl) (hv : am_ix v (n + 1) n) (hvw : am_ix w (b + 1) b) (hsm : n ≤ 1000 ∧ b ≤ 1000) (hx : am_x M = 0) (hn : am_n M + 1 + n ≤ am_CB) (hce : ce + (1 + n) ≤ R.cells) (hsl : sl + (n + n * b) ≤ R.slots)
    (k : AW u R (ce + 1 + n) (sl + n + n * b) (pc + 4) ls (.ref (am_n M) :: st) (am_mn M n b) post) : AW u R ce sl pc ls (.int w :: .int v :: st) M post := by
  intro G p l e s m args below meth c0 H locs la hF hL hK hZ hP hS hb hl
  have hts := hF.2.2.2.2.1
  have hn1 : am_n M < am_CB := by omega
  have htop := am_top hP hx hn1
  have hv0 : ¬ v < 0 := am_ge0 (by rw [hv.2]; omega)
  have hw0 : ¬ w < 0 := am_ge0 (by rw [hvw.2]; omega)
  have hvn := (am_ix_in hv).2
  have hwn := (am_ix_in hvw).2
  intro T hT X
  obtain ⟨vm₁, cA, comp, -, fA, fC, -, -, X', step⟩ := X.multianewarray2F hF.1 hF.2.2.2.1 (hts _ (am_mem hw rfl)) (show (Cond.arrayOver (.array .int)).before args s = true from hZ.1.2.2.2.2.2) (hts _ (am_mem hw2 rfl)) (g := F0 m pc la (.int w :: .int v :: st.map (am_v G))) rfl (by rw [hF.2.1]; exact hd) rfl hv0 hw0 (by rw [hvn]; omega) (by rw [hwn]; show b * 4 ≤ _; omega) (by rw [hwn]; omega) rfl rfl (by rw [hvn]; exact hce) (by rw [hvn, hwn]; exact hsl)
  rw [hvn, hwn] at X' step
  generalize hFF : Jvm.Free.Multi.fill (T.setVm vm₁) cA comp n b (defaultValue .int) n = F at X' step
  have hTh : (T.setVm vm₁).heap = H := hT
  obtain ⟨f1, f2, -, -⟩ := Jvm.Free.Multi.fill_facts (T.setVm vm₁) cA comp n b (defaultValue .int) n
  rw [hFF, hTh] at f1 f2
  have hold : ∀ x : Nat, x < H.size → F.heap[x]? = H[x]? := fun x hx => by
    have := Jvm.Free.Multi.fill_old (T.setVm vm₁) cA comp n b (defaultValue .int) (a := x) (by rw [hTh]; exact hx) n
    rw [hFF, hTh] at this
    exact this
  have hrow : ∀ j : Nat, j < n → F.heap[H.size + 1 + j]? = some (arrV comp b (fun _ => .int 0)) := fun j hj => by
    have := Jvm.Free.Multi.fill_inner (T.setVm vm₁) cA comp n b (defaultValue .int) n j hj
    rw [hFF, hTh] at this
    rw [this, ← arrV_new]
    rfl
  have hcA : cA = G.2.2.1 7 := Option.some.inj (fA.symm.trans (hK.2 7 _ (am_tys_get G (by decide))).2)
  have hcI : comp = G.2.2.1 0 := Option.some.inj (fC.symm.trans (hK.2 0 _ (am_tys_get G (by decide))).2)
  subst hcA
  subst hcI
  have hb0 : H.size = am_b G + am_n M := by rw [hP.1, hx]; rfl
  have hP1 : am_P G (am_mn M n b) F.heap := by
    refine ⟨by rw [f1, hb0]; show _ = am_b G + (am_n M + 1 + n) + am_x M; omega, hn, fun i hi => ?_⟩
    have hi' : i < am_n M + 1 + n := hi
    have hic : i < am_CB := by omega
    by_cases e1 : i = am_n M
    · subst e1
      unfold am_at
      rw [show am_s (am_mn M n b) (am_n M) = (7 + 1, n) from if_pos rfl]
      refine ⟨by decide, ?_⟩
      rw [← htop, f2, am_outer]
      congr 2
      funext q
      show va_rf (if q < n then some (H.size + 1 + q) else none) = va_rf (Option.map (am_a G) (am_r (am_mn M n b) (am_n M) q))
      rw [show am_r (am_mn M n b) (am_n M) q = if q < n then some (am_n M + 1 + q) else none from if_pos rfl]
      by_cases hq : q < n
      · rw [if_pos hq, if_pos hq, Option.map_some, am_a_lt (by omega), hb0]
        congr 2
        omega
      · rw [if_neg hq, if_neg hq]
        rfl
    · by_cases e2 : am_n M < i
      · have hr : am_n M < i ∧ i ≤ am_n M + n := ⟨e2, by omega⟩
        unfold am_at
        rw [show am_s (am_mn M n b) i = (0 + 1, b) from by show (if i = M.1 then _ else if _ then _ else _) = _; rw [if_neg e1, if_pos hr]]
        refine ⟨by decide, ?_⟩
        have hj := hrow (i - (am_n M + 1)) (by omega)
        rw [hb0, show am_b G + am_n M + 1 + (i - (am_n M + 1)) = am_a G i by rw [am_a_lt hic]; omega] at hj
        rw [hj]
        congr 2
        funext q
        show Value.int 0 = Value.int (if M.1 ≤ i ∧ i ≤ M.1 + n then 0 else _)
        rw [if_pos ⟨Nat.le_of_lt e2, hr.2⟩]
      · have hlt : i < am_n M := by omega
        have hns : ¬ (M.1 ≤ i ∧ i ≤ M.1 + n) := fun q => absurd q.1 (Nat.not_le.mpr hlt)
        have hns2 : ¬ (M.1 < i ∧ i ≤ M.1 + n) := fun q => e2 q.1
        refine (hP.2.2 i hlt).kept ⟨?_, ?_, ?_, ?_⟩ (hold _ (by rw [am_a_lt hic, hb0]; omega))
        · show (if i = M.1 then _ else if _ then _ else _) = _
          rw [if_neg e1, if_neg hns2]
        · funext q
          exact if_neg hns
        · funext q
          exact if_neg hns
        · funext q
          show (if i = M.1 then _ else if _ then _ else _) = _
          rw [if_neg e1, if_neg hns2]
  have hS1 : va_S (am_A G) s.heap F.heap locs := ⟨Nat.le_trans hS.1 (by omega), fun q h1 h2 => (hold q (Nat.lt_of_lt_of_le h1 hS.1)).trans (hS.2.1 q h1 h2), hS.2.2⟩
  obtain ⟨t, a1, b1⟩ := k G p l e s m args below meth c0 F.heap locs la hF hL hK hZ hP1 hS1 hb hl F rfl X'
  refine ⟨t, step t ?_, b1⟩
  rw [hT, htop]
  exact a1
theorem am_clonew : (Cond.sameMethod "[I" "java/lang/Object" "clone" "()Ljava/lang/Object;" ∈ lw_tbl ∧ Cond.native ⟨"java/lang/Object", "clone", "()Ljava/lang/Object;"⟩ ∈ lw_tbl ∧ Cond.instanceMethod ⟨"java/lang/Object", "clone", "()Ljava/lang/Object;"⟩ ∈ lw_tbl) ∧ Cond.selects "[I" ⟨"[I", "clone", "()Ljava/lang/Object;"⟩ ⟨"java/lang/Object", "clone", "()Ljava/lang/Object;"⟩ ∈ lw_tbl ∧ Cond.castable "[I" "java/lang/Cloneable" ∈ lw_tbl := ⟨⟨by decide +kernel, by decide +kernel, by decide +kernel⟩, by decide +kernel, by decide +kernel⟩
set_option maxHeartbeats 1000000 in
theorem aw_clone {idx j : Nat} (hd : decode u.2.2.1 pc = .ok (.invokevirtual idx, 3)) (hj : j < 3) (hw : Cond.methodLink u.1 idx ⟨"[I", "clone", "()Ljava/lang/Object;"⟩ ∈ lw_tbl) (hx : am_x M = 0) (hn : am_n M < am_CB) (hce : ce + 1 ≤ R.cells) (hsl : sl + 11 ≤ R.slots) (hfr : 1 ≤ R.frames) (hlo : (st.map fun v => v.category).sum + 14 ≤ R.locals)
    (hlen : ∀ (G : am_G) (s : State), am_Z G s s.heap → ∀ cell : Cell, s.heap[G.2.2.2.2 j]? = some cell → cell.slots.size = 11 ∧ cell.vm = .none ∧ cell.monitor = {} ∧ cell.hash = none)
    (k : AW u R (ce + 1) (sl + 11) (pc + 3) ls (.ref (am_n M) :: st) (am_cl9 M j) post) : AW u R ce sl pc ls (.ref (am_CB + j) :: st) M post := by
  sorry
end AWM
end
