section
-- ===== PART A: goes FIRST, ahead of the names: the tables' words, and 'selects' of the private methods out of them =====
/-- a private method of a class that the tables say can be made, by its rows of tables_1 -/
def lw_okq (q : MethodName × Nat) : Prop := (q.1.cls ≠ "java/lang/invoke/MethodHandle" ∧ q.1.cls ≠ "java/lang/invoke/VarHandle") ∧ Cond.instantiable q.1.cls q.2 ∈ tables_1 ∧ Cond.privateMethod q.1 ∈ tables_1 ∧ Cond.instanceMethod q.1 ∈ tables_1
theorem lw_p0 : lw_okq (⟨"SaintsRoad$Reader", "readToken", "()V"⟩, 13) := ⟨⟨by decide +kernel, by decide +kernel⟩, List.mem_of_getElem? (i := 47) (by decide +kernel), List.mem_of_getElem? (i := 382) (by decide +kernel), List.mem_of_getElem? (i := 383) (by decide +kernel)⟩
theorem lw_p1 : lw_okq (⟨"SaintsRoad$Reader", "readWord", "()V"⟩, 13) := ⟨⟨by decide +kernel, by decide +kernel⟩, List.mem_of_getElem? (i := 47) (by decide +kernel), List.mem_of_getElem? (i := 396) (by decide +kernel), List.mem_of_getElem? (i := 397) (by decide +kernel)⟩
theorem lw_p2 : lw_okq (⟨"SaintsRoad$Reader", "wordToken", "()I"⟩, 13) := ⟨⟨by decide +kernel, by decide +kernel⟩, List.mem_of_getElem? (i := 47) (by decide +kernel), List.mem_of_getElem? (i := 400) (by decide +kernel), List.mem_of_getElem? (i := 401) (by decide +kernel)⟩
theorem lw_p3 : lw_okq (⟨"SaintsRoad$Reader", "isAtStart", "(Ljava/lang/String;)Z"⟩, 13) := ⟨⟨by decide +kernel, by decide +kernel⟩, List.mem_of_getElem? (i := 47) (by decide +kernel), List.mem_of_getElem? (i := 419) (by decide +kernel), List.mem_of_getElem? (i := 420) (by decide +kernel)⟩
theorem lw_p4 : lw_okq (⟨"SaintsRoad$Reader", "readNumber", "()V"⟩, 13) := ⟨⟨by decide +kernel, by decide +kernel⟩, List.mem_of_getElem? (i := 47) (by decide +kernel), List.mem_of_getElem? (i := 474) (by decide +kernel), List.mem_of_getElem? (i := 475) (by decide +kernel)⟩
theorem lw_p5 : lw_okq (⟨"SaintsRoad$Reader", "takeToken", "()I"⟩, 13) := ⟨⟨by decide +kernel, by decide +kernel⟩, List.mem_of_getElem? (i := 47) (by decide +kernel), List.mem_of_getElem? (i := 478) (by decide +kernel), List.mem_of_getElem? (i := 479) (by decide +kernel)⟩
theorem lw_p6 : lw_okq (⟨"SaintsRoad$Reader", "takeLineWord", "()I"⟩, 13) := ⟨⟨by decide +kernel, by decide +kernel⟩, List.mem_of_getElem? (i := 47) (by decide +kernel), List.mem_of_getElem? (i := 482) (by decide +kernel), List.mem_of_getElem? (i := 483) (by decide +kernel)⟩
theorem lw_p7 : lw_okq (⟨"SaintsRoad$Reader", "startFeast", "(II)I"⟩, 13) := ⟨⟨by decide +kernel, by decide +kernel⟩, List.mem_of_getElem? (i := 47) (by decide +kernel), List.mem_of_getElem? (i := 486) (by decide +kernel), List.mem_of_getElem? (i := 487) (by decide +kernel)⟩
theorem lw_p8 : lw_okq (⟨"SaintsRoad$Reader", "goTo", "(I)I"⟩, 13) := ⟨⟨by decide +kernel, by decide +kernel⟩, List.mem_of_getElem? (i := 47) (by decide +kernel), List.mem_of_getElem? (i := 494) (by decide +kernel), List.mem_of_getElem? (i := 495) (by decide +kernel)⟩
theorem lw_p9 : lw_okq (⟨"SaintsRoad$Reader", "takeMinusOrShift", "()I"⟩, 13) := ⟨⟨by decide +kernel, by decide +kernel⟩, List.mem_of_getElem? (i := 47) (by decide +kernel), List.mem_of_getElem? (i := 498) (by decide +kernel), List.mem_of_getElem? (i := 499) (by decide +kernel)⟩
theorem lw_p10 : lw_okq (⟨"SaintsRoad$Reader", "takeNumber", "()I"⟩, 13) := ⟨⟨by decide +kernel, by decide +kernel⟩, List.mem_of_getElem? (i := 47) (by decide +kernel), List.mem_of_getElem? (i := 502) (by decide +kernel), List.mem_of_getElem? (i := 503) (by decide +kernel)⟩
theorem lw_p11 : lw_okq (⟨"SaintsRoad$Reader", "leastNumber", "()I"⟩, 13) := ⟨⟨by decide +kernel, by decide +kernel⟩, List.mem_of_getElem? (i := 47) (by decide +kernel), List.mem_of_getElem? (i := 506) (by decide +kernel), List.mem_of_getElem? (i := 507) (by decide +kernel)⟩
theorem lw_p12 : lw_okq (⟨"SaintsRoad$Reader", "mostNumber", "()I"⟩, 13) := ⟨⟨by decide +kernel, by decide +kernel⟩, List.mem_of_getElem? (i := 47) (by decide +kernel), List.mem_of_getElem? (i := 510) (by decide +kernel), List.mem_of_getElem? (i := 511) (by decide +kernel)⟩
theorem lw_p13 : lw_okq (⟨"SaintsRoad$Reader", "keepFeastNumber", "()I"⟩, 13) := ⟨⟨by decide +kernel, by decide +kernel⟩, List.mem_of_getElem? (i := 47) (by decide +kernel), List.mem_of_getElem? (i := 519) (by decide +kernel), List.mem_of_getElem? (i := 520) (by decide +kernel)⟩
theorem lw_p14 : lw_okq (⟨"SaintsRoad$Reader", "keepOtherNumber", "()I"⟩, 13) := ⟨⟨by decide +kernel, by decide +kernel⟩, List.mem_of_getElem? (i := 47) (by decide +kernel), List.mem_of_getElem? (i := 523) (by decide +kernel), List.mem_of_getElem? (i := 524) (by decide +kernel)⟩
theorem lw_p15 : lw_okq (⟨"SaintsRoad$Reader", "pass", "(II)I"⟩, 13) := ⟨⟨by decide +kernel, by decide +kernel⟩, List.mem_of_getElem? (i := 47) (by decide +kernel), List.mem_of_getElem? (i := 527) (by decide +kernel), List.mem_of_getElem? (i := 528) (by decide +kernel)⟩
def lw_privs_1 : List (MethodName × Nat) := [(⟨"SaintsRoad$Reader", "readToken", "()V"⟩, 13), (⟨"SaintsRoad$Reader", "readWord", "()V"⟩, 13), (⟨"SaintsRoad$Reader", "wordToken", "()I"⟩, 13), (⟨"SaintsRoad$Reader", "isAtStart", "(Ljava/lang/String;)Z"⟩, 13), (⟨"SaintsRoad$Reader", "readNumber", "()V"⟩, 13), (⟨"SaintsRoad$Reader", "takeToken", "()I"⟩, 13), (⟨"SaintsRoad$Reader", "takeLineWord", "()I"⟩, 13), (⟨"SaintsRoad$Reader", "startFeast", "(II)I"⟩, 13), (⟨"SaintsRoad$Reader", "goTo", "(I)I"⟩, 13), (⟨"SaintsRoad$Reader", "takeMinusOrShift", "()I"⟩, 13), (⟨"SaintsRoad$Reader", "takeNumber", "()I"⟩, 13), (⟨"SaintsRoad$Reader", "leastNumber", "()I"⟩, 13), (⟨"SaintsRoad$Reader", "mostNumber", "()I"⟩, 13), (⟨"SaintsRoad$Reader", "keepFeastNumber", "()I"⟩, 13), (⟨"SaintsRoad$Reader", "keepOtherNumber", "()I"⟩, 13), (⟨"SaintsRoad$Reader", "pass", "(II)I"⟩, 13)]
theorem lw_r1 : ∀ q ∈ lw_privs_1, lw_okq q := List.forall_mem_cons.mpr ⟨lw_p0, List.forall_mem_cons.mpr ⟨lw_p1, List.forall_mem_cons.mpr ⟨lw_p2, List.forall_mem_cons.mpr ⟨lw_p3, List.forall_mem_cons.mpr ⟨lw_p4, List.forall_mem_cons.mpr ⟨lw_p5, List.forall_mem_cons.mpr ⟨lw_p6, List.forall_mem_cons.mpr ⟨lw_p7, List.forall_mem_cons.mpr ⟨lw_p8, List.forall_mem_cons.mpr ⟨lw_p9, List.forall_mem_cons.mpr ⟨lw_p10, List.forall_mem_cons.mpr ⟨lw_p11, List.forall_mem_cons.mpr ⟨lw_p12, List.forall_mem_cons.mpr ⟨lw_p13, List.forall_mem_cons.mpr ⟨lw_p14, List.forall_mem_cons.mpr ⟨lw_p15, fun _ h => absurd h List.not_mem_nil⟩⟩⟩⟩⟩⟩⟩⟩⟩⟩⟩⟩⟩⟩⟩⟩
theorem lw_p16 : lw_okq (⟨"SaintsRoad$Reader", "takeName", "()I"⟩, 13) := ⟨⟨by decide +kernel, by decide +kernel⟩, List.mem_of_getElem? (i := 47) (by decide +kernel), List.mem_of_getElem? (i := 531) (by decide +kernel), List.mem_of_getElem? (i := 532) (by decide +kernel)⟩
theorem lw_p17 : lw_okq (⟨"SaintsRoad$Reader", "takeMark", "()I"⟩, 13) := ⟨⟨by decide +kernel, by decide +kernel⟩, List.mem_of_getElem? (i := 47) (by decide +kernel), List.mem_of_getElem? (i := 544) (by decide +kernel), List.mem_of_getElem? (i := 545) (by decide +kernel)⟩
theorem lw_p18 : lw_okq (⟨"SaintsRoad", "isFeast", "(II)Z"⟩, 6) := ⟨⟨by decide +kernel, by decide +kernel⟩, List.mem_of_getElem? (i := 23) (by decide +kernel), List.mem_of_getElem? (i := 560) (by decide +kernel), List.mem_of_getElem? (i := 561) (by decide +kernel)⟩
theorem lw_p19 : lw_okq (⟨"SaintsRoad$Feast", "letter", "(I)I"⟩, 12) := ⟨⟨by decide +kernel, by decide +kernel⟩, List.mem_of_getElem? (i := 109) (by decide +kernel), List.mem_of_getElem? (i := 568) (by decide +kernel), List.mem_of_getElem? (i := 569) (by decide +kernel)⟩
theorem lw_p20 : lw_okq (⟨"SaintsRoad$Place", "sortByOwnDay", "(I)V"⟩, 11) := ⟨⟨by decide +kernel, by decide +kernel⟩, List.mem_of_getElem? (i := 96) (by decide +kernel), List.mem_of_getElem? (i := 623) (by decide +kernel), List.mem_of_getElem? (i := 624) (by decide +kernel)⟩
theorem lw_p21 : lw_okq (⟨"SaintsRoad$Feast", "fixedDay", "(I)I"⟩, 12) := ⟨⟨by decide +kernel, by decide +kernel⟩, List.mem_of_getElem? (i := 109) (by decide +kernel), List.mem_of_getElem? (i := 631) (by decide +kernel), List.mem_of_getElem? (i := 632) (by decide +kernel)⟩
theorem lw_p22 : lw_okq (⟨"SaintsRoad$Place", "insertByOwnDay", "(I)V"⟩, 11) := ⟨⟨by decide +kernel, by decide +kernel⟩, List.mem_of_getElem? (i := 96) (by decide +kernel), List.mem_of_getElem? (i := 645) (by decide +kernel), List.mem_of_getElem? (i := 646) (by decide +kernel)⟩
theorem lw_p23 : lw_okq (⟨"SaintsRoad$Place", "holdBest", "(I)V"⟩, 11) := ⟨⟨by decide +kernel, by decide +kernel⟩, List.mem_of_getElem? (i := 96) (by decide +kernel), List.mem_of_getElem? (i := 650) (by decide +kernel), List.mem_of_getElem? (i := 651) (by decide +kernel)⟩
theorem lw_p24 : lw_okq (⟨"SaintsRoad$Place", "isAbove", "(II)Z"⟩, 11) := ⟨⟨by decide +kernel, by decide +kernel⟩, List.mem_of_getElem? (i := 96) (by decide +kernel), List.mem_of_getElem? (i := 654) (by decide +kernel), List.mem_of_getElem? (i := 655) (by decide +kernel)⟩
theorem lw_p25 : lw_okq (⟨"SaintsRoad$Place", "moveOthersOn", "()V"⟩, 11) := ⟨⟨by decide +kernel, by decide +kernel⟩, List.mem_of_getElem? (i := 96) (by decide +kernel), List.mem_of_getElem? (i := 658) (by decide +kernel), List.mem_of_getElem? (i := 659) (by decide +kernel)⟩
theorem lw_p26 : lw_okq (⟨"SaintsRoad$Place", "canYield", "(I)Z"⟩, 11) := ⟨⟨by decide +kernel, by decide +kernel⟩, List.mem_of_getElem? (i := 96) (by decide +kernel), List.mem_of_getElem? (i := 662) (by decide +kernel), List.mem_of_getElem? (i := 663) (by decide +kernel)⟩
theorem lw_p27 : lw_okq (⟨"SaintsRoad$Place", "isInLent", "(I)Z"⟩, 11) := ⟨⟨by decide +kernel, by decide +kernel⟩, List.mem_of_getElem? (i := 96) (by decide +kernel), List.mem_of_getElem? (i := 694) (by decide +kernel), List.mem_of_getElem? (i := 695) (by decide +kernel)⟩
theorem lw_p28 : lw_okq (⟨"SaintsRoad$Place", "isVigil", "(IZ)Z"⟩, 11) := ⟨⟨by decide +kernel, by decide +kernel⟩, List.mem_of_getElem? (i := 96) (by decide +kernel), List.mem_of_getElem? (i := 698) (by decide +kernel), List.mem_of_getElem? (i := 699) (by decide +kernel)⟩
theorem lw_p29 : lw_okq (⟨"SaintsRoad$Place", "hasVigil", "(I)Z"⟩, 11) := ⟨⟨by decide +kernel, by decide +kernel⟩, List.mem_of_getElem? (i := 96) (by decide +kernel), List.mem_of_getElem? (i := 702) (by decide +kernel), List.mem_of_getElem? (i := 703) (by decide +kernel)⟩
theorem lw_p30 : lw_okq (⟨"SaintsRoad$Place", "feastOf", "(I)LSaintsRoad$Feast;"⟩, 11) := ⟨⟨by decide +kernel, by decide +kernel⟩, List.mem_of_getElem? (i := 96) (by decide +kernel), List.mem_of_getElem? (i := 715) (by decide +kernel), List.mem_of_getElem? (i := 716) (by decide +kernel)⟩
theorem lw_p31 : lw_okq (⟨"SaintsRoad", "carryAll", "(LSaintsRoad$Place;II)V"⟩, 6) := ⟨⟨by decide +kernel, by decide +kernel⟩, List.mem_of_getElem? (i := 23) (by decide +kernel), List.mem_of_getElem? (i := 770) (by decide +kernel), List.mem_of_getElem? (i := 771) (by decide +kernel)⟩
def lw_privs_2 : List (MethodName × Nat) := [(⟨"SaintsRoad$Reader", "takeName", "()I"⟩, 13), (⟨"SaintsRoad$Reader", "takeMark", "()I"⟩, 13), (⟨"SaintsRoad", "isFeast", "(II)Z"⟩, 6), (⟨"SaintsRoad$Feast", "letter", "(I)I"⟩, 12), (⟨"SaintsRoad$Place", "sortByOwnDay", "(I)V"⟩, 11), (⟨"SaintsRoad$Feast", "fixedDay", "(I)I"⟩, 12), (⟨"SaintsRoad$Place", "insertByOwnDay", "(I)V"⟩, 11), (⟨"SaintsRoad$Place", "holdBest", "(I)V"⟩, 11), (⟨"SaintsRoad$Place", "isAbove", "(II)Z"⟩, 11), (⟨"SaintsRoad$Place", "moveOthersOn", "()V"⟩, 11), (⟨"SaintsRoad$Place", "canYield", "(I)Z"⟩, 11), (⟨"SaintsRoad$Place", "isInLent", "(I)Z"⟩, 11), (⟨"SaintsRoad$Place", "isVigil", "(IZ)Z"⟩, 11), (⟨"SaintsRoad$Place", "hasVigil", "(I)Z"⟩, 11), (⟨"SaintsRoad$Place", "feastOf", "(I)LSaintsRoad$Feast;"⟩, 11), (⟨"SaintsRoad", "carryAll", "(LSaintsRoad$Place;II)V"⟩, 6)]
theorem lw_r2 : ∀ q ∈ lw_privs_2, lw_okq q := List.forall_mem_cons.mpr ⟨lw_p16, List.forall_mem_cons.mpr ⟨lw_p17, List.forall_mem_cons.mpr ⟨lw_p18, List.forall_mem_cons.mpr ⟨lw_p19, List.forall_mem_cons.mpr ⟨lw_p20, List.forall_mem_cons.mpr ⟨lw_p21, List.forall_mem_cons.mpr ⟨lw_p22, List.forall_mem_cons.mpr ⟨lw_p23, List.forall_mem_cons.mpr ⟨lw_p24, List.forall_mem_cons.mpr ⟨lw_p25, List.forall_mem_cons.mpr ⟨lw_p26, List.forall_mem_cons.mpr ⟨lw_p27, List.forall_mem_cons.mpr ⟨lw_p28, List.forall_mem_cons.mpr ⟨lw_p29, List.forall_mem_cons.mpr ⟨lw_p30, List.forall_mem_cons.mpr ⟨lw_p31, fun _ h => absurd h List.not_mem_nil⟩⟩⟩⟩⟩⟩⟩⟩⟩⟩⟩⟩⟩⟩⟩⟩
theorem lw_p32 : lw_okq (⟨"SaintsRoad$Brotherhoods", "allowed", "(I)I"⟩, 12) := ⟨⟨by decide +kernel, by decide +kernel⟩, List.mem_of_getElem? (i := 241) (by decide +kernel), List.mem_of_getElem? (i := 780) (by decide +kernel), List.mem_of_getElem? (i := 781) (by decide +kernel)⟩
theorem lw_p33 : lw_okq (⟨"SaintsRoad$Brotherhoods", "fairest", "(I)I"⟩, 12) := ⟨⟨by decide +kernel, by decide +kernel⟩, List.mem_of_getElem? (i := 241) (by decide +kernel), List.mem_of_getElem? (i := 784) (by decide +kernel), List.mem_of_getElem? (i := 785) (by decide +kernel)⟩
theorem lw_p34 : lw_okq (⟨"SaintsRoad$Brotherhoods", "isFairer", "(II)Z"⟩, 12) := ⟨⟨by decide +kernel, by decide +kernel⟩, List.mem_of_getElem? (i := 241) (by decide +kernel), List.mem_of_getElem? (i := 788) (by decide +kernel), List.mem_of_getElem? (i := 789) (by decide +kernel)⟩
theorem lw_p35 : lw_okq (⟨"SaintsRoad", "isLong", "(II)Z"⟩, 6) := ⟨⟨by decide +kernel, by decide +kernel⟩, List.mem_of_getElem? (i := 23) (by decide +kernel), List.mem_of_getElem? (i := 841) (by decide +kernel), List.mem_of_getElem? (i := 842) (by decide +kernel)⟩
theorem lw_p36 : lw_okq (⟨"SaintsRoad$Procession", "stretches", "()I"⟩, 5) := ⟨⟨by decide +kernel, by decide +kernel⟩, List.mem_of_getElem? (i := 294) (by decide +kernel), List.mem_of_getElem? (i := 866) (by decide +kernel), List.mem_of_getElem? (i := 867) (by decide +kernel)⟩
theorem lw_p37 : lw_okq (⟨"SaintsRoad$Procession", "comes", "(I)I"⟩, 5) := ⟨⟨by decide +kernel, by decide +kernel⟩, List.mem_of_getElem? (i := 294) (by decide +kernel), List.mem_of_getElem? (i := 870) (by decide +kernel), List.mem_of_getElem? (i := 871) (by decide +kernel)⟩
theorem lw_p38 : lw_okq (⟨"SaintsRoad$Procession", "tellCorner", "(I)I"⟩, 5) := ⟨⟨by decide +kernel, by decide +kernel⟩, List.mem_of_getElem? (i := 294) (by decide +kernel), List.mem_of_getElem? (i := 874) (by decide +kernel), List.mem_of_getElem? (i := 875) (by decide +kernel)⟩
theorem lw_p39 : lw_okq (⟨"SaintsRoad$Procession", "crosses", "(ILSaintsRoad$Procession;I)Z"⟩, 5) := ⟨⟨by decide +kernel, by decide +kernel⟩, List.mem_of_getElem? (i := 294) (by decide +kernel), List.mem_of_getElem? (i := 890) (by decide +kernel), List.mem_of_getElem? (i := 891) (by decide +kernel)⟩
theorem lw_p40 : lw_okq (⟨"SaintsRoad$Procession", "firstShared", "(ILSaintsRoad$Procession;I)I"⟩, 5) := ⟨⟨by decide +kernel, by decide +kernel⟩, List.mem_of_getElem? (i := 294) (by decide +kernel), List.mem_of_getElem? (i := 894) (by decide +kernel), List.mem_of_getElem? (i := 895) (by decide +kernel)⟩
theorem lw_p41 : lw_okq (⟨"SaintsRoad$Procession", "leaves", "(I)I"⟩, 5) := ⟨⟨by decide +kernel, by decide +kernel⟩, List.mem_of_getElem? (i := 294) (by decide +kernel), List.mem_of_getElem? (i := 899) (by decide +kernel), List.mem_of_getElem? (i := 900) (by decide +kernel)⟩
theorem lw_p42 : lw_okq (⟨"java/lang/Throwable", "fillInStackTrace", "(I)Ljava/lang/Throwable;"⟩, 6) := ⟨⟨by decide +kernel, by decide +kernel⟩, List.mem_of_getElem? (i := 1008) (by decide +kernel), List.mem_of_getElem? (i := 1006) (by decide +kernel), List.mem_of_getElem? (i := 1007) (by decide +kernel)⟩
theorem lw_p43 : lw_okq (⟨"SaintsRoadModel", "lay", "(I)V"⟩, 47) := ⟨⟨by decide +kernel, by decide +kernel⟩, List.mem_of_getElem? (i := 968) (by decide +kernel), List.mem_of_getElem? (i := 1180) (by decide +kernel), List.mem_of_getElem? (i := 1181) (by decide +kernel)⟩
theorem lw_p44 : lw_okq (⟨"SaintsRoadModel", "readCalendar", "()V"⟩, 47) := ⟨⟨by decide +kernel, by decide +kernel⟩, List.mem_of_getElem? (i := 968) (by decide +kernel), List.mem_of_getElem? (i := 1196) (by decide +kernel), List.mem_of_getElem? (i := 1197) (by decide +kernel)⟩
theorem lw_p45 : lw_okq (⟨"SaintsRoadModel", "clear", "(I)V"⟩, 47) := ⟨⟨by decide +kernel, by decide +kernel⟩, List.mem_of_getElem? (i := 968) (by decide +kernel), List.mem_of_getElem? (i := 1200) (by decide +kernel), List.mem_of_getElem? (i := 1201) (by decide +kernel)⟩
theorem lw_p46 : lw_okq (⟨"SaintsRoadModel", "scan", "()V"⟩, 47) := ⟨⟨by decide +kernel, by decide +kernel⟩, List.mem_of_getElem? (i := 968) (by decide +kernel), List.mem_of_getElem? (i := 1204) (by decide +kernel), List.mem_of_getElem? (i := 1205) (by decide +kernel)⟩
theorem lw_p47 : lw_okq (⟨"SaintsRoadModel", "byteAt", "(I)I"⟩, 47) := ⟨⟨by decide +kernel, by decide +kernel⟩, List.mem_of_getElem? (i := 968) (by decide +kernel), List.mem_of_getElem? (i := 1208) (by decide +kernel), List.mem_of_getElem? (i := 1209) (by decide +kernel)⟩
def lw_privs_3 : List (MethodName × Nat) := [(⟨"SaintsRoad$Brotherhoods", "allowed", "(I)I"⟩, 12), (⟨"SaintsRoad$Brotherhoods", "fairest", "(I)I"⟩, 12), (⟨"SaintsRoad$Brotherhoods", "isFairer", "(II)Z"⟩, 12), (⟨"SaintsRoad", "isLong", "(II)Z"⟩, 6), (⟨"SaintsRoad$Procession", "stretches", "()I"⟩, 5), (⟨"SaintsRoad$Procession", "comes", "(I)I"⟩, 5), (⟨"SaintsRoad$Procession", "tellCorner", "(I)I"⟩, 5), (⟨"SaintsRoad$Procession", "crosses", "(ILSaintsRoad$Procession;I)Z"⟩, 5), (⟨"SaintsRoad$Procession", "firstShared", "(ILSaintsRoad$Procession;I)I"⟩, 5), (⟨"SaintsRoad$Procession", "leaves", "(I)I"⟩, 5), (⟨"java/lang/Throwable", "fillInStackTrace", "(I)Ljava/lang/Throwable;"⟩, 6), (⟨"SaintsRoadModel", "lay", "(I)V"⟩, 47), (⟨"SaintsRoadModel", "readCalendar", "()V"⟩, 47), (⟨"SaintsRoadModel", "clear", "(I)V"⟩, 47), (⟨"SaintsRoadModel", "scan", "()V"⟩, 47), (⟨"SaintsRoadModel", "byteAt", "(I)I"⟩, 47)]
theorem lw_r3 : ∀ q ∈ lw_privs_3, lw_okq q := List.forall_mem_cons.mpr ⟨lw_p32, List.forall_mem_cons.mpr ⟨lw_p33, List.forall_mem_cons.mpr ⟨lw_p34, List.forall_mem_cons.mpr ⟨lw_p35, List.forall_mem_cons.mpr ⟨lw_p36, List.forall_mem_cons.mpr ⟨lw_p37, List.forall_mem_cons.mpr ⟨lw_p38, List.forall_mem_cons.mpr ⟨lw_p39, List.forall_mem_cons.mpr ⟨lw_p40, List.forall_mem_cons.mpr ⟨lw_p41, List.forall_mem_cons.mpr ⟨lw_p42, List.forall_mem_cons.mpr ⟨lw_p43, List.forall_mem_cons.mpr ⟨lw_p44, List.forall_mem_cons.mpr ⟨lw_p45, List.forall_mem_cons.mpr ⟨lw_p46, List.forall_mem_cons.mpr ⟨lw_p47, fun _ h => absurd h List.not_mem_nil⟩⟩⟩⟩⟩⟩⟩⟩⟩⟩⟩⟩⟩⟩⟩⟩
theorem lw_p48 : lw_okq (⟨"SaintsRoadModel", "readLine", "()V"⟩, 47) := ⟨⟨by decide +kernel, by decide +kernel⟩, List.mem_of_getElem? (i := 968) (by decide +kernel), List.mem_of_getElem? (i := 1218) (by decide +kernel), List.mem_of_getElem? (i := 1219) (by decide +kernel)⟩
theorem lw_p49 : lw_okq (⟨"SaintsRoadModel", "is", "(Ljava/lang/String;)Z"⟩, 47) := ⟨⟨by decide +kernel, by decide +kernel⟩, List.mem_of_getElem? (i := 968) (by decide +kernel), List.mem_of_getElem? (i := 1223) (by decide +kernel), List.mem_of_getElem? (i := 1224) (by decide +kernel)⟩
theorem lw_p50 : lw_okq (⟨"SaintsRoadModel", "wrong", "(I)LSaintsRoadModel$Stop;"⟩, 47) := ⟨⟨by decide +kernel, by decide +kernel⟩, List.mem_of_getElem? (i := 968) (by decide +kernel), List.mem_of_getElem? (i := 1229) (by decide +kernel), List.mem_of_getElem? (i := 1230) (by decide +kernel)⟩
theorem lw_p51 : lw_okq (⟨"SaintsRoadModel", "takeNumber", "(II)I"⟩, 47) := ⟨⟨by decide +kernel, by decide +kernel⟩, List.mem_of_getElem? (i := 968) (by decide +kernel), List.mem_of_getElem? (i := 1233) (by decide +kernel), List.mem_of_getElem? (i := 1234) (by decide +kernel)⟩
theorem lw_p52 : lw_okq (⟨"SaintsRoadModel", "number", "(II)I"⟩, 47) := ⟨⟨by decide +kernel, by decide +kernel⟩, List.mem_of_getElem? (i := 968) (by decide +kernel), List.mem_of_getElem? (i := 1237) (by decide +kernel), List.mem_of_getElem? (i := 1238) (by decide +kernel)⟩
theorem lw_p53 : lw_okq (⟨"SaintsRoadModel", "readFeast", "()V"⟩, 47) := ⟨⟨by decide +kernel, by decide +kernel⟩, List.mem_of_getElem? (i := 968) (by decide +kernel), List.mem_of_getElem? (i := 1243) (by decide +kernel), List.mem_of_getElem? (i := 1244) (by decide +kernel)⟩
theorem lw_p54 : lw_okq (⟨"SaintsRoadModel", "isSign", "(I)Z"⟩, 47) := ⟨⟨by decide +kernel, by decide +kernel⟩, List.mem_of_getElem? (i := 968) (by decide +kernel), List.mem_of_getElem? (i := 1253) (by decide +kernel), List.mem_of_getElem? (i := 1254) (by decide +kernel)⟩
theorem lw_p55 : lw_okq (⟨"SaintsRoadModel", "need", "(Ljava/lang/String;)V"⟩, 47) := ⟨⟨by decide +kernel, by decide +kernel⟩, List.mem_of_getElem? (i := 968) (by decide +kernel), List.mem_of_getElem? (i := 1258) (by decide +kernel), List.mem_of_getElem? (i := 1259) (by decide +kernel)⟩
theorem lw_p56 : lw_okq (⟨"SaintsRoadModel", "isQuoted", "()Z"⟩, 47) := ⟨⟨by decide +kernel, by decide +kernel⟩, List.mem_of_getElem? (i := 968) (by decide +kernel), List.mem_of_getElem? (i := 1262) (by decide +kernel), List.mem_of_getElem? (i := 1263) (by decide +kernel)⟩
theorem lw_p57 : lw_okq (⟨"SaintsRoadModel", "isNamed", "(II)Z"⟩, 47) := ⟨⟨by decide +kernel, by decide +kernel⟩, List.mem_of_getElem? (i := 968) (by decide +kernel), List.mem_of_getElem? (i := 1270) (by decide +kernel), List.mem_of_getElem? (i := 1271) (by decide +kernel)⟩
theorem lw_p58 : lw_okq (⟨"SaintsRoadModel", "become", "(II)V"⟩, 47) := ⟨⟨by decide +kernel, by decide +kernel⟩, List.mem_of_getElem? (i := 968) (by decide +kernel), List.mem_of_getElem? (i := 1274) (by decide +kernel), List.mem_of_getElem? (i := 1275) (by decide +kernel)⟩
theorem lw_p59 : lw_okq (⟨"SaintsRoadModel", "isFeast", "(II)Z"⟩, 47) := ⟨⟨by decide +kernel, by decide +kernel⟩, List.mem_of_getElem? (i := 968) (by decide +kernel), List.mem_of_getElem? (i := 1286) (by decide +kernel), List.mem_of_getElem? (i := 1287) (by decide +kernel)⟩
theorem lw_p60 : lw_okq (⟨"SaintsRoadModel", "isPlaced", "(III)Z"⟩, 47) := ⟨⟨by decide +kernel, by decide +kernel⟩, List.mem_of_getElem? (i := 968) (by decide +kernel), List.mem_of_getElem? (i := 1296) (by decide +kernel), List.mem_of_getElem? (i := 1297) (by decide +kernel)⟩
theorem lw_p61 : lw_okq (⟨"SaintsRoadModel", "lead", "(II)V"⟩, 47) := ⟨⟨by decide +kernel, by decide +kernel⟩, List.mem_of_getElem? (i := 968) (by decide +kernel), List.mem_of_getElem? (i := 1300) (by decide +kernel), List.mem_of_getElem? (i := 1301) (by decide +kernel)⟩
theorem lw_p62 : lw_okq (⟨"SaintsRoadModel", "ownDay", "(III)I"⟩, 47) := ⟨⟨by decide +kernel, by decide +kernel⟩, List.mem_of_getElem? (i := 968) (by decide +kernel), List.mem_of_getElem? (i := 1304) (by decide +kernel), List.mem_of_getElem? (i := 1305) (by decide +kernel)⟩
theorem lw_p63 : lw_okq (⟨"SaintsRoadModel", "isVigil", "(III)Z"⟩, 47) := ⟨⟨by decide +kernel, by decide +kernel⟩, List.mem_of_getElem? (i := 968) (by decide +kernel), List.mem_of_getElem? (i := 1320) (by decide +kernel), List.mem_of_getElem? (i := 1321) (by decide +kernel)⟩
def lw_privs_4 : List (MethodName × Nat) := [(⟨"SaintsRoadModel", "readLine", "()V"⟩, 47), (⟨"SaintsRoadModel", "is", "(Ljava/lang/String;)Z"⟩, 47), (⟨"SaintsRoadModel", "wrong", "(I)LSaintsRoadModel$Stop;"⟩, 47), (⟨"SaintsRoadModel", "takeNumber", "(II)I"⟩, 47), (⟨"SaintsRoadModel", "number", "(II)I"⟩, 47), (⟨"SaintsRoadModel", "readFeast", "()V"⟩, 47), (⟨"SaintsRoadModel", "isSign", "(I)Z"⟩, 47), (⟨"SaintsRoadModel", "need", "(Ljava/lang/String;)V"⟩, 47), (⟨"SaintsRoadModel", "isQuoted", "()Z"⟩, 47), (⟨"SaintsRoadModel", "isNamed", "(II)Z"⟩, 47), (⟨"SaintsRoadModel", "become", "(II)V"⟩, 47), (⟨"SaintsRoadModel", "isFeast", "(II)Z"⟩, 47), (⟨"SaintsRoadModel", "isPlaced", "(III)Z"⟩, 47), (⟨"SaintsRoadModel", "lead", "(II)V"⟩, 47), (⟨"SaintsRoadModel", "ownDay", "(III)I"⟩, 47), (⟨"SaintsRoadModel", "isVigil", "(III)Z"⟩, 47)]
theorem lw_r4 : ∀ q ∈ lw_privs_4, lw_okq q := List.forall_mem_cons.mpr ⟨lw_p48, List.forall_mem_cons.mpr ⟨lw_p49, List.forall_mem_cons.mpr ⟨lw_p50, List.forall_mem_cons.mpr ⟨lw_p51, List.forall_mem_cons.mpr ⟨lw_p52, List.forall_mem_cons.mpr ⟨lw_p53, List.forall_mem_cons.mpr ⟨lw_p54, List.forall_mem_cons.mpr ⟨lw_p55, List.forall_mem_cons.mpr ⟨lw_p56, List.forall_mem_cons.mpr ⟨lw_p57, List.forall_mem_cons.mpr ⟨lw_p58, List.forall_mem_cons.mpr ⟨lw_p59, List.forall_mem_cons.mpr ⟨lw_p60, List.forall_mem_cons.mpr ⟨lw_p61, List.forall_mem_cons.mpr ⟨lw_p62, List.forall_mem_cons.mpr ⟨lw_p63, fun _ h => absurd h List.not_mem_nil⟩⟩⟩⟩⟩⟩⟩⟩⟩⟩⟩⟩⟩⟩⟩⟩
theorem lw_p64 : lw_okq (⟨"SaintsRoadModel", "waxOf", "(II)I"⟩, 47) := ⟨⟨by decide +kernel, by decide +kernel⟩, List.mem_of_getElem? (i := 968) (by decide +kernel), List.mem_of_getElem? (i := 1328) (by decide +kernel), List.mem_of_getElem? (i := 1329) (by decide +kernel)⟩
theorem lw_p65 : lw_okq (⟨"SaintsRoadModel", "areLike", "(IIII)Z"⟩, 47) := ⟨⟨by decide +kernel, by decide +kernel⟩, List.mem_of_getElem? (i := 968) (by decide +kernel), List.mem_of_getElem? (i := 1341) (by decide +kernel), List.mem_of_getElem? (i := 1342) (by decide +kernel)⟩
theorem lw_p66 : lw_okq (⟨"SaintsRoadModel", "carrier", "(II)I"⟩, 47) := ⟨⟨by decide +kernel, by decide +kernel⟩, List.mem_of_getElem? (i := 968) (by decide +kernel), List.mem_of_getElem? (i := 1358) (by decide +kernel), List.mem_of_getElem? (i := 1359) (by decide +kernel)⟩
theorem lw_p67 : lw_okq (⟨"SaintsRoadModel", "parts", "(II)Z"⟩, 47) := ⟨⟨by decide +kernel, by decide +kernel⟩, List.mem_of_getElem? (i := 968) (by decide +kernel), List.mem_of_getElem? (i := 1362) (by decide +kernel), List.mem_of_getElem? (i := 1363) (by decide +kernel)⟩
theorem lw_p68 : lw_okq (⟨"SaintsRoadModel", "headAt", "(II)I"⟩, 47) := ⟨⟨by decide +kernel, by decide +kernel⟩, List.mem_of_getElem? (i := 968) (by decide +kernel), List.mem_of_getElem? (i := 1408) (by decide +kernel), List.mem_of_getElem? (i := 1409) (by decide +kernel)⟩
theorem lw_p69 : lw_okq (⟨"SaintsRoadModel", "isGoing", "(I)Z"⟩, 47) := ⟨⟨by decide +kernel, by decide +kernel⟩, List.mem_of_getElem? (i := 968) (by decide +kernel), List.mem_of_getElem? (i := 1416) (by decide +kernel), List.mem_of_getElem? (i := 1417) (by decide +kernel)⟩
theorem lw_p70 : lw_okq (⟨"SaintsRoadModel", "meet", "(II)I"⟩, 47) := ⟨⟨by decide +kernel, by decide +kernel⟩, List.mem_of_getElem? (i := 968) (by decide +kernel), List.mem_of_getElem? (i := 1420) (by decide +kernel), List.mem_of_getElem? (i := 1421) (by decide +kernel)⟩
def lw_privs_5 : List (MethodName × Nat) := [(⟨"SaintsRoadModel", "waxOf", "(II)I"⟩, 47), (⟨"SaintsRoadModel", "areLike", "(IIII)Z"⟩, 47), (⟨"SaintsRoadModel", "carrier", "(II)I"⟩, 47), (⟨"SaintsRoadModel", "parts", "(II)Z"⟩, 47), (⟨"SaintsRoadModel", "headAt", "(II)I"⟩, 47), (⟨"SaintsRoadModel", "isGoing", "(I)Z"⟩, 47), (⟨"SaintsRoadModel", "meet", "(II)I"⟩, 47)]
theorem lw_r5 : ∀ q ∈ lw_privs_5, lw_okq q := List.forall_mem_cons.mpr ⟨lw_p64, List.forall_mem_cons.mpr ⟨lw_p65, List.forall_mem_cons.mpr ⟨lw_p66, List.forall_mem_cons.mpr ⟨lw_p67, List.forall_mem_cons.mpr ⟨lw_p68, List.forall_mem_cons.mpr ⟨lw_p69, List.forall_mem_cons.mpr ⟨lw_p70, fun _ h => absurd h List.not_mem_nil⟩⟩⟩⟩⟩⟩⟩
def lw_privs : List (MethodName × Nat) := lw_privs_1 ++ (lw_privs_2 ++ (lw_privs_3 ++ (lw_privs_4 ++ (lw_privs_5))))
def lw_tbl : List Cond := k2_sels lw_privs ++ tables_1
theorem lw_privs_ok : ∀ q ∈ lw_privs, lw_okq q := by
  show ∀ q ∈ lw_privs_1 ++ (lw_privs_2 ++ (lw_privs_3 ++ (lw_privs_4 ++ (lw_privs_5)))), lw_okq q
  exact List.forall_mem_append.mpr ⟨lw_r1, List.forall_mem_append.mpr ⟨lw_r2, List.forall_mem_append.mpr ⟨lw_r3, List.forall_mem_append.mpr ⟨lw_r4, lw_r5⟩⟩⟩⟩
end
section
/-! ===== BEGIN words of one list among another's, by their places ===== -/
theorem goodIn_r {big : List Cond} (ws : List Cond) (ps : List Nat) (hp : ws = ps.filterMap (fun i => big[i]?)) (h : ws.all goodWord = true) : GoodIn big ws := by
  intro w hw
  have h1 := List.all_eq_true.mp h w hw
  rw [hp] at hw
  obtain ⟨i, -, hi⟩ := List.mem_filterMap.mp hw
  have hm : w ∈ big := by first | exact List.mem_of_getElem? hi | exact List.getElem?_mem hi
  exact ⟨hm, good_of_word h1⟩
theorem goodIn_app {big a b : List Cond} (ha : GoodIn big a) (hb : GoodIn big b) : GoodIn big (a ++ b) := fun w h => (List.mem_append.mp h).elim (ha w) (hb w)
theorem goodIn_ca {big a b : List Cond} {c : Cond} (ha : GoodIn big (c :: a)) (hb : GoodIn big b) : GoodIn big (c :: (a ++ b)) := fun w h => (List.mem_cons.mp h).elim (fun e => ha w (List.mem_cons.mpr (Or.inl e))) (fun h => (List.mem_append.mp h).elim (fun h => ha w (List.mem_cons.mpr (Or.inr h))) (hb w))
theorem goodIn_sub {big ws : List Cond} (hm : ∀ w ∈ ws, w ∈ big) (h : ws.all goodWord = true) : GoodIn big ws := fun w hw => ⟨hm w hw, good_of_word (List.all_eq_true.mp h w hw)⟩
/-! ===== END ===== -/

/-! ===== BEGIN printed: names, fields, word lists, decode rows ===== -/
def RX0 : String := "SaintsRoad$Brotherhoods"
def TX0 : u_T := fun k => match k with
  | 0 => ("SaintsRoad$Brotherhoods", "carriedBy", "[I", true)
  | 1 => ("SaintsRoad$Brotherhoods", "quarrelCount", "I", false)
  | 2 => ("SaintsRoad$Brotherhoods", "turns", "I", false)
  | 3 => ("SaintsRoad$Brotherhoods", "quarrels", "[I", true)
  | 4 => ("SaintsRoad$Brotherhoods", "latestTurn", "[I", true)
  | 5 => ("SaintsRoad$Brotherhoods", "yearOf", "[I", true)
  | 6 => ("SaintsRoad$Brotherhoods", "dayOf", "[I", true)
  | 7 => ("SaintsRoad$Brotherhoods", "feastOf", "[I", true)
  | 8 => ("SaintsRoad$Brotherhoods", "carrierOf", "[I", true)
  | 9 => ("SaintsRoad$Brotherhoods", "set", "I", false)
  | 10 => ("SaintsRoad$Brotherhoods", "latestCarrier", "I", false)
  | _ => ("SaintsRoad$Brotherhoods", "latestDay", "I", false)
def tyX0 : Nat → FieldType := fun k => match k with
  | 0 => .array .int
  | 1 => .int
  | 2 => .int
  | 3 => .array .int
  | 4 => .array .int
  | 5 => .array .int
  | 6 => .array .int
  | 7 => .array .int
  | 8 => .array .int
  | 9 => .int
  | 10 => .int
  | _ => .int
abbrev wsX00 : List Cond := u_ws RX0 TX0 12
theorem nmX0 : ∀ a, a < 12 → ∀ b, b < 12 → a ≠ b → (TX0 a).2.1 ≠ (TX0 b).2.1 := by decide +kernel
theorem tyX0_ok : ∀ k, k < 12 → parseFieldDescriptor (TX0 k).2.2.1 = some (tyX0 k) := by decide +kernel
abbrev cX0_init : ByteArray := prog_2_method_1_code
def yX0_init : MethodName := ⟨RX0, "<init>", "()V"⟩
abbrev cX0_setQuarrel : ByteArray := prog_2_method_2_code
def yX0_setQuarrel : MethodName := ⟨RX0, "setQuarrel", "(IIZ)Z"⟩
abbrev cX0_startTurns : ByteArray := prog_2_method_3_code
def yX0_startTurns : MethodName := ⟨RX0, "startTurns", "(I)V"⟩
abbrev cX0_carry : ByteArray := prog_2_method_4_code
def yX0_carry : MethodName := ⟨RX0, "carry", "(III)V"⟩
abbrev cX0_allowed : ByteArray := prog_2_method_5_code
def yX0_allowed : MethodName := ⟨RX0, "allowed", "(I)I"⟩
abbrev cX0_fairest : ByteArray := prog_2_method_6_code
def yX0_fairest : MethodName := ⟨RX0, "fairest", "(I)I"⟩
abbrev cX0_isFairer : ByteArray := prog_2_method_7_code
def yX0_isFairer : MethodName := ⟨RX0, "isFairer", "(II)Z"⟩
abbrev cX0_tellTurn : ByteArray := prog_2_method_8_code
def yX0_tellTurn : MethodName := ⟨RX0, "tellTurn", "(II)I"⟩
def RX1 : String := "SaintsRoad$Calendar"
def TX1 : u_T := fun k => match k with
  | 0 => ("SaintsRoad$Calendar", "feasts", "[LSaintsRoad$Feast;", true)
  | 1 => ("SaintsRoad$Calendar", "waxByRank", "[I", true)
  | 2 => ("SaintsRoad$Calendar", "size", "I", false)
  | 3 => ("SaintsRoad$Calendar", "yieldRank", "I", false)
  | 4 => ("SaintsRoad$Calendar", "yieldTimes", "I", false)
  | _ => ("SaintsRoad$Calendar", "lent", "I", false)
def tyX1 : Nat → FieldType := fun k => match k with
  | 0 => .array (.object "SaintsRoad$Feast")
  | 1 => .array .int
  | 2 => .int
  | 3 => .int
  | 4 => .int
  | _ => .int
abbrev wsX10 : List Cond := u_ws RX1 TX1 6
theorem nmX1 : ∀ a, a < 6 → ∀ b, b < 6 → a ≠ b → (TX1 a).2.1 ≠ (TX1 b).2.1 := by decide +kernel
theorem tyX1_ok : ∀ k, k < 6 → parseFieldDescriptor (TX1 k).2.2.1 = some (tyX1 k) := by decide +kernel
abbrev cX1_init : ByteArray := prog_3_method_1_code
def yX1_init : MethodName := ⟨RX1, "<init>", "()V"⟩
abbrev cX1_clear : ByteArray := prog_3_method_2_code
def yX1_clear : MethodName := ⟨RX1, "clear", "()V"⟩
abbrev cX1_hasName : ByteArray := prog_3_method_3_code
def yX1_hasName : MethodName := ⟨RX1, "hasName", "(J)Z"⟩
abbrev cX1_waxOfRank : ByteArray := prog_3_method_4_code
def yX1_waxOfRank : MethodName := ⟨RX1, "waxOfRank", "(I)I"⟩
def RX2 : String := "SaintsRoad$Days"
def TX2 : u_T := fun k => match k with
  | _ => ("", "", "", false)
def tyX2 : Nat → FieldType := fun k => match k with
  | _ => .int
abbrev wsX20 : List Cond := u_ws RX2 TX2 0
theorem nmX2 : ∀ a, a < 0 → ∀ b, b < 0 → a ≠ b → (TX2 a).2.1 ≠ (TX2 b).2.1 := by decide +kernel
theorem tyX2_ok : ∀ k, k < 0 → parseFieldDescriptor (TX2 k).2.2.1 = some (tyX2 k) := by decide +kernel
abbrev cX2_isYear : ByteArray := prog_4_method_2_code
def yX2_isYear : MethodName := ⟨RX2, "isYear", "(I)Z"⟩
abbrev cX2_isDay : ByteArray := prog_4_method_3_code
def yX2_isDay : MethodName := ⟨RX2, "isDay", "(II)Z"⟩
abbrev cX2_isLeap : ByteArray := prog_4_method_4_code
def yX2_isLeap : MethodName := ⟨RX2, "isLeap", "(I)Z"⟩
abbrev cX2_length : ByteArray := prog_4_method_5_code
def yX2_length : MethodName := ⟨RX2, "length", "(I)I"⟩
abbrev cX2_daysAhead : ByteArray := prog_4_method_6_code
def yX2_daysAhead : MethodName := ⟨RX2, "daysAhead", "(I)I"⟩
abbrev cX2_weekday : ByteArray := prog_4_method_7_code
def yX2_weekday : MethodName := ⟨RX2, "weekday", "(II)I"⟩
abbrev cX2_isSunday : ByteArray := prog_4_method_8_code
def yX2_isSunday : MethodName := ⟨RX2, "isSunday", "(II)Z"⟩
abbrev cX2_mostDaysOf : ByteArray := prog_4_method_9_code
def yX2_mostDaysOf : MethodName := ⟨RX2, "mostDaysOf", "(I)I"⟩
abbrev cX2_monthLength : ByteArray := prog_4_method_10_code
def yX2_monthLength : MethodName := ⟨RX2, "monthLength", "(II)I"⟩
abbrev cX2_monthStart : ByteArray := prog_4_method_11_code
def yX2_monthStart : MethodName := ⟨RX2, "monthStart", "(II)I"⟩
abbrev cX2_monthOf : ByteArray := prog_4_method_12_code
def yX2_monthOf : MethodName := ⟨RX2, "monthOf", "(II)I"⟩
abbrev cX2_easterOf : ByteArray := prog_4_method_13_code
def yX2_easterOf : MethodName := ⟨RX2, "easterOf", "(I)I"⟩
abbrev cX2_sundayOf : ByteArray := prog_4_method_14_code
def yX2_sundayOf : MethodName := ⟨RX2, "sundayOf", "(III)I"⟩
def RX3 : String := "SaintsRoad$Feast"
def TX3 : u_T := fun k => match k with
  | 0 => ("SaintsRoad$Feast", "name", "J", false)
  | 1 => ("SaintsRoad$Feast", "letterCount", "I", false)
  | 2 => ("SaintsRoad$Feast", "kind", "I", false)
  | 3 => ("SaintsRoad$Feast", "month", "I", false)
  | 4 => ("SaintsRoad$Feast", "date", "I", false)
  | 5 => ("SaintsRoad$Feast", "shift", "I", false)
  | 6 => ("SaintsRoad$Feast", "week", "I", false)
  | 7 => ("SaintsRoad$Feast", "rank", "I", false)
  | 8 => ("SaintsRoad$Feast", "vigil", "Z", false)
  | 9 => ("SaintsRoad$Feast", "octave", "Z", false)
  | 10 => ("SaintsRoad$Feast", "from", "I", false)
  | _ => ("SaintsRoad$Feast", "till", "I", false)
def tyX3 : Nat → FieldType := fun k => match k with
  | 0 => .long
  | 1 => .int
  | 2 => .int
  | 3 => .int
  | 4 => .int
  | 5 => .int
  | 6 => .int
  | 7 => .int
  | 8 => .boolean
  | 9 => .boolean
  | 10 => .int
  | _ => .int
abbrev wsX30 : List Cond := u_ws RX3 TX3 12
theorem nmX3 : ∀ a, a < 12 → ∀ b, b < 12 → a ≠ b → (TX3 a).2.1 ≠ (TX3 b).2.1 := by decide +kernel
theorem tyX3_ok : ∀ k, k < 12 → parseFieldDescriptor (TX3 k).2.2.1 = some (tyX3 k) := by decide +kernel
abbrev cX3_init : ByteArray := prog_5_method_1_code
def yX3_init : MethodName := ⟨RX3, "<init>", "()V"⟩
abbrev cX3_clear : ByteArray := prog_5_method_2_code
def yX3_clear : MethodName := ⟨RX3, "clear", "(I)V"⟩
abbrev cX3_setName : ByteArray := prog_5_method_3_code
def yX3_setName : MethodName := ⟨RX3, "setName", "(LSaintsRoad$Tape;II)V"⟩
abbrev cX3_letter : ByteArray := prog_5_method_4_code
def yX3_letter : MethodName := ⟨RX3, "letter", "(I)I"⟩
abbrev cX3_tell : ByteArray := prog_5_method_5_code
def yX3_tell : MethodName := ⟨RX3, "tell", "(I)I"⟩
abbrev cX3_ownDayIn : ByteArray := prog_5_method_6_code
def yX3_ownDayIn : MethodName := ⟨RX3, "ownDayIn", "(II)I"⟩
abbrev cX3_fixedDay : ByteArray := prog_5_method_7_code
def yX3_fixedDay : MethodName := ⟨RX3, "fixedDay", "(I)I"⟩
def RX4 : String := "SaintsRoad$Place"
def TX4 : u_T := fun k => match k with
  | 0 => ("SaintsRoad$Place", "heldDay", "[I", true)
  | 1 => ("SaintsRoad$Place", "heldOn", "[I", true)
  | 2 => ("SaintsRoad$Place", "calendar", "LSaintsRoad$Calendar;", false)
  | 3 => ("SaintsRoad$Place", "ownDay", "[I", true)
  | 4 => ("SaintsRoad$Place", "timesMoved", "[I", true)
  | 5 => ("SaintsRoad$Place", "byOwnDay", "[I", true)
  | 6 => ("SaintsRoad$Place", "waiting", "[I", true)
  | 7 => ("SaintsRoad$Place", "inYear", "I", false)
  | 8 => ("SaintsRoad$Place", "easterDay", "I", false)
  | 9 => ("SaintsRoad$Place", "waitingCount", "I", false)
  | _ => ("SaintsRoad$Place", "settledYear", "I", false)
def tyX4 : Nat → FieldType := fun k => match k with
  | 0 => .array .int
  | 1 => .array .int
  | 2 => .object "SaintsRoad$Calendar"
  | 3 => .array .int
  | 4 => .array .int
  | 5 => .array .int
  | 6 => .array .int
  | 7 => .int
  | 8 => .int
  | 9 => .int
  | _ => .int
abbrev wsX40 : List Cond := u_ws RX4 TX4 11
theorem nmX4 : ∀ a, a < 11 → ∀ b, b < 11 → a ≠ b → (TX4 a).2.1 ≠ (TX4 b).2.1 := by decide +kernel
theorem tyX4_ok : ∀ k, k < 11 → parseFieldDescriptor (TX4 k).2.2.1 = some (tyX4 k) := by decide +kernel
abbrev cX4_init : ByteArray := prog_6_method_1_code
def yX4_init : MethodName := ⟨RX4, "<init>", "()V"⟩
abbrev cX4_exchange : ByteArray := prog_6_method_2_code
def yX4_exchange : MethodName := ⟨RX4, "exchange", "(LSaintsRoad$Calendar;)LSaintsRoad$Calendar;"⟩
abbrev cX4_settle : ByteArray := prog_6_method_3_code
def yX4_settle : MethodName := ⟨RX4, "settle", "(I)V"⟩
abbrev cX4_sortByOwnDay : ByteArray := prog_6_method_4_code
def yX4_sortByOwnDay : MethodName := ⟨RX4, "sortByOwnDay", "(I)V"⟩
abbrev cX4_insertByOwnDay : ByteArray := prog_6_method_5_code
def yX4_insertByOwnDay : MethodName := ⟨RX4, "insertByOwnDay", "(I)V"⟩
abbrev cX4_holdBest : ByteArray := prog_6_method_6_code
def yX4_holdBest : MethodName := ⟨RX4, "holdBest", "(I)V"⟩
abbrev cX4_isAbove : ByteArray := prog_6_method_7_code
def yX4_isAbove : MethodName := ⟨RX4, "isAbove", "(II)Z"⟩
abbrev cX4_moveOthersOn : ByteArray := prog_6_method_8_code
def yX4_moveOthersOn : MethodName := ⟨RX4, "moveOthersOn", "()V"⟩
abbrev cX4_canYield : ByteArray := prog_6_method_9_code
def yX4_canYield : MethodName := ⟨RX4, "canYield", "(I)Z"⟩
abbrev cX4_feastHeldOn : ByteArray := prog_6_method_10_code
def yX4_feastHeldOn : MethodName := ⟨RX4, "feastHeldOn", "(I)LSaintsRoad$Feast;"⟩
abbrev cX4_officeOf : ByteArray := prog_6_method_11_code
def yX4_officeOf : MethodName := ⟨RX4, "officeOf", "(I)I"⟩
abbrev cX4_isFast : ByteArray := prog_6_method_12_code
def yX4_isFast : MethodName := ⟨RX4, "isFast", "(I)Z"⟩
abbrev cX4_isInLent : ByteArray := prog_6_method_13_code
def yX4_isInLent : MethodName := ⟨RX4, "isInLent", "(I)Z"⟩
abbrev cX4_isVigil : ByteArray := prog_6_method_14_code
def yX4_isVigil : MethodName := ⟨RX4, "isVigil", "(IZ)Z"⟩
abbrev cX4_hasVigil : ByteArray := prog_6_method_15_code
def yX4_hasVigil : MethodName := ⟨RX4, "hasVigil", "(I)Z"⟩
abbrev cX4_waxOf : ByteArray := prog_6_method_16_code
def yX4_waxOf : MethodName := ⟨RX4, "waxOf", "(I)I"⟩
abbrev cX4_feastOf : ByteArray := prog_6_method_17_code
def yX4_feastOf : MethodName := ⟨RX4, "feastOf", "(I)LSaintsRoad$Feast;"⟩
abbrev cX4_firstHeld : ByteArray := prog_6_method_18_code
def yX4_firstHeld : MethodName := ⟨RX4, "firstHeld", "(II)I"⟩
abbrev cX4_isAlike : ByteArray := prog_6_method_19_code
def yX4_isAlike : MethodName := ⟨RX4, "isAlike", "(LSaintsRoad$Place;I)Z"⟩
def RX5 : String := "SaintsRoad$Procession"
def TX5 : u_T := fun k => match k with
  | 0 => ("SaintsRoad$Procession", "size", "I", false)
  | 1 => ("SaintsRoad$Procession", "beginning", "I", false)
  | 2 => ("SaintsRoad$Procession", "corners", "[I", true)
  | 3 => ("SaintsRoad$Procession", "reached", "[I", true)
  | _ => ("SaintsRoad$Procession", "tail", "I", false)
def tyX5 : Nat → FieldType := fun k => match k with
  | 0 => .int
  | 1 => .int
  | 2 => .array .int
  | 3 => .array .int
  | _ => .int
abbrev wsX50 : List Cond := u_ws RX5 TX5 5
theorem nmX5 : ∀ a, a < 5 → ∀ b, b < 5 → a ≠ b → (TX5 a).2.1 ≠ (TX5 b).2.1 := by decide +kernel
theorem tyX5_ok : ∀ k, k < 5 → parseFieldDescriptor (TX5 k).2.2.1 = some (tyX5 k) := by decide +kernel
abbrev cX5_init : ByteArray := prog_7_method_1_code
def yX5_init : MethodName := ⟨RX5, "<init>", "()V"⟩
abbrev cX5_start : ByteArray := prog_7_method_2_code
def yX5_start : MethodName := ⟨RX5, "start", "(III)V"⟩
abbrev cX5_lastCorner : ByteArray := prog_7_method_3_code
def yX5_lastCorner : MethodName := ⟨RX5, "lastCorner", "()I"⟩
abbrev cX5_goOn : ByteArray := prog_7_method_4_code
def yX5_goOn : MethodName := ⟨RX5, "goOn", "(II)Z"⟩
abbrev cX5_tell : ByteArray := prog_7_method_5_code
def yX5_tell : MethodName := ⟨RX5, "tell", "(I)I"⟩
abbrev cX5_tellCorner : ByteArray := prog_7_method_6_code
def yX5_tellCorner : MethodName := ⟨RX5, "tellCorner", "(I)I"⟩
abbrev cX5_stretches : ByteArray := prog_7_method_7_code
def yX5_stretches : MethodName := ⟨RX5, "stretches", "()I"⟩
abbrev cX5_comes : ByteArray := prog_7_method_8_code
def yX5_comes : MethodName := ⟨RX5, "comes", "(I)I"⟩
abbrev cX5_leaves : ByteArray := prog_7_method_9_code
def yX5_leaves : MethodName := ⟨RX5, "leaves", "(I)I"⟩
abbrev cX5_crosses : ByteArray := prog_7_method_10_code
def yX5_crosses : MethodName := ⟨RX5, "crosses", "(ILSaintsRoad$Procession;I)Z"⟩
abbrev cX5_firstMeeting : ByteArray := prog_7_method_11_code
def yX5_firstMeeting : MethodName := ⟨RX5, "firstMeeting", "(LSaintsRoad$Procession;)I"⟩
abbrev cX5_firstShared : ByteArray := prog_7_method_12_code
def yX5_firstShared : MethodName := ⟨RX5, "firstShared", "(ILSaintsRoad$Procession;I)I"⟩
abbrev cX5_addHindrances : ByteArray := prog_7_method_13_code
def yX5_addHindrances : MethodName := ⟨RX5, "addHindrances", "(LSaintsRoad$Procession;[I)V"⟩
abbrev cX5_addHindrance : ByteArray := prog_7_method_14_code
def yX5_addHindrance : MethodName := ⟨RX5, "addHindrance", "([III)V"⟩
def RX6 : String := "SaintsRoad$Reader"
def TX6 : u_T := fun k => match k with
  | 0 => ("SaintsRoad$Reader", "faultKind", "I", false)
  | 1 => ("SaintsRoad$Reader", "faultPlace", "I", false)
  | 2 => ("SaintsRoad$Reader", "tape", "LSaintsRoad$Tape;", false)
  | 3 => ("SaintsRoad$Reader", "calendar", "LSaintsRoad$Calendar;", false)
  | 4 => ("SaintsRoad$Reader", "feast", "LSaintsRoad$Feast;", false)
  | 5 => ("SaintsRoad$Reader", "state", "I", false)
  | 6 => ("SaintsRoad$Reader", "at", "I", false)
  | 7 => ("SaintsRoad$Reader", "token", "I", false)
  | 8 => ("SaintsRoad$Reader", "start", "I", false)
  | 9 => ("SaintsRoad$Reader", "value", "I", false)
  | 10 => ("SaintsRoad$Reader", "ahead", "Z", false)
  | 11 => ("SaintsRoad$Reader", "marks", "I", false)
  | _ => ("SaintsRoad$Reader", "waxRank", "I", false)
def tyX6 : Nat → FieldType := fun k => match k with
  | 0 => .int
  | 1 => .int
  | 2 => .object "SaintsRoad$Tape"
  | 3 => .object "SaintsRoad$Calendar"
  | 4 => .object "SaintsRoad$Feast"
  | 5 => .int
  | 6 => .int
  | 7 => .int
  | 8 => .int
  | 9 => .int
  | 10 => .boolean
  | 11 => .int
  | _ => .int
abbrev wsX60 : List Cond := u_ws RX6 TX6 13
theorem nmX6 : ∀ a, a < 13 → ∀ b, b < 13 → a ≠ b → (TX6 a).2.1 ≠ (TX6 b).2.1 := by decide +kernel
theorem tyX6_ok : ∀ k, k < 13 → parseFieldDescriptor (TX6 k).2.2.1 = some (tyX6 k) := by decide +kernel
abbrev cX6_init : ByteArray := prog_8_method_1_code
def yX6_init : MethodName := ⟨RX6, "<init>", "()V"⟩
abbrev cX6_readText : ByteArray := prog_8_method_2_code
def yX6_readText : MethodName := ⟨RX6, "readText", "(LSaintsRoad$Tape;LSaintsRoad$Calendar;)Z"⟩
abbrev cX6_readToken : ByteArray := prog_8_method_3_code
def yX6_readToken : MethodName := ⟨RX6, "readToken", "()V"⟩
abbrev cX6_readWord : ByteArray := prog_8_method_4_code
def yX6_readWord : MethodName := ⟨RX6, "readWord", "()V"⟩
abbrev cX6_readNumber : ByteArray := prog_8_method_5_code
def yX6_readNumber : MethodName := ⟨RX6, "readNumber", "()V"⟩
abbrev cX6_wordToken : ByteArray := prog_8_method_6_code
def yX6_wordToken : MethodName := ⟨RX6, "wordToken", "()I"⟩
abbrev cX6_isAtStart : ByteArray := prog_8_method_7_code
def yX6_isAtStart : MethodName := ⟨RX6, "isAtStart", "(Ljava/lang/String;)Z"⟩
abbrev cX6_quoted : ByteArray := prog_8_method_8_code
def yX6_quoted : MethodName := ⟨RX6, "quoted", "(I)Ljava/lang/String;"⟩
abbrev cX6_takeToken : ByteArray := prog_8_method_9_code
def yX6_takeToken : MethodName := ⟨RX6, "takeToken", "()I"⟩
abbrev cX6_pass : ByteArray := prog_8_method_10_code
def yX6_pass : MethodName := ⟨RX6, "pass", "(II)I"⟩
abbrev cX6_goTo : ByteArray := prog_8_method_11_code
def yX6_goTo : MethodName := ⟨RX6, "goTo", "(I)I"⟩
abbrev cX6_takeLineWord : ByteArray := prog_8_method_12_code
def yX6_takeLineWord : MethodName := ⟨RX6, "takeLineWord", "()I"⟩
abbrev cX6_startFeast : ByteArray := prog_8_method_13_code
def yX6_startFeast : MethodName := ⟨RX6, "startFeast", "(II)I"⟩
abbrev cX6_takeMinusOrShift : ByteArray := prog_8_method_14_code
def yX6_takeMinusOrShift : MethodName := ⟨RX6, "takeMinusOrShift", "()I"⟩
abbrev cX6_takeName : ByteArray := prog_8_method_15_code
def yX6_takeName : MethodName := ⟨RX6, "takeName", "()I"⟩
abbrev cX6_takeMark : ByteArray := prog_8_method_16_code
def yX6_takeMark : MethodName := ⟨RX6, "takeMark", "()I"⟩
abbrev cX6_takeNumber : ByteArray := prog_8_method_17_code
def yX6_takeNumber : MethodName := ⟨RX6, "takeNumber", "()I"⟩
abbrev cX6_leastNumber : ByteArray := prog_8_method_18_code
def yX6_leastNumber : MethodName := ⟨RX6, "leastNumber", "()I"⟩
abbrev cX6_mostNumber : ByteArray := prog_8_method_19_code
def yX6_mostNumber : MethodName := ⟨RX6, "mostNumber", "()I"⟩
abbrev cX6_keepFeastNumber : ByteArray := prog_8_method_20_code
def yX6_keepFeastNumber : MethodName := ⟨RX6, "keepFeastNumber", "()I"⟩
abbrev cX6_keepOtherNumber : ByteArray := prog_8_method_21_code
def yX6_keepOtherNumber : MethodName := ⟨RX6, "keepOtherNumber", "()I"⟩
abbrev cX6_isBlank : ByteArray := prog_8_method_22_code
def yX6_isBlank : MethodName := ⟨RX6, "isBlank", "(I)Z"⟩
abbrev cX6_isLetter : ByteArray := prog_8_method_23_code
def yX6_isLetter : MethodName := ⟨RX6, "isLetter", "(I)Z"⟩
abbrev cX6_isDigit : ByteArray := prog_8_method_24_code
def yX6_isDigit : MethodName := ⟨RX6, "isDigit", "(I)Z"⟩
def RX7 : String := "SaintsRoad$Tape"
def TX7 : u_T := fun k => match k with
  | 0 => ("SaintsRoad$Tape", "bytes", "[B", true)
  | _ => ("SaintsRoad$Tape", "length", "I", false)
def tyX7 : Nat → FieldType := fun k => match k with
  | 0 => .array .byte
  | _ => .int
abbrev wsX70 : List Cond := u_ws RX7 TX7 2
theorem nmX7 : ∀ a, a < 2 → ∀ b, b < 2 → a ≠ b → (TX7 a).2.1 ≠ (TX7 b).2.1 := by decide +kernel
theorem tyX7_ok : ∀ k, k < 2 → parseFieldDescriptor (TX7 k).2.2.1 = some (tyX7 k) := by decide +kernel
abbrev cX7_init : ByteArray := prog_9_method_1_code
def yX7_init : MethodName := ⟨RX7, "<init>", "()V"⟩
abbrev cX7_addInt : ByteArray := prog_9_method_2_code
def yX7_addInt : MethodName := ⟨RX7, "addInt", "(I)V"⟩
abbrev cX7_byteAt : ByteArray := prog_9_method_3_code
def yX7_byteAt : MethodName := ⟨RX7, "byteAt", "(I)I"⟩
def RX8 : String := "SaintsRoad$Town"
def TX8 : u_T := fun k => match k with
  | 0 => ("SaintsRoad$Town", "processions", "[LSaintsRoad$Procession;", true)
  | 1 => ("SaintsRoad$Town", "streetCount", "I", false)
  | 2 => ("SaintsRoad$Town", "minutes", "[I", true)
  | _ => ("SaintsRoad$Town", "hindrances", "[I", true)
def tyX8 : Nat → FieldType := fun k => match k with
  | 0 => .array (.object "SaintsRoad$Procession")
  | 1 => .int
  | 2 => .array .int
  | _ => .array .int
abbrev wsX80 : List Cond := u_ws RX8 TX8 4
theorem nmX8 : ∀ a, a < 4 → ∀ b, b < 4 → a ≠ b → (TX8 a).2.1 ≠ (TX8 b).2.1 := by decide +kernel
theorem tyX8_ok : ∀ k, k < 4 → parseFieldDescriptor (TX8 k).2.2.1 = some (tyX8 k) := by decide +kernel
abbrev cX8_init : ByteArray := prog_10_method_1_code
def yX8_init : MethodName := ⟨RX8, "<init>", "()V"⟩
abbrev cX8_minutesBetween : ByteArray := prog_10_method_2_code
def yX8_minutesBetween : MethodName := ⟨RX8, "minutesBetween", "(II)I"⟩
abbrev cX8_setStreet : ByteArray := prog_10_method_3_code
def yX8_setStreet : MethodName := ⟨RX8, "setStreet", "(III)I"⟩
abbrev cX8_begunCount : ByteArray := prog_10_method_4_code
def yX8_begunCount : MethodName := ⟨RX8, "begunCount", "()I"⟩
abbrev cX8_firstFree : ByteArray := prog_10_method_5_code
def yX8_firstFree : MethodName := ⟨RX8, "firstFree", "(II)I"⟩
def RX9 : String := "SaintsRoad"
def TX9 : u_T := fun k => match k with
  | 0 => ("SaintsRoad", "tape", "LSaintsRoad$Tape;", true)
  | 1 => ("SaintsRoad", "reader", "LSaintsRoad$Reader;", true)
  | 2 => ("SaintsRoad", "places", "[LSaintsRoad$Place;", true)
  | 3 => ("SaintsRoad", "brotherhoods", "LSaintsRoad$Brotherhoods;", true)
  | 4 => ("SaintsRoad", "town", "LSaintsRoad$Town;", true)
  | _ => ("SaintsRoad", "spare", "LSaintsRoad$Calendar;", false)
def tyX9 : Nat → FieldType := fun k => match k with
  | 0 => .object "SaintsRoad$Tape"
  | 1 => .object "SaintsRoad$Reader"
  | 2 => .array (.object "SaintsRoad$Place")
  | 3 => .object "SaintsRoad$Brotherhoods"
  | 4 => .object "SaintsRoad$Town"
  | _ => .object "SaintsRoad$Calendar"
abbrev wsX90 : List Cond := u_ws RX9 TX9 6
theorem nmX9 : ∀ a, a < 6 → ∀ b, b < 6 → a ≠ b → (TX9 a).2.1 ≠ (TX9 b).2.1 := by decide +kernel
theorem tyX9_ok : ∀ k, k < 6 → parseFieldDescriptor (TX9 k).2.2.1 = some (tyX9 k) := by decide +kernel
abbrev cX9_init : ByteArray := prog_1_method_1_code
def yX9_init : MethodName := ⟨RX9, "<init>", "()V"⟩
abbrev cX9_feed : ByteArray := prog_1_method_2_code
def yX9_feed : MethodName := ⟨RX9, "feed", "(IIIII)I"⟩
abbrev cX9_end : ByteArray := prog_1_method_3_code
def yX9_end : MethodName := ⟨RX9, "end", "(I)I"⟩
abbrev cX9_calendar : ByteArray := prog_1_method_4_code
def yX9_calendar : MethodName := ⟨RX9, "calendar", "(I)I"⟩
abbrev cX9_fault : ByteArray := prog_1_method_5_code
def yX9_fault : MethodName := ⟨RX9, "fault", "(I)I"⟩
abbrev cX9_feast : ByteArray := prog_1_method_6_code
def yX9_feast : MethodName := ⟨RX9, "feast", "(III)I"⟩
abbrev cX9_easter : ByteArray := prog_1_method_7_code
def yX9_easter : MethodName := ⟨RX9, "easter", "(I)I"⟩
abbrev cX9_date : ByteArray := prog_1_method_8_code
def yX9_date : MethodName := ⟨RX9, "date", "(III)I"⟩
abbrev cX9_office : ByteArray := prog_1_method_9_code
def yX9_office : MethodName := ⟨RX9, "office", "(III)I"⟩
abbrev cX9_held : ByteArray := prog_1_method_10_code
def yX9_held : MethodName := ⟨RX9, "held", "(III)I"⟩
abbrev cX9_own : ByteArray := prog_1_method_11_code
def yX9_own : MethodName := ⟨RX9, "own", "(III)I"⟩
abbrev cX9_fast : ByteArray := prog_1_method_12_code
def yX9_fast : MethodName := ⟨RX9, "fast", "(III)I"⟩
abbrev cX9_wax : ByteArray := prog_1_method_13_code
def yX9_wax : MethodName := ⟨RX9, "wax", "(IIII)I"⟩
abbrev cX9_next : ByteArray := prog_1_method_14_code
def yX9_next : MethodName := ⟨RX9, "next", "(IIII)I"⟩
abbrev cX9_unlike : ByteArray := prog_1_method_15_code
def yX9_unlike : MethodName := ⟨RX9, "unlike", "(III)I"⟩
abbrev cX9_quarrel : ByteArray := prog_1_method_16_code
def yX9_quarrel : MethodName := ⟨RX9, "quarrel", "(IIZ)I"⟩
abbrev cX9_rota : ByteArray := prog_1_method_17_code
def yX9_rota : MethodName := ⟨RX9, "rota", "(IIIII)I"⟩
abbrev cX9_turn : ByteArray := prog_1_method_18_code
def yX9_turn : MethodName := ⟨RX9, "turn", "(II)I"⟩
abbrev cX9_carried : ByteArray := prog_1_method_19_code
def yX9_carried : MethodName := ⟨RX9, "carried", "(I)I"⟩
abbrev cX9_street : ByteArray := prog_1_method_20_code
def yX9_street : MethodName := ⟨RX9, "street", "(III)I"⟩
abbrev cX9_begin : ByteArray := prog_1_method_21_code
def yX9_begin : MethodName := ⟨RX9, "begin", "(IIII)I"⟩
abbrev cX9_goes : ByteArray := prog_1_method_22_code
def yX9_goes : MethodName := ⟨RX9, "goes", "(II)I"⟩
abbrev cX9_late : ByteArray := prog_1_method_23_code
def yX9_late : MethodName := ⟨RX9, "late", "(II)I"⟩
abbrev cX9_procession : ByteArray := prog_1_method_24_code
def yX9_procession : MethodName := ⟨RX9, "procession", "(II)I"⟩
abbrev cX9_meets : ByteArray := prog_1_method_25_code
def yX9_meets : MethodName := ⟨RX9, "meets", "()I"⟩
abbrev cX9_meeting : ByteArray := prog_1_method_26_code
def yX9_meeting : MethodName := ⟨RX9, "meeting", "(II)I"⟩
abbrev cX9_timed : ByteArray := prog_1_method_27_code
def yX9_timed : MethodName := ⟨RX9, "timed", "(II)I"⟩
abbrev cX9_count : ByteArray := prog_1_method_28_code
def yX9_count : MethodName := ⟨RX9, "count", "(I)I"⟩
abbrev cX9_carryAll : ByteArray := prog_1_method_29_code
def yX9_carryAll : MethodName := ⟨RX9, "carryAll", "(LSaintsRoad$Place;II)V"⟩
abbrev cX9_isFeast : ByteArray := prog_1_method_30_code
def yX9_isFeast : MethodName := ⟨RX9, "isFeast", "(II)Z"⟩
abbrev cX9_isLong : ByteArray := prog_1_method_31_code
def yX9_isLong : MethodName := ⟨RX9, "isLong", "(II)Z"⟩
abbrev cX9_isPlace : ByteArray := prog_1_method_32_code
def yX9_isPlace : MethodName := ⟨RX9, "isPlace", "(I)Z"⟩
abbrev cX9_isRank : ByteArray := prog_1_method_33_code
def yX9_isRank : MethodName := ⟨RX9, "isRank", "(I)Z"⟩
abbrev cX9_isBrotherhood : ByteArray := prog_1_method_34_code
def yX9_isBrotherhood : MethodName := ⟨RX9, "isBrotherhood", "(I)Z"⟩
abbrev cX9_isCorner : ByteArray := prog_1_method_35_code
def yX9_isCorner : MethodName := ⟨RX9, "isCorner", "(I)Z"⟩
abbrev cX9_isProcession : ByteArray := prog_1_method_36_code
def yX9_isProcession : MethodName := ⟨RX9, "isProcession", "(I)Z"⟩
abbrev cX9_isBeginning : ByteArray := prog_1_method_37_code
def yX9_isBeginning : MethodName := ⟨RX9, "isBeginning", "(I)Z"⟩
def RX10 : String := "SaintsRoadModel$Stop"
def TX10 : u_T := fun k => match k with
  | 0 => ("java/lang/Throwable", "cause", "Ljava/lang/Throwable;", false)
  | 1 => ("java/lang/Throwable", "stackTrace", "[Ljava/lang/StackTraceElement;", false)
  | 2 => ("java/lang/Throwable", "suppressedExceptions", "Ljava/util/List;", false)
  | 3 => ("java/lang/Throwable", "detailMessage", "Ljava/lang/String;", false)
  | 4 => ("java/lang/Throwable", "backtrace", "Ljava/lang/Object;", false)
  | _ => ("java/lang/Throwable", "depth", "I", false)
def tyX10 : Nat → FieldType := fun k => match k with
  | 0 => .object "java/lang/Throwable"
  | 1 => .array (.object "java/lang/StackTraceElement")
  | 2 => .object "java/util/List"
  | 3 => .object "java/lang/String"
  | 4 => .object "java/lang/Object"
  | _ => .int
abbrev wsX100 : List Cond := u_ws RX10 TX10 6
theorem nmX10 : ∀ a, a < 6 → ∀ b, b < 6 → a ≠ b → (TX10 a).2.1 ≠ (TX10 b).2.1 := by decide +kernel
theorem tyX10_ok : ∀ k, k < 6 → parseFieldDescriptor (TX10 k).2.2.1 = some (tyX10 k) := by decide +kernel
abbrev cX10_init : ByteArray := prog_13_method_1_code
def yX10_init : MethodName := ⟨RX10, "<init>", "()V"⟩
def RX11 : String := "SaintsRoadModel"
def TX11 : u_T := fun k => match k with
  | 0 => ("SaintsRoadModel", "feasts", "[I", true)
  | 1 => ("SaintsRoadModel", "yieldRank", "[I", true)
  | 2 => ("SaintsRoadModel", "yieldTimes", "[I", true)
  | 3 => ("SaintsRoadModel", "lent", "[I", true)
  | 4 => ("SaintsRoadModel", "wax", "[I", true)
  | 5 => ("SaintsRoadModel", "kind", "[I", true)
  | 6 => ("SaintsRoadModel", "one", "[I", true)
  | 7 => ("SaintsRoadModel", "two", "[I", true)
  | 8 => ("SaintsRoadModel", "rank", "[I", true)
  | 9 => ("SaintsRoadModel", "from", "[I", true)
  | 10 => ("SaintsRoadModel", "till", "[I", true)
  | 11 => ("SaintsRoadModel", "nameSize", "[I", true)
  | 12 => ("SaintsRoadModel", "vigil", "[Z", true)
  | 13 => ("SaintsRoadModel", "octave", "[Z", true)
  | 14 => ("SaintsRoadModel", "name", "[B", true)
  | 15 => ("SaintsRoadModel", "stop", "LSaintsRoadModel$Stop;", true)
  | 16 => ("SaintsRoadModel", "tape", "[B", true)
  | 17 => ("SaintsRoadModel", "taped", "I", false)
  | 18 => ("SaintsRoadModel", "size", "I", false)
  | 19 => ("SaintsRoadModel", "begins", "I", false)
  | 20 => ("SaintsRoadModel", "behind", "I", false)
  | 21 => ("SaintsRoadModel", "hand", "I", false)
  | 22 => ("SaintsRoadModel", "value", "I", false)
  | 23 => ("SaintsRoadModel", "fault", "I", false)
  | 24 => ("SaintsRoadModel", "faultAt", "I", false)
  | 25 => ("SaintsRoadModel", "hasYield", "Z", false)
  | 26 => ("SaintsRoadModel", "hasLent", "Z", false)
  | 27 => ("SaintsRoadModel", "hasWax", "[Z", true)
  | 28 => ("SaintsRoadModel", "waits", "[I", true)
  | 29 => ("SaintsRoadModel", "moves", "[I", true)
  | 30 => ("SaintsRoadModel", "heldOn", "[I", true)
  | 31 => ("SaintsRoadModel", "office", "[I", true)
  | 32 => ("SaintsRoadModel", "otherOffice", "[I", true)
  | 33 => ("SaintsRoadModel", "quarrels", "[Z", true)
  | 34 => ("SaintsRoadModel", "turnYear", "[I", true)
  | 35 => ("SaintsRoadModel", "turnDay", "[I", true)
  | 36 => ("SaintsRoadModel", "turnFeast", "[I", true)
  | 37 => ("SaintsRoadModel", "turnBy", "[I", true)
  | 38 => ("SaintsRoadModel", "carriedBy", "[I", true)
  | 39 => ("SaintsRoadModel", "lastTurn", "[I", true)
  | 40 => ("SaintsRoadModel", "turnsAll", "I", false)
  | 41 => ("SaintsRoadModel", "streets", "[I", true)
  | 42 => ("SaintsRoadModel", "stops", "[I", true)
  | 43 => ("SaintsRoadModel", "start", "[I", true)
  | 44 => ("SaintsRoadModel", "tail", "[I", true)
  | 45 => ("SaintsRoadModel", "corner", "[I", true)
  | _ => ("SaintsRoadModel", "after", "[I", true)
def tyX11 : Nat → FieldType := fun k => match k with
  | 0 => .array .int
  | 1 => .array .int
  | 2 => .array .int
  | 3 => .array .int
  | 4 => .array .int
  | 5 => .array .int
  | 6 => .array .int
  | 7 => .array .int
  | 8 => .array .int
  | 9 => .array .int
  | 10 => .array .int
  | 11 => .array .int
  | 12 => .array .boolean
  | 13 => .array .boolean
  | 14 => .array .byte
  | 15 => .object "SaintsRoadModel$Stop"
  | 16 => .array .byte
  | 17 => .int
  | 18 => .int
  | 19 => .int
  | 20 => .int
  | 21 => .int
  | 22 => .int
  | 23 => .int
  | 24 => .int
  | 25 => .boolean
  | 26 => .boolean
  | 27 => .array .boolean
  | 28 => .array .int
  | 29 => .array .int
  | 30 => .array .int
  | 31 => .array .int
  | 32 => .array .int
  | 33 => .array .boolean
  | 34 => .array .int
  | 35 => .array .int
  | 36 => .array .int
  | 37 => .array .int
  | 38 => .array .int
  | 39 => .array .int
  | 40 => .int
  | 41 => .array .int
  | 42 => .array .int
  | 43 => .array .int
  | 44 => .array .int
  | 45 => .array .int
  | _ => .array .int
abbrev wsX110 : List Cond := u_ws RX11 TX11 47
theorem nmX11 : ∀ a, a < 47 → ∀ b, b < 47 → a ≠ b → (TX11 a).2.1 ≠ (TX11 b).2.1 := by decide +kernel
theorem tyX11_ok : ∀ k, k < 47 → parseFieldDescriptor (TX11 k).2.2.1 = some (tyX11 k) := by decide +kernel
abbrev cX11_in : ByteArray := prog_12_method_1_code
def yX11_in : MethodName := ⟨RX11, "in", "(JJJ)Z"⟩
abbrev cX11_isLeap : ByteArray := prog_12_method_2_code
def yX11_isLeap : MethodName := ⟨RX11, "isLeap", "(I)Z"⟩
abbrev cX11_daysOf : ByteArray := prog_12_method_3_code
def yX11_daysOf : MethodName := ⟨RX11, "daysOf", "(I)I"⟩
abbrev cX11_monthDays : ByteArray := prog_12_method_4_code
def yX11_monthDays : MethodName := ⟨RX11, "monthDays", "(II)I"⟩
abbrev cX11_isYear : ByteArray := prog_12_method_5_code
def yX11_isYear : MethodName := ⟨RX11, "isYear", "(I)Z"⟩
abbrev cX11_isDay : ByteArray := prog_12_method_6_code
def yX11_isDay : MethodName := ⟨RX11, "isDay", "(II)Z"⟩
abbrev cX11_dayCount : ByteArray := prog_12_method_7_code
def yX11_dayCount : MethodName := ⟨RX11, "dayCount", "(II)I"⟩
abbrev cX11_weekday : ByteArray := prog_12_method_8_code
def yX11_weekday : MethodName := ⟨RX11, "weekday", "(II)I"⟩
abbrev cX11_dayOf : ByteArray := prog_12_method_9_code
def yX11_dayOf : MethodName := ⟨RX11, "dayOf", "(III)I"⟩
abbrev cX11_easterOf : ByteArray := prog_12_method_10_code
def yX11_easterOf : MethodName := ⟨RX11, "easterOf", "(I)I"⟩
abbrev cX11_easter : ByteArray := prog_12_method_11_code
def yX11_easter : MethodName := ⟨RX11, "easter", "(I)I"⟩
abbrev cX11_date : ByteArray := prog_12_method_12_code
def yX11_date : MethodName := ⟨RX11, "date", "(III)I"⟩
abbrev cX11_init : ByteArray := prog_12_method_13_code
def yX11_init : MethodName := ⟨RX11, "<init>", "()V"⟩
abbrev cX11_at : ByteArray := prog_12_method_14_code
def yX11_at : MethodName := ⟨RX11, "at", "(II)I"⟩
abbrev cX11_clear : ByteArray := prog_12_method_15_code
def yX11_clear : MethodName := ⟨RX11, "clear", "(I)V"⟩
abbrev cX11_become : ByteArray := prog_12_method_16_code
def yX11_become : MethodName := ⟨RX11, "become", "(II)V"⟩
abbrev cX11_wrong : ByteArray := prog_12_method_17_code
def yX11_wrong : MethodName := ⟨RX11, "wrong", "(I)LSaintsRoadModel$Stop;"⟩
abbrev cX11_byteAt : ByteArray := prog_12_method_18_code
def yX11_byteAt : MethodName := ⟨RX11, "byteAt", "(I)I"⟩
abbrev cX11_isLetter : ByteArray := prog_12_method_19_code
def yX11_isLetter : MethodName := ⟨RX11, "isLetter", "(I)Z"⟩
abbrev cX11_isDigit : ByteArray := prog_12_method_20_code
def yX11_isDigit : MethodName := ⟨RX11, "isDigit", "(I)Z"⟩
abbrev cX11_scan : ByteArray := prog_12_method_21_code
def yX11_scan : MethodName := ⟨RX11, "scan", "()V"⟩
abbrev cX11_is : ByteArray := prog_12_method_22_code
def yX11_is : MethodName := ⟨RX11, "is", "(Ljava/lang/String;)Z"⟩
abbrev cX11_isSign : ByteArray := prog_12_method_23_code
def yX11_isSign : MethodName := ⟨RX11, "isSign", "(I)Z"⟩
abbrev cX11_isQuoted : ByteArray := prog_12_method_24_code
def yX11_isQuoted : MethodName := ⟨RX11, "isQuoted", "()Z"⟩
abbrev cX11_need : ByteArray := prog_12_method_25_code
def yX11_need : MethodName := ⟨RX11, "need", "(Ljava/lang/String;)V"⟩
abbrev cX11_number : ByteArray := prog_12_method_26_code
def yX11_number : MethodName := ⟨RX11, "number", "(II)I"⟩
abbrev cX11_takeNumber : ByteArray := prog_12_method_27_code
def yX11_takeNumber : MethodName := ⟨RX11, "takeNumber", "(II)I"⟩
abbrev cX11_readCalendar : ByteArray := prog_12_method_28_code
def yX11_readCalendar : MethodName := ⟨RX11, "readCalendar", "()V"⟩
abbrev cX11_readLine : ByteArray := prog_12_method_29_code
def yX11_readLine : MethodName := ⟨RX11, "readLine", "()V"⟩
abbrev cX11_readFeast : ByteArray := prog_12_method_30_code
def yX11_readFeast : MethodName := ⟨RX11, "readFeast", "()V"⟩
abbrev cX11_isNamed : ByteArray := prog_12_method_31_code
def yX11_isNamed : MethodName := ⟨RX11, "isNamed", "(II)Z"⟩
abbrev cX11_feed : ByteArray := prog_12_method_32_code
def yX11_feed : MethodName := ⟨RX11, "feed", "(IIIII)I"⟩
abbrev cX11_lay : ByteArray := prog_12_method_33_code
def yX11_lay : MethodName := ⟨RX11, "lay", "(I)V"⟩
abbrev cX11_end : ByteArray := prog_12_method_34_code
def yX11_end : MethodName := ⟨RX11, "end", "(I)I"⟩
abbrev cX11_isPlace : ByteArray := prog_12_method_35_code
def yX11_isPlace : MethodName := ⟨RX11, "isPlace", "(I)Z"⟩
abbrev cX11_calendar : ByteArray := prog_12_method_36_code
def yX11_calendar : MethodName := ⟨RX11, "calendar", "(I)I"⟩
abbrev cX11_fault : ByteArray := prog_12_method_37_code
def yX11_fault : MethodName := ⟨RX11, "fault", "(I)I"⟩
abbrev cX11_isFeast : ByteArray := prog_12_method_38_code
def yX11_isFeast : MethodName := ⟨RX11, "isFeast", "(II)Z"⟩
abbrev cX11_feast : ByteArray := prog_12_method_39_code
def yX11_feast : MethodName := ⟨RX11, "feast", "(III)I"⟩
abbrev cX11_ownDay : ByteArray := prog_12_method_40_code
def yX11_ownDay : MethodName := ⟨RX11, "ownDay", "(III)I"⟩
abbrev cX11_lead : ByteArray := prog_12_method_41_code
def yX11_lead : MethodName := ⟨RX11, "lead", "(II)V"⟩
abbrev cX11_isPlaced : ByteArray := prog_12_method_42_code
def yX11_isPlaced : MethodName := ⟨RX11, "isPlaced", "(III)Z"⟩
abbrev cX11_office : ByteArray := prog_12_method_43_code
def yX11_office : MethodName := ⟨RX11, "office", "(III)I"⟩
abbrev cX11_held : ByteArray := prog_12_method_44_code
def yX11_held : MethodName := ⟨RX11, "held", "(III)I"⟩
abbrev cX11_own : ByteArray := prog_12_method_45_code
def yX11_own : MethodName := ⟨RX11, "own", "(III)I"⟩
abbrev cX11_isVigil : ByteArray := prog_12_method_46_code
def yX11_isVigil : MethodName := ⟨RX11, "isVigil", "(III)Z"⟩
abbrev cX11_fast : ByteArray := prog_12_method_47_code
def yX11_fast : MethodName := ⟨RX11, "fast", "(III)I"⟩
abbrev cX11_waxOf : ByteArray := prog_12_method_48_code
def yX11_waxOf : MethodName := ⟨RX11, "waxOf", "(II)I"⟩
abbrev cX11_wax : ByteArray := prog_12_method_49_code
def yX11_wax : MethodName := ⟨RX11, "wax", "(IIII)I"⟩
abbrev cX11_next : ByteArray := prog_12_method_50_code
def yX11_next : MethodName := ⟨RX11, "next", "(IIII)I"⟩
abbrev cX11_unlike : ByteArray := prog_12_method_51_code
def yX11_unlike : MethodName := ⟨RX11, "unlike", "(III)I"⟩
abbrev cX11_areLike : ByteArray := prog_12_method_52_code
def yX11_areLike : MethodName := ⟨RX11, "areLike", "(IIII)Z"⟩
abbrev cX11_isBrotherhood : ByteArray := prog_12_method_53_code
def yX11_isBrotherhood : MethodName := ⟨RX11, "isBrotherhood", "(I)Z"⟩
abbrev cX11_quarrel : ByteArray := prog_12_method_54_code
def yX11_quarrel : MethodName := ⟨RX11, "quarrel", "(IIZ)I"⟩
abbrev cX11_rota : ByteArray := prog_12_method_55_code
def yX11_rota : MethodName := ⟨RX11, "rota", "(IIIII)I"⟩
abbrev cX11_parts : ByteArray := prog_12_method_56_code
def yX11_parts : MethodName := ⟨RX11, "parts", "(II)Z"⟩
abbrev cX11_carrier : ByteArray := prog_12_method_57_code
def yX11_carrier : MethodName := ⟨RX11, "carrier", "(II)I"⟩
abbrev cX11_turn : ByteArray := prog_12_method_58_code
def yX11_turn : MethodName := ⟨RX11, "turn", "(II)I"⟩
abbrev cX11_carried : ByteArray := prog_12_method_59_code
def yX11_carried : MethodName := ⟨RX11, "carried", "(I)I"⟩
abbrev cX11_isCorner : ByteArray := prog_12_method_60_code
def yX11_isCorner : MethodName := ⟨RX11, "isCorner", "(I)Z"⟩
abbrev cX11_street : ByteArray := prog_12_method_61_code
def yX11_street : MethodName := ⟨RX11, "street", "(III)I"⟩
abbrev cX11_isWalk : ByteArray := prog_12_method_62_code
def yX11_isWalk : MethodName := ⟨RX11, "isWalk", "(I)Z"⟩
abbrev cX11_begin : ByteArray := prog_12_method_63_code
def yX11_begin : MethodName := ⟨RX11, "begin", "(IIII)I"⟩
abbrev cX11_goes : ByteArray := prog_12_method_64_code
def yX11_goes : MethodName := ⟨RX11, "goes", "(II)I"⟩
abbrev cX11_late : ByteArray := prog_12_method_65_code
def yX11_late : MethodName := ⟨RX11, "late", "(II)I"⟩
abbrev cX11_headAt : ByteArray := prog_12_method_66_code
def yX11_headAt : MethodName := ⟨RX11, "headAt", "(II)I"⟩
abbrev cX11_procession : ByteArray := prog_12_method_67_code
def yX11_procession : MethodName := ⟨RX11, "procession", "(II)I"⟩
abbrev cX11_meet : ByteArray := prog_12_method_68_code
def yX11_meet : MethodName := ⟨RX11, "meet", "(II)I"⟩
abbrev cX11_together : ByteArray := prog_12_method_69_code
def yX11_together : MethodName := ⟨RX11, "together", "(IIII)I"⟩
abbrev cX11_isGoing : ByteArray := prog_12_method_70_code
def yX11_isGoing : MethodName := ⟨RX11, "isGoing", "(I)Z"⟩
abbrev cX11_meets : ByteArray := prog_12_method_71_code
def yX11_meets : MethodName := ⟨RX11, "meets", "()I"⟩
abbrev cX11_meeting : ByteArray := prog_12_method_72_code
def yX11_meeting : MethodName := ⟨RX11, "meeting", "(II)I"⟩
abbrev cX11_timed : ByteArray := prog_12_method_73_code
def yX11_timed : MethodName := ⟨RX11, "timed", "(II)I"⟩
abbrev cX11_count : ByteArray := prog_12_method_74_code
def yX11_count : MethodName := ⟨RX11, "count", "(I)I"⟩
def RJ6 : String := "java/lang/Integer"
def TJ6 : u_T := fun k => match k with
  | _ => ("", "", "", false)
def tyJ6 : Nat → FieldType := fun k => match k with
  | _ => .int
abbrev wsJ60 : List Cond := u_ws RJ6 TJ6 0
theorem nmJ6 : ∀ a, a < 0 → ∀ b, b < 0 → a ≠ b → (TJ6 a).2.1 ≠ (TJ6 b).2.1 := by decide +kernel
theorem tyJ6_ok : ∀ k, k < 0 → parseFieldDescriptor (TJ6 k).2.2.1 = some (tyJ6 k) := by decide +kernel
abbrev cJ6_compare_7cf53 : ByteArray := prog_15_method_40_code
def yJ6_compare_7cf53 : MethodName := ⟨RJ6, "compare", "(II)I"⟩
def RJ9 : String := "java/lang/Math"
def TJ9 : u_T := fun k => match k with
  | _ => ("", "", "", false)
def tyJ9 : Nat → FieldType := fun k => match k with
  | _ => .int
abbrev wsJ90 : List Cond := u_ws RJ9 TJ9 0
theorem nmJ9 : ∀ a, a < 0 → ∀ b, b < 0 → a ≠ b → (TJ9 a).2.1 ≠ (TJ9 b).2.1 := by decide +kernel
theorem tyJ9_ok : ∀ k, k < 0 → parseFieldDescriptor (TJ9 k).2.2.1 = some (tyJ9 k) := by decide +kernel
abbrev cJ9_max_7cf53 : ByteArray := prog_16_method_65_code
def yJ9_max_7cf53 : MethodName := ⟨RJ9, "max", "(II)I"⟩
abbrev cJ9_min_7cf53 : ByteArray := prog_16_method_69_code
def yJ9_min_7cf53 : MethodName := ⟨RJ9, "min", "(II)I"⟩
def RJ0 : String := "java/lang/String"
def TJ0 : u_T := fun k => match k with
  | _ => ("", "", "", false)
def tyJ0 : Nat → FieldType := fun k => match k with
  | _ => .int
abbrev wsJ00 : List Cond := u_ws RJ0 TJ0 0
theorem nmJ0 : ∀ a, a < 0 → ∀ b, b < 0 → a ≠ b → (TJ0 a).2.1 ≠ (TJ0 b).2.1 := by decide +kernel
theorem tyJ0_ok : ∀ k, k < 0 → parseFieldDescriptor (TJ0 k).2.2.1 = some (tyJ0 k) := by decide +kernel
abbrev cJ0_length_8abf5 : ByteArray := prog_17_method_54_code
def yJ0_length_8abf5 : MethodName := ⟨RJ0, "length", "()I"⟩
abbrev cJ0_charAt_5068e : ByteArray := prog_17_method_56_code
def yJ0_charAt_5068e : MethodName := ⟨RJ0, "charAt", "(I)C"⟩
abbrev cJ0_coder_7d493 : ByteArray := prog_17_method_152_code
def yJ0_coder_7d493 : MethodName := ⟨RJ0, "coder", "()B"⟩
abbrev cJ0_isLatin1_aae02 : ByteArray := prog_17_method_154_code
def yJ0_isLatin1_aae02 : MethodName := ⟨RJ0, "isLatin1", "()Z"⟩
abbrev cJ0_checkIndex_df160 : ByteArray := prog_17_method_155_code
def yJ0_checkIndex_df160 : MethodName := ⟨RJ0, "checkIndex", "(II)V"⟩
def RJ1 : String := "java/lang/StringLatin1"
def TJ1 : u_T := fun k => match k with
  | _ => ("", "", "", false)
def tyJ1 : Nat → FieldType := fun k => match k with
  | _ => .int
abbrev wsJ10 : List Cond := u_ws RJ1 TJ1 0
theorem nmJ1 : ∀ a, a < 0 → ∀ b, b < 0 → a ≠ b → (TJ1 a).2.1 ≠ (TJ1 b).2.1 := by decide +kernel
theorem tyJ1_ok : ∀ k, k < 0 → parseFieldDescriptor (TJ1 k).2.2.1 = some (tyJ1 k) := by decide +kernel
abbrev cJ1_charAt_3b067 : ByteArray := prog_18_method_2_code
def yJ1_charAt_3b067 : MethodName := ⟨RJ1, "charAt", "([BI)C"⟩
def RJ2 : String := "java/lang/StringUTF16"
def TJ2 : u_T := fun k => match k with
  | _ => ("", "", "", false)
def tyJ2 : Nat → FieldType := fun k => match k with
  | _ => .int
abbrev wsJ20 : List Cond := u_ws RJ2 TJ2 0
theorem nmJ2 : ∀ a, a < 0 → ∀ b, b < 0 → a ≠ b → (TJ2 a).2.1 ≠ (TJ2 b).2.1 := by decide +kernel
theorem tyJ2_ok : ∀ k, k < 0 → parseFieldDescriptor (TJ2 k).2.2.1 = some (tyJ2 k) := by decide +kernel
abbrev cJ2_getChar_3b067 : ByteArray := prog_19_method_5_code
def yJ2_getChar_3b067 : MethodName := ⟨RJ2, "getChar", "([BI)C"⟩
abbrev cJ2_length_9d52b : ByteArray := prog_19_method_6_code
def yJ2_length_9d52b : MethodName := ⟨RJ2, "length", "([B)I"⟩
abbrev cJ2_charAt_3b067 : ByteArray := prog_19_method_83_code
def yJ2_charAt_3b067 : MethodName := ⟨RJ2, "charAt", "([BI)C"⟩
abbrev cJ2_checkIndex_2214a : ByteArray := prog_19_method_91_code
def yJ2_checkIndex_2214a : MethodName := ⟨RJ2, "checkIndex", "(I[B)V"⟩
def RJ7 : String := "java/util/Arrays"
def TJ7 : u_T := fun k => match k with
  | _ => ("", "", "", false)
def tyJ7 : Nat → FieldType := fun k => match k with
  | _ => .int
abbrev wsJ70 : List Cond := u_ws RJ7 TJ7 0
theorem nmJ7 : ∀ a, a < 0 → ∀ b, b < 0 → a ≠ b → (TJ7 a).2.1 ≠ (TJ7 b).2.1 := by decide +kernel
theorem tyJ7_ok : ∀ k, k < 0 → parseFieldDescriptor (TJ7 k).2.2.1 = some (tyJ7 k) := by decide +kernel
abbrev cJ7_fill_53178 : ByteArray := prog_21_method_103_code
def yJ7_fill_53178 : MethodName := ⟨RJ7, "fill", "([II)V"⟩
def RJ3 : String := "jdk/internal/util/Preconditions"
def TJ3 : u_T := fun k => match k with
  | _ => ("", "", "", false)
def tyJ3 : Nat → FieldType := fun k => match k with
  | _ => .int
abbrev wsJ30 : List Cond := u_ws RJ3 TJ3 0
theorem nmJ3 : ∀ a, a < 0 → ∀ b, b < 0 → a ≠ b → (TJ3 a).2.1 ≠ (TJ3 b).2.1 := by decide +kernel
theorem tyJ3_ok : ∀ k, k < 0 → parseFieldDescriptor (TJ3 k).2.2.1 = some (tyJ3 k) := by decide +kernel
abbrev cJ3_checkIndex_8e157 : ByteArray := prog_22_method_11_code
def yJ3_checkIndex_8e157 : MethodName := ⟨RJ3, "checkIndex", "(IILjava/util/function/BiFunction;)I"⟩
def RL : String := "SaintsRoadLaw"
abbrev cL_law : ByteArray := code
def yL_law : MethodName := ⟨RL, "law", "([I)Z"⟩
abbrev vwCl : List vw_C := [(RX0, TX0, 12), (RX1, TX1, 6), (RX3, TX3, 12), (RX4, TX4, 11), (RX5, TX5, 5), (RX6, TX6, 13), (RX7, TX7, 2), (RX8, TX8, 4), (RX9, TX9, 6), (RX10, TX10, 6), (RX11, TX11, 47)]
end
section
/-! numbers, references and longs as integers: what stands on the stack and in the locals -/
abbrev sv_T : Type := Int ⊕ (Int ⊕ Int)
abbrev sv_i (n : Int) : sv_T := .inl n
abbrev sv_a (z : Int) : sv_T := .inr (.inl z)
abbrev sv_l (n : Int) : sv_T := .inr (.inr n)
abbrev sv_r (q : Nat) : sv_T := .inr (.inl ((q : Int) + 1))
/-- a reference as a number: 0 is null, a + 1 the address a -/
def sv_rf : Int → Value
  | .ofNat 0 => .null
  | .ofNat (n + 1) => .ref n
  | .negSucc _ => .null
def sv_den : sv_T → Value
  | .inl n => .int (Int32.ofInt n)
  | .inr (.inl z) => sv_rf z
  | .inr (.inr n) => .long (Int64.ofInt n)
theorem sv_den_r (q : Nat) : sv_den (sv_r q) = .ref q := rfl
theorem sv_den_i (n : Int) : sv_den (sv_i n) = .int (Int32.ofInt n) := rfl
theorem sv_den_l (n : Int) : sv_den (sv_l n) = .long (Int64.ofInt n) := rfl
theorem sv_den_a (n : Int) : sv_den (sv_a n) = sv_rf n := rfl
theorem sv_rf_or (z : Int) : sv_rf z = .null ∨ ∃ a, sv_rf z = .ref a := by
  match z with
  | .ofNat 0 => exact Or.inl rfl
  | .ofNat (n + 1) => exact Or.inr ⟨n, rfl⟩
  | .negSucc _ => exact Or.inl rfl
def sv_two : sv_T → Bool
  | .inr (.inr _) => true
  | _ => false
theorem sv_rf_cat (z : Int) : (sv_rf z).category = 1 := by
  rcases sv_rf_or z with h | ⟨a, h⟩ <;> rw [h] <;> rfl
theorem sv_cat1 {v : sv_T} (h : sv_two v = false) : (sv_den v).category = 1 := by
  match v with
  | .inl n => rfl
  | .inr (.inl z) => exact sv_rf_cat z
  | .inr (.inr n) => cases h
theorem sv_cat2 {v : sv_T} (h : sv_two v = true) : (sv_den v).category = 2 := by
  match v with
  | .inl n => cases h
  | .inr (.inl z) => cases h
  | .inr (.inr n) => rfl
abbrev sv_in (n : Int) : Prop := -2147483648 ≤ n ∧ n < 2147483648
theorem sv_oi {n : Int} (h : sv_in n) : (Int32.ofInt n).toInt = n := by
  rw [Int32.toInt_ofInt, show Int32.size = 4294967296 from rfl]
  exact Int.bmod_eq_of_le (by have := h.1; omega) (by have := h.2; omega)
theorem sv_io (x : Int32) : Int32.ofInt x.toInt = x := Int32.ofInt_toInt x
theorem sv_ioin (x : Int32) : sv_in x.toInt := ⟨Int32.le_toInt x, Int32.toInt_lt x⟩
theorem sv_add (a b : Int) : Int32.ofInt a + Int32.ofInt b = Int32.ofInt (a + b) := (Int32.ofInt_add a b).symm
theorem sv_sub (a b : Int) : Int32.ofInt a - Int32.ofInt b = Int32.ofInt (a - b) := (Int32.ofInt_sub a b).symm
theorem sv_mul (a b : Int) : Int32.ofInt a * Int32.ofInt b = Int32.ofInt (a * b) := (Int32.ofInt_mul a b).symm
theorem sv_neg (a : Int) : -Int32.ofInt a = Int32.ofInt (-a) := (Int32.ofInt_neg a).symm
theorem sv_ladd (a b : Int) : Int64.ofInt a + Int64.ofInt b = Int64.ofInt (a + b) := (Int64.ofInt_add a b).symm
theorem sv_lsub (a b : Int) : Int64.ofInt a - Int64.ofInt b = Int64.ofInt (a - b) := (Int64.ofInt_sub a b).symm
theorem sv_lt {a b : Int} (ha : sv_in a) (hb : sv_in b) : Int32.ofInt a < Int32.ofInt b ↔ a < b := by
  rw [Int32.lt_iff_toInt_lt, sv_oi ha, sv_oi hb]
theorem sv_le {a b : Int} (ha : sv_in a) (hb : sv_in b) : Int32.ofInt a ≤ Int32.ofInt b ↔ a ≤ b := by
  rw [Int32.le_iff_toInt_le, sv_oi ha, sv_oi hb]
theorem sv_eq {a b : Int} (ha : sv_in a) (hb : sv_in b) : Int32.ofInt a = Int32.ofInt b ↔ a = b := by
  rw [← Int32.toInt_inj, sv_oi ha, sv_oi hb]
/-! the locals -/
abbrev sv_L : Type := List (Nat × sv_T)
def sv_lm (lv : sv_L) : List (Nat × Value) := lv.map (fun q => (q.1, sv_den q.2))
def sv_get (lv : sv_L) (i : Nat) : Option sv_T := match lv with
  | [] => none
  | q :: r => if q.1 = i then some q.2 else sv_get r i
theorem sv_get_mem {lv : sv_L} {i : Nat} {v : sv_T} (h : sv_get lv i = some v) : (i, v) ∈ lv := by
  induction lv with
  | nil => cases h
  | cons q r ih =>
    unfold sv_get at h
    split at h
    · next e => cases h; subst e; exact List.mem_cons_self
    · exact List.mem_cons_of_mem _ (ih h)
theorem sv_get_at {ls : Array Slot} {nL : Nat} {lv : sv_L} (hl : lv_has ls nL (sv_lm lv)) {i : Nat} {v : sv_T} (h : sv_get lv i = some v) : ls[i]? = some (.val (sv_den v)) :=
  hl.2.2 (i, sv_den v) (List.mem_map.mpr ⟨(i, v), sv_get_mem h, rfl⟩)
def sv_ins (i : Nat) (v : sv_T) : sv_L → sv_L
  | [] => [(i, v)]
  | q :: r => if q.1 < i then q :: sv_ins i v r else (i, v) :: q :: r
theorem sv_ins_mem {i : Nat} {v : sv_T} {lv : sv_L} {q : Nat × sv_T} (h : q ∈ sv_ins i v lv) : q = (i, v) ∨ q ∈ lv := by
  induction lv with
  | nil => exact Or.inl (List.mem_singleton.mp h)
  | cons p r ih =>
    unfold sv_ins at h
    split at h
    · rcases List.mem_cons.mp h with h | h
      · exact Or.inr (h ▸ List.mem_cons_self)
      · rcases ih h with h | h
        · exact Or.inl h
        · exact Or.inr (List.mem_cons_of_mem _ h)
    · rcases List.mem_cons.mp h with h | h
      · exact Or.inl h
      · exact Or.inr h
def sv_put (lv : sv_L) (i : Nat) (v : sv_T) : sv_L := sv_ins i v (lv.filter (fun q => !(q.1 == i) && !(q.1 + 1 == i && sv_two q.2)))
def sv_put2 (lv : sv_L) (i : Nat) (v : sv_T) : sv_L := sv_ins i v (lv.filter (fun q => !(q.1 == i) && (!(q.1 == i + 1) && !(q.1 + 1 == i && sv_two q.2))))
theorem sv_two_cat (v : sv_T) : ((sv_den v).category == 2) = sv_two v := by
  cases h : sv_two v with
  | true => rw [sv_cat2 h]; rfl
  | false => rw [sv_cat1 h]; rfl
theorem sv_put_ok {ls : Array Slot} {nL i : Nat} {lv : sv_L} {v : sv_T} (hl : lv_has ls nL ((i, sv_den v) :: (sv_lm lv).filter (fun q => !(q.1 == i) && !(q.1 + 1 == i && q.2.category == 2)))) : lv_has ls nL (sv_lm (sv_put lv i v)) := by
  refine ⟨hl.1, hl.2.1, fun q hq => hl.2.2 q ?_⟩
  obtain ⟨z, hz, rfl⟩ := List.mem_map.mp hq
  rcases sv_ins_mem hz with h | h
  · subst h; exact List.mem_cons_self
  · obtain ⟨h1, h2⟩ := List.mem_filter.mp h
    refine List.mem_cons_of_mem _ (List.mem_filter.mpr ⟨List.mem_map.mpr ⟨z, h1, rfl⟩, ?_⟩)
    simp only [sv_two_cat]
    exact h2
theorem sv_put2_ok {ls : Array Slot} {nL i : Nat} {lv : sv_L} {v : sv_T} (hl : lv_has ls nL ((i, sv_den v) :: (sv_lm lv).filter (fun q => !(q.1 == i) && (!(q.1 == i + 1) && !(q.1 + 1 == i && q.2.category == 2))))) : lv_has ls nL (sv_lm (sv_put2 lv i v)) := by
  refine ⟨hl.1, hl.2.1, fun q hq => hl.2.2 q ?_⟩
  obtain ⟨z, hz, rfl⟩ := List.mem_map.mp hq
  rcases sv_ins_mem hz with h | h
  · subst h; exact List.mem_cons_self
  · obtain ⟨h1, h2⟩ := List.mem_filter.mp h
    refine List.mem_cons_of_mem _ (List.mem_filter.mpr ⟨List.mem_map.mpr ⟨z, h1, rfl⟩, ?_⟩)
    simp only [sv_two_cat]
    exact h2
end
section
theorem sv_b8 {n : Int} (h : -128 ≤ n ∧ n ≤ 127) : (Int8.ofInt n).toInt32 = Int32.ofInt n := by
  rw [← Int32.toInt_inj, sv_oi ⟨by omega, by omega⟩, Int8.toInt_toInt32, Int8.toInt_ofInt, show Int8.size = 256 from rfl]
  exact Int.bmod_eq_of_le (by omega) (by omega)
theorem sv_b16 {n : Int} (h : -32768 ≤ n ∧ n ≤ 32767) : (Int16.ofInt n).toInt32 = Int32.ofInt n := by
  rw [← Int32.toInt_inj, sv_oi ⟨by omega, by omega⟩, Int16.toInt_toInt32, Int16.toInt_ofInt, show Int16.size = 65536 from rfl]
  exact Int.bmod_eq_of_le (by omega) (by omega)
theorem sv_lc : ∀ n : Fin 2, Int64.ofNat (n : Nat) = Int64.ofInt ((n : Nat) : Int) := by decide
/-! the judgement: from here, with these locals and this stack, over every heap of which Hp says what it says, the machine comes to Q -/
section SVV
variable {p : Program} {l : Launch} {e : Env} {R : Room} {s : State} {m : MethodId} {args : Array Value} {below : List Frame} {meth : Method} {c : Code} {cells slots : Nat} {Q : State → Prop}
variable {cc : ByteArray} {pc nL : Nat} {Hp : Heap → Prop} {A : Nat → Prop} {lv lv' : sv_L} {st st' rest : List sv_T}
def sv_V (p : Program) (l : Launch) (e : Env) (R : Room) (s : State) (m : MethodId) (args : Array Value) (below : List Frame) (meth : Method) (c : Code) (nL : Nat) (A : Nat → Prop) (cells slots : Nat) (Q : State → Prop) (Hp : Heap → Prop) (pc : Nat) (lv : sv_L) (st : List sv_T) : Prop :=
  ∀ (H : Heap) (locs : List Loc) (ls : Array Slot), Hp H → va_S A s.heap H locs → lv_has ls nL (sv_lm lv) → W p l e R s m args below meth c H locs cells slots Q (F0 m pc ls (st.map sv_den))
def sv_ex (i : Instr) (len nL : Nat) (lv : sv_L) (st : List sv_T) : Option (sv_L × List sv_T) := match i, len, st with
  | .iconst n, 1, st => some (lv, sv_i n :: st)
  | .bipush n, 2, st => if -128 ≤ n ∧ n ≤ 127 then some (lv, sv_i n :: st) else none
  | .sipush n, 3, st => if -32768 ≤ n ∧ n ≤ 32767 then some (lv, sv_i n :: st) else none
  | .lconst n, 1, st => some (lv, sv_l (n.val : Int) :: st)
  | .aconst_null, 1, st => some (lv, sv_a 0 :: st)
  | .iload_n k, 1, st => match sv_get lv k.val with | some (.inl x) => some (lv, .inl x :: st) | _ => none
  | .iload k, 2, st => match sv_get lv k with | some (.inl x) => some (lv, .inl x :: st) | _ => none
  | .lload_n k, 1, st => match sv_get lv k.val with | some (.inr (.inr x)) => some (lv, .inr (.inr x) :: st) | _ => none
  | .lload k, 2, st => match sv_get lv k with | some (.inr (.inr x)) => some (lv, .inr (.inr x) :: st) | _ => none
  | .aload_n k, 1, st => match sv_get lv k.val with | some (.inr (.inl x)) => some (lv, .inr (.inl x) :: st) | _ => none
  | .aload k, 2, st => match sv_get lv k with | some (.inr (.inl x)) => some (lv, .inr (.inl x) :: st) | _ => none
  | .istore_n k, 1, .inl x :: st => if k.val < nL then some (sv_put lv k.val (.inl x), st) else none
  | .istore k, 2, .inl x :: st => if k < nL then some (sv_put lv k (.inl x), st) else none
  | .lstore_n k, 1, .inr (.inr x) :: st => if k.val + 1 < nL then some (sv_put2 lv k.val (.inr (.inr x)), st) else none
  | .lstore k, 2, .inr (.inr x) :: st => if k + 1 < nL then some (sv_put2 lv k (.inr (.inr x)), st) else none
  | .astore_n k, 1, .inr (.inl x) :: st => if k.val < nL then some (sv_put lv k.val (.inr (.inl x)), st) else none
  | .astore k, 2, .inr (.inl x) :: st => if k < nL then some (sv_put lv k (.inr (.inl x)), st) else none
  | .iinc k n, 3, st => match sv_get lv k with | some (.inl x) => if k < nL then some (sv_put lv k (.inl (x + n)), st) else none | _ => none
  | .iadd, 1, .inl y :: .inl x :: st => some (lv, sv_i (x + y) :: st)
  | .isub, 1, .inl y :: .inl x :: st => some (lv, sv_i (x - y) :: st)
  | .imul, 1, .inl y :: .inl x :: st => some (lv, sv_i (x * y) :: st)
  | .ineg, 1, .inl x :: st => some (lv, sv_i (-x) :: st)
  | .ladd, 1, .inr (.inr y) :: .inr (.inr x) :: st => some (lv, sv_l (x + y) :: st)
  | .lsub, 1, .inr (.inr y) :: .inr (.inr x) :: st => some (lv, sv_l (x - y) :: st)
  | .iand, 1, .inl y :: .inl x :: st => some (lv, sv_i (Int32.ofInt x &&& Int32.ofInt y).toInt :: st)
  | .ior, 1, .inl y :: .inl x :: st => some (lv, sv_i (Int32.ofInt x ||| Int32.ofInt y).toInt :: st)
  | .ixor, 1, .inl y :: .inl x :: st => some (lv, sv_i (Int32.ofInt x ^^^ Int32.ofInt y).toInt :: st)
  | .ishl, 1, .inl y :: .inl x :: st => some (lv, sv_i (Int32.ofInt x <<< (Int32.ofInt y &&& 31)).toInt :: st)
  | .ishr, 1, .inl y :: .inl x :: st => some (lv, sv_i (Int32.ofInt x >>> (Int32.ofInt y &&& 31)).toInt :: st)
  | .i2b, 1, .inl x :: st => some (lv, sv_i (Int32.ofInt x).toInt8.toInt32.toInt :: st)
  | .dup, 1, v :: st => if sv_two v = false then some (lv, v :: v :: st) else none
  | .pop, 1, v :: st => if sv_two v = false then some (lv, st) else none
  | .dup_x1, 1, v :: w :: st => if sv_two v = false ∧ sv_two w = false then some (lv, v :: w :: v :: st) else none
  | .dup_x2, 1, v :: w :: z :: st => if sv_two v = false ∧ sv_two w = false ∧ sv_two z = false then some (lv, v :: w :: z :: v :: st) else none
  | .dup2, 1, v :: w :: st => if sv_two v = false ∧ sv_two w = false then some (lv, v :: w :: v :: w :: st) else none
  | _, _, _ => none
theorem sv_ex_ok (hx : p.tables.exec = Jvm.exec) (hb : c.code = cc) {i : Instr} {len : Nat} (hd : decode cc pc = .ok (i, len)) (he : sv_ex i len nL lv st = some (lv', st')) (k : sv_V p l e R s m args below meth c nL A cells slots Q Hp (pc + len) lv' st') : sv_V p l e R s m args below meth c nL A cells slots Q Hp pc lv st := by
  intro H locs ls hH hS hl
  unfold sv_ex at he
  split at he
  · cases he; exact lv_iconst hx hb hd rfl (k H locs ls hH hS hl)
  · split at he
    · next h => cases he; exact lv_bipush hx hb hd (sv_b8 h) (k H locs ls hH hS hl)
    · cases he
  · split at he
    · next h => cases he; exact lv_sipush hx hb hd (sv_b16 h) (k H locs ls hH hS hl)
    · cases he
  · cases he; exact lv_lconst hx hb hd (sv_lc _) (k H locs ls hH hS hl)
  · cases he; exact lv_null hx hb hd (k H locs ls hH hS hl)
  · split at he
    · next h => cases he; exact lv_iload_n hx hb hd rfl (sv_get_at hl h) (k H locs ls hH hS hl)
    · cases he
  · split at he
    · next h => cases he; exact lv_iload hx hb hd (sv_get_at hl h) (k H locs ls hH hS hl)
    · cases he
  · split at he
    · next h => cases he; exact lv_lload_n hx hb hd rfl (sv_get_at hl h) (k H locs ls hH hS hl)
    · cases he
  · split at he
    · next h => cases he; exact lv_lload hx hb hd (sv_get_at hl h) (k H locs ls hH hS hl)
    · cases he
  · split at he
    · next x h =>
      cases he
      have hk := k H locs ls hH hS hl
      have ha := sv_get_at hl h
      simp only [List.map_cons, sv_den] at hk ha
      rcases sv_rf_or x with e | ⟨a, e⟩ <;> rw [e] at hk ha
      · exact lv_aload_nN hx hb hd rfl ha hk
      · exact lv_aload_n hx hb hd rfl ha hk
    · cases he
  · split at he
    · next x h =>
      cases he
      have hk := k H locs ls hH hS hl
      have ha := sv_get_at hl h
      simp only [List.map_cons, sv_den] at hk ha
      rcases sv_rf_or x with e | ⟨a, e⟩ <;> rw [e] at hk ha
      · exact lv_aloadN hx hb hd ha hk
      · exact lv_aload hx hb hd ha hk
    · cases he
  · split at he
    · next h => cases he; exact lv_istore_n hx hb hd rfl hl h rfl (fun ls' hl' => k H locs ls' hH hS (sv_put_ok (v := .inl _) hl'))
    · cases he
  · split at he
    · next h => cases he; exact lv_istore hx hb hd hl h rfl (fun ls' hl' => k H locs ls' hH hS (sv_put_ok (v := .inl _) hl'))
    · cases he
  · split at he
    · next h => cases he; exact lv_lstore_n hx hb hd rfl hl h rfl (fun ls' hl' => k H locs ls' hH hS (sv_put2_ok (v := .inr (.inr _)) hl'))
    · cases he
  · split at he
    · next h => cases he; exact lv_lstore hx hb hd hl h rfl (fun ls' hl' => k H locs ls' hH hS (sv_put2_ok (v := .inr (.inr _)) hl'))
    · cases he
  · split at he
    · next x _ h =>
      cases he
      have hk := fun ls' hl' => k H locs ls' hH hS (sv_put_ok (v := .inr (.inl x)) hl')
      show W p l e R s m args below meth c H locs cells slots Q (F0 m pc ls (sv_rf x :: _))
      simp only [sv_den] at hk
      rcases sv_rf_or x with e | ⟨a, e⟩ <;> rw [e] at hk ⊢
      · exact lv_astore_nN hx hb hd rfl hl h rfl hk
      · exact lv_astore_n hx hb hd rfl hl h rfl hk
    · cases he
  · split at he
    · next x _ h =>
      cases he
      have hk := fun ls' hl' => k H locs ls' hH hS (sv_put_ok (v := .inr (.inl x)) hl')
      show W p l e R s m args below meth c H locs cells slots Q (F0 m pc ls (sv_rf x :: _))
      simp only [sv_den] at hk
      rcases sv_rf_or x with e | ⟨a, e⟩ <;> rw [e] at hk ⊢
      · exact lv_astoreN hx hb hd hl h rfl hk
      · exact lv_astore hx hb hd hl h rfl hk
    · cases he
  · split at he
    · next x h =>
      split at he
      · next h2 =>
        cases he
        obtain ⟨j, hj⟩ := List.getElem?_of_mem (List.mem_map.mpr ⟨_, sv_get_mem h, rfl⟩ : _ ∈ sv_lm lv)
        exact lv_iinc hx hb hd hl (k := j) hj (sv_add _ _) h2 rfl (fun ls' hl' => k H locs ls' hH hS (sv_put_ok (v := .inl _) hl'))
      · cases he
    · cases he
  · cases he; exact lv_iadd hx hb hd (by rw [sv_add]; exact k H locs ls hH hS hl)
  · cases he; exact lv_isub hx hb hd (by rw [sv_sub]; exact k H locs ls hH hS hl)
  · cases he; exact lv_imul hx hb hd (by rw [sv_mul]; exact k H locs ls hH hS hl)
  · cases he; exact lv_ineg hx hb hd (by rw [sv_neg]; exact k H locs ls hH hS hl)
  · cases he; exact lv_ladd hx hb hd (by rw [sv_ladd]; exact k H locs ls hH hS hl)
  · cases he; exact lv_lsub hx hb hd (by rw [sv_lsub]; exact k H locs ls hH hS hl)
  · cases he; refine lv_iand hx hb hd ?_; have hk := k H locs ls hH hS hl; simp only [List.map_cons, sv_den, sv_io] at hk; exact hk
  · cases he; refine lv_ior hx hb hd ?_; have hk := k H locs ls hH hS hl; simp only [List.map_cons, sv_den, sv_io] at hk; exact hk
  · cases he; refine lv_ixor hx hb hd ?_; have hk := k H locs ls hH hS hl; simp only [List.map_cons, sv_den, sv_io] at hk; exact hk
  · cases he; refine lv_ishl hx hb hd ?_; have hk := k H locs ls hH hS hl; simp only [List.map_cons, sv_den, sv_io] at hk; exact hk
  · cases he; refine lv_ishr hx hb hd ?_; have hk := k H locs ls hH hS hl; simp only [List.map_cons, sv_den, sv_io] at hk; exact hk
  · cases he; refine lv_i2b hx hb hd rfl ?_; have hk := k H locs ls hH hS hl; simp only [List.map_cons, sv_den, sv_io] at hk; exact hk
  · split at he
    · next h => cases he; exact lv_dup hx hb hd (sv_cat1 h) (k H locs ls hH hS hl)
    · cases he
  · split at he
    · next h => cases he; exact lv_pop hx hb hd (sv_cat1 h) (k H locs ls hH hS hl)
    · cases he
  · split at he
    · next h => cases he; exact lv_dup_x1 hx hb hd (sv_cat1 h.1) (sv_cat1 h.2) (k H locs ls hH hS hl)
    · cases he
  · split at he
    · next h => cases he; exact lv_dup_x2 hx hb hd (sv_cat1 h.1) (sv_cat1 h.2.1) (sv_cat1 h.2.2) (k H locs ls hH hS hl)
    · cases he
  · split at he
    · next h => cases he; exact lv_dup2_11 hx hb hd (sv_cat1 h.1) (sv_cat1 h.2) (k H locs ls hH hS hl)
    · cases he
  · cases he
end SVV
end
section
/-! stretches of plain instructions, jumps, branches, ends -/
def sv_cd (cc : ByteArray) : Nat → List (Instr × Nat) → Bool
  | _, [] => true
  | pc, (i, n) :: r => decide (decode cc pc = .ok (i, n)) && sv_cd cc (pc + n) r
def sv_len : List (Instr × Nat) → Nat
  | [] => 0
  | (_, n) :: r => n + sv_len r
def sv_run (nL : Nat) : List (Instr × Nat) → sv_L → List sv_T → Option (sv_L × List sv_T)
  | [], lv, st => some (lv, st)
  | (i, n) :: r, lv, st => match sv_ex i n nL lv st with
    | some q => sv_run nL r q.1 q.2
    | none => none
/-- what an int comparison says of two numbers -/
def sv_cmp : ClassFile.Cond → Int → Int → Prop
  | .eq, x, y => x = y
  | .ne, x, y => x ≠ y
  | .lt, x, y => x < y
  | .ge, x, y => y ≤ x
  | .gt, x, y => y < x
  | .le, x, y => x ≤ y
section SVG
variable {p : Program} {l : Launch} {e : Env} {R : Room} {s : State} {m : MethodId} {args : Array Value} {below : List Frame} {meth : Method} {c : Code} {cells slots : Nat} {Q : State → Prop}
variable {cc : ByteArray} {pc nL : Nat} {Hp : Heap → Prop} {A : Nat → Prop} {lv lv' : sv_L} {st st' rest : List sv_T}
theorem sv_go (hx : p.tables.exec = Jvm.exec) (hb : c.code = cc) (is : List (Instr × Nat)) {pc' : Nat} (hd : sv_cd cc pc is = true) (hp : pc + sv_len is = pc') (he : sv_run nL is lv st = some (lv', st')) (k : sv_V p l e R s m args below meth c nL A cells slots Q Hp pc' lv' st') : sv_V p l e R s m args below meth c nL A cells slots Q Hp pc lv st := by
  induction is generalizing pc lv st with
  | nil => cases he; subst hp; exact k
  | cons q r ih =>
    obtain ⟨i, n⟩ := q
    simp only [sv_cd, Bool.and_eq_true, decide_eq_true_eq] at hd
    unfold sv_run at he
    split at he
    · next q1 h1 => exact sv_ex_ok hx hb hd.1 h1 (ih hd.2 (by rw [← hp]; simp only [sv_len]; omega) he)
    · cases he
theorem sv_goto (hx : p.tables.exec = Jvm.exec) (hb : c.code = cc) {off : Int} {tgt : Nat} (hd : decode cc pc = .ok (.goto off, 3)) (ht : (pc : Int) + off = (tgt : Int)) (k : sv_V p l e R s m args below meth c nL A cells slots Q Hp tgt lv st) : sv_V p l e R s m args below meth c nL A cells slots Q Hp pc lv st :=
  fun H locs ls hH hS hl => lv_goto hx hb hd ht (k H locs ls hH hS hl)
theorem sv_icmp (hx : p.tables.exec = Jvm.exec) (hb : c.code = cc) {cnd : ClassFile.Cond} {off : Int} {tgt : Nat} {x y : Int} (hd : decode cc pc = .ok (.if_icmp cnd off, 3)) (ht : (pc : Int) + off = (tgt : Int)) (h1 : sv_in x) (h2 : sv_in y)
    (kt : sv_cmp cnd x y → sv_V p l e R s m args below meth c nL A cells slots Q Hp tgt lv rest) (kf : ¬ sv_cmp cnd x y → sv_V p l e R s m args below meth c nL A cells slots Q Hp (pc + 3) lv rest) : sv_V p l e R s m args below meth c nL A cells slots Q Hp pc lv (.inl y :: .inl x :: rest) := by
  intro H locs ls hH hS hl
  cases cnd with
  | eq => exact lv_icmp_eq hx hb hd ht (fun h => kt ((sv_eq h1 h2).mp h) H locs ls hH hS hl) (fun h => kf (fun q => h ((sv_eq h1 h2).mpr q)) H locs ls hH hS hl)
  | ne => exact lv_icmp_ne hx hb hd ht (fun h => kt (fun q => h ((sv_eq h1 h2).mpr q)) H locs ls hH hS hl) (fun h => kf (fun q => q ((sv_eq h1 h2).mp h)) H locs ls hH hS hl)
  | lt => exact lv_icmp_lt hx hb hd ht (fun h => kt ((sv_lt h1 h2).mp h) H locs ls hH hS hl) (fun h => kf (fun q => h ((sv_lt h1 h2).mpr q)) H locs ls hH hS hl)
  | ge => exact lv_icmp_ge hx hb hd ht (fun h => kt ((sv_le h2 h1).mp h) H locs ls hH hS hl) (fun h => kf (fun q => h ((sv_le h2 h1).mpr q)) H locs ls hH hS hl)
  | gt => exact lv_icmp_gt hx hb hd ht (fun h => kt ((sv_lt h2 h1).mp h) H locs ls hH hS hl) (fun h => kf (fun q => h ((sv_lt h2 h1).mpr q)) H locs ls hH hS hl)
  | le => exact lv_icmp_le hx hb hd ht (fun h => kt ((sv_le h1 h2).mp h) H locs ls hH hS hl) (fun h => kf (fun q => h ((sv_le h1 h2).mpr q)) H locs ls hH hS hl)
theorem sv_z0 : Int32.ofInt 0 = 0 := rfl
theorem sv_if (hx : p.tables.exec = Jvm.exec) (hb : c.code = cc) {cnd : ClassFile.Cond} {off : Int} {tgt : Nat} {x : Int} (hd : decode cc pc = .ok (.ifCond cnd off, 3)) (ht : (pc : Int) + off = (tgt : Int)) (h1 : sv_in x)
    (kt : sv_cmp cnd x 0 → sv_V p l e R s m args below meth c nL A cells slots Q Hp tgt lv rest) (kf : ¬ sv_cmp cnd x 0 → sv_V p l e R s m args below meth c nL A cells slots Q Hp (pc + 3) lv rest) : sv_V p l e R s m args below meth c nL A cells slots Q Hp pc lv (.inl x :: rest) := by
  intro H locs ls hH hS hl
  have h2 : sv_in 0 := ⟨by decide, by decide⟩
  cases cnd with
  | eq => exact lv_if_eq hx hb hd ht (fun h => kt ((sv_eq h1 h2).mp h) H locs ls hH hS hl) (fun h => kf (fun q => h ((sv_eq h1 h2).mpr q)) H locs ls hH hS hl)
  | ne => exact lv_if_ne hx hb hd ht (fun h => kt (fun q => h ((sv_eq h1 h2).mpr q)) H locs ls hH hS hl) (fun h => kf (fun q => q ((sv_eq h1 h2).mp h)) H locs ls hH hS hl)
  | lt => exact lv_if_lt hx hb hd ht (fun h => kt ((sv_lt h1 h2).mp h) H locs ls hH hS hl) (fun h => kf (fun q => h ((sv_lt h1 h2).mpr q)) H locs ls hH hS hl)
  | ge => exact lv_if_ge hx hb hd ht (fun h => kt ((sv_le h2 h1).mp h) H locs ls hH hS hl) (fun h => kf (fun q => h ((sv_le h2 h1).mpr q)) H locs ls hH hS hl)
  | gt => exact lv_if_gt hx hb hd ht (fun h => kt ((sv_lt h2 h1).mp h) H locs ls hH hS hl) (fun h => kf (fun q => h ((sv_lt h2 h1).mpr q)) H locs ls hH hS hl)
  | le => exact lv_if_le hx hb hd ht (fun h => kt ((sv_le h1 h2).mp h) H locs ls hH hS hl) (fun h => kf (fun q => h ((sv_le h1 h2).mpr q)) H locs ls hH hS hl)
theorem sv_ifnull (hx : p.tables.exec = Jvm.exec) (hb : c.code = cc) {off : Int} {tgt : Nat} {z : Int} (hd : decode cc pc = .ok (.ifnull off, 3)) (ht : (pc : Int) + off = (tgt : Int)) (hz : 0 ≤ z)
    (kt : z = 0 → sv_V p l e R s m args below meth c nL A cells slots Q Hp tgt lv rest) (kf : 0 < z → sv_V p l e R s m args below meth c nL A cells slots Q Hp (pc + 3) lv rest) : sv_V p l e R s m args below meth c nL A cells slots Q Hp pc lv (.inr (.inl z) :: rest) := by
  intro H locs ls hH hS hl
  match z, hz with
  | .ofNat 0, _ => exact lv_ifnullN hx hb hd ht (kt rfl H locs ls hH hS hl)
  | .ofNat (n + 1), _ => exact lv_ifnull hx hb hd (kf (by simp only [Int.ofNat_eq_natCast]; omega) H locs ls hH hS hl)
theorem sv_ifnonnull (hx : p.tables.exec = Jvm.exec) (hb : c.code = cc) {off : Int} {tgt : Nat} {z : Int} (hd : decode cc pc = .ok (.ifnonnull off, 3)) (ht : (pc : Int) + off = (tgt : Int)) (hz : 0 ≤ z)
    (kt : 0 < z → sv_V p l e R s m args below meth c nL A cells slots Q Hp tgt lv rest) (kf : z = 0 → sv_V p l e R s m args below meth c nL A cells slots Q Hp (pc + 3) lv rest) : sv_V p l e R s m args below meth c nL A cells slots Q Hp pc lv (.inr (.inl z) :: rest) := by
  intro H locs ls hH hS hl
  match z, hz with
  | .ofNat 0, _ => exact lv_ifnonnullN hx hb hd (kf rfl H locs ls hH hS hl)
  | .ofNat (n + 1), _ => exact lv_ifnonnull hx hb hd ht (kt (by simp only [Int.ofNat_eq_natCast]; omega) H locs ls hH hS hl)
/-- the same place with other words: numbers that are equal, fewer locals, another heap's word -/
theorem sv_same {st2 : List sv_T} {lv2 : sv_L} (h1 : st = st2) (h2 : lv = lv2) (k : sv_V p l e R s m args below meth c nL A cells slots Q Hp pc lv2 st2) : sv_V p l e R s m args below meth c nL A cells slots Q Hp pc lv st := by subst h1; subst h2; exact k
theorem sv_heap {Hp2 : Heap → Prop} (h : ∀ H, Hp H → Hp2 H) (k : sv_V p l e R s m args below meth c nL A cells slots Q Hp2 pc lv st) : sv_V p l e R s m args below meth c nL A cells slots Q Hp pc lv st :=
  fun H locs ls hH hS hl => k H locs ls (h H hH) hS hl
theorem sv_drop {lv2 : sv_L} (h : ∀ q ∈ lv2, q ∈ lv) (k : sv_V p l e R s m args below meth c nL A cells slots Q Hp pc lv2 st) : sv_V p l e R s m args below meth c nL A cells slots Q Hp pc lv st :=
  fun H locs ls hH hS hl => k H locs ls hH hS ⟨hl.1, hl.2.1, fun q hq => by obtain ⟨z, hz, e⟩ := List.mem_map.mp hq; exact hl.2.2 q (List.mem_map.mpr ⟨z, h z hz, e⟩)⟩
theorem sv_tdiv_in {x y : Int} (h1 : sv_in x) (h2 : 0 < y) : sv_in (x.tdiv y) := by
  have b1 := Int.natAbs_tdiv_le_natAbs x y
  have h3 := h1.1
  have h4 := h1.2
  rcases Int.le_total 0 x with h | h
  · have b2 : 0 ≤ x.tdiv y := Int.tdiv_nonneg h (by omega)
    exact ⟨by omega, by omega⟩
  · have b2 : 0 ≤ (-x).tdiv y := Int.tdiv_nonneg (by omega) (by omega)
    rw [Int.neg_tdiv] at b2
    exact ⟨by omega, by omega⟩
/-- division by a number that isn't 0, of numbers in range -/
theorem sv_idiv (hx : p.tables.exec = Jvm.exec) (hb : c.code = cc) {x y : Int} (hd : decode cc pc = .ok (.idiv, 1)) (h1 : sv_in x) (h2 : 0 < y) (h3 : y < 2147483648)
    (k : sv_V p l e R s m args below meth c nL A cells slots Q Hp (pc + 1) lv (sv_i (x.tdiv y) :: rest)) : sv_V p l e R s m args below meth c nL A cells slots Q Hp pc lv (.inl y :: .inl x :: rest) := by
  intro H locs ls hH hS hl
  have hy : (Int32.ofInt y).toInt = y := sv_oi ⟨by omega, h3⟩
  refine lv_idiv hx hb hd (fun q => ?_) ?_
  · have := congrArg Int32.toInt q
    rw [hy, Int32.toInt_zero] at this
    omega
  · have hq : Int32.ofInt x / Int32.ofInt y = Int32.ofInt (x.tdiv y) := by
      rw [← Int32.toInt_inj, Int32.toInt_div_of_ne_right _ _ (by intro q; have := congrArg Int32.toInt q; rw [hy] at this; revert this; simp; omega), hy, sv_oi h1]
      rw [sv_oi (sv_tdiv_in h1 h2)]
    rw [hq]
    exact k H locs ls hH hS hl
theorem sv_irem (hx : p.tables.exec = Jvm.exec) (hb : c.code = cc) {x y : Int} (hd : decode cc pc = .ok (.irem, 1)) (h1 : sv_in x) (h2 : 0 < y) (h3 : y < 2147483648)
    (k : sv_V p l e R s m args below meth c nL A cells slots Q Hp (pc + 1) lv (sv_i (x.tmod y) :: rest)) : sv_V p l e R s m args below meth c nL A cells slots Q Hp pc lv (.inl y :: .inl x :: rest) := by
  intro H locs ls hH hS hl
  have hy : (Int32.ofInt y).toInt = y := sv_oi ⟨by omega, h3⟩
  refine lv_irem hx hb hd (fun q => ?_) ?_
  · have := congrArg Int32.toInt q
    rw [hy, Int32.toInt_zero] at this
    omega
  · have hq : Int32.ofInt x / Int32.ofInt y = Int32.ofInt (x.tdiv y) := by
      rw [← Int32.toInt_inj, Int32.toInt_div_of_ne_right _ _ (by intro q; have := congrArg Int32.toInt q; rw [hy] at this; revert this; simp; omega), hy, sv_oi h1]
      rw [sv_oi (sv_tdiv_in h1 h2)]
    rw [hq, sv_mul, sv_sub, show x - x.tdiv y * y = x.tmod y by have := Int.mul_tdiv_add_tmod x y; rw [Int.mul_comm] at this; omega]
    exact k H locs ls hH hS hl
end SVG
end
section
/-! the kinds of cells, and what a store says of a heap -/
def sv_isNest : Cond → Bool
  | .fieldLinkNest .. => true
  | .methodLinkNest .. => true
  | _ => false
def sv_nest : List Cond := lw_tbl.filter (fun w => sv_isNest w)
def lw_good : List Cond := lw_tbl.filter (fun w => goodWord w)
theorem sv_mem {w : Cond} (i : Nat) (h : lw_tbl[i]? = some w) (hg : goodWord w = true) : w ∈ lw_good := List.mem_filter.mpr ⟨List.mem_of_getElem? h, hg⟩
theorem sv_memN {w : Cond} (i : Nat) (h : lw_tbl[i]? = some w) (hg : sv_isNest w = true) : w ∈ sv_nest := List.mem_filter.mpr ⟨List.mem_of_getElem? h, hg⟩
theorem sv_goodIn {w : Cond} (h : w ∈ lw_good) : GoodIn lw_good (w :: lw_good) := by
  intro x hx
  have hx' : x ∈ lw_good := by
    rcases List.mem_cons.mp hx with e | e
    · rw [e]; exact h
    · exact e
  exact ⟨hx', good_of_word (List.mem_filter.mp hx').2⟩
def sv_ft (ci k : Nat) : FieldType := match ci with
  | 0 => tyX0 k | 1 => tyX1 k | 2 => tyX3 k | 3 => tyX4 k | 4 => tyX5 k | 5 => tyX6 k | 6 => tyX7 k | 7 => tyX8 k | 8 => tyX9 k | 9 => tyX10 k | _ => tyX11 k
/-- a kind: an object of a class (by its place in vwCl), or an array of a type and a length -/
def sv_kT : Nat → Option (Nat ⊕ (FieldType × Nat))
  | 1 => some (.inl 8) | 2 => some (.inl 6) | 3 => some (.inl 5) | 4 => some (.inl 3) | 5 => some (.inl 0) | 6 => some (.inl 7) | 7 => some (.inl 1) | 8 => some (.inl 2) | 9 => some (.inl 4) | 10 => some (.inl 10) | 11 => some (.inl 9)
  | 20 => some (.inr (.byte, 4000)) | 21 => some (.inr (.object "SaintsRoad$Place", 4)) | 22 => some (.inr (.object "SaintsRoad$Feast", 60)) | 23 => some (.inr (.int, 9))
  | 24 => some (.inr (.int, 60)) | 25 => some (.inr (.int, 366)) | 26 => some (.inr (.int, 60)) | 27 => some (.inr (.int, 60)) | 28 => some (.inr (.int, 60)) | 29 => some (.inr (.int, 60))
  | 30 => some (.inr (.int, 10)) | 31 => some (.inr (.int, 10)) | 32 => some (.inr (.int, 10)) | 33 => some (.inr (.int, 600)) | 34 => some (.inr (.int, 600)) | 35 => some (.inr (.int, 600)) | 36 => some (.inr (.int, 600))
  | 37 => some (.inr (.object "SaintsRoad$Procession", 12)) | 38 => some (.inr (.int, 400)) | 39 => some (.inr (.int, 1442)) | 40 => some (.inr (.int, 12)) | 41 => some (.inr (.int, 12))
  | 60 => some (.inr (.int, 5)) | 61 => some (.inr (.int, 5)) | 62 => some (.inr (.int, 5)) | 63 => some (.inr (.int, 5)) | 64 => some (.inr (.int, 45))
  | 65 => some (.inr (.int, 300)) | 66 => some (.inr (.int, 300)) | 67 => some (.inr (.int, 300)) | 68 => some (.inr (.int, 300)) | 69 => some (.inr (.int, 300)) | 70 => some (.inr (.int, 300)) | 71 => some (.inr (.int, 300))
  | 72 => some (.inr (.boolean, 300)) | 73 => some (.inr (.boolean, 300)) | 74 => some (.inr (.byte, 3600)) | 76 => some (.inr (.byte, 4000)) | 87 => some (.inr (.boolean, 9))
  | 88 => some (.inr (.int, 60)) | 89 => some (.inr (.int, 60)) | 90 => some (.inr (.int, 60)) | 91 => some (.inr (.int, 366)) | 92 => some (.inr (.int, 366)) | 93 => some (.inr (.boolean, 100))
  | 94 => some (.inr (.int, 600)) | 95 => some (.inr (.int, 600)) | 96 => some (.inr (.int, 600)) | 97 => some (.inr (.int, 600)) | 98 => some (.inr (.int, 10)) | 99 => some (.inr (.int, 10))
  | 101 => some (.inr (.int, 400)) | 102 => some (.inr (.int, 12)) | 103 => some (.inr (.int, 12)) | 104 => some (.inr (.int, 12)) | 105 => some (.inr (.int, 144)) | 106 => some (.inr (.int, 144))
  | _ => none
/-- a number in a field or an array of a type: the value -/
def sv_dv : FieldType → Int → Value
  | .object _, z => sv_rf z
  | .array _, z => sv_rf z
  | .long, z => .long (Int64.ofInt z)
  | _, z => .int (Int32.ofInt z)
def sv_of : FieldType → Int → sv_T
  | .object _, z => sv_a z
  | .array _, z => sv_a z
  | .long, z => sv_l z
  | _, z => sv_i z
theorem sv_of_den (t : FieldType) (z : Int) : sv_den (sv_of t z) = sv_dv t z := by cases t <;> rfl
def sv_rg : FieldType → Int → Prop
  | .object _, z => 0 ≤ z
  | .array _, z => 0 ≤ z
  | .long, z => -9223372036854775808 ≤ z ∧ z < 9223372036854775808
  | .boolean, z => 0 ≤ z ∧ z ≤ 1
  | .byte, z => -128 ≤ z ∧ z ≤ 127
  | _, z => sv_in z
/-- what the numbers of a store are within -/
def sv_ok (ty : Nat → Nat) (σ : Nat → Nat → Int) : Prop := ∀ a : Nat, match sv_kT (ty a) with
  | none => True
  | some (.inl ci) => ∀ (r : vw_C), vwCl[ci]? = some r → ∀ k, k < r.2.2 → sv_rg (sv_ft ci k) (σ a k)
  | some (.inr (t, n)) => ∀ i, i < n → sv_rg t (σ a i)
abbrev sv_G : Type := va_G × (FieldType → ClassId) × Nat × Nat
def sv_cell (g : sv_G) (a : Nat) (K : Option (Nat ⊕ (FieldType × Nat))) (f : Nat → Int) (H : Heap) : Prop := match K with
  | none => True
  | some (.inl ci) => ∃ r : vw_C, vwCl[ci]? = some r ∧ t_OB a (g.1.1 ci) r.2.2 (g.1.2 ci) H (fun k => sv_dv (sv_ft ci k) (f k))
  | some (.inr (t, n)) => H[a]? = some (arrV (g.2.1 t) n (fun i => sv_dv t (f i)))
def sv_H (g : sv_G) (ty : Nat → Nat) (σ : Nat → Nat → Int) (H : Heap) : Prop := ∀ a : Nat, sv_cell g a (sv_kT (ty a)) (σ a) H
theorem sv_cell.kept {g : sv_G} {a : Nat} {K : Option (Nat ⊕ (FieldType × Nat))} {f : Nat → Int} {H H1 : Heap} (h : sv_cell g a K f H) (hq : H1[a]? = H[a]?) : sv_cell g a K f H1 := by
  match K, h with
  | none, _ => exact trivial
  | some (.inl ci), ⟨r, h1, h2⟩ => exact ⟨r, h1, h2.kept hq⟩
  | some (.inr (t, n)), h => exact hq.trans h
def sv_up (σ : Nat → Nat → Int) (a k : Nat) (z : Int) : Nat → Nat → Int := fun a' k' => if a' = a ∧ k' = k then z else σ a' k'
theorem sv_up_s (σ : Nat → Nat → Int) (a k : Nat) (z : Int) : sv_up σ a k z a k = z := if_pos ⟨rfl, rfl⟩
theorem sv_up_a {σ : Nat → Nat → Int} {a k a' k' : Nat} {z : Int} (h : a' ≠ a) : sv_up σ a k z a' k' = σ a' k' := if_neg (fun q => h q.1)
theorem sv_up_k {σ : Nat → Nat → Int} {a k a' k' : Nat} {z : Int} (h : k' ≠ k) : sv_up σ a k z a' k' = σ a' k' := if_neg (fun q => h q.2)
theorem sv_up_row {σ : Nat → Nat → Int} {a k a' : Nat} {z : Int} (h : a' ≠ a) : sv_up σ a k z a' = σ a' := funext fun _ => sv_up_a h
theorem sv_ok_up {ty : Nat → Nat} {σ : Nat → Nat → Int} (h : sv_ok ty σ) {a k : Nat} {z : Int} (hz : match sv_kT (ty a) with | none => True | some (.inl ci) => sv_rg (sv_ft ci k) z | some (.inr (t, _)) => sv_rg t z) : sv_ok ty (sv_up σ a k z) := by
  intro b
  have hb := h b
  by_cases e : b = a
  · subst e
    revert hb hz
    cases hk : sv_kT (ty b) with
    | none => exact fun _ _ => trivial
    | some q =>
      match q with
      | .inl ci =>
        intro hb hz r hr j hj
        by_cases e2 : j = k
        · subst e2; rw [sv_up_s]; exact hz
        · rw [sv_up_k e2]; exact hb r hr j hj
      | .inr (t, n) =>
        intro hb hz j hj
        by_cases e2 : j = k
        · subst e2; rw [sv_up_s]; exact hz
        · rw [sv_up_k e2]; exact hb j hj
  · rw [sv_up_row e]
    exact hb
set_option maxRecDepth 100000 in
theorem sv_ws_in : ∀ w ∈ wsX00 ++ wsX10 ++ wsX30 ++ wsX40 ++ wsX50 ++ wsX60 ++ wsX70 ++ wsX80 ++ wsX90 ++ wsX100 ++ wsX110, w ∈ lw_good := by decide +kernel
/-- each class: its words, its fields' names, its fields' types -/
theorem sv_cls {ci : Nat} {r : vw_C} (h : vwCl[ci]? = some r) : (∀ w ∈ u_ws r.1 r.2.1 r.2.2, w ∈ lw_good) ∧ (∀ a, a < r.2.2 → ∀ b, b < r.2.2 → a ≠ b → (r.2.1 a).2.1 ≠ (r.2.1 b).2.1) ∧ ∀ k, k < r.2.2 → parseFieldDescriptor (r.2.1 k).2.2.1 = some (sv_ft ci k) := by
  match ci, h with
  | 0, h => cases h; exact ⟨fun w hw => sv_ws_in w (by simp only [List.mem_append]; exact Or.inl (Or.inl (Or.inl (Or.inl (Or.inl (Or.inl (Or.inl (Or.inl (Or.inl (Or.inl hw)))))))))), nmX0, tyX0_ok⟩
  | 1, h => cases h; exact ⟨fun w hw => sv_ws_in w (by simp only [List.mem_append]; exact Or.inl (Or.inl (Or.inl (Or.inl (Or.inl (Or.inl (Or.inl (Or.inl (Or.inl (Or.inr hw)))))))))), nmX1, tyX1_ok⟩
  | 2, h => cases h; exact ⟨fun w hw => sv_ws_in w (by simp only [List.mem_append]; exact Or.inl (Or.inl (Or.inl (Or.inl (Or.inl (Or.inl (Or.inl (Or.inl (Or.inr hw))))))))), nmX3, tyX3_ok⟩
  | 3, h => cases h; exact ⟨fun w hw => sv_ws_in w (by simp only [List.mem_append]; exact Or.inl (Or.inl (Or.inl (Or.inl (Or.inl (Or.inl (Or.inl (Or.inr hw)))))))), nmX4, tyX4_ok⟩
  | 4, h => cases h; exact ⟨fun w hw => sv_ws_in w (by simp only [List.mem_append]; exact Or.inl (Or.inl (Or.inl (Or.inl (Or.inl (Or.inl (Or.inr hw))))))), nmX5, tyX5_ok⟩
  | 5, h => cases h; exact ⟨fun w hw => sv_ws_in w (by simp only [List.mem_append]; exact Or.inl (Or.inl (Or.inl (Or.inl (Or.inl (Or.inr hw)))))), nmX6, tyX6_ok⟩
  | 6, h => cases h; exact ⟨fun w hw => sv_ws_in w (by simp only [List.mem_append]; exact Or.inl (Or.inl (Or.inl (Or.inl (Or.inr hw))))), nmX7, tyX7_ok⟩
  | 7, h => cases h; exact ⟨fun w hw => sv_ws_in w (by simp only [List.mem_append]; exact Or.inl (Or.inl (Or.inl (Or.inr hw)))), nmX8, tyX8_ok⟩
  | 8, h => cases h; exact ⟨fun w hw => sv_ws_in w (by simp only [List.mem_append]; exact Or.inl (Or.inl (Or.inr hw))), nmX9, tyX9_ok⟩
  | 9, h => cases h; exact ⟨fun w hw => sv_ws_in w (by simp only [List.mem_append]; exact Or.inl (Or.inr hw)), nmX10, tyX10_ok⟩
  | 10, h => cases h; exact ⟨fun w hw => sv_ws_in w (by simp only [List.mem_append]; exact Or.inr hw), nmX11, tyX11_ok⟩
  | n + 11, h => simp [vwCl] at h
end
section
/-! the context of a walk, and the rows that read and write the store -/
def sv_tys (aC : FieldType → ClassId) : List (ClassId × FieldType) := [(aC .int, .int), (aC .byte, .byte), (aC .boolean, .boolean), (aC (.object "SaintsRoad$Feast"), .object "SaintsRoad$Feast"), (aC (.object "SaintsRoad$Place"), .object "SaintsRoad$Place"), (aC (.object "SaintsRoad$Procession"), .object "SaintsRoad$Procession")]
def sv_mon (k : Nat) : Value := .int ([31, 29, 31, 30, 31, 30, 31, 31, 30, 31, 30, 31].getD k 0)
def sv_mst (k : Nat) : Value := .int ([0, 31, 59, 90, 120, 151, 181, 212, 243, 273, 304, 334].getD k 0)
/-- the machine's tables, and the two static tables of months -/
def sv_K (g : sv_G) (A : Nat → Prop) (U : State) : Prop := va_K g.1 vwCl (sv_tys g.2.1) U ∧ (∀ w ∈ sv_nest, va_Nw w U) ∧
  (va_Z "SaintsRoad$Days" "MONTH_AT_MOST" "[I" (.ref g.2.2.1) A U U.heap ∧ va_T .int g.2.2.1 12 sv_mon A U U.heap) ∧ va_Z "SaintsRoad$Days" "MONTH_START" "[I" (.ref g.2.2.2) A U U.heap ∧ va_T .int g.2.2.2 12 sv_mst A U U.heap
theorem sv_nestW {w : Cond} (hw : sv_isNest w = true) {s U : State} (hW : s.WarmedH U.vm) (h : va_Nw w s) : va_Nw w U := by
  cases w <;> first | exact va_Nw.warmF hW h | exact va_Nw.warmM hW h | cases hw
theorem sv_nestS {w : Cond} (hw : sv_isNest w = true) {s U : State} (hW : s.vm = U.vm) (h : va_Nw w s) : va_Nw w U := by
  cases w <;> first | exact va_Nw.same rfl hW h | cases hw
theorem sv_K.warm {g : sv_G} {A : Nat → Prop} {s U : State} (h : sv_K g A s) (hW : s.WarmedH U.vm) (hq : ∀ a : Nat, a < s.heap.size → ¬ A a → U.heap[a]? = s.heap[a]?) : sv_K g A U :=
  ⟨va_K.moved hW.alike h.1, fun w hw => sv_nestW (List.mem_filter.mp hw).2 hW (h.2.1 w hw), ⟨(va_Z.moved hW.alike h.2.2.1.1).kept hq, (va_T.moved hW.alike h.2.2.1.2).kept hq⟩, (va_Z.moved hW.alike h.2.2.2.1).kept hq, (va_T.moved hW.alike h.2.2.2.2).kept hq⟩
theorem sv_K.calling {g : sv_G} {A : Nat → Prop} {U : State} {gf : JFrame} {mk : MethodId} {a : Array Value} (h : sv_K g A U) : sv_K g A (U.calling gf mk a) :=
  ⟨va_K.moved (u := U) (U := U.calling gf mk a) (Vm.Alike.refl U.vm) h.1, fun w hw => sv_nestS (s := U) (U := U.calling gf mk a) (List.mem_filter.mp hw).2 rfl (h.2.1 w hw), ⟨va_Z.moved (u := U) (U := U.calling gf mk a) (Vm.Alike.refl U.vm) h.2.2.1.1, va_T.moved (u := U) (U := U.calling gf mk a) (Vm.Alike.refl U.vm) h.2.2.1.2⟩, va_Z.moved (u := U) (U := U.calling gf mk a) (Vm.Alike.refl U.vm) h.2.2.2.1, va_T.moved (u := U) (U := U.calling gf mk a) (Vm.Alike.refl U.vm) h.2.2.2.2⟩
def sv_C (g : sv_G) (A : Nat → Prop) (own : String) (cc : ByteArray) (nL : Nat) (p : Program) (s : State) (m : MethodId) (args : Array Value) (meth : Method) (c : Code) : Prop :=
  p.tables.exec = Jvm.exec ∧ c.code = cc ∧ c.maxLocals = nL ∧ s.vm.findClass own = some m.cls ∧ (∀ w ∈ lw_good, w.before args s = true) ∧ sv_K g A s ∧ meth.locks = false
section SVR
variable {p : Program} {l : Launch} {e : Env} {R : Room} {s : State} {m : MethodId} {args : Array Value} {below : List Frame} {meth : Method} {c : Code} {cells slots : Nat} {Q : State → Prop}
variable {cc : ByteArray} {pc nL : Nat} {A : Nat → Prop} {lv lv' : sv_L} {st st' rest : List sv_T} {g : sv_G} {own : String} {ty : Nat → Nat} {σ : Nat → Nat → Int}
theorem sv_gf (C : sv_C g A own cc nL p s m args meth c) {a ci k index : Nat} {r : vw_C} {v : sv_T} (hd : decode cc pc = .ok (.getfield index, 3)) (hk : sv_kT (ty a) = some (.inl ci)) (hr : vwCl[ci]? = some r) (hkn : k < r.2.2) (hw : Cond.fieldLink own index (r.2.1 k).1 (r.2.1 k).2.1 (r.2.1 k).2.2.1 ∈ lw_good) (hv : sv_of (sv_ft ci k) (σ a k) = v)
    (kk : sv_V p l e R s m args below meth c nL A cells slots Q (sv_H g ty σ) (pc + 3) lv (v :: rest)) : sv_V p l e R s m args below meth c nL A cells slots Q (sv_H g ty σ) pc lv (sv_r a :: rest) := by
  intro H locs ls hH hS hl
  obtain ⟨hx, hb, hml, hown, hts, hK, hlk⟩ := C
  have h1 := hH a
  rw [hk] at h1
  obtain ⟨r', hr', cell, q1, q2, q3, q4⟩ := h1
  cases hr.symm.trans hr'
  obtain ⟨hS', hfc, kC, hkC, hkind⟩ := hK.1.1 ci _ hr
  obtain ⟨cf, kf, fi, f, hi, hsl⟩ := hS' k hkn
  refine W.getf hx hb hown (hts _ hw) hi (u_facts hfc hkC (u_lays hts (sv_cls hr).1 hkn) hi).1 q1 (by rw [q3]; exact fun h => by cases h) (v := sv_den v) ?_ rfl rfl hd (kk H locs ls hH hS hl)
  rw [hsl, q4 k hkn, ← hv, sv_of_den]
/-- what the machine may store in a field: a number in its type's range -/
theorem sv_nar {t : FieldType} {z : Int} (ht : t = .int ∨ t = .boolean ∨ t = .byte ∨ t = .long ∨ (∃ n, t = .object n) ∨ ∃ x, t = .array x) (h : sv_rg t z) : narrow t (sv_dv t z) = sv_dv t z ∧ fits t (sv_dv t z) = true := by
  rcases ht with rfl | rfl | rfl | rfl | ⟨n, rfl⟩ | ⟨x, rfl⟩
  · exact ⟨rfl, rfl⟩
  · have : z = 0 ∨ z = 1 := by have := h.1; have := h.2; omega
    rcases this with rfl | rfl <;> exact ⟨by decide, by decide⟩
  · have hb : (Int32.ofInt z).toInt8.toInt32 = Int32.ofInt z := by
      rw [← Int32.toInt_inj, Int8.toInt_toInt32, Int32.toInt_toInt8, sv_oi ⟨by have := h.1; omega, by have := h.2; omega⟩]
      exact Int.bmod_eq_of_le (by have := h.1; omega) (by have := h.2; omega)
    have e1 := pk_nb (Int32.ofInt z)
    have e2 := pk_fb (Int32.ofInt z)
    rw [hb] at e1 e2
    exact ⟨e1, e2⟩
  · exact ⟨rfl, rfl⟩
  · rcases sv_rf_or z with e | ⟨a, e⟩ <;> simp only [sv_dv, e] <;> exact ⟨rfl, rfl⟩
  · rcases sv_rf_or z with e | ⟨a, e⟩ <;> simp only [sv_dv, e] <;> exact ⟨rfl, rfl⟩
theorem sv_H_up {H H' : Heap} {a ci k : Nat} {r : vw_C} {z : Int} (hH : sv_H g ty σ H) (hk : sv_kT (ty a) = some (.inl ci)) (hr : vwCl[ci]? = some r) (hn : t_OB a (g.1.1 ci) r.2.2 (g.1.2 ci) H' (updV (fun j => sv_dv (sv_ft ci j) (σ a j)) k (sv_dv (sv_ft ci k) z))) (e3 : ∀ q, q ≠ a → H'[q]? = H[q]?) : sv_H g ty (sv_up σ a k z) H' := by
  intro b
  by_cases e : b = a
  · subst e
    rw [hk]
    refine ⟨r, hr, hn.to fun j hj => ?_⟩
    by_cases e2 : j = k
    · subst e2; simp [updV, sv_up_s]
    · simp [updV, e2, sv_up_k e2]
  · rw [sv_up_row e]
    exact (hH b).kept (e3 b e)
theorem sv_pf (C : sv_C g A own cc nL p s m args meth c) {a ci k index : Nat} {r : vw_C} {v : sv_T} {z : Int} (hd : decode cc pc = .ok (.putfield index, 3)) (hk : sv_kT (ty a) = some (.inl ci)) (hr : vwCl[ci]? = some r) (hkn : k < r.2.2) (hfin : (r.2.1 k).2.2.2 = false) (hw : Cond.fieldLink own index (r.2.1 k).1 (r.2.1 k).2.1 (r.2.1 k).2.2.1 ∈ lw_good) (hv : sv_of (sv_ft ci k) z = v)
    (ht : sv_ft ci k = .int ∨ sv_ft ci k = .boolean ∨ sv_ft ci k = .byte ∨ sv_ft ci k = .long ∨ (∃ n, sv_ft ci k = .object n) ∨ ∃ x, sv_ft ci k = .array x) (hz : sv_rg (sv_ft ci k) z) (hA : A a) (hok : sv_ok ty σ)
    (kk : sv_ok ty (sv_up σ a k z) → sv_V p l e R s m args below meth c nL A cells slots Q (sv_H g ty (sv_up σ a k z)) (pc + 3) lv rest) : sv_V p l e R s m args below meth c nL A cells slots Q (sv_H g ty σ) pc lv (v :: sv_r a :: rest) := by
  intro H locs ls hH hS hl
  obtain ⟨hx, hb, hml, hown, hts, hK, hlk⟩ := C
  have h1 := hH a
  rw [hk] at h1
  obtain ⟨r', hr', cell, q1, q2, q3, q4⟩ := h1
  cases hr.symm.trans hr'
  obtain ⟨cw, cn, ct⟩ := sv_cls hr
  have hap := va_apart (own := own) hts cw (sv_ft ci) ct cn hK.1 hr
  obtain ⟨hS', hfc, kC, hkC, hkind⟩ := hK.1.1 ci _ hr
  obtain ⟨cf, kf, fi, f, hi, hsl⟩ := hS' k hkn
  have hlay := hts _ (cw _ (u_in_lay hkn))
  unfold u_lay at hlay
  rw [if_neg (by rw [hfin]; decide)] at hlay
  have hst := (u_facts hfc hkC (u_lays hts cw hkn) hi).1
  obtain ⟨n1, n2⟩ := sv_nar ht hz
  have h6 := u_store hfc hkC hkind hlay hi (ct k hkn) n1 n2
  subst hv
  rw [List.map_cons, sv_of_den]
  refine W.putK hx hb (f := f) ⟨hown, hts _ hw, ⟨_, _, _, hi⟩, hst⟩ (by rw [q2]; exact h6) q1 q3 (by rw [hsl]; exact k2_hasslot (q4 k hkn)) rfl rfl hd fun H' e1 e2 e3 => ?_
  rw [hsl] at e1 ⊢
  exact kk (sv_ok_up hok (by rw [hk]; exact hz)) H' _ ls (sv_H_up hH hk hr ⟨_, e1, q2, q3, t_set q4 hap hkn _⟩ e3) (hS.put e2 e3 hA) hl
/-- an array's element -/
theorem sv_idx {i : Int} {n : Nat} (h0 : 0 ≤ i) (h1 : i < n) (hn : n < 2147483648) : vp_in (Int32.ofInt i) n ∧ (Int32.ofInt i).toNatClampNeg = i.toNat := by
  have e : (Int32.ofInt i).toInt = i := sv_oi ⟨by omega, by omega⟩
  refine ⟨vp_in_iff.mpr ⟨by rw [e]; exact h0, by rw [e]; exact h1⟩, ?_⟩
  rw [← Int32.toNat_toInt, e]
theorem sv_isA {t : FieldType} {U : State} (h : sv_K g A U) (ht : t = .int ∨ t = .byte ∨ t = .boolean ∨ t = .object "SaintsRoad$Feast" ∨ t = .object "SaintsRoad$Place" ∨ t = .object "SaintsRoad$Procession") (n : Nat) (f : Nat → Value) : U.isArrayOf (arrV (g.2.1 t) n f) t := by
  rcases ht with rfl | rfl | rfl | rfl | rfl | rfl
  · exact (h.1.2 0 _ rfl).1 n f
  · exact (h.1.2 1 _ rfl).1 n f
  · exact (h.1.2 2 _ rfl).1 n f
  · exact (h.1.2 3 _ rfl).1 n f
  · exact (h.1.2 4 _ rfl).1 n f
  · exact (h.1.2 5 _ rfl).1 n f
theorem sv_rd {a n : Nat} {t : FieldType} {H : Heap} {i : Int} (hH : sv_H g ty σ H) (hk : sv_kT (ty a) = some (.inr (t, n))) (h0 : 0 ≤ i) (h1 : i < n) (hn : n < 2147483648) :
    H[a]? = some (arrV (g.2.1 t) n (fun i => sv_dv t (σ a i))) ∧ ¬ (Int32.ofInt i < 0 ∨ (arrV (g.2.1 t) n (fun i => sv_dv t (σ a i))).slots.size ≤ (Int32.ofInt i).toNatClampNeg) ∧ (arrV (g.2.1 t) n (fun i => sv_dv t (σ a i))).slots[(Int32.ofInt i).toNatClampNeg]? = some (sv_dv t (σ a i.toNat)) := by
  have h2 := hH a
  rw [hk] at h2
  obtain ⟨e1, e2⟩ := sv_idx h0 h1 hn
  refine ⟨h2, by rw [arrV_size]; exact e1, ?_⟩
  rw [e2, arrV_read _ _ (by omega)]
theorem sv_ia (C : sv_C g A own cc nL p s m args meth c) {a n : Nat} {i : Int} (hd : decode cc pc = .ok (.iaload, 1)) (hk : sv_kT (ty a) = some (.inr (.int, n))) (hn : n < 2147483648) (h0 : 0 ≤ i) (h1 : i < n)
    (kk : sv_V p l e R s m args below meth c nL A cells slots Q (sv_H g ty σ) (pc + 1) lv (sv_i (σ a i.toNat) :: rest)) : sv_V p l e R s m args below meth c nL A cells slots Q (sv_H g ty σ) pc lv (.inl i :: sv_r a :: rest) := by
  intro H locs ls hH hS hl
  obtain ⟨hx, hb, hml, hown, hts, hK, hlk⟩ := C
  obtain ⟨e1, e2, e3⟩ := sv_rd hH hk h0 h1 hn
  exact W.iald hx hb e1 (sv_isA hK (Or.inl rfl) _ _) (fun q => by cases q) e2 e3 rfl rfl hd (kk H locs ls hH hS hl)
theorem sv_ba (C : sv_C g A own cc nL p s m args meth c) {a n : Nat} {i : Int} (hd : decode cc pc = .ok (.baload, 1)) (hk : sv_kT (ty a) = some (.inr (.byte, n))) (hn : n < 2147483648) (h0 : 0 ≤ i) (h1 : i < n)
    (kk : sv_V p l e R s m args below meth c nL A cells slots Q (sv_H g ty σ) (pc + 1) lv (sv_i (σ a i.toNat) :: rest)) : sv_V p l e R s m args below meth c nL A cells slots Q (sv_H g ty σ) pc lv (.inl i :: sv_r a :: rest) := by
  intro H locs ls hH hS hl
  obtain ⟨hx, hb, hml, hown, hts, hK, hlk⟩ := C
  obtain ⟨e1, e2, e3⟩ := sv_rd hH hk h0 h1 hn
  exact W.bald hx hb e1 (sv_isA hK (Or.inr (Or.inl rfl)) _ _) (fun q => by cases q) e2 e3 rfl rfl hd (kk H locs ls hH hS hl)
theorem sv_za (C : sv_C g A own cc nL p s m args meth c) {a n : Nat} {i : Int} (hd : decode cc pc = .ok (.baload, 1)) (hk : sv_kT (ty a) = some (.inr (.boolean, n))) (hn : n < 2147483648) (h0 : 0 ≤ i) (h1 : i < n)
    (kk : sv_V p l e R s m args below meth c nL A cells slots Q (sv_H g ty σ) (pc + 1) lv (sv_i (σ a i.toNat) :: rest)) : sv_V p l e R s m args below meth c nL A cells slots Q (sv_H g ty σ) pc lv (.inl i :: sv_r a :: rest) := by
  intro H locs ls hH hS hl
  obtain ⟨hx, hb, hml, hown, hts, hK, hlk⟩ := C
  obtain ⟨e1, e2, e3⟩ := sv_rd hH hk h0 h1 hn
  exact W.zald hx hb e1 (sv_isA hK (Or.inr (Or.inr (Or.inl rfl))) _ _) (fun q => by cases q) e2 e3 rfl rfl hd (kk H locs ls hH hS hl)
theorem sv_aa (C : sv_C g A own cc nL p s m args meth c) {a n : Nat} {i : Int} {N : String} (hN : N = "SaintsRoad$Feast" ∨ N = "SaintsRoad$Place" ∨ N = "SaintsRoad$Procession") (hd : decode cc pc = .ok (.aaload, 1)) (hk : sv_kT (ty a) = some (.inr (.object N, n))) (hn : n < 2147483648) (h0 : 0 ≤ i) (h1 : i < n)
    (kk : sv_V p l e R s m args below meth c nL A cells slots Q (sv_H g ty σ) (pc + 1) lv (sv_a (σ a i.toNat) :: rest)) : sv_V p l e R s m args below meth c nL A cells slots Q (sv_H g ty σ) pc lv (.inl i :: sv_r a :: rest) := by
  intro H locs ls hH hS hl
  obtain ⟨hx, hb, hml, hown, hts, hK, hlk⟩ := C
  obtain ⟨e1, e2, e3⟩ := sv_rd hH hk h0 h1 hn
  exact W.aald hx hb e1 (sv_isA hK (by rcases hN with rfl | rfl | rfl <;> simp) _ _) rfl (fun q => by cases q) e2 e3 rfl rfl hd (kk H locs ls hH hS hl)
theorem sv_al (C : sv_C g A own cc nL p s m args meth c) {a n : Nat} {t : FieldType} (ht : t = .int ∨ t = .byte ∨ t = .boolean ∨ t = .object "SaintsRoad$Feast" ∨ t = .object "SaintsRoad$Place" ∨ t = .object "SaintsRoad$Procession") (hd : decode cc pc = .ok (.arraylength, 1)) (hk : sv_kT (ty a) = some (.inr (t, n)))
    (kk : sv_V p l e R s m args below meth c nL A cells slots Q (sv_H g ty σ) (pc + 1) lv (sv_i (n : Int) :: rest)) : sv_V p l e R s m args below meth c nL A cells slots Q (sv_H g ty σ) pc lv (sv_r a :: rest) := by
  intro H locs ls hH hS hl
  obtain ⟨hx, hb, hml, hown, hts, hK, hlk⟩ := C
  have h2 := hH a
  rw [hk] at h2
  exact W.alen (n := Int32.ofInt n) hx hb h2 (sv_isA hK ht _ _) (by rw [arrV_size]; rfl) rfl rfl hd (kk H locs ls hH hS hl)
theorem sv_H_st {H H' : Heap} {a n j : Nat} {t : FieldType} {z : Int} (hH : sv_H g ty σ H) (hk : sv_kT (ty a) = some (.inr (t, n))) (e1 : H'[a]? = some ((arrV (g.2.1 t) n (fun i => sv_dv t (σ a i))).setSlot j (sv_dv t z))) (e3 : ∀ q, q ≠ a → H'[q]? = H[q]?) : sv_H g ty (sv_up σ a j z) H' := by
  intro b
  by_cases e : b = a
  · subst e
    rw [hk]
    show H'[b]? = _
    rw [e1, arrV_store]
    congr 2
    funext q
    by_cases e2 : q = j
    · subst e2; simp [updV, sv_up_s]
    · simp [updV, e2, sv_up_k e2]
  · rw [sv_up_row e]
    exact (hH b).kept (e3 b e)
theorem sv_is (C : sv_C g A own cc nL p s m args meth c) {a n : Nat} {i z : Int} (hd : decode cc pc = .ok (.iastore, 1)) (hk : sv_kT (ty a) = some (.inr (.int, n))) (hn : n < 2147483648) (h0 : 0 ≤ i) (h1 : i < n) (hz : sv_in z) (hA : A a) (hok : sv_ok ty σ)
    (kk : sv_ok ty (sv_up σ a i.toNat z) → sv_V p l e R s m args below meth c nL A cells slots Q (sv_H g ty (sv_up σ a i.toNat z)) (pc + 1) lv rest) : sv_V p l e R s m args below meth c nL A cells slots Q (sv_H g ty σ) pc lv (.inl z :: .inl i :: sv_r a :: rest) := by
  intro H locs ls hH hS hl
  obtain ⟨hx, hb, hml, hown, hts, hK, hlk⟩ := C
  obtain ⟨e1, e2, e3⟩ := sv_rd hH hk h0 h1 hn
  refine W.iast hx hb e1 (sv_isA hK (Or.inl rfl) _ _) (fun q => by cases q) e2 rfl rfl hd fun H' f1 f2 f3 => ?_
  rw [(sv_idx h0 h1 hn).2] at f1 ⊢
  exact kk (sv_ok_up hok (by rw [hk]; exact hz)) H' _ ls (sv_H_st hH hk f1 f3) (hS.put f2 f3 hA) hl
theorem sv_bs (C : sv_C g A own cc nL p s m args meth c) {a n : Nat} {i z : Int} (hd : decode cc pc = .ok (.bastore, 1)) (hk : sv_kT (ty a) = some (.inr (.byte, n))) (hn : n < 2147483648) (h0 : 0 ≤ i) (h1 : i < n) (hz : -128 ≤ z ∧ z ≤ 127) (hA : A a) (hok : sv_ok ty σ)
    (kk : sv_ok ty (sv_up σ a i.toNat z) → sv_V p l e R s m args below meth c nL A cells slots Q (sv_H g ty (sv_up σ a i.toNat z)) (pc + 1) lv rest) : sv_V p l e R s m args below meth c nL A cells slots Q (sv_H g ty σ) pc lv (.inl z :: .inl i :: sv_r a :: rest) := by
  intro H locs ls hH hS hl
  obtain ⟨hx, hb, hml, hown, hts, hK, hlk⟩ := C
  obtain ⟨e1, e2, e3⟩ := sv_rd hH hk h0 h1 hn
  refine W.bast hx hb e1 (sv_isA hK (Or.inr (Or.inl rfl)) _ _) (fun q => by cases q) e2 rfl rfl hd fun H' f1 f2 f3 => ?_
  rw [(sv_idx h0 h1 hn).2, show narrow .byte (.int (Int32.ofInt z)) = sv_dv .byte z from (sv_nar (t := .byte) (by simp) hz).1] at f1
  rw [(sv_idx h0 h1 hn).2]
  exact kk (sv_ok_up hok (by rw [hk]; exact hz)) H' _ ls (sv_H_st hH hk f1 f3) (hS.put f2 f3 hA) hl
theorem sv_zs (C : sv_C g A own cc nL p s m args meth c) {a n : Nat} {i z : Int} (hd : decode cc pc = .ok (.bastore, 1)) (hk : sv_kT (ty a) = some (.inr (.boolean, n))) (hn : n < 2147483648) (h0 : 0 ≤ i) (h1 : i < n) (hz : 0 ≤ z ∧ z ≤ 1) (hA : A a) (hok : sv_ok ty σ)
    (kk : sv_ok ty (sv_up σ a i.toNat z) → sv_V p l e R s m args below meth c nL A cells slots Q (sv_H g ty (sv_up σ a i.toNat z)) (pc + 1) lv rest) : sv_V p l e R s m args below meth c nL A cells slots Q (sv_H g ty σ) pc lv (.inl z :: .inl i :: sv_r a :: rest) := by
  intro H locs ls hH hS hl
  obtain ⟨hx, hb, hml, hown, hts, hK, hlk⟩ := C
  obtain ⟨e1, e2, e3⟩ := sv_rd hH hk h0 h1 hn
  refine W.zast hx hb e1 (sv_isA hK (Or.inr (Or.inr (Or.inl rfl))) _ _) (fun q => by cases q) e2 rfl rfl hd fun H' f1 f2 f3 => ?_
  rw [(sv_idx h0 h1 hn).2, show narrow .boolean (.int (Int32.ofInt z)) = sv_dv .boolean z from (sv_nar (t := .boolean) (by simp) hz).1] at f1
  rw [(sv_idx h0 h1 hn).2]
  exact kk (sv_ok_up hok (by rw [hk]; exact hz)) H' _ ls (sv_H_st hH hk f1 f3) (hS.put f2 f3 hA) hl
end SVR
end
section
/-! contracts over the store, entry, calls, ends -/
def sv_ret : List sv_T → Option Value
  | [] => none
  | v :: _ => some (sv_den v)
def sv_P (g : sv_G) (A : Nat → Prop) (ty : Nat → Nat) (σ : Nat → Nat → Int) (av : List sv_T) : Array Value → State → Prop := va_Pc (av.map sv_den) (fun U => sv_H g ty σ U.heap ∧ sv_K g A U)
def sv_Q (g : sv_G) (A : Nat → Prop) (ty : Nat → Nat) (po : List sv_T → (Nat → Nat → Int) → Prop) : Array Value → State → Outcome → State → Prop := fun _ st oc t =>
  ∃ (r : List sv_T) (σ' : Nat → Nat → Int), oc = .returned (sv_ret r) ∧ r.length ≤ 1 ∧ po r σ' ∧ sv_ok ty σ' ∧ sv_H g ty σ' t.heap ∧ va_F A st t
/-- a method's contract: with these arguments over this store it returns, and then po holds of the answer and the store; no cell is made -/
def sv_M (l : Launch) (y : MethodName) (cc : ByteArray) (n : Nat) (ret : Option FieldType) (rm : Room) (g : sv_G) (A : Nat → Prop) (ty : Nat → Nat) (σ : Nat → Nat → Int) (av : List sv_T) (po : List sv_T → (Nat → Nat → Int) → Prop) : Prop :=
  Met l y (Cond.code y cc n ret :: lw_good) rm (sv_P g A ty σ av) (sv_Q g A ty po) 0 0 A
def sv_E (p : Program) (l : Launch) (e : Env) (R : Room) (s : State) (m : MethodId) (args : Array Value) (below : List Frame) (meth : Method) (c : Code) (nL : Nat) (g : sv_G) (A : Nat → Prop) (ty : Nat → Nat) (po : List sv_T → (Nat → Nat → Int) → Prop) (σ : Nat → Nat → Int) (pc : Nat) (lv : sv_L) (st : List sv_T) : Prop :=
  sv_V p l e R s m args below meth c nL A 0 0 (MQ below (sv_Q g A ty po) args s 0 0 A) (sv_H g ty σ) pc lv st
def sv_av : Nat → List sv_T → sv_L
  | _, [] => []
  | i, v :: r => (i, v) :: sv_av (if sv_two v then i + 2 else i + 1) r
theorem sv_av_eq (i : Nat) (av : List sv_T) : lv_args i (av.map sv_den) = sv_lm (sv_av i av) := by
  induction av generalizing i with
  | nil => rfl
  | cons v r ih =>
    simp only [List.map_cons, lv_args, sv_av, sv_lm]
    rw [ih]
    cases h : sv_two v with
    | true => simp [sv_cat2 h, sv_lm]
    | false => simp [sv_cat1 h, sv_lm]
theorem sv_enter {l : Launch} {y : MethodName} {cc : ByteArray} {n : Nat} {ret : Option FieldType} {fr lo : Nat} {g : sv_G} {A : Nat → Prop} {ty : Nat → Nat} {σ : Nat → Nat → Int} {av : List sv_T} {po : List sv_T → (Nat → Nat → Int) → Prop} (hy : plainName y.cls = true) (hn : (lg_sl (av.map sv_den)).length ≤ n)
    (body : ∀ p e s m args below meth c, sv_C g A y.cls cc n p s m args meth c → meth.sig.returnType = ret → sv_E p l e { frames := fr, cells := 0, slots := 0, locals := lo } s m args below meth c n g A ty po σ 0 (sv_av 0 av) []) : sv_M l y cc n ret { frames := fr, cells := 0, slots := 0, locals := lo } g A ty σ av po := by
  refine Met.ofW (cc := cc) (maxL := n) (ret := ret) hy rfl ?_
  intro p e s m args below meth c s₁ B hml hv
  obtain ⟨rfl, hH, hK⟩ := hv
  have hts := atoms_spec (ws := Cond.code y cc n ret :: lw_good) B.pre
  have hown : s.vm.findClass y.cls = some m.cls := findClass_of_methodNamed B.named
  have hl := lv_entry (av.map sv_den) (n := n) hn
  rw [lg_entry_eq]
  rw [sv_av_eq] at hl
  exact body p e s m _ below meth c ⟨B.exec, B.bytes, hml, hown, fun w hw => hts w (List.mem_cons_of_mem _ hw), hK, B.notSynchronized⟩ B.returns s.heap [] _ hH va_S.rf hl
section SVC
variable {p : Program} {l : Launch} {e : Env} {R : Room} {s : State} {m : MethodId} {args : Array Value} {below : List Frame} {meth : Method} {c : Code} {cells slots : Nat} {Q : State → Prop}
variable {cc : ByteArray} {pc nL : Nat} {A : Nat → Prop} {lv lv' : sv_L} {st st' rest : List sv_T} {g : sv_G} {own : String} {ty : Nat → Nat} {σ : Nat → Nat → Int} {po : List sv_T → (Nat → Nat → Int) → Prop}
theorem sv_qq {H : Heap} {locs : List Loc} {r : List sv_T} (hok : sv_ok ty σ) (hr : r.length ≤ 1) (hpo : po r σ) (hH : sv_H g ty σ H) (hS : va_S A s.heap H locs) (t : State) (ht : t.heap = H) : sv_Q g A ty po args s (.returned (sv_ret r)) t :=
  ⟨r, σ, rfl, hr, hpo, hok, by rw [ht]; exact hH, hS.F ht⟩
theorem sv_iret (C : sv_C g A own cc nL p s m args meth c) (hr : meth.sig.returnType = some .int) {x : Int} (hd : decode cc pc = .ok (.ireturn, 1)) (hok : sv_ok ty σ) (hpo : po [sv_i x] σ) : sv_E p l e R s m args below meth c nL g A ty po σ pc lv [sv_i x] :=
  fun H locs ls hH hS hl => W.iret C.1 C.2.1 hr (fun t ht _ => sv_qq (r := [sv_i x]) hok (Nat.le_refl 1) hpo hH hS t ht) hS.2.2 hd C.2.2.2.2.2.2
theorem sv_zret (C : sv_C g A own cc nL p s m args meth c) (hr : meth.sig.returnType = some .boolean) {x : Int} (hx : x = 0 ∨ x = 1) (hd : decode cc pc = .ok (.ireturn, 1)) (hok : sv_ok ty σ) (hpo : po [sv_i x] σ) : sv_E p l e R s m args below meth c nL g A ty po σ pc lv [sv_i x] :=
  fun H locs ls hH hS hl => W.zret C.1 C.2.1 hr (by rcases hx with rfl | rfl <;> decide) (fun t ht _ => sv_qq (r := [sv_i x]) hok (Nat.le_refl 1) hpo hH hS t ht) hS.2.2 hd C.2.2.2.2.2.2
theorem sv_vret (C : sv_C g A own cc nL p s m args meth c) (hr : meth.sig.returnType = none) (hd : decode cc pc = .ok (.return_, 1)) (hok : sv_ok ty σ) (hpo : po [] σ) : sv_E p l e R s m args below meth c nL g A ty po σ pc lv [] :=
  fun H locs ls hH hS hl => W.vret C.1 C.2.1 hr (fun t ht _ => sv_qq (r := []) hok (Nat.zero_le 1) hpo hH hS t ht) hS.2.2 hd C.2.2.2.2.2.2
theorem sv_aret (C : sv_C g A own cc nL p s m args meth c) {rt : FieldType} (hr : meth.sig.returnType = some rt) (hrt : (∃ n, rt = .object n) ∨ ∃ t, rt = .array t) {z : Int} (hd : decode cc pc = .ok (.areturn, 1)) (hok : sv_ok ty σ) (hpo : po [sv_a z] σ) : sv_E p l e R s m args below meth c nL g A ty po σ pc lv [sv_a z] :=
  fun H locs ls hH hS hl => W.aret C.1 C.2.1 hr hrt (sv_rf_or z) (fun t ht _ => sv_qq (r := [sv_a z]) hok (Nat.le_refl 1) hpo hH hS t ht) hS.2.2 hd C.2.2.2.2.2.2
theorem sv_Pblind {av : List sv_T} : FrameBlind (sv_P g A ty σ av) := fun a U gf mk q => ⟨q.1, q.2.1, q.2.2.calling⟩
theorem sv_Pat {H : Heap} {locs : List Loc} {av : List sv_T} (hK : sv_K g A s) (hH : sv_H g ty σ H) (hS : va_S A s.heap H locs) (U : State) (hU : U.heap = H) (hW : s.WarmedH U.vm) : sv_P g A ty σ av (av.map sv_den).toArray U :=
  ⟨rfl, by rw [hU]; exact hH, hK.warm hW (fun a h1 h2 => by rw [hU]; exact hS.2.1 a h1 h2)⟩
theorem sv_cont {mc0 : Nat} {lv : sv_L} {pc0 : Nat} {H : Heap} {locs : List Loc} {ls : Array Slot} {av : Array Value} {po' : List sv_T → (Nat → Nat → Int) → Prop} {st0 : List Value} (hr : va_Run p l e R s m args below meth c H locs cells slots 0 0 (F0 m pc ls st0) (rest.map sv_den) (sv_Q g A ty po' av) A) (hS : va_S A s.heap H locs) (hl : lv_has ls nL (sv_lm lv))
    (kk : ∀ (r : List sv_T) (σ' : Nat → Nat → Int), po' r σ' → sv_ok ty σ' → sv_V p l e R s m args below meth c nL A cells slots Q (sv_H g ty σ') (pc + 3) lv (r ++ rest)) : W p l e R s m args below meth c H locs cells slots Q (F0 m pc ls st0) := by
  intro T hT X
  obtain ⟨v, st₀, t, T', L, h0, X', hL, e1, e2, ⟨r, σ', hv, hlen, hp, hok, hH', hz, hk⟩, stp⟩ := hr T hT X
  rw [h0] at hz hk
  have hv' : v = sv_ret r := Outcome.returned.inj hv
  have hS' : va_S A s.heap T'.heap (locs ++ L) := ⟨Nat.le_trans hS.1 (by rw [e1]; exact hz), fun q h1 h2 => by rw [e1, hk q (Nat.lt_of_lt_of_le h1 hS.1) h2]; exact hS.2.1 q h1 h2, fun q hq => by
    rcases List.mem_append.mp hq with h | h
    · exact hS.2.2 q h
    · exact hL q h⟩
  obtain ⟨t2, a1, b1⟩ := kk r σ' hp hok T'.heap (locs ++ L) ls (by rw [e1]; exact hH') hS' hl T' rfl X'
  refine ⟨t2, stp t2 ?_, b1⟩
  have hst : v.toList ++ rest.map sv_den = (r ++ rest).map sv_den := by
    rw [hv', List.map_append]
    match r, hlen with
    | [], _ => rfl
    | [x], _ => rfl
  show Steps p.tables e below (T'.setTop (F0 m (pc + 3) ls (v.toList ++ rest.map sv_den))) t2
  rw [hst]
  exact a1
/-- the words of a call: the code, the class's start, the name's form -/
abbrev sv_cb (R : Room) (y : MethodName) (bytes : ByteArray) (n : Nat) (ret : Option FieldType) (fr lo k : Nat) : Prop := Cond.code y bytes n ret ∈ lw_good ∧ Cond.initialized y.cls ∈ lw_good ∧ (y.cls ≠ "java/lang/invoke/MethodHandle" ∧ y.cls ≠ "java/lang/invoke/VarHandle" ∧ (parseMethodDescriptor y.desc).map (fun d => d.parameters.length) = some k) ∧ fr + 1 ≤ R.frames ∧ 8 + (n + 11) + lo ≤ R.locals
theorem sv_cB (C : sv_C g A own cc nL p s m args meth c) {y : MethodName} {bytes : ByteArray} {n : Nat} {ret : Option FieldType} {fr lo k index : Nat} (hb : sv_cb R y bytes n ret fr lo k) (hl : Cond.methodLink own index y ∈ lw_good) : CallB R s args own index y bytes n ret (Cond.code y bytes n ret :: lw_good) { frames := fr, cells := 0, slots := 0, locals := lo } 0 0 k :=
  callB_of k C.2.2.2.2.1 (sv_goodIn hb.1) rfl rfl rfl (C.2.2.2.2.1 _ hb.2.1) (C.2.2.2.2.1 _ hl) hb.2.2.1 ⟨hb.2.2.2.1, hb.2.2.2.2⟩
theorem sv_cN (C : sv_C g A own cc nL p s m args meth c) {y : MethodName} {bytes : ByteArray} {n : Nat} {ret : Option FieldType} {fr lo k index : Nat} {host : String} (hb : sv_cb R y bytes n ret fr lo k) (hl : Cond.methodLinkNest own index y host ∈ sv_nest) : va_CN R s args own index y host bytes n ret (Cond.code y bytes n ret :: lw_good) { frames := fr, cells := 0, slots := 0, locals := lo } 0 0 k :=
  va_cnB k C.2.2.2.2.1 (sv_goodIn hb.1) rfl rfl rfl (C.2.2.2.2.2.1.2.1 _ hl) (C.2.2.2.2.1 _ hb.2.1) hb.2.2.1 ⟨hb.2.2.2.1, hb.2.2.2.2⟩
theorem sv_rcv (C : sv_C g A own cc nL p s m args meth c) {a ci : Nat} {r : vw_C} {H : Heap} (hH : sv_H g ty σ H) (hk : sv_kT (ty a) = some (.inl ci)) (hr : vwCl[ci]? = some r) : ∃ cellB : Cell, H[a]? = some cellB ∧ cellB.vm.isStatics = false ∧ s.vm.findClass r.1 = some cellB.cls := by
  have h1 := hH a
  rw [hk] at h1
  obtain ⟨r', hr', cell, q1, q2, q3, q4⟩ := h1
  cases hr.symm.trans hr'
  obtain ⟨hS', hfc, kC, hkC, hkind⟩ := C.2.2.2.2.2.1.1.1 ci _ hr
  exact ⟨cell, q1, by rw [q3]; rfl, by rw [q2]; exact hfc⟩
theorem sv_room {ls : Array Slot} {st0 : List Value} (h : (rest.map fun v => (sv_den v).category).sum ≤ 8) : 2 * (F0 m pc ls st0).monitorRoom + ((rest.map sv_den).map fun v => v.category).sum ≤ 8 :=
  lv_room (by rw [List.map_map]; exact h)
/-- a call of an instance method of the receiver's own class -/
theorem sv_cv (C : sv_C g A own cc nL p s m args meth c) {y : MethodName} {bytes : ByteArray} {n : Nat} {ret : Option FieldType} {fr lo k index a ci : Nat} {r : vw_C} {as : List sv_T} {po' : List sv_T → (Nat → Nat → Int) → Prop} (hd : decode cc pc = .ok (.invokevirtual index, 3)) (hM : sv_M l y bytes n ret { frames := fr, cells := 0, slots := 0, locals := lo } g A ty σ (sv_r a :: as) po') (hb : sv_cb R y bytes n ret fr lo k) (hl : Cond.methodLink own index y ∈ lw_good) (hi : Cond.instanceMethod y ∈ lw_good) (hs : Cond.selects r.1 y y ∈ lw_good) (hk : sv_kT (ty a) = some (.inl ci)) (hr : vwCl[ci]? = some r) (hn : as.length = k) (hst : st = as.reverse ++ sv_r a :: rest) (hrm : (rest.map fun v => (sv_den v).category).sum ≤ 8) (hcs : cells ≤ R.cells ∧ slots ≤ R.slots)
    (kk : ∀ (r : List sv_T) (σ' : Nat → Nat → Int), po' r σ' → sv_ok ty σ' → sv_V p l e R s m args below meth c nL A cells slots Q (sv_H g ty σ') (pc + 3) lv (r ++ rest)) : sv_V p l e R s m args below meth c nL A cells slots Q (sv_H g ty σ) pc lv st := by
  intro H locs ls hH hS hll
  subst hst
  refine sv_cont (mc0 := 0) (pc0 := 0) (va_runV (b := a) (As := as.map sv_den) ⟨C.1, C.2.1, C.2.2.1, C.2.2.2.1, C.2.2.2.2.1⟩ hM ⟨sv_cB C hb hl, C.2.2.2.2.1 _ hi, C.2.2.2.2.1 _ hs⟩ ⟨sv_Pblind, sv_rcv C hH hk hr, fun U hU hW => sv_Pat (av := sv_r a :: as) C.2.2.2.2.2.1 hH hS U hU hW⟩ rfl (by rw [List.length_map]; exact hn) hll.1 (by simp [sv_den_r]) (sv_room hrm) hd hcs) hS hll kk
theorem sv_cs (C : sv_C g A own cc nL p s m args meth c) {y : MethodName} {bytes : ByteArray} {n : Nat} {ret : Option FieldType} {fr lo k index : Nat} {as : List sv_T} {po' : List sv_T → (Nat → Nat → Int) → Prop} (hd : decode cc pc = .ok (.invokestatic index, 3)) (hM : sv_M l y bytes n ret { frames := fr, cells := 0, slots := 0, locals := lo } g A ty σ as po') (hb : sv_cb R y bytes n ret fr lo k) (hl : Cond.methodLink own index y ∈ lw_good) (hi : Cond.static y ∈ lw_good) (hn : as.length = k) (hst : st = as.reverse ++ rest) (hrm : (rest.map fun v => (sv_den v).category).sum ≤ 8) (hcs : cells ≤ R.cells ∧ slots ≤ R.slots)
    (kk : ∀ (r : List sv_T) (σ' : Nat → Nat → Int), po' r σ' → sv_ok ty σ' → sv_V p l e R s m args below meth c nL A cells slots Q (sv_H g ty σ') (pc + 3) lv (r ++ rest)) : sv_V p l e R s m args below meth c nL A cells slots Q (sv_H g ty σ) pc lv st := by
  intro H locs ls hH hS hll
  subst hst
  refine sv_cont (mc0 := 0) (pc0 := 0) (va_runS (As := as.map sv_den) ⟨C.1, C.2.1, C.2.2.1, C.2.2.2.1, C.2.2.2.2.1⟩ hM ⟨sv_cB C hb hl, C.2.2.2.2.1 _ hi⟩ ⟨sv_Pblind, fun U hU hW => sv_Pat C.2.2.2.2.2.1 hH hS U hU hW⟩ rfl (by rw [List.length_map]; exact hn) hll.1 (by simp) (sv_room hrm) hd hcs) hS hll kk
theorem sv_csN (C : sv_C g A own cc nL p s m args meth c) {y : MethodName} {bytes : ByteArray} {n : Nat} {ret : Option FieldType} {fr lo k index : Nat} {host : String} {as : List sv_T} {po' : List sv_T → (Nat → Nat → Int) → Prop} (hd : decode cc pc = .ok (.invokestatic index, 3)) (hM : sv_M l y bytes n ret { frames := fr, cells := 0, slots := 0, locals := lo } g A ty σ as po') (hb : sv_cb R y bytes n ret fr lo k) (hl : Cond.methodLinkNest own index y host ∈ sv_nest) (hi : Cond.static y ∈ lw_good) (hn : as.length = k) (hst : st = as.reverse ++ rest) (hrm : (rest.map fun v => (sv_den v).category).sum ≤ 8) (hcs : cells ≤ R.cells ∧ slots ≤ R.slots)
    (kk : ∀ (r : List sv_T) (σ' : Nat → Nat → Int), po' r σ' → sv_ok ty σ' → sv_V p l e R s m args below meth c nL A cells slots Q (sv_H g ty σ') (pc + 3) lv (r ++ rest)) : sv_V p l e R s m args below meth c nL A cells slots Q (sv_H g ty σ) pc lv st := by
  intro H locs ls hH hS hll
  subst hst
  refine sv_cont (mc0 := 0) (pc0 := 0) (va_runSN (As := as.map sv_den) ⟨C.1, C.2.1, C.2.2.1, C.2.2.2.1, C.2.2.2.2.1⟩ hM ⟨sv_cN C hb hl, C.2.2.2.2.1 _ hi, trivial⟩ ⟨sv_Pblind, fun U hU hW => sv_Pat C.2.2.2.2.2.1 hH hS U hU hW⟩ rfl (by rw [List.length_map]; exact hn) hll.1 (by simp) (sv_room hrm) hd hcs) hS hll kk
/-- the two tables of months -/
theorem sv_tab {i : Int} {f : Nat → Value} {t : Nat} {z : Int} (C : sv_C g A own cc nL p s m args meth c) (hT : va_T .int t 12 f A s s.heap) (hd : decode cc pc = .ok (.iaload, 1)) (h0 : 0 ≤ i) (h1 : i < 12) (hv : f i.toNat = .int (Int32.ofInt z)) {Hp : Heap → Prop}
    (kk : sv_V p l e R s m args below meth c nL A cells slots Q Hp (pc + 1) lv (sv_i z :: rest)) : sv_V p l e R s m args below meth c nL A cells slots Q Hp pc lv (.inl i :: sv_r t :: rest) := by
  intro H locs ls hH hS hl
  obtain ⟨e1, e2⟩ := sv_idx (n := 12) h0 h1 (by decide)
  exact va_ti C.1 C.2.1 hT hS e1 (v := .int (Int32.ofInt z)) (by rw [e2]; exact hv) hd (kk H locs ls hH hS hl)
theorem sv_gs1 (C : sv_C g A own cc nL p s m args meth c) {index : Nat} (hd : decode cc pc = .ok (.getstatic index, 3)) (hw : Cond.fieldLink own index "SaintsRoad$Days" "MONTH_AT_MOST" "[I" ∈ lw_good) {Hp : Heap → Prop}
    (kk : sv_V p l e R s m args below meth c nL A cells slots Q Hp (pc + 3) lv (sv_r g.2.2.1 :: st)) : sv_V p l e R s m args below meth c nL A cells slots Q Hp pc lv st :=
  fun H locs ls hH hS hl => va_gets C.1 C.2.1 C.2.2.2.2.2.1.2.2.1.1 hS C.2.2.2.1 (C.2.2.2.2.1 _ hw) (fun _ h => h) hd (kk H locs ls hH hS hl)
theorem sv_gs2 (C : sv_C g A own cc nL p s m args meth c) {index : Nat} (hd : decode cc pc = .ok (.getstatic index, 3)) (hw : Cond.fieldLink own index "SaintsRoad$Days" "MONTH_START" "[I" ∈ lw_good) {Hp : Heap → Prop}
    (kk : sv_V p l e R s m args below meth c nL A cells slots Q Hp (pc + 3) lv (sv_r g.2.2.2 :: st)) : sv_V p l e R s m args below meth c nL A cells slots Q Hp pc lv st :=
  fun H locs ls hH hS hl => va_gets C.1 C.2.1 C.2.2.2.2.2.1.2.2.2.1 hS C.2.2.2.1 (C.2.2.2.2.1 _ hw) (fun _ h => h) hd (kk H locs ls hH hS hl)
end SVC
end
section
/-! branches whose way is known, longs, answers that are true or false -/
def sv_bo (P : Prop) (r : List sv_T) : Prop := (P ∧ r = [sv_i 1]) ∨ (¬ P ∧ r = [sv_i 0])
def sv_sg (z x y : Int) : Prop := (-1 ≤ z ∧ z ≤ 1) ∧ (z < 0 ↔ x < y) ∧ (z = 0 ↔ x = y) ∧ (0 < z ↔ y < x)
abbrev sv_in64 (n : Int) : Prop := -9223372036854775808 ≤ n ∧ n < 9223372036854775808
theorem sv_ol {n : Int} (h : sv_in64 n) : (Int64.ofInt n).toInt = n := by
  rw [Int64.toInt_ofInt, show Int64.size = 18446744073709551616 from rfl]
  exact Int.bmod_eq_of_le (by have := h.1; omega) (by have := h.2; omega)
section SVB
variable {p : Program} {l : Launch} {e : Env} {R : Room} {s : State} {m : MethodId} {args : Array Value} {below : List Frame} {meth : Method} {c : Code} {cells slots : Nat} {Q : State → Prop}
variable {cc : ByteArray} {pc nL : Nat} {Hp : Heap → Prop} {A : Nat → Prop} {lv lv' : sv_L} {st st' rest : List sv_T} {g : sv_G} {own : String}
theorem sv_icmp_t (hx : p.tables.exec = Jvm.exec) (hb : c.code = cc) {cnd : ClassFile.Cond} {off : Int} {tgt : Nat} {x y : Int} (hd : decode cc pc = .ok (.if_icmp cnd off, 3)) (ht : (pc : Int) + off = (tgt : Int)) (h1 : sv_in x) (h2 : sv_in y) (h : sv_cmp cnd x y)
    (kt : sv_V p l e R s m args below meth c nL A cells slots Q Hp tgt lv rest) : sv_V p l e R s m args below meth c nL A cells slots Q Hp pc lv (.inl y :: .inl x :: rest) := sv_icmp hx hb hd ht h1 h2 (fun _ => kt) (fun q => absurd h q)
theorem sv_icmp_f (hx : p.tables.exec = Jvm.exec) (hb : c.code = cc) {cnd : ClassFile.Cond} {off : Int} {tgt : Nat} {x y : Int} (hd : decode cc pc = .ok (.if_icmp cnd off, 3)) (ht : (pc : Int) + off = (tgt : Int)) (h1 : sv_in x) (h2 : sv_in y) (h : ¬ sv_cmp cnd x y)
    (kf : sv_V p l e R s m args below meth c nL A cells slots Q Hp (pc + 3) lv rest) : sv_V p l e R s m args below meth c nL A cells slots Q Hp pc lv (.inl y :: .inl x :: rest) := sv_icmp hx hb hd ht h1 h2 (fun q => absurd q h) (fun _ => kf)
theorem sv_if_t (hx : p.tables.exec = Jvm.exec) (hb : c.code = cc) {cnd : ClassFile.Cond} {off : Int} {tgt : Nat} {x : Int} (hd : decode cc pc = .ok (.ifCond cnd off, 3)) (ht : (pc : Int) + off = (tgt : Int)) (h1 : sv_in x) (h : sv_cmp cnd x 0)
    (kt : sv_V p l e R s m args below meth c nL A cells slots Q Hp tgt lv rest) : sv_V p l e R s m args below meth c nL A cells slots Q Hp pc lv (.inl x :: rest) := sv_if hx hb hd ht h1 (fun _ => kt) (fun q => absurd h q)
theorem sv_if_f (hx : p.tables.exec = Jvm.exec) (hb : c.code = cc) {cnd : ClassFile.Cond} {off : Int} {tgt : Nat} {x : Int} (hd : decode cc pc = .ok (.ifCond cnd off, 3)) (ht : (pc : Int) + off = (tgt : Int)) (h1 : sv_in x) (h : ¬ sv_cmp cnd x 0)
    (kf : sv_V p l e R s m args below meth c nL A cells slots Q Hp (pc + 3) lv rest) : sv_V p l e R s m args below meth c nL A cells slots Q Hp pc lv (.inl x :: rest) := sv_if hx hb hd ht h1 (fun q => absurd q h) (fun _ => kf)
theorem sv_i2l (hx : p.tables.exec = Jvm.exec) (hb : c.code = cc) {x : Int} (hd : decode cc pc = .ok (.i2l, 1)) (h1 : sv_in x) (k : sv_V p l e R s m args below meth c nL A cells slots Q Hp (pc + 1) lv (sv_l x :: rest)) : sv_V p l e R s m args below meth c nL A cells slots Q Hp pc lv (.inl x :: rest) := by
  intro H locs ls hH hS hl
  refine lv_i2l hx hb hd (v := Int64.ofInt x) ?_ (k H locs ls hH hS hl)
  rw [← Int64.toInt_inj, Int32.toInt_toInt64, sv_oi h1, sv_ol ⟨by have := h1.1; omega, by have := h1.2; omega⟩]
theorem sv_lcmp (hx : p.tables.exec = Jvm.exec) (hb : c.code = cc) {x y : Int} (hd : decode cc pc = .ok (.lcmp, 1)) (h1 : sv_in64 x) (h2 : sv_in64 y) (k : ∀ z : Int, sv_sg z x y → sv_V p l e R s m args below meth c nL A cells slots Q Hp (pc + 1) lv (sv_i z :: rest)) : sv_V p l e R s m args below meth c nL A cells slots Q Hp pc lv (.inr (.inr y) :: .inr (.inr x) :: rest) := by
  intro H locs ls hH hS hl
  have l1 : Int64.ofInt x < Int64.ofInt y ↔ x < y := by rw [Int64.lt_iff_toInt_lt, sv_ol h1, sv_ol h2]
  have l2 : Int64.ofInt x = Int64.ofInt y ↔ x = y := by rw [← Int64.toInt_inj, sv_ol h1, sv_ol h2]
  have l3 : Int64.ofInt y < Int64.ofInt x ↔ y < x := by rw [Int64.lt_iff_toInt_lt, sv_ol h1, sv_ol h2]
  refine W.lcmp hx hb hd ?_
  rcases Int.lt_trichotomy x y with h | h | h
  · have e1 : lg_cmp (Int64.ofInt x) (Int64.ofInt y) = Int32.ofInt (-1) := by
      have a1 : ¬ Int64.ofInt y < Int64.ofInt x := fun q => by have := l3.mp q; omega
      have a2 : ¬ Int64.ofInt x = Int64.ofInt y := fun q => by have := l2.mp q; omega
      simp only [lg_cmp, if_neg a1, if_neg a2]; rfl
    rw [e1]
    exact k (-1) ⟨⟨by omega, by omega⟩, ⟨fun _ => h, fun _ => by omega⟩, ⟨fun q => by omega, fun q => by omega⟩, ⟨fun q => by omega, fun q => by omega⟩⟩ H locs ls hH hS hl
  · have e1 : lg_cmp (Int64.ofInt x) (Int64.ofInt y) = Int32.ofInt 0 := by
      have a1 : ¬ Int64.ofInt y < Int64.ofInt x := fun q => by have := l3.mp q; omega
      simp only [lg_cmp, if_neg a1, if_pos (l2.mpr h)]; rfl
    rw [e1]
    exact k 0 ⟨⟨by omega, by omega⟩, ⟨fun q => by omega, fun q => by omega⟩, ⟨fun _ => h, fun _ => by omega⟩, ⟨fun q => by omega, fun q => by omega⟩⟩ H locs ls hH hS hl
  · have e1 : lg_cmp (Int64.ofInt x) (Int64.ofInt y) = Int32.ofInt 1 := by
      simp only [lg_cmp, if_pos (l3.mpr h)]; rfl
    rw [e1]
    exact k 1 ⟨⟨by omega, by omega⟩, ⟨fun q => by omega, fun q => by omega⟩, ⟨fun q => by omega, fun q => by omega⟩, ⟨fun _ => h, fun _ => by omega⟩⟩ H locs ls hH hS hl
/-- division of numbers that aren't below 0 -/
theorem sv_idivP (hx : p.tables.exec = Jvm.exec) (hb : c.code = cc) {x y : Int} (hd : decode cc pc = .ok (.idiv, 1)) (h1 : 0 ≤ x ∧ x < 2147483648) (h2 : 0 < y ∧ y < 2147483648)
    (k : sv_V p l e R s m args below meth c nL A cells slots Q Hp (pc + 1) lv (sv_i (x / y) :: rest)) : sv_V p l e R s m args below meth c nL A cells slots Q Hp pc lv (.inl y :: .inl x :: rest) :=
  sv_idiv hx hb hd ⟨by omega, by omega⟩ h2.1 h2.2 (by rw [Int.tdiv_eq_ediv_of_nonneg h1.1]; exact k)
theorem sv_iremP (hx : p.tables.exec = Jvm.exec) (hb : c.code = cc) {x y : Int} (hd : decode cc pc = .ok (.irem, 1)) (h1 : 0 ≤ x ∧ x < 2147483648) (h2 : 0 < y ∧ y < 2147483648)
    (k : sv_V p l e R s m args below meth c nL A cells slots Q Hp (pc + 1) lv (sv_i (x % y) :: rest)) : sv_V p l e R s m args below meth c nL A cells slots Q Hp pc lv (.inl y :: .inl x :: rest) :=
  sv_irem hx hb hd ⟨by omega, by omega⟩ h2.1 h2.2 (by rw [Int.tmod_eq_emod_of_nonneg h1.1]; exact k)
theorem sv_ldc2 (C : sv_C g A own cc nL p s m args meth c) {index : Nat} {z : Int} {v : Int64} (hd : decode cc pc = .ok (.ldc2_w index, 3)) (hw : Cond.constantLong own index v ∈ lw_good) (hv : Int64.ofInt z = v) (k : sv_V p l e R s m args below meth c nL A cells slots Q Hp (pc + 3) lv (sv_l z :: st)) : sv_V p l e R s m args below meth c nL A cells slots Q Hp pc lv st := by
  intro H locs ls hH hS hl
  subst hv
  exact lv_ldc2 C.1 C.2.1 C.2.2.2.1 (C.2.2.2.2.1 _ hw) hd (k H locs ls hH hS hl)
theorem sv_ldc (C : sv_C g A own cc nL p s m args meth c) {index : Nat} {z : Int} {v : Int32} (hd : decode cc pc = .ok (.ldc index, 2)) (hw : Cond.constant own index v ∈ lw_good) (hv : Int32.ofInt z = v) (k : sv_V p l e R s m args below meth c nL A cells slots Q Hp (pc + 2) lv (sv_i z :: st)) : sv_V p l e R s m args below meth c nL A cells slots Q Hp pc lv st := by
  intro H locs ls hH hS hl
  subst hv
  exact lv_ldc C.1 C.2.1 C.2.2.2.1 (C.2.2.2.2.1 _ hw) hd (k H locs ls hH hS hl)
theorem sv_ldc_w (C : sv_C g A own cc nL p s m args meth c) {index : Nat} {z : Int} {v : Int32} (hd : decode cc pc = .ok (.ldc_w index, 3)) (hw : Cond.constant own index v ∈ lw_good) (hv : Int32.ofInt z = v) (k : sv_V p l e R s m args below meth c nL A cells slots Q Hp (pc + 3) lv (sv_i z :: st)) : sv_V p l e R s m args below meth c nL A cells slots Q Hp pc lv st := by
  intro H locs ls hH hS hl
  subst hv
  exact lv_ldcw C.1 C.2.1 C.2.2.2.1 (C.2.2.2.2.1 _ hw) hd (k H locs ls hH hS hl)
end SVB
/-- fewer locals, by their places -/
theorem sv_pick {p : Program} {l : Launch} {e : Env} {R : Room} {s : State} {m : MethodId} {args : Array Value} {below : List Frame} {meth : Method} {c : Code} {cells slots : Nat} {Q : State → Prop} {pc nL : Nat} {Hp : Heap → Prop} {A : Nat → Prop} {lv lv2 : sv_L} {st : List sv_T} (is : List Nat) (h : is.filterMap (fun i => lv[i]?) = lv2)
    (k : sv_V p l e R s m args below meth c nL A cells slots Q Hp pc lv2 st) : sv_V p l e R s m args below meth c nL A cells slots Q Hp pc lv st :=
  sv_drop (fun q hq => by rw [← h] at hq; obtain ⟨i, -, hi⟩ := List.mem_filterMap.mp hq; exact List.mem_of_getElem? hi) k
end
section
/-! the reckoning of days, as numbers -/
def dy_lp (y : Int) : Int := if y % 4 = 0 then 1 else 0
theorem dy_lp1 {y : Int} (h : y % 4 = 0) : dy_lp y = 1 := if_pos h
theorem dy_lp0 {y : Int} (h : ¬ y % 4 = 0) : dy_lp y = 0 := if_neg h
theorem dy_lp_in (y : Int) : 0 ≤ dy_lp y ∧ dy_lp y ≤ 1 := by
  unfold dy_lp; split <;> omega
def dy_wd (y d : Int) : Int := (6 + (365 * (y - 1) + (y - 1) / 4) + d) % 7
theorem dy_wd_in (y d : Int) : 0 ≤ dy_wd y d ∧ dy_wd y d ≤ 6 := by
  unfold dy_wd; omega
/-- the first day of a month in a year of 365 days -/
def dy_st (k : Int) : Int := if k ≤ 1 then 0 else if k = 2 then 31 else if k = 3 then 59 else if k = 4 then 90 else if k = 5 then 120 else if k = 6 then 151 else if k = 7 then 181 else if k = 8 then 212 else if k = 9 then 243 else if k = 10 then 273 else if k = 11 then 304 else if k = 12 then 334 else 365
/-- a month's days -/
def dy_md (y k : Int) : Int := if k = 2 then 28 + dy_lp y else if k = 4 ∨ k = 6 ∨ k = 9 ∨ k = 11 then 30 else 31
theorem dy_st_tab {k : Int} (h1 : 1 ≤ k) (h2 : k ≤ 12) : sv_mst (k - 1).toNat = .int (Int32.ofInt (dy_st k)) := by
  obtain ⟨j, hj, rfl⟩ : ∃ j : Nat, j < 12 ∧ k = j + 1 := ⟨(k - 1).toNat, by omega, by omega⟩
  rw [show ((j : Int) + 1 - 1).toNat = j by omega]
  have key : ∀ j : Nat, j < 12 → sv_mst j = .int (Int32.ofInt (dy_st ((j : Int) + 1))) := by decide +kernel
  exact key j hj
theorem dy_st_in (k : Int) : 0 ≤ dy_st k ∧ dy_st k ≤ 365 := by
  unfold dy_st; omega
/-- the first day of a month; of a thirteenth: the year's length -/
def dy_ms (y k : Int) : Int := dy_st k + (if 2 < k then dy_lp y else 0)
theorem dy_ms_in (y k : Int) : 0 ≤ dy_ms y k ∧ dy_ms y k ≤ 366 := by
  unfold dy_ms
  have h1 := dy_st_in k
  have h2 := dy_lp_in y
  split <;> omega
theorem dy_md_in (y k : Int) : 28 ≤ dy_md y k ∧ dy_md y k ≤ 31 := by
  unfold dy_md
  have h2 := dy_lp_in y
  split <;> (try split) <;> omega
theorem dy_ms1 (y : Int) : dy_ms y 1 = 0 := rfl
theorem dy_ms3 (y : Int) : dy_ms y 3 = 59 + dy_lp y := rfl
theorem dy_ms13 (y : Int) : dy_ms y 13 = 365 + dy_lp y := rfl
theorem dy_ms_s {y k : Int} (h1 : 1 ≤ k) (h2 : k ≤ 12) : dy_ms y (k + 1) = dy_ms y k + dy_md y k := by
  unfold dy_ms dy_md dy_st
  have h3 := dy_lp_in y
  omega
theorem dy_ms_mono {y : Int} : ∀ (n : Nat) {a b : Int}, 1 ≤ a → a ≤ b → b ≤ 13 → b - a ≤ n → dy_ms y a ≤ dy_ms y b := by
  intro n
  induction n with
  | zero => intro a b h1 h2 h3 h4; have : a = b := by omega
            subst this; exact Int.le_refl _
  | succ n ih =>
    intro a b h1 h2 h3 h4
    by_cases h : a = b
    · subst h; exact Int.le_refl _
    · have := ih (a := a) (b := b - 1) h1 (by omega) (by omega) (by omega)
      have e := dy_ms_s (y := y) (k := b - 1) (by omega) (by omega)
      rw [show b - 1 + 1 = b by omega] at e
      have := dy_md_in y (b - 1)
      omega
/-- the month of a day is one -/
theorem dy_mo_uniq {y d a b : Int} (h1 : 1 ≤ a ∧ a ≤ 12) (h2 : 1 ≤ b ∧ b ≤ 12) (h3 : dy_ms y a ≤ d) (h4 : d < dy_ms y (a + 1)) (h5 : dy_ms y b ≤ d) (h6 : d < dy_ms y (b + 1)) : a = b := by
  rcases Int.lt_trichotomy a b with h | h | h
  · have := dy_ms_mono (y := y) 20 (a := a + 1) (b := b) (by omega) (by omega) (by omega) (by omega)
    omega
  · exact h
  · have := dy_ms_mono (y := y) 20 (a := b + 1) (b := a) (by omega) (by omega) (by omega) (by omega)
    omega
def dy_ea (y : Int) : Int := dy_ms y 3 + 20 + (19 * (y % 19) + 15) % 30 + 7 - dy_wd y (dy_ms y 3 + 20 + (19 * (y % 19) + 15) % 30)
theorem dy_ea_in (y : Int) : 80 ≤ dy_ea y ∧ dy_ea y ≤ 120 := by
  unfold dy_ea
  have h1 := dy_wd_in y (dy_ms y 3 + 20 + (19 * (y % 19) + 15) % 30)
  rw [dy_ms3] at h1 ⊢
  have h2 := dy_lp_in y
  omega
theorem dy_wd_sh (y a j : Int) : dy_wd y (a + j) = (dy_wd y a + j) % 7 := by
  unfold dy_wd; omega
end
section
set_option maxHeartbeats 4000000 in
set_option maxRecDepth 100000 in
theorem ct_X2_isYear (l : Launch) (g : sv_G) (A : Nat → Prop) (ty : Nat → Nat) (σ : Nat → Nat → Int) (hok : sv_ok ty σ) (y : Int) (hy : sv_in y) : sv_M l yX2_isYear cX2_isYear 1 (some .boolean) { frames := 0, cells := 0, slots := 0, locals := 0 } g A ty σ [sv_i y] (fun r σ' => σ = σ' ∧ sv_bo (1 ≤ y ∧ y ≤ 2000) r) := by
  refine sv_enter (by decide) (Nat.le_of_ble_eq_true rfl) ?_
  intro p e s m args below meth c C hr
  have C : sv_C g A RX2 cX2_isYear 1 p s m args meth c := C
  have hr : meth.sig.returnType = (some .boolean) := hr
  refine sv_same (st2 := []) (lv2 := [(0, sv_i y)]) rfl rfl ?_
  refine sv_go C.1 C.2.1 [(.iload_n 0, 1), (.iconst 1, 1)] (pc' := 2) (by decide +kernel) rfl (lv' := [(0, sv_i y)]) (st' := [sv_i 1, sv_i y]) rfl ?_
  refine sv_icmp C.1 C.2.1 (cnd := .lt) (off := 14) (tgt := 16) (by decide +kernel) (by decide) ⟨by omega, by omega⟩ ⟨by omega, by omega⟩ (fun (h1 : y < 1) => ?_) (fun (h1 : ¬ (y < 1)) => ?_)
  · refine sv_go C.1 C.2.1 [(.iconst 0, 1)] (pc' := 17) (by decide +kernel) rfl (lv' := [(0, sv_i y)]) (st' := [sv_i 0]) rfl ?_
    exact sv_zret C hr (by first | exact Or.inl rfl | exact Or.inr rfl | omega) (by decide +kernel) hok (by first | exact ⟨rfl, Or.inl ⟨by omega, rfl⟩⟩ | exact ⟨rfl, Or.inr ⟨by omega, rfl⟩⟩)
  · refine sv_go C.1 C.2.1 [(.iload_n 0, 1), (.sipush 2000, 3)] (pc' := 9) (by decide +kernel) rfl (lv' := [(0, sv_i y)]) (st' := [sv_i 2000, sv_i y]) rfl ?_
    refine sv_icmp C.1 C.2.1 (cnd := .gt) (off := 7) (tgt := 16) (by decide +kernel) (by decide) ⟨by omega, by omega⟩ ⟨by omega, by omega⟩ (fun (h2 : 2000 < y) => ?_) (fun (h2 : ¬ (2000 < y)) => ?_)
    · refine sv_go C.1 C.2.1 [(.iconst 0, 1)] (pc' := 17) (by decide +kernel) rfl (lv' := [(0, sv_i y)]) (st' := [sv_i 0]) rfl ?_
      exact sv_zret C hr (by first | exact Or.inl rfl | exact Or.inr rfl | omega) (by decide +kernel) hok (by first | exact ⟨rfl, Or.inl ⟨by omega, rfl⟩⟩ | exact ⟨rfl, Or.inr ⟨by omega, rfl⟩⟩)
    · refine sv_go C.1 C.2.1 [(.iconst 1, 1)] (pc' := 13) (by decide +kernel) rfl (lv' := [(0, sv_i y)]) (st' := [sv_i 1]) rfl ?_
      refine sv_goto C.1 C.2.1 (off := 4) (tgt := 17) (by decide +kernel) (by decide) ?_
      exact sv_zret C hr (by first | exact Or.inl rfl | exact Or.inr rfl | omega) (by decide +kernel) hok (by first | exact ⟨rfl, Or.inl ⟨by omega, rfl⟩⟩ | exact ⟨rfl, Or.inr ⟨by omega, rfl⟩⟩)

set_option maxHeartbeats 4000000 in
set_option maxRecDepth 100000 in
theorem ct_X2_isLeap (l : Launch) (g : sv_G) (A : Nat → Prop) (ty : Nat → Nat) (σ : Nat → Nat → Int) (hok : sv_ok ty σ) (y : Int) (hy : 0 ≤ y ∧ y ≤ 2000) : sv_M l yX2_isLeap cX2_isLeap 1 (some .boolean) { frames := 0, cells := 0, slots := 0, locals := 0 } g A ty σ [sv_i y] (fun r σ' => σ = σ' ∧ sv_bo (y % 4 = 0) r) := by
  refine sv_enter (by decide) (Nat.le_of_ble_eq_true rfl) ?_
  intro p e s m args below meth c C hr
  have C : sv_C g A RX2 cX2_isLeap 1 p s m args meth c := C
  have hr : meth.sig.returnType = (some .boolean) := hr
  refine sv_same (st2 := []) (lv2 := [(0, sv_i y)]) rfl rfl ?_
  refine sv_go C.1 C.2.1 [(.iload_n 0, 1), (.iconst 4, 1)] (pc' := 2) (by decide +kernel) rfl (lv' := [(0, sv_i y)]) (st' := [sv_i 4, sv_i y]) rfl ?_
  refine sv_iremP C.1 C.2.1 (by decide +kernel) ⟨by omega, by omega⟩ ⟨by omega, by omega⟩ ?_
  refine sv_if C.1 C.2.1 (cnd := .ne) (off := 7) (tgt := 10) (by decide +kernel) (by decide) ⟨by omega, by omega⟩ (fun (h1 : (y % 4) ≠ 0) => ?_) (fun (h1 : ¬ ((y % 4) ≠ 0)) => ?_)
  · refine sv_go C.1 C.2.1 [(.iconst 0, 1)] (pc' := 11) (by decide +kernel) rfl (lv' := [(0, sv_i y)]) (st' := [sv_i 0]) rfl ?_
    exact sv_zret C hr (by first | exact Or.inl rfl | exact Or.inr rfl | omega) (by decide +kernel) hok (by first | exact ⟨rfl, Or.inl ⟨by omega, rfl⟩⟩ | exact ⟨rfl, Or.inr ⟨by omega, rfl⟩⟩)
  · refine sv_go C.1 C.2.1 [(.iconst 1, 1)] (pc' := 7) (by decide +kernel) rfl (lv' := [(0, sv_i y)]) (st' := [sv_i 1]) rfl ?_
    refine sv_goto C.1 C.2.1 (off := 4) (tgt := 11) (by decide +kernel) (by decide) ?_
    exact sv_zret C hr (by first | exact Or.inl rfl | exact Or.inr rfl | omega) (by decide +kernel) hok (by first | exact ⟨rfl, Or.inl ⟨by omega, rfl⟩⟩ | exact ⟨rfl, Or.inr ⟨by omega, rfl⟩⟩)

theorem ml_X2_19 : Cond.methodLink RX2 19 yX2_isLeap ∈ lw_good := sv_mem 658 (by decide +kernel) rfl
theorem co_X2_isLeap : Cond.code yX2_isLeap cX2_isLeap 1 (some .boolean) ∈ lw_good := sv_mem 660 (by decide +kernel) rfl
theorem in_X2 : Cond.initialized RX2 ∈ lw_good := sv_mem 90 (by decide +kernel) rfl
theorem st_X2_isLeap : Cond.static yX2_isLeap ∈ lw_good := sv_mem 659 (by decide +kernel) rfl
set_option maxHeartbeats 4000000 in
set_option maxRecDepth 100000 in
theorem ct_X2_length (l : Launch) (g : sv_G) (A : Nat → Prop) (ty : Nat → Nat) (σ : Nat → Nat → Int) (hok : sv_ok ty σ) (y : Int) (hy : 0 ≤ y ∧ y ≤ 2000) : sv_M l yX2_length cX2_length 1 (some .int) { frames := 1, cells := 0, slots := 0, locals := 20 } g A ty σ [sv_i y] (fun r σ' => σ = σ' ∧ r = [sv_i (365 + dy_lp y)]) := by
  refine sv_enter (by decide) (Nat.le_of_ble_eq_true rfl) ?_
  intro p e s m args below meth c C hr
  have C : sv_C g A RX2 cX2_length 1 p s m args meth c := C
  have hr : meth.sig.returnType = (some .int) := hr
  refine sv_same (st2 := []) (lv2 := [(0, sv_i y)]) rfl rfl ?_
  refine sv_go C.1 C.2.1 [(.iload_n 0, 1)] (pc' := 1) (by decide +kernel) rfl (lv' := [(0, sv_i y)]) (st' := [sv_i y]) rfl ?_
  refine sv_cs C (index := 19) (k := 1) (rest := []) (by decide +kernel) (ct_X2_isLeap l g A ty σ hok (y) ⟨by omega, by omega⟩) ⟨co_X2_isLeap, in_X2, ⟨by decide, by decide, by decide +kernel⟩, Nat.le_of_ble_eq_true rfl, Nat.le_of_ble_eq_true rfl⟩ ml_X2_19 st_X2_isLeap rfl rfl (Nat.le_of_ble_eq_true rfl) ⟨Nat.zero_le _, Nat.zero_le _⟩ (fun r2 σ3 hpo1 hok4 => ?_)
  obtain ⟨rfl, ⟨h5, rfl⟩ | ⟨h5, rfl⟩⟩ := hpo1
  · refine sv_same (st2 := [sv_i 1]) (lv2 := [(0, sv_i y)]) rfl rfl ?_
    refine sv_if_f C.1 C.2.1 (cnd := .eq) (off := 9) (tgt := 13) (by decide +kernel) (by decide) ⟨by omega, by omega⟩ (show ¬ (1 = 0) by omega) ?_
    refine sv_go C.1 C.2.1 [(.sipush 366, 3)] (pc' := 10) (by decide +kernel) rfl (lv' := [(0, sv_i y)]) (st' := [sv_i 366]) rfl ?_
    refine sv_goto C.1 C.2.1 (off := 6) (tgt := 16) (by decide +kernel) (by decide) ?_
    exact sv_iret C hr (by decide +kernel) hok4 (⟨rfl, by first | (rw [dy_lp1 (by omega)]; rfl) | (rw [dy_lp0 (by omega)]; rfl)⟩)
  · refine sv_same (st2 := [sv_i 0]) (lv2 := [(0, sv_i y)]) rfl rfl ?_
    refine sv_if_t C.1 C.2.1 (cnd := .eq) (off := 9) (tgt := 13) (by decide +kernel) (by decide) ⟨by omega, by omega⟩ (show 0 = 0 by omega) ?_
    refine sv_go C.1 C.2.1 [(.sipush 365, 3)] (pc' := 16) (by decide +kernel) rfl (lv' := [(0, sv_i y)]) (st' := [sv_i 365]) rfl ?_
    exact sv_iret C hr (by decide +kernel) hok4 (⟨rfl, by first | (rw [dy_lp1 (by omega)]; rfl) | (rw [dy_lp0 (by omega)]; rfl)⟩)

set_option maxHeartbeats 4000000 in
set_option maxRecDepth 100000 in
theorem ct_X2_daysAhead (l : Launch) (g : sv_G) (A : Nat → Prop) (ty : Nat → Nat) (σ : Nat → Nat → Int) (hok : sv_ok ty σ) (y : Int) (hy : 1 ≤ y ∧ y ≤ 2000) : sv_M l yX2_daysAhead cX2_daysAhead 1 (some .int) { frames := 0, cells := 0, slots := 0, locals := 0 } g A ty σ [sv_i y] (fun r σ' => σ = σ' ∧ r = [sv_i (365 * (y - 1) + (y - 1) / 4)]) := by
  refine sv_enter (by decide) (Nat.le_of_ble_eq_true rfl) ?_
  intro p e s m args below meth c C hr
  have C : sv_C g A RX2 cX2_daysAhead 1 p s m args meth c := C
  have hr : meth.sig.returnType = (some .int) := hr
  refine sv_same (st2 := []) (lv2 := [(0, sv_i y)]) rfl rfl ?_
  refine sv_go C.1 C.2.1 [(.sipush 365, 3), (.iload_n 0, 1), (.iconst 1, 1), (.isub, 1), (.imul, 1), (.iload_n 0, 1), (.iconst 1, 1), (.isub, 1), (.iconst 4, 1)] (pc' := 11) (by decide +kernel) rfl (lv' := [(0, sv_i y)]) (st' := [sv_i 4, sv_i (y - 1), sv_i (365 * (y - 1))]) rfl ?_
  refine sv_idivP C.1 C.2.1 (by decide +kernel) ⟨by omega, by omega⟩ ⟨by omega, by omega⟩ ?_
  refine sv_go C.1 C.2.1 [(.iadd, 1)] (pc' := 13) (by decide +kernel) rfl (lv' := [(0, sv_i y)]) (st' := [sv_i ((365 * (y - 1)) + ((y - 1) / 4))]) rfl ?_
  exact sv_iret C hr (by decide +kernel) hok (⟨rfl, rfl⟩)

theorem ml_X2_22 : Cond.methodLink RX2 22 yX2_daysAhead ∈ lw_good := sv_mem 664 (by decide +kernel) rfl
theorem co_X2_daysAhead : Cond.code yX2_daysAhead cX2_daysAhead 1 (some .int) ∈ lw_good := sv_mem 666 (by decide +kernel) rfl
theorem st_X2_daysAhead : Cond.static yX2_daysAhead ∈ lw_good := sv_mem 665 (by decide +kernel) rfl
set_option maxHeartbeats 4000000 in
set_option maxRecDepth 100000 in
theorem ct_X2_weekday (l : Launch) (g : sv_G) (A : Nat → Prop) (ty : Nat → Nat) (σ : Nat → Nat → Int) (hok : sv_ok ty σ) (y : Int) (hy : 1 ≤ y ∧ y ≤ 2000) (d : Int) (hd : 0 ≤ d ∧ d ≤ 400) : sv_M l yX2_weekday cX2_weekday 2 (some .int) { frames := 1, cells := 0, slots := 0, locals := 20 } g A ty σ [sv_i y, sv_i d] (fun r σ' => σ = σ' ∧ r = [sv_i (dy_wd y d)]) := by
  refine sv_enter (by decide) (Nat.le_of_ble_eq_true rfl) ?_
  intro p e s m args below meth c C hr
  have C : sv_C g A RX2 cX2_weekday 2 p s m args meth c := C
  have hr : meth.sig.returnType = (some .int) := hr
  refine sv_same (st2 := []) (lv2 := [(0, sv_i y), (1, sv_i d)]) rfl rfl ?_
  refine sv_go C.1 C.2.1 [(.bipush 6, 2), (.iload_n 0, 1)] (pc' := 3) (by decide +kernel) rfl (lv' := [(0, sv_i y), (1, sv_i d)]) (st' := [sv_i y, sv_i 6]) rfl ?_
  refine sv_cs C (index := 22) (k := 1) (rest := [sv_i 6]) (by decide +kernel) (ct_X2_daysAhead l g A ty σ hok (y) ⟨by omega, by omega⟩) ⟨co_X2_daysAhead, in_X2, ⟨by decide, by decide, by decide +kernel⟩, Nat.le_of_ble_eq_true rfl, Nat.le_of_ble_eq_true rfl⟩ ml_X2_22 st_X2_daysAhead rfl rfl (Nat.le_of_ble_eq_true rfl) ⟨Nat.zero_le _, Nat.zero_le _⟩ (fun r2 σ3 hpo1 hok4 => ?_)
  obtain ⟨rfl, rfl⟩ := hpo1
  refine sv_same (st2 := [sv_i (365 * (y - 1) + (y - 1) / 4), sv_i 6]) (lv2 := [(0, sv_i y), (1, sv_i d)]) rfl rfl ?_
  refine sv_go C.1 C.2.1 [(.iadd, 1), (.iload_n 1, 1), (.iadd, 1), (.bipush 7, 2)] (pc' := 11) (by decide +kernel) rfl (lv' := [(0, sv_i y), (1, sv_i d)]) (st' := [sv_i 7, sv_i ((6 + (365 * (y - 1) + (y - 1) / 4)) + d)]) rfl ?_
  refine sv_iremP C.1 C.2.1 (by decide +kernel) ⟨by omega, by omega⟩ ⟨by omega, by omega⟩ ?_
  exact sv_iret C hr (by decide +kernel) hok4 (⟨rfl, rfl⟩)

theorem ml_X2_25 : Cond.methodLink RX2 25 yX2_weekday ∈ lw_good := sv_mem 661 (by decide +kernel) rfl
theorem co_X2_weekday : Cond.code yX2_weekday cX2_weekday 2 (some .int) ∈ lw_good := sv_mem 663 (by decide +kernel) rfl
theorem st_X2_weekday : Cond.static yX2_weekday ∈ lw_good := sv_mem 662 (by decide +kernel) rfl
set_option maxHeartbeats 4000000 in
set_option maxRecDepth 100000 in
theorem ct_X2_isSunday (l : Launch) (g : sv_G) (A : Nat → Prop) (ty : Nat → Nat) (σ : Nat → Nat → Int) (hok : sv_ok ty σ) (y : Int) (hy : 1 ≤ y ∧ y ≤ 2000) (d : Int) (hd : 0 ≤ d ∧ d ≤ 400) : sv_M l yX2_isSunday cX2_isSunday 2 (some .boolean) { frames := 2, cells := 0, slots := 0, locals := 41 } g A ty σ [sv_i y, sv_i d] (fun r σ' => σ = σ' ∧ sv_bo (dy_wd y d = 0) r) := by
  refine sv_enter (by decide) (Nat.le_of_ble_eq_true rfl) ?_
  intro p e s m args below meth c C hr
  have C : sv_C g A RX2 cX2_isSunday 2 p s m args meth c := C
  have hr : meth.sig.returnType = (some .boolean) := hr
  have hw := dy_wd_in y d
  refine sv_same (st2 := []) (lv2 := [(0, sv_i y), (1, sv_i d)]) rfl rfl ?_
  refine sv_go C.1 C.2.1 [(.iload_n 0, 1), (.iload_n 1, 1)] (pc' := 2) (by decide +kernel) rfl (lv' := [(0, sv_i y), (1, sv_i d)]) (st' := [sv_i d, sv_i y]) rfl ?_
  refine sv_cs C (index := 25) (k := 2) (rest := []) (by decide +kernel) (ct_X2_weekday l g A ty σ hok (y) ⟨by omega, by omega⟩ (d) ⟨by omega, by omega⟩) ⟨co_X2_weekday, in_X2, ⟨by decide, by decide, by decide +kernel⟩, Nat.le_of_ble_eq_true rfl, Nat.le_of_ble_eq_true rfl⟩ ml_X2_25 st_X2_weekday rfl rfl (Nat.le_of_ble_eq_true rfl) ⟨Nat.zero_le _, Nat.zero_le _⟩ (fun r2 σ3 hpo1 hok4 => ?_)
  obtain ⟨rfl, rfl⟩ := hpo1
  refine sv_same (st2 := [sv_i (dy_wd y d)]) (lv2 := [(0, sv_i y), (1, sv_i d)]) rfl rfl ?_
  refine sv_if C.1 C.2.1 (cnd := .ne) (off := 7) (tgt := 12) (by decide +kernel) (by decide) ⟨by omega, by omega⟩ (fun (h5 : (dy_wd y d) ≠ 0) => ?_) (fun (h5 : ¬ ((dy_wd y d) ≠ 0)) => ?_)
  · refine sv_go C.1 C.2.1 [(.iconst 0, 1)] (pc' := 13) (by decide +kernel) rfl (lv' := [(0, sv_i y), (1, sv_i d)]) (st' := [sv_i 0]) rfl ?_
    exact sv_zret C hr (by first | exact Or.inl rfl | exact Or.inr rfl | omega) (by decide +kernel) hok4 (by first | exact ⟨rfl, Or.inl ⟨by omega, rfl⟩⟩ | exact ⟨rfl, Or.inr ⟨by omega, rfl⟩⟩)
  · refine sv_go C.1 C.2.1 [(.iconst 1, 1)] (pc' := 9) (by decide +kernel) rfl (lv' := [(0, sv_i y), (1, sv_i d)]) (st' := [sv_i 1]) rfl ?_
    refine sv_goto C.1 C.2.1 (off := 4) (tgt := 13) (by decide +kernel) (by decide) ?_
    exact sv_zret C hr (by first | exact Or.inl rfl | exact Or.inr rfl | omega) (by decide +kernel) hok4 (by first | exact ⟨rfl, Or.inl ⟨by omega, rfl⟩⟩ | exact ⟨rfl, Or.inr ⟨by omega, rfl⟩⟩)

theorem ml_X2_9 : Cond.methodLink RX2 9 yX2_isYear ∈ lw_good := sv_mem 674 (by decide +kernel) rfl
theorem co_X2_isYear : Cond.code yX2_isYear cX2_isYear 1 (some .boolean) ∈ lw_good := sv_mem 649 (by decide +kernel) rfl
theorem st_X2_isYear : Cond.static yX2_isYear ∈ lw_good := sv_mem 648 (by decide +kernel) rfl
theorem ml_X2_15 : Cond.methodLink RX2 15 yX2_length ∈ lw_good := sv_mem 675 (by decide +kernel) rfl
theorem co_X2_length : Cond.code yX2_length cX2_length 1 (some .int) ∈ lw_good := sv_mem 677 (by decide +kernel) rfl
theorem st_X2_length : Cond.static yX2_length ∈ lw_good := sv_mem 676 (by decide +kernel) rfl
set_option maxHeartbeats 4000000 in
set_option maxRecDepth 100000 in
theorem ct_X2_isDay (l : Launch) (g : sv_G) (A : Nat → Prop) (ty : Nat → Nat) (σ : Nat → Nat → Int) (hok : sv_ok ty σ) (y : Int) (hy : sv_in y) (d : Int) (hd : sv_in d) : sv_M l yX2_isDay cX2_isDay 2 (some .boolean) { frames := 2, cells := 0, slots := 0, locals := 40 } g A ty σ [sv_i y, sv_i d] (fun r σ' => σ = σ' ∧ sv_bo ((1 ≤ y ∧ y ≤ 2000) ∧ 0 ≤ d ∧ d < 365 + dy_lp y) r) := by
  refine sv_enter (by decide) (Nat.le_of_ble_eq_true rfl) ?_
  intro p e s m args below meth c C hr
  have C : sv_C g A RX2 cX2_isDay 2 p s m args meth c := C
  have hr : meth.sig.returnType = (some .boolean) := hr
  have hlp := dy_lp_in y
  refine sv_same (st2 := []) (lv2 := [(0, sv_i y), (1, sv_i d)]) rfl rfl ?_
  refine sv_go C.1 C.2.1 [(.iload_n 0, 1)] (pc' := 1) (by decide +kernel) rfl (lv' := [(0, sv_i y), (1, sv_i d)]) (st' := [sv_i y]) rfl ?_
  refine sv_cs C (index := 9) (k := 1) (rest := []) (by decide +kernel) (ct_X2_isYear l g A ty σ hok (y) ⟨by omega, by omega⟩) ⟨co_X2_isYear, in_X2, ⟨by decide, by decide, by decide +kernel⟩, Nat.le_of_ble_eq_true rfl, Nat.le_of_ble_eq_true rfl⟩ ml_X2_9 st_X2_isYear rfl rfl (Nat.le_of_ble_eq_true rfl) ⟨Nat.zero_le _, Nat.zero_le _⟩ (fun r2 σ3 hpo1 hok4 => ?_)
  obtain ⟨rfl, ⟨h5, rfl⟩ | ⟨h5, rfl⟩⟩ := hpo1
  · refine sv_same (st2 := [sv_i 1]) (lv2 := [(0, sv_i y), (1, sv_i d)]) rfl rfl ?_
    refine sv_if_f C.1 C.2.1 (cnd := .eq) (off := 19) (tgt := 23) (by decide +kernel) (by decide) ⟨by omega, by omega⟩ (show ¬ (1 = 0) by omega) ?_
    refine sv_go C.1 C.2.1 [(.iload_n 1, 1)] (pc' := 8) (by decide +kernel) rfl (lv' := [(0, sv_i y), (1, sv_i d)]) (st' := [sv_i d]) rfl ?_
    refine sv_if C.1 C.2.1 (cnd := .lt) (off := 15) (tgt := 23) (by decide +kernel) (by decide) ⟨by omega, by omega⟩ (fun (h6 : d < 0) => ?_) (fun (h6 : ¬ (d < 0)) => ?_)
    · refine sv_go C.1 C.2.1 [(.iconst 0, 1)] (pc' := 24) (by decide +kernel) rfl (lv' := [(0, sv_i y), (1, sv_i d)]) (st' := [sv_i 0]) rfl ?_
      exact sv_zret C hr (by first | exact Or.inl rfl | exact Or.inr rfl | omega) (by decide +kernel) hok4 (by first | exact ⟨rfl, Or.inl ⟨by omega, rfl⟩⟩ | exact ⟨rfl, Or.inr ⟨by omega, rfl⟩⟩)
    · refine sv_go C.1 C.2.1 [(.iload_n 1, 1), (.iload_n 0, 1)] (pc' := 13) (by decide +kernel) rfl (lv' := [(0, sv_i y), (1, sv_i d)]) (st' := [sv_i y, sv_i d]) rfl ?_
      refine sv_cs C (index := 15) (k := 1) (rest := [sv_i d]) (by decide +kernel) (ct_X2_length l g A ty σ hok4 (y) ⟨by omega, by omega⟩) ⟨co_X2_length, in_X2, ⟨by decide, by decide, by decide +kernel⟩, Nat.le_of_ble_eq_true rfl, Nat.le_of_ble_eq_true rfl⟩ ml_X2_15 st_X2_length rfl rfl (Nat.le_of_ble_eq_true rfl) ⟨Nat.zero_le _, Nat.zero_le _⟩ (fun r8 σ9 hpo7 hok10 => ?_)
      obtain ⟨rfl, rfl⟩ := hpo7
      refine sv_same (st2 := [sv_i (365 + dy_lp y), sv_i d]) (lv2 := [(0, sv_i y), (1, sv_i d)]) rfl rfl ?_
      refine sv_icmp C.1 C.2.1 (cnd := .ge) (off := 7) (tgt := 23) (by decide +kernel) (by decide) ⟨by omega, by omega⟩ ⟨by omega, by omega⟩ (fun (h11 : (365 + dy_lp y) ≤ d) => ?_) (fun (h11 : ¬ ((365 + dy_lp y) ≤ d)) => ?_)
      · refine sv_go C.1 C.2.1 [(.iconst 0, 1)] (pc' := 24) (by decide +kernel) rfl (lv' := [(0, sv_i y), (1, sv_i d)]) (st' := [sv_i 0]) rfl ?_
        exact sv_zret C hr (by first | exact Or.inl rfl | exact Or.inr rfl | omega) (by decide +kernel) hok10 (by first | exact ⟨rfl, Or.inl ⟨by omega, rfl⟩⟩ | exact ⟨rfl, Or.inr ⟨by omega, rfl⟩⟩)
      · refine sv_go C.1 C.2.1 [(.iconst 1, 1)] (pc' := 20) (by decide +kernel) rfl (lv' := [(0, sv_i y), (1, sv_i d)]) (st' := [sv_i 1]) rfl ?_
        refine sv_goto C.1 C.2.1 (off := 4) (tgt := 24) (by decide +kernel) (by decide) ?_
        exact sv_zret C hr (by first | exact Or.inl rfl | exact Or.inr rfl | omega) (by decide +kernel) hok10 (by first | exact ⟨rfl, Or.inl ⟨by omega, rfl⟩⟩ | exact ⟨rfl, Or.inr ⟨by omega, rfl⟩⟩)
  · refine sv_same (st2 := [sv_i 0]) (lv2 := [(0, sv_i y), (1, sv_i d)]) rfl rfl ?_
    refine sv_if_t C.1 C.2.1 (cnd := .eq) (off := 19) (tgt := 23) (by decide +kernel) (by decide) ⟨by omega, by omega⟩ (show 0 = 0 by omega) ?_
    refine sv_go C.1 C.2.1 [(.iconst 0, 1)] (pc' := 24) (by decide +kernel) rfl (lv' := [(0, sv_i y), (1, sv_i d)]) (st' := [sv_i 0]) rfl ?_
    exact sv_zret C hr (by first | exact Or.inl rfl | exact Or.inr rfl | omega) (by decide +kernel) hok4 (by first | exact ⟨rfl, Or.inl ⟨by omega, rfl⟩⟩ | exact ⟨rfl, Or.inr ⟨by omega, rfl⟩⟩)

theorem fl_X2_36 : Cond.fieldLink RX2 36 "SaintsRoad$Days" "MONTH_START" "[I" ∈ lw_good := sv_mem 656 (by decide +kernel) rfl
set_option maxHeartbeats 4000000 in
set_option maxRecDepth 100000 in
theorem ct_X2_monthStart (l : Launch) (g : sv_G) (A : Nat → Prop) (ty : Nat → Nat) (σ : Nat → Nat → Int) (hok : sv_ok ty σ) (y : Int) (hy : 1 ≤ y ∧ y ≤ 2000) (mo : Int) (hm : 1 ≤ mo ∧ mo ≤ 12) : sv_M l yX2_monthStart cX2_monthStart 2 (some .int) { frames := 1, cells := 0, slots := 0, locals := 20 } g A ty σ [sv_i y, sv_i mo] (fun r σ' => σ = σ' ∧ r = [sv_i (dy_ms y mo)]) := by
  refine sv_enter (by decide) (Nat.le_of_ble_eq_true rfl) ?_
  intro p e s m args below meth c C hr
  have C : sv_C g A RX2 cX2_monthStart 2 p s m args meth c := C
  have hr : meth.sig.returnType = (some .int) := hr
  refine sv_same (st2 := []) (lv2 := [(0, sv_i y), (1, sv_i mo)]) rfl rfl ?_
  refine sv_go C.1 C.2.1 [(.iload_n 1, 1), (.iconst 1, 1)] (pc' := 2) (by decide +kernel) rfl (lv' := [(0, sv_i y), (1, sv_i mo)]) (st' := [sv_i 1, sv_i mo]) rfl ?_
  refine sv_icmp_f C.1 C.2.1 (cnd := .lt) (off := 9) (tgt := 11) (by decide +kernel) (by decide) ⟨by omega, by omega⟩ ⟨by omega, by omega⟩ (show ¬ (mo < 1) by omega) ?_
  refine sv_go C.1 C.2.1 [(.iload_n 1, 1), (.bipush 12, 2)] (pc' := 8) (by decide +kernel) rfl (lv' := [(0, sv_i y), (1, sv_i mo)]) (st' := [sv_i 12, sv_i mo]) rfl ?_
  refine sv_icmp_t C.1 C.2.1 (cnd := .le) (off := 5) (tgt := 13) (by decide +kernel) (by decide) ⟨by omega, by omega⟩ ⟨by omega, by omega⟩ (show mo ≤ 12 by omega) ?_
  refine sv_gs2 C (index := 36) (by decide +kernel) fl_X2_36 ?_
  refine sv_go C.1 C.2.1 [(.iload_n 1, 1), (.iconst 1, 1), (.isub, 1)] (pc' := 19) (by decide +kernel) rfl (lv' := [(0, sv_i y), (1, sv_i mo)]) (st' := [sv_i (mo - 1), sv_r g.2.2.2]) rfl ?_
  refine sv_tab C (z := dy_st mo) C.2.2.2.2.2.1.2.2.2.2 (by decide +kernel) (by omega) (by omega) (dy_st_tab (by omega) (by omega)) ?_
  refine sv_go C.1 C.2.1 [(.iload_n 1, 1), (.iconst 2, 1)] (pc' := 22) (by decide +kernel) rfl (lv' := [(0, sv_i y), (1, sv_i mo)]) (st' := [sv_i 2, sv_i mo, sv_i (dy_st mo)]) rfl ?_
  refine sv_icmp C.1 C.2.1 (cnd := .le) (off := 14) (tgt := 36) (by decide +kernel) (by decide) ⟨by omega, by omega⟩ ⟨by omega, by omega⟩ (fun (h1 : mo ≤ 2) => ?_) (fun (h1 : ¬ (mo ≤ 2)) => ?_)
  · refine sv_go C.1 C.2.1 [(.iconst 0, 1), (.iadd, 1)] (pc' := 38) (by decide +kernel) rfl (lv' := [(0, sv_i y), (1, sv_i mo)]) (st' := [sv_i ((dy_st mo) + 0)]) rfl ?_
    exact sv_iret C hr (by decide +kernel) hok (⟨rfl, by unfold dy_ms; first | (rw [if_pos (by omega), dy_lp1 (by omega)]) | (rw [if_pos (by omega), dy_lp0 (by omega)]) | (rw [if_neg (by omega)])⟩)
  · refine sv_go C.1 C.2.1 [(.iload_n 0, 1)] (pc' := 26) (by decide +kernel) rfl (lv' := [(0, sv_i y), (1, sv_i mo)]) (st' := [sv_i y, sv_i (dy_st mo)]) rfl ?_
    refine sv_cs C (index := 19) (k := 1) (rest := [sv_i (dy_st mo)]) (by decide +kernel) (ct_X2_isLeap l g A ty σ hok (y) ⟨by omega, by omega⟩) ⟨co_X2_isLeap, in_X2, ⟨by decide, by decide, by decide +kernel⟩, Nat.le_of_ble_eq_true rfl, Nat.le_of_ble_eq_true rfl⟩ ml_X2_19 st_X2_isLeap rfl rfl (Nat.le_of_ble_eq_true rfl) ⟨Nat.zero_le _, Nat.zero_le _⟩ (fun r3 σ4 hpo2 hok5 => ?_)
    obtain ⟨rfl, ⟨h6, rfl⟩ | ⟨h6, rfl⟩⟩ := hpo2
    · refine sv_same (st2 := [sv_i 1, sv_i (dy_st mo)]) (lv2 := [(0, sv_i y), (1, sv_i mo)]) rfl rfl ?_
      refine sv_if_f C.1 C.2.1 (cnd := .eq) (off := 7) (tgt := 36) (by decide +kernel) (by decide) ⟨by omega, by omega⟩ (show ¬ (1 = 0) by omega) ?_
      refine sv_go C.1 C.2.1 [(.iconst 1, 1)] (pc' := 33) (by decide +kernel) rfl (lv' := [(0, sv_i y), (1, sv_i mo)]) (st' := [sv_i 1, sv_i (dy_st mo)]) rfl ?_
      refine sv_goto C.1 C.2.1 (off := 4) (tgt := 37) (by decide +kernel) (by decide) ?_
      refine sv_go C.1 C.2.1 [(.iadd, 1)] (pc' := 38) (by decide +kernel) rfl (lv' := [(0, sv_i y), (1, sv_i mo)]) (st' := [sv_i ((dy_st mo) + 1)]) rfl ?_
      exact sv_iret C hr (by decide +kernel) hok5 (⟨rfl, by unfold dy_ms; first | (rw [if_pos (by omega), dy_lp1 (by omega)]) | (rw [if_pos (by omega), dy_lp0 (by omega)]) | (rw [if_neg (by omega)])⟩)
    · refine sv_same (st2 := [sv_i 0, sv_i (dy_st mo)]) (lv2 := [(0, sv_i y), (1, sv_i mo)]) rfl rfl ?_
      refine sv_if_t C.1 C.2.1 (cnd := .eq) (off := 7) (tgt := 36) (by decide +kernel) (by decide) ⟨by omega, by omega⟩ (show 0 = 0 by omega) ?_
      refine sv_go C.1 C.2.1 [(.iconst 0, 1), (.iadd, 1)] (pc' := 38) (by decide +kernel) rfl (lv' := [(0, sv_i y), (1, sv_i mo)]) (st' := [sv_i ((dy_st mo) + 0)]) rfl ?_
      exact sv_iret C hr (by decide +kernel) hok5 (⟨rfl, by unfold dy_ms; first | (rw [if_pos (by omega), dy_lp1 (by omega)]) | (rw [if_pos (by omega), dy_lp0 (by omega)]) | (rw [if_neg (by omega)])⟩)

theorem ml_X2_39 : Cond.methodLink RX2 39 yX2_monthStart ∈ lw_good := sv_mem 653 (by decide +kernel) rfl
theorem co_X2_monthStart : Cond.code yX2_monthStart cX2_monthStart 2 (some .int) ∈ lw_good := sv_mem 655 (by decide +kernel) rfl
theorem st_X2_monthStart : Cond.static yX2_monthStart ∈ lw_good := sv_mem 654 (by decide +kernel) rfl
set_option maxHeartbeats 4000000 in
set_option maxRecDepth 100000 in
theorem ct_X2_easterOf (l : Launch) (g : sv_G) (A : Nat → Prop) (ty : Nat → Nat) (σ : Nat → Nat → Int) (hok : sv_ok ty σ) (y : Int) (hy : 1 ≤ y ∧ y ≤ 2000) : sv_M l yX2_easterOf cX2_easterOf 3 (some .int) { frames := 2, cells := 0, slots := 0, locals := 41 } g A ty σ [sv_i y] (fun r σ' => σ = σ' ∧ r = [sv_i (dy_ea y)]) := by
  refine sv_enter (by decide) (Nat.le_of_ble_eq_true rfl) ?_
  intro p e s m args below meth c C hr
  have C : sv_C g A RX2 cX2_easterOf 3 p s m args meth c := C
  have hr : meth.sig.returnType = (some .int) := hr
  have hlp := dy_lp_in y
  have e3 := dy_ms3 y
  have hw := dy_wd_in y (dy_ms y 3 + 20 + (19 * (y % 19) + 15) % 30)
  refine sv_same (st2 := []) (lv2 := [(0, sv_i y)]) rfl rfl ?_
  refine sv_go C.1 C.2.1 [(.bipush 19, 2), (.iload_n 0, 1), (.bipush 19, 2)] (pc' := 5) (by decide +kernel) rfl (lv' := [(0, sv_i y)]) (st' := [sv_i 19, sv_i y, sv_i 19]) rfl ?_
  refine sv_iremP C.1 C.2.1 (by decide +kernel) ⟨by omega, by omega⟩ ⟨by omega, by omega⟩ ?_
  refine sv_go C.1 C.2.1 [(.imul, 1), (.bipush 15, 2), (.iadd, 1), (.bipush 30, 2)] (pc' := 12) (by decide +kernel) rfl (lv' := [(0, sv_i y)]) (st' := [sv_i 30, sv_i ((19 * (y % 19)) + 15)]) rfl ?_
  refine sv_iremP C.1 C.2.1 (by decide +kernel) ⟨by omega, by omega⟩ ⟨by omega, by omega⟩ ?_
  refine sv_go C.1 C.2.1 [(.istore_n 1, 1), (.iload_n 0, 1), (.iconst 3, 1)] (pc' := 16) (by decide +kernel) rfl (lv' := [(0, sv_i y), (1, sv_i (((19 * (y % 19)) + 15) % 30))]) (st' := [sv_i 3, sv_i y]) rfl ?_
  refine sv_cs C (index := 39) (k := 2) (rest := []) (by decide +kernel) (ct_X2_monthStart l g A ty σ hok (y) ⟨by omega, by omega⟩ (3) ⟨by omega, by omega⟩) ⟨co_X2_monthStart, in_X2, ⟨by decide, by decide, by decide +kernel⟩, Nat.le_of_ble_eq_true rfl, Nat.le_of_ble_eq_true rfl⟩ ml_X2_39 st_X2_monthStart rfl rfl (Nat.le_of_ble_eq_true rfl) ⟨Nat.zero_le _, Nat.zero_le _⟩ (fun r2 σ3 hpo1 hok4 => ?_)
  obtain ⟨rfl, rfl⟩ := hpo1
  have hn5 := dy_ms_in y 3
  refine sv_same (st2 := [sv_i (dy_ms y 3)]) (lv2 := [(0, sv_i y), (1, sv_i (((19 * (y % 19)) + 15) % 30))]) rfl rfl ?_
  refine sv_go C.1 C.2.1 [(.bipush 20, 2), (.iadd, 1), (.iload_n 1, 1), (.iadd, 1), (.istore_n 2, 1), (.iload_n 2, 1), (.bipush 7, 2), (.iadd, 1), (.iload_n 0, 1), (.iload_n 2, 1)] (pc' := 31) (by decide +kernel) rfl (lv' := [(0, sv_i y), (1, sv_i (((19 * (y % 19)) + 15) % 30)), (2, sv_i (((dy_ms y 3) + 20) + (((19 * (y % 19)) + 15) % 30)))]) (st' := [sv_i (((dy_ms y 3) + 20) + (((19 * (y % 19)) + 15) % 30)), sv_i y, sv_i ((((dy_ms y 3) + 20) + (((19 * (y % 19)) + 15) % 30)) + 7)]) rfl ?_
  refine sv_cs C (index := 25) (k := 2) (rest := [sv_i ((((dy_ms y 3) + 20) + (((19 * (y % 19)) + 15) % 30)) + 7)]) (by decide +kernel) (ct_X2_weekday l g A ty σ hok4 (y) ⟨by omega, by omega⟩ (((dy_ms y 3) + 20) + (((19 * (y % 19)) + 15) % 30)) ⟨by omega, by omega⟩) ⟨co_X2_weekday, in_X2, ⟨by decide, by decide, by decide +kernel⟩, Nat.le_of_ble_eq_true rfl, Nat.le_of_ble_eq_true rfl⟩ ml_X2_25 st_X2_weekday rfl rfl (Nat.le_of_ble_eq_true rfl) ⟨Nat.zero_le _, Nat.zero_le _⟩ (fun r7 σ8 hpo6 hok9 => ?_)
  obtain ⟨rfl, rfl⟩ := hpo6
  refine sv_same (st2 := [sv_i (dy_wd y (((dy_ms y 3) + 20) + (((19 * (y % 19)) + 15) % 30))), sv_i ((((dy_ms y 3) + 20) + (((19 * (y % 19)) + 15) % 30)) + 7)]) (lv2 := [(0, sv_i y), (1, sv_i (((19 * (y % 19)) + 15) % 30)), (2, sv_i (((dy_ms y 3) + 20) + (((19 * (y % 19)) + 15) % 30)))]) rfl rfl ?_
  refine sv_go C.1 C.2.1 [(.isub, 1)] (pc' := 35) (by decide +kernel) rfl (lv' := [(0, sv_i y), (1, sv_i (((19 * (y % 19)) + 15) % 30)), (2, sv_i (((dy_ms y 3) + 20) + (((19 * (y % 19)) + 15) % 30)))]) (st' := [sv_i (((((dy_ms y 3) + 20) + (((19 * (y % 19)) + 15) % 30)) + 7) - (dy_wd y (((dy_ms y 3) + 20) + (((19 * (y % 19)) + 15) % 30))))]) rfl ?_
  exact sv_iret C hr (by decide +kernel) hok9 (⟨rfl, rfl⟩)

set_option maxHeartbeats 4000000 in
set_option maxRecDepth 100000 in
theorem ct_X2_monthOf (l : Launch) (g : sv_G) (A : Nat → Prop) (ty : Nat → Nat) (σ : Nat → Nat → Int) (hok : sv_ok ty σ) (y : Int) (hy : 1 ≤ y ∧ y ≤ 2000) (d : Int) (hd : 0 ≤ d ∧ d ≤ 400) : sv_M l yX2_monthOf cX2_monthOf 3 (some .int) { frames := 2, cells := 0, slots := 0, locals := 41 } g A ty σ [sv_i y, sv_i d] (fun r σ' => σ = σ' ∧ ∃ M : Int, r = [sv_i M] ∧ (1 ≤ M ∧ M ≤ 12) ∧ dy_ms y M ≤ d ∧ (M = 12 ∨ d < dy_ms y (M + 1))) := by
  refine sv_enter (by decide) (Nat.le_of_ble_eq_true rfl) ?_
  intro p e s m args below meth c C hr
  have C : sv_C g A RX2 cX2_monthOf 3 p s m args meth c := C
  have hr : meth.sig.returnType = (some .int) := hr
  refine sv_same (st2 := []) (lv2 := [(0, sv_i y), (1, sv_i d)]) rfl rfl ?_
  refine sv_go C.1 C.2.1 [(.iconst 1, 1), (.istore_n 2, 1)] (pc' := 2) (by decide +kernel) rfl (lv' := [(0, sv_i y), (1, sv_i d), (2, sv_i 1)]) (st' := []) rfl ?_
  have L1 : ∀ (n : Nat) (M : Int) , (1 ≤ M ∧ M ≤ 12) → (dy_ms y M ≤ d) → (12 - M) < (n : Int) → sv_E p l e { frames := 2, cells := 0, slots := 0, locals := 41 } s m args below meth c 3 g A ty (fun r σ' => σ = σ' ∧ ∃ M : Int, r = [sv_i M] ∧ (1 ≤ M ∧ M ≤ 12) ∧ dy_ms y M ≤ d ∧ (M = 12 ∨ d < dy_ms y (M + 1))) σ 2 [(0, sv_i y), (1, sv_i d), (2, sv_i M)] [] := by
    intro n
    induction n with
    | zero => intro M  hM hs hmu; exact absurd hmu (by omega)
    | succ n ih2 =>
      intro M  hM hs hmu
      refine sv_go C.1 C.2.1 [(.iload_n 2, 1), (.bipush 12, 2)] (pc' := 5) (by decide +kernel) rfl (lv' := [(0, sv_i y), (1, sv_i d), (2, sv_i M)]) (st' := [sv_i 12, sv_i M]) rfl ?_
      refine sv_icmp C.1 C.2.1 (cnd := .ge) (off := 20) (tgt := 25) (by decide +kernel) (by decide) ⟨by omega, by omega⟩ ⟨by omega, by omega⟩ (fun (h3 : 12 ≤ M) => ?_) (fun (h3 : ¬ (12 ≤ M)) => ?_)
      · refine sv_go C.1 C.2.1 [(.iload_n 2, 1)] (pc' := 26) (by decide +kernel) rfl (lv' := [(0, sv_i y), (1, sv_i d), (2, sv_i M)]) (st' := [sv_i M]) rfl ?_
        exact sv_iret C hr (by decide +kernel) hok (⟨rfl, _, rfl, by omega, by omega, by omega⟩)
      · refine sv_go C.1 C.2.1 [(.iload_n 1, 1), (.iload_n 0, 1), (.iload_n 2, 1), (.iconst 1, 1), (.iadd, 1)] (pc' := 13) (by decide +kernel) rfl (lv' := [(0, sv_i y), (1, sv_i d), (2, sv_i M)]) (st' := [sv_i (M + 1), sv_i y, sv_i d]) rfl ?_
        refine sv_cs C (index := 39) (k := 2) (rest := [sv_i d]) (by decide +kernel) (ct_X2_monthStart l g A ty σ hok (y) ⟨by omega, by omega⟩ (M + 1) ⟨by omega, by omega⟩) ⟨co_X2_monthStart, in_X2, ⟨by decide, by decide, by decide +kernel⟩, Nat.le_of_ble_eq_true rfl, Nat.le_of_ble_eq_true rfl⟩ ml_X2_39 st_X2_monthStart rfl rfl (Nat.le_of_ble_eq_true rfl) ⟨Nat.zero_le _, Nat.zero_le _⟩ (fun r5 σ6 hpo4 hok7 => ?_)
        obtain ⟨rfl, rfl⟩ := hpo4
        have hn8 := dy_ms_in y (M + 1)
        refine sv_same (st2 := [sv_i (dy_ms y (M + 1)), sv_i d]) (lv2 := [(0, sv_i y), (1, sv_i d), (2, sv_i M)]) rfl rfl ?_
        refine sv_icmp C.1 C.2.1 (cnd := .lt) (off := 9) (tgt := 25) (by decide +kernel) (by decide) ⟨by omega, by omega⟩ ⟨by omega, by omega⟩ (fun (h9 : d < (dy_ms y (M + 1))) => ?_) (fun (h9 : ¬ (d < (dy_ms y (M + 1)))) => ?_)
        · refine sv_go C.1 C.2.1 [(.iload_n 2, 1)] (pc' := 26) (by decide +kernel) rfl (lv' := [(0, sv_i y), (1, sv_i d), (2, sv_i M)]) (st' := [sv_i M]) rfl ?_
          exact sv_iret C hr (by decide +kernel) hok7 (⟨rfl, _, rfl, by omega, by omega, by omega⟩)
        · refine sv_go C.1 C.2.1 [(.iinc 2 1, 3)] (pc' := 22) (by decide +kernel) rfl (lv' := [(0, sv_i y), (1, sv_i d), (2, sv_i (M + 1))]) (st' := []) rfl ?_
          refine sv_goto C.1 C.2.1 (off := (-20)) (tgt := 2) (by decide +kernel) (by decide) ?_
          exact ih2 (M + 1)  (by omega) (by omega) (by omega)
  exact L1 (((12 - 1 : Int)).toNat + 1) 1  (by omega) (by rw [dy_ms1]; omega) (by omega)
end
section
set_option maxHeartbeats 4000000 in
set_option maxRecDepth 100000 in
theorem ct_X11_in (l : Launch) (g : sv_G) (A : Nat → Prop) (ty : Nat → Nat) (σ : Nat → Nat → Int) (hok : sv_ok ty σ) (v : Int) (hv : sv_in64 v) (lo : Int) (hl : sv_in64 lo) (hi : Int) (hh : sv_in64 hi) : sv_M l yX11_in cX11_in 6 (some .boolean) { frames := 0, cells := 0, slots := 0, locals := 0 } g A ty σ [sv_l v, sv_l lo, sv_l hi] (fun r σ' => σ = σ' ∧ sv_bo (lo ≤ v ∧ v ≤ hi) r) := by
  refine sv_enter (by decide) (Nat.le_of_ble_eq_true rfl) ?_
  intro p e s m args below meth c C hr
  have C : sv_C g A RX11 cX11_in 6 p s m args meth c := C
  have hr : meth.sig.returnType = (some .boolean) := hr
  refine sv_same (st2 := []) (lv2 := [(0, sv_l v), (2, sv_l lo), (4, sv_l hi)]) rfl rfl ?_
  refine sv_go C.1 C.2.1 [(.lload_n 0, 1), (.lload_n 2, 1)] (pc' := 2) (by decide +kernel) rfl (lv' := [(0, sv_l v), (2, sv_l lo), (4, sv_l hi)]) (st' := [sv_l lo, sv_l v]) rfl ?_
  refine sv_lcmp C.1 C.2.1 (by decide +kernel) ⟨by omega, by omega⟩ ⟨by omega, by omega⟩ (fun z2 (h1 : sv_sg z2 v lo) => ?_)
  obtain ⟨h1z, h1l, h1e, h1g⟩ := h1
  refine sv_if C.1 C.2.1 (cnd := .lt) (off := 14) (tgt := 17) (by decide +kernel) (by decide) ⟨by omega, by omega⟩ (fun (h3 : z2 < 0) => ?_) (fun (h3 : ¬ (z2 < 0)) => ?_)
  · refine sv_go C.1 C.2.1 [(.iconst 0, 1)] (pc' := 18) (by decide +kernel) rfl (lv' := [(0, sv_l v), (2, sv_l lo), (4, sv_l hi)]) (st' := [sv_i 0]) rfl ?_
    exact sv_zret C hr (by first | exact Or.inl rfl | exact Or.inr rfl | omega) (by decide +kernel) hok (by first | exact ⟨rfl, Or.inl ⟨by omega, rfl⟩⟩ | exact ⟨rfl, Or.inr ⟨by omega, rfl⟩⟩)
  · refine sv_go C.1 C.2.1 [(.lload_n 0, 1), (.lload 4, 2)] (pc' := 9) (by decide +kernel) rfl (lv' := [(0, sv_l v), (2, sv_l lo), (4, sv_l hi)]) (st' := [sv_l hi, sv_l v]) rfl ?_
    refine sv_lcmp C.1 C.2.1 (by decide +kernel) ⟨by omega, by omega⟩ ⟨by omega, by omega⟩ (fun z5 (h4 : sv_sg z5 v hi) => ?_)
    obtain ⟨h4z, h4l, h4e, h4g⟩ := h4
    refine sv_if C.1 C.2.1 (cnd := .gt) (off := 7) (tgt := 17) (by decide +kernel) (by decide) ⟨by omega, by omega⟩ (fun (h6 : 0 < z5) => ?_) (fun (h6 : ¬ (0 < z5)) => ?_)
    · refine sv_go C.1 C.2.1 [(.iconst 0, 1)] (pc' := 18) (by decide +kernel) rfl (lv' := [(0, sv_l v), (2, sv_l lo), (4, sv_l hi)]) (st' := [sv_i 0]) rfl ?_
      exact sv_zret C hr (by first | exact Or.inl rfl | exact Or.inr rfl | omega) (by decide +kernel) hok (by first | exact ⟨rfl, Or.inl ⟨by omega, rfl⟩⟩ | exact ⟨rfl, Or.inr ⟨by omega, rfl⟩⟩)
    · refine sv_go C.1 C.2.1 [(.iconst 1, 1)] (pc' := 14) (by decide +kernel) rfl (lv' := [(0, sv_l v), (2, sv_l lo), (4, sv_l hi)]) (st' := [sv_i 1]) rfl ?_
      refine sv_goto C.1 C.2.1 (off := 4) (tgt := 18) (by decide +kernel) (by decide) ?_
      exact sv_zret C hr (by first | exact Or.inl rfl | exact Or.inr rfl | omega) (by decide +kernel) hok (by first | exact ⟨rfl, Or.inl ⟨by omega, rfl⟩⟩ | exact ⟨rfl, Or.inr ⟨by omega, rfl⟩⟩)

set_option maxHeartbeats 4000000 in
set_option maxRecDepth 100000 in
theorem ct_X11_isLeap (l : Launch) (g : sv_G) (A : Nat → Prop) (ty : Nat → Nat) (σ : Nat → Nat → Int) (hok : sv_ok ty σ) (y : Int) (hy : 0 ≤ y ∧ y ≤ 2000) : sv_M l yX11_isLeap cX11_isLeap 1 (some .boolean) { frames := 0, cells := 0, slots := 0, locals := 0 } g A ty σ [sv_i y] (fun r σ' => σ = σ' ∧ sv_bo (y % 4 = 0) r) := by
  refine sv_enter (by decide) (Nat.le_of_ble_eq_true rfl) ?_
  intro p e s m args below meth c C hr
  have C : sv_C g A RX11 cX11_isLeap 1 p s m args meth c := C
  have hr : meth.sig.returnType = (some .boolean) := hr
  refine sv_same (st2 := []) (lv2 := [(0, sv_i y)]) rfl rfl ?_
  refine sv_go C.1 C.2.1 [(.iload_n 0, 1), (.iconst 4, 1)] (pc' := 2) (by decide +kernel) rfl (lv' := [(0, sv_i y)]) (st' := [sv_i 4, sv_i y]) rfl ?_
  refine sv_iremP C.1 C.2.1 (by decide +kernel) ⟨by omega, by omega⟩ ⟨by omega, by omega⟩ ?_
  refine sv_if C.1 C.2.1 (cnd := .ne) (off := 7) (tgt := 10) (by decide +kernel) (by decide) ⟨by omega, by omega⟩ (fun (h1 : (y % 4) ≠ 0) => ?_) (fun (h1 : ¬ ((y % 4) ≠ 0)) => ?_)
  · refine sv_go C.1 C.2.1 [(.iconst 0, 1)] (pc' := 11) (by decide +kernel) rfl (lv' := [(0, sv_i y)]) (st' := [sv_i 0]) rfl ?_
    exact sv_zret C hr (by first | exact Or.inl rfl | exact Or.inr rfl | omega) (by decide +kernel) hok (by first | exact ⟨rfl, Or.inl ⟨by omega, rfl⟩⟩ | exact ⟨rfl, Or.inr ⟨by omega, rfl⟩⟩)
  · refine sv_go C.1 C.2.1 [(.iconst 1, 1)] (pc' := 7) (by decide +kernel) rfl (lv' := [(0, sv_i y)]) (st' := [sv_i 1]) rfl ?_
    refine sv_goto C.1 C.2.1 (off := 4) (tgt := 11) (by decide +kernel) (by decide) ?_
    exact sv_zret C hr (by first | exact Or.inl rfl | exact Or.inr rfl | omega) (by decide +kernel) hok (by first | exact ⟨rfl, Or.inl ⟨by omega, rfl⟩⟩ | exact ⟨rfl, Or.inr ⟨by omega, rfl⟩⟩)

theorem ml_X11_3 : Cond.methodLink RX11 3 yX11_isLeap ∈ lw_good := sv_mem 1019 (by decide +kernel) rfl
theorem co_X11_isLeap : Cond.code yX11_isLeap cX11_isLeap 1 (some .boolean) ∈ lw_good := sv_mem 1021 (by decide +kernel) rfl
theorem in_X11 : Cond.initialized RX11 ∈ lw_good := sv_mem 82 (by decide +kernel) rfl
theorem st_X11_isLeap : Cond.static yX11_isLeap ∈ lw_good := sv_mem 1020 (by decide +kernel) rfl
set_option maxHeartbeats 4000000 in
set_option maxRecDepth 100000 in
theorem ct_X11_daysOf (l : Launch) (g : sv_G) (A : Nat → Prop) (ty : Nat → Nat) (σ : Nat → Nat → Int) (hok : sv_ok ty σ) (y : Int) (hy : 0 ≤ y ∧ y ≤ 2000) : sv_M l yX11_daysOf cX11_daysOf 1 (some .int) { frames := 1, cells := 0, slots := 0, locals := 20 } g A ty σ [sv_i y] (fun r σ' => σ = σ' ∧ r = [sv_i (365 + dy_lp y)]) := by
  refine sv_enter (by decide) (Nat.le_of_ble_eq_true rfl) ?_
  intro p e s m args below meth c C hr
  have C : sv_C g A RX11 cX11_daysOf 1 p s m args meth c := C
  have hr : meth.sig.returnType = (some .int) := hr
  refine sv_same (st2 := []) (lv2 := [(0, sv_i y)]) rfl rfl ?_
  refine sv_go C.1 C.2.1 [(.iload_n 0, 1)] (pc' := 1) (by decide +kernel) rfl (lv' := [(0, sv_i y)]) (st' := [sv_i y]) rfl ?_
  refine sv_cs C (index := 3) (k := 1) (rest := []) (by decide +kernel) (ct_X11_isLeap l g A ty σ hok (y) ⟨by omega, by omega⟩) ⟨co_X11_isLeap, in_X11, ⟨by decide, by decide, by decide +kernel⟩, Nat.le_of_ble_eq_true rfl, Nat.le_of_ble_eq_true rfl⟩ ml_X11_3 st_X11_isLeap rfl rfl (Nat.le_of_ble_eq_true rfl) ⟨Nat.zero_le _, Nat.zero_le _⟩ (fun r2 σ3 hpo1 hok4 => ?_)
  obtain ⟨rfl, ⟨h5, rfl⟩ | ⟨h5, rfl⟩⟩ := hpo1
  · refine sv_same (st2 := [sv_i 1]) (lv2 := [(0, sv_i y)]) rfl rfl ?_
    refine sv_if_f C.1 C.2.1 (cnd := .eq) (off := 9) (tgt := 13) (by decide +kernel) (by decide) ⟨by omega, by omega⟩ (show ¬ (1 = 0) by omega) ?_
    refine sv_go C.1 C.2.1 [(.sipush 366, 3)] (pc' := 10) (by decide +kernel) rfl (lv' := [(0, sv_i y)]) (st' := [sv_i 366]) rfl ?_
    refine sv_goto C.1 C.2.1 (off := 6) (tgt := 16) (by decide +kernel) (by decide) ?_
    exact sv_iret C hr (by decide +kernel) hok4 (⟨rfl, by first | (rw [dy_lp1 (by omega)]; rfl) | (rw [dy_lp0 (by omega)]; rfl)⟩)
  · refine sv_same (st2 := [sv_i 0]) (lv2 := [(0, sv_i y)]) rfl rfl ?_
    refine sv_if_t C.1 C.2.1 (cnd := .eq) (off := 9) (tgt := 13) (by decide +kernel) (by decide) ⟨by omega, by omega⟩ (show 0 = 0 by omega) ?_
    refine sv_go C.1 C.2.1 [(.sipush 365, 3)] (pc' := 16) (by decide +kernel) rfl (lv' := [(0, sv_i y)]) (st' := [sv_i 365]) rfl ?_
    exact sv_iret C hr (by decide +kernel) hok4 (⟨rfl, by first | (rw [dy_lp1 (by omega)]; rfl) | (rw [dy_lp0 (by omega)]; rfl)⟩)

set_option maxHeartbeats 4000000 in
set_option maxRecDepth 100000 in
theorem ct_X11_monthDays (l : Launch) (g : sv_G) (A : Nat → Prop) (ty : Nat → Nat) (σ : Nat → Nat → Int) (hok : sv_ok ty σ) (y : Int) (hy : 0 ≤ y ∧ y ≤ 2000) (mo : Int) (hm : sv_in mo) : sv_M l yX11_monthDays cX11_monthDays 2 (some .int) { frames := 1, cells := 0, slots := 0, locals := 20 } g A ty σ [sv_i y, sv_i mo] (fun r σ' => σ = σ' ∧ r = [sv_i (dy_md y mo)]) := by
  refine sv_enter (by decide) (Nat.le_of_ble_eq_true rfl) ?_
  intro p e s m args below meth c C hr
  have C : sv_C g A RX11 cX11_monthDays 2 p s m args meth c := C
  have hr : meth.sig.returnType = (some .int) := hr
  refine sv_same (st2 := []) (lv2 := [(0, sv_i y), (1, sv_i mo)]) rfl rfl ?_
  refine sv_go C.1 C.2.1 [(.iload_n 1, 1), (.iconst 2, 1)] (pc' := 2) (by decide +kernel) rfl (lv' := [(0, sv_i y), (1, sv_i mo)]) (st' := [sv_i 2, sv_i mo]) rfl ?_
  refine sv_icmp C.1 C.2.1 (cnd := .ne) (off := 18) (tgt := 20) (by decide +kernel) (by decide) ⟨by omega, by omega⟩ ⟨by omega, by omega⟩ (fun (h1 : mo ≠ 2) => ?_) (fun (h1 : ¬ (mo ≠ 2)) => ?_)
  · refine sv_go C.1 C.2.1 [(.iload_n 1, 1), (.iconst 4, 1)] (pc' := 22) (by decide +kernel) rfl (lv' := [(0, sv_i y), (1, sv_i mo)]) (st' := [sv_i 4, sv_i mo]) rfl ?_
    refine sv_icmp C.1 C.2.1 (cnd := .eq) (off := 21) (tgt := 43) (by decide +kernel) (by decide) ⟨by omega, by omega⟩ ⟨by omega, by omega⟩ (fun (h2 : mo = 4) => ?_) (fun (h2 : ¬ (mo = 4)) => ?_)
    · refine sv_go C.1 C.2.1 [(.bipush 30, 2)] (pc' := 45) (by decide +kernel) rfl (lv' := [(0, sv_i y), (1, sv_i mo)]) (st' := [sv_i 30]) rfl ?_
      refine sv_goto C.1 C.2.1 (off := 5) (tgt := 50) (by decide +kernel) (by decide) ?_
      exact sv_iret C hr (by decide +kernel) hok (⟨rfl, congrArg (fun q => [sv_i q]) (by unfold dy_md; first | (rw [if_pos (by omega), dy_lp1 (by omega)]; rfl) | (rw [if_pos (by omega), dy_lp0 (by omega)]; rfl) | (rw [if_neg (by omega), if_pos (by omega)]) | (rw [if_neg (by omega), if_neg (by omega)]))⟩)
    · refine sv_go C.1 C.2.1 [(.iload_n 1, 1), (.bipush 6, 2)] (pc' := 28) (by decide +kernel) rfl (lv' := [(0, sv_i y), (1, sv_i mo)]) (st' := [sv_i 6, sv_i mo]) rfl ?_
      refine sv_icmp C.1 C.2.1 (cnd := .eq) (off := 15) (tgt := 43) (by decide +kernel) (by decide) ⟨by omega, by omega⟩ ⟨by omega, by omega⟩ (fun (h3 : mo = 6) => ?_) (fun (h3 : ¬ (mo = 6)) => ?_)
      · refine sv_go C.1 C.2.1 [(.bipush 30, 2)] (pc' := 45) (by decide +kernel) rfl (lv' := [(0, sv_i y), (1, sv_i mo)]) (st' := [sv_i 30]) rfl ?_
        refine sv_goto C.1 C.2.1 (off := 5) (tgt := 50) (by decide +kernel) (by decide) ?_
        exact sv_iret C hr (by decide +kernel) hok (⟨rfl, congrArg (fun q => [sv_i q]) (by unfold dy_md; first | (rw [if_pos (by omega), dy_lp1 (by omega)]; rfl) | (rw [if_pos (by omega), dy_lp0 (by omega)]; rfl) | (rw [if_neg (by omega), if_pos (by omega)]) | (rw [if_neg (by omega), if_neg (by omega)]))⟩)
      · refine sv_go C.1 C.2.1 [(.iload_n 1, 1), (.bipush 9, 2)] (pc' := 34) (by decide +kernel) rfl (lv' := [(0, sv_i y), (1, sv_i mo)]) (st' := [sv_i 9, sv_i mo]) rfl ?_
        refine sv_icmp C.1 C.2.1 (cnd := .eq) (off := 9) (tgt := 43) (by decide +kernel) (by decide) ⟨by omega, by omega⟩ ⟨by omega, by omega⟩ (fun (h4 : mo = 9) => ?_) (fun (h4 : ¬ (mo = 9)) => ?_)
        · refine sv_go C.1 C.2.1 [(.bipush 30, 2)] (pc' := 45) (by decide +kernel) rfl (lv' := [(0, sv_i y), (1, sv_i mo)]) (st' := [sv_i 30]) rfl ?_
          refine sv_goto C.1 C.2.1 (off := 5) (tgt := 50) (by decide +kernel) (by decide) ?_
          exact sv_iret C hr (by decide +kernel) hok (⟨rfl, congrArg (fun q => [sv_i q]) (by unfold dy_md; first | (rw [if_pos (by omega), dy_lp1 (by omega)]; rfl) | (rw [if_pos (by omega), dy_lp0 (by omega)]; rfl) | (rw [if_neg (by omega), if_pos (by omega)]) | (rw [if_neg (by omega), if_neg (by omega)]))⟩)
        · refine sv_go C.1 C.2.1 [(.iload_n 1, 1), (.bipush 11, 2)] (pc' := 40) (by decide +kernel) rfl (lv' := [(0, sv_i y), (1, sv_i mo)]) (st' := [sv_i 11, sv_i mo]) rfl ?_
          refine sv_icmp C.1 C.2.1 (cnd := .ne) (off := 8) (tgt := 48) (by decide +kernel) (by decide) ⟨by omega, by omega⟩ ⟨by omega, by omega⟩ (fun (h5 : mo ≠ 11) => ?_) (fun (h5 : ¬ (mo ≠ 11)) => ?_)
          · refine sv_go C.1 C.2.1 [(.bipush 31, 2)] (pc' := 50) (by decide +kernel) rfl (lv' := [(0, sv_i y), (1, sv_i mo)]) (st' := [sv_i 31]) rfl ?_
            exact sv_iret C hr (by decide +kernel) hok (⟨rfl, congrArg (fun q => [sv_i q]) (by unfold dy_md; first | (rw [if_pos (by omega), dy_lp1 (by omega)]; rfl) | (rw [if_pos (by omega), dy_lp0 (by omega)]; rfl) | (rw [if_neg (by omega), if_pos (by omega)]) | (rw [if_neg (by omega), if_neg (by omega)]))⟩)
          · refine sv_go C.1 C.2.1 [(.bipush 30, 2)] (pc' := 45) (by decide +kernel) rfl (lv' := [(0, sv_i y), (1, sv_i mo)]) (st' := [sv_i 30]) rfl ?_
            refine sv_goto C.1 C.2.1 (off := 5) (tgt := 50) (by decide +kernel) (by decide) ?_
            exact sv_iret C hr (by decide +kernel) hok (⟨rfl, congrArg (fun q => [sv_i q]) (by unfold dy_md; first | (rw [if_pos (by omega), dy_lp1 (by omega)]; rfl) | (rw [if_pos (by omega), dy_lp0 (by omega)]; rfl) | (rw [if_neg (by omega), if_pos (by omega)]) | (rw [if_neg (by omega), if_neg (by omega)]))⟩)
  · refine sv_go C.1 C.2.1 [(.iload_n 0, 1)] (pc' := 6) (by decide +kernel) rfl (lv' := [(0, sv_i y), (1, sv_i mo)]) (st' := [sv_i y]) rfl ?_
    refine sv_cs C (index := 3) (k := 1) (rest := []) (by decide +kernel) (ct_X11_isLeap l g A ty σ hok (y) ⟨by omega, by omega⟩) ⟨co_X11_isLeap, in_X11, ⟨by decide, by decide, by decide +kernel⟩, Nat.le_of_ble_eq_true rfl, Nat.le_of_ble_eq_true rfl⟩ ml_X11_3 st_X11_isLeap rfl rfl (Nat.le_of_ble_eq_true rfl) ⟨Nat.zero_le _, Nat.zero_le _⟩ (fun r7 σ8 hpo6 hok9 => ?_)
    obtain ⟨rfl, ⟨h10, rfl⟩ | ⟨h10, rfl⟩⟩ := hpo6
    · refine sv_same (st2 := [sv_i 1]) (lv2 := [(0, sv_i y), (1, sv_i mo)]) rfl rfl ?_
      refine sv_if_f C.1 C.2.1 (cnd := .eq) (off := 8) (tgt := 17) (by decide +kernel) (by decide) ⟨by omega, by omega⟩ (show ¬ (1 = 0) by omega) ?_
      refine sv_go C.1 C.2.1 [(.bipush 29, 2)] (pc' := 14) (by decide +kernel) rfl (lv' := [(0, sv_i y), (1, sv_i mo)]) (st' := [sv_i 29]) rfl ?_
      refine sv_goto C.1 C.2.1 (off := 5) (tgt := 19) (by decide +kernel) (by decide) ?_
      exact sv_iret C hr (by decide +kernel) hok9 (⟨rfl, congrArg (fun q => [sv_i q]) (by unfold dy_md; first | (rw [if_pos (by omega), dy_lp1 (by omega)]; rfl) | (rw [if_pos (by omega), dy_lp0 (by omega)]; rfl) | (rw [if_neg (by omega), if_pos (by omega)]) | (rw [if_neg (by omega), if_neg (by omega)]))⟩)
    · refine sv_same (st2 := [sv_i 0]) (lv2 := [(0, sv_i y), (1, sv_i mo)]) rfl rfl ?_
      refine sv_if_t C.1 C.2.1 (cnd := .eq) (off := 8) (tgt := 17) (by decide +kernel) (by decide) ⟨by omega, by omega⟩ (show 0 = 0 by omega) ?_
      refine sv_go C.1 C.2.1 [(.bipush 28, 2)] (pc' := 19) (by decide +kernel) rfl (lv' := [(0, sv_i y), (1, sv_i mo)]) (st' := [sv_i 28]) rfl ?_
      exact sv_iret C hr (by decide +kernel) hok9 (⟨rfl, congrArg (fun q => [sv_i q]) (by unfold dy_md; first | (rw [if_pos (by omega), dy_lp1 (by omega)]; rfl) | (rw [if_pos (by omega), dy_lp0 (by omega)]; rfl) | (rw [if_neg (by omega), if_pos (by omega)]) | (rw [if_neg (by omega), if_neg (by omega)]))⟩)

theorem cl_X11_7 : Cond.constantLong RX11 7 (2000) ∈ lw_good := sv_mem 1006 (by decide +kernel) rfl
theorem ml_X11_9 : Cond.methodLink RX11 9 yX11_in ∈ lw_good := sv_mem 1007 (by decide +kernel) rfl
theorem co_X11_in : Cond.code yX11_in cX11_in 6 (some .boolean) ∈ lw_good := sv_mem 1009 (by decide +kernel) rfl
theorem st_X11_in : Cond.static yX11_in ∈ lw_good := sv_mem 1008 (by decide +kernel) rfl
set_option maxHeartbeats 4000000 in
set_option maxRecDepth 100000 in
theorem ct_X11_isYear (l : Launch) (g : sv_G) (A : Nat → Prop) (ty : Nat → Nat) (σ : Nat → Nat → Int) (hok : sv_ok ty σ) (y : Int) (hy : sv_in y) : sv_M l yX11_isYear cX11_isYear 1 (some .boolean) { frames := 1, cells := 0, slots := 0, locals := 25 } g A ty σ [sv_i y] (fun r σ' => σ = σ' ∧ sv_bo (1 ≤ y ∧ y ≤ 2000) r) := by
  refine sv_enter (by decide) (Nat.le_of_ble_eq_true rfl) ?_
  intro p e s m args below meth c C hr
  have C : sv_C g A RX11 cX11_isYear 1 p s m args meth c := C
  have hr : meth.sig.returnType = (some .boolean) := hr
  refine sv_same (st2 := []) (lv2 := [(0, sv_i y)]) rfl rfl ?_
  refine sv_go C.1 C.2.1 [(.iload_n 0, 1)] (pc' := 1) (by decide +kernel) rfl (lv' := [(0, sv_i y)]) (st' := [sv_i y]) rfl ?_
  refine sv_i2l C.1 C.2.1 (by decide +kernel) ⟨by omega, by omega⟩ ?_
  refine sv_go C.1 C.2.1 [(.lconst 1, 1)] (pc' := 3) (by decide +kernel) rfl (lv' := [(0, sv_i y)]) (st' := [sv_l 1, sv_l y]) rfl ?_
  refine sv_ldc2 C (index := 7) (z := 2000) (by decide +kernel) cl_X11_7 (by decide) ?_
  refine sv_cs C (index := 9) (k := 3) (rest := []) (by decide +kernel) (ct_X11_in l g A ty σ hok (y) ⟨by omega, by omega⟩ (1) ⟨by omega, by omega⟩ (2000) ⟨by omega, by omega⟩) ⟨co_X11_in, in_X11, ⟨by decide, by decide, by decide +kernel⟩, Nat.le_of_ble_eq_true rfl, Nat.le_of_ble_eq_true rfl⟩ ml_X11_9 st_X11_in rfl rfl (Nat.le_of_ble_eq_true rfl) ⟨Nat.zero_le _, Nat.zero_le _⟩ (fun r2 σ3 hpo1 hok4 => ?_)
  obtain ⟨rfl, ⟨h5, rfl⟩ | ⟨h5, rfl⟩⟩ := hpo1
  · refine sv_same (st2 := [sv_i 1]) (lv2 := [(0, sv_i y)]) rfl rfl ?_
    exact sv_zret C hr (by first | exact Or.inl rfl | exact Or.inr rfl | omega) (by decide +kernel) hok4 (by first | exact ⟨rfl, Or.inl ⟨by omega, rfl⟩⟩ | exact ⟨rfl, Or.inr ⟨by omega, rfl⟩⟩)
  · refine sv_same (st2 := [sv_i 0]) (lv2 := [(0, sv_i y)]) rfl rfl ?_
    exact sv_zret C hr (by first | exact Or.inl rfl | exact Or.inr rfl | omega) (by decide +kernel) hok4 (by first | exact ⟨rfl, Or.inl ⟨by omega, rfl⟩⟩ | exact ⟨rfl, Or.inr ⟨by omega, rfl⟩⟩)

theorem ml_X11_13 : Cond.methodLink RX11 13 yX11_isYear ∈ lw_good := sv_mem 1003 (by decide +kernel) rfl
theorem co_X11_isYear : Cond.code yX11_isYear cX11_isYear 1 (some .boolean) ∈ lw_good := sv_mem 1005 (by decide +kernel) rfl
theorem st_X11_isYear : Cond.static yX11_isYear ∈ lw_good := sv_mem 1004 (by decide +kernel) rfl
theorem ml_X11_16 : Cond.methodLink RX11 16 yX11_daysOf ∈ lw_good := sv_mem 1035 (by decide +kernel) rfl
theorem co_X11_daysOf : Cond.code yX11_daysOf cX11_daysOf 1 (some .int) ∈ lw_good := sv_mem 1037 (by decide +kernel) rfl
theorem st_X11_daysOf : Cond.static yX11_daysOf ∈ lw_good := sv_mem 1036 (by decide +kernel) rfl
set_option maxHeartbeats 4000000 in
set_option maxRecDepth 100000 in
theorem ct_X11_isDay (l : Launch) (g : sv_G) (A : Nat → Prop) (ty : Nat → Nat) (σ : Nat → Nat → Int) (hok : sv_ok ty σ) (y : Int) (hy : sv_in y) (d : Int) (hd : sv_in d) : sv_M l yX11_isDay cX11_isDay 2 (some .boolean) { frames := 2, cells := 0, slots := 0, locals := 45 } g A ty σ [sv_i y, sv_i d] (fun r σ' => σ = σ' ∧ sv_bo ((1 ≤ y ∧ y ≤ 2000) ∧ 0 ≤ d ∧ d < 365 + dy_lp y) r) := by
  refine sv_enter (by decide) (Nat.le_of_ble_eq_true rfl) ?_
  intro p e s m args below meth c C hr
  have C : sv_C g A RX11 cX11_isDay 2 p s m args meth c := C
  have hr : meth.sig.returnType = (some .boolean) := hr
  refine sv_same (st2 := []) (lv2 := [(0, sv_i y), (1, sv_i d)]) rfl rfl ?_
  refine sv_go C.1 C.2.1 [(.iload_n 0, 1)] (pc' := 1) (by decide +kernel) rfl (lv' := [(0, sv_i y), (1, sv_i d)]) (st' := [sv_i y]) rfl ?_
  refine sv_cs C (index := 13) (k := 1) (rest := []) (by decide +kernel) (ct_X11_isYear l g A ty σ hok (y) ⟨by omega, by omega⟩) ⟨co_X11_isYear, in_X11, ⟨by decide, by decide, by decide +kernel⟩, Nat.le_of_ble_eq_true rfl, Nat.le_of_ble_eq_true rfl⟩ ml_X11_13 st_X11_isYear rfl rfl (Nat.le_of_ble_eq_true rfl) ⟨Nat.zero_le _, Nat.zero_le _⟩ (fun r2 σ3 hpo1 hok4 => ?_)
  obtain ⟨rfl, ⟨h5, rfl⟩ | ⟨h5, rfl⟩⟩ := hpo1
  · refine sv_same (st2 := [sv_i 1]) (lv2 := [(0, sv_i y), (1, sv_i d)]) rfl rfl ?_
    refine sv_if_f C.1 C.2.1 (cnd := .eq) (off := 23) (tgt := 27) (by decide +kernel) (by decide) ⟨by omega, by omega⟩ (show ¬ (1 = 0) by omega) ?_
    refine sv_go C.1 C.2.1 [(.iload_n 1, 1)] (pc' := 8) (by decide +kernel) rfl (lv' := [(0, sv_i y), (1, sv_i d)]) (st' := [sv_i d]) rfl ?_
    refine sv_i2l C.1 C.2.1 (by decide +kernel) ⟨by omega, by omega⟩ ?_
    refine sv_go C.1 C.2.1 [(.lconst 0, 1), (.iload_n 0, 1)] (pc' := 11) (by decide +kernel) rfl (lv' := [(0, sv_i y), (1, sv_i d)]) (st' := [sv_i y, sv_l 0, sv_l d]) rfl ?_
    refine sv_cs C (index := 16) (k := 1) (rest := [sv_l 0, sv_l d]) (by decide +kernel) (ct_X11_daysOf l g A ty σ hok4 (y) ⟨by omega, by omega⟩) ⟨co_X11_daysOf, in_X11, ⟨by decide, by decide, by decide +kernel⟩, Nat.le_of_ble_eq_true rfl, Nat.le_of_ble_eq_true rfl⟩ ml_X11_16 st_X11_daysOf rfl rfl (Nat.le_of_ble_eq_true rfl) ⟨Nat.zero_le _, Nat.zero_le _⟩ (fun r7 σ8 hpo6 hok9 => ?_)
    obtain ⟨rfl, rfl⟩ := hpo6
    have hn10 := dy_lp_in y
    refine sv_same (st2 := [sv_i (365 + dy_lp y), sv_l 0, sv_l d]) (lv2 := [(0, sv_i y), (1, sv_i d)]) rfl rfl ?_
    refine sv_i2l C.1 C.2.1 (by decide +kernel) ⟨by omega, by omega⟩ ?_
    refine sv_go C.1 C.2.1 [(.lconst 1, 1), (.lsub, 1)] (pc' := 17) (by decide +kernel) rfl (lv' := [(0, sv_i y), (1, sv_i d)]) (st' := [sv_l ((365 + dy_lp y) - 1), sv_l 0, sv_l d]) rfl ?_
    refine sv_cs C (index := 9) (k := 3) (rest := []) (by decide +kernel) (ct_X11_in l g A ty σ hok9 (d) ⟨by omega, by omega⟩ (0) ⟨by omega, by omega⟩ ((365 + dy_lp y) - 1) ⟨by omega, by omega⟩) ⟨co_X11_in, in_X11, ⟨by decide, by decide, by decide +kernel⟩, Nat.le_of_ble_eq_true rfl, Nat.le_of_ble_eq_true rfl⟩ ml_X11_9 st_X11_in rfl rfl (Nat.le_of_ble_eq_true rfl) ⟨Nat.zero_le _, Nat.zero_le _⟩ (fun r12 σ13 hpo11 hok14 => ?_)
    obtain ⟨rfl, ⟨h15, rfl⟩ | ⟨h15, rfl⟩⟩ := hpo11
    · refine sv_same (st2 := [sv_i 1]) (lv2 := [(0, sv_i y), (1, sv_i d)]) rfl rfl ?_
      refine sv_if_f C.1 C.2.1 (cnd := .eq) (off := 7) (tgt := 27) (by decide +kernel) (by decide) ⟨by omega, by omega⟩ (show ¬ (1 = 0) by omega) ?_
      refine sv_go C.1 C.2.1 [(.iconst 1, 1)] (pc' := 24) (by decide +kernel) rfl (lv' := [(0, sv_i y), (1, sv_i d)]) (st' := [sv_i 1]) rfl ?_
      refine sv_goto C.1 C.2.1 (off := 4) (tgt := 28) (by decide +kernel) (by decide) ?_
      exact sv_zret C hr (by first | exact Or.inl rfl | exact Or.inr rfl | omega) (by decide +kernel) hok14 (by first | exact ⟨rfl, Or.inl ⟨by omega, rfl⟩⟩ | exact ⟨rfl, Or.inr ⟨by omega, rfl⟩⟩)
    · refine sv_same (st2 := [sv_i 0]) (lv2 := [(0, sv_i y), (1, sv_i d)]) rfl rfl ?_
      refine sv_if_t C.1 C.2.1 (cnd := .eq) (off := 7) (tgt := 27) (by decide +kernel) (by decide) ⟨by omega, by omega⟩ (show 0 = 0 by omega) ?_
      refine sv_go C.1 C.2.1 [(.iconst 0, 1)] (pc' := 28) (by decide +kernel) rfl (lv' := [(0, sv_i y), (1, sv_i d)]) (st' := [sv_i 0]) rfl ?_
      exact sv_zret C hr (by first | exact Or.inl rfl | exact Or.inr rfl | omega) (by decide +kernel) hok14 (by first | exact ⟨rfl, Or.inl ⟨by omega, rfl⟩⟩ | exact ⟨rfl, Or.inr ⟨by omega, rfl⟩⟩)
  · refine sv_same (st2 := [sv_i 0]) (lv2 := [(0, sv_i y), (1, sv_i d)]) rfl rfl ?_
    refine sv_if_t C.1 C.2.1 (cnd := .eq) (off := 23) (tgt := 27) (by decide +kernel) (by decide) ⟨by omega, by omega⟩ (show 0 = 0 by omega) ?_
    refine sv_go C.1 C.2.1 [(.iconst 0, 1)] (pc' := 28) (by decide +kernel) rfl (lv' := [(0, sv_i y), (1, sv_i d)]) (st' := [sv_i 0]) rfl ?_
    exact sv_zret C hr (by first | exact Or.inl rfl | exact Or.inr rfl | omega) (by decide +kernel) hok4 (by first | exact ⟨rfl, Or.inl ⟨by omega, rfl⟩⟩ | exact ⟨rfl, Or.inr ⟨by omega, rfl⟩⟩)

set_option maxHeartbeats 4000000 in
set_option maxRecDepth 100000 in
theorem ct_X11_dayCount (l : Launch) (g : sv_G) (A : Nat → Prop) (ty : Nat → Nat) (σ : Nat → Nat → Int) (hok : sv_ok ty σ) (y : Int) (hy : 1 ≤ y ∧ y ≤ 2000) (d : Int) (hd : 0 ≤ d ∧ d ≤ 400) : sv_M l yX11_dayCount cX11_dayCount 2 (some .int) { frames := 0, cells := 0, slots := 0, locals := 0 } g A ty σ [sv_i y, sv_i d] (fun r σ' => σ = σ' ∧ r = [sv_i (365 * (y - 1) + (y - 1) / 4 + d)]) := by
  refine sv_enter (by decide) (Nat.le_of_ble_eq_true rfl) ?_
  intro p e s m args below meth c C hr
  have C : sv_C g A RX11 cX11_dayCount 2 p s m args meth c := C
  have hr : meth.sig.returnType = (some .int) := hr
  refine sv_same (st2 := []) (lv2 := [(0, sv_i y), (1, sv_i d)]) rfl rfl ?_
  refine sv_go C.1 C.2.1 [(.sipush 365, 3), (.iload_n 0, 1), (.iconst 1, 1), (.isub, 1), (.imul, 1), (.iload_n 0, 1), (.iconst 1, 1), (.isub, 1), (.iconst 4, 1)] (pc' := 11) (by decide +kernel) rfl (lv' := [(0, sv_i y), (1, sv_i d)]) (st' := [sv_i 4, sv_i (y - 1), sv_i (365 * (y - 1))]) rfl ?_
  refine sv_idivP C.1 C.2.1 (by decide +kernel) ⟨by omega, by omega⟩ ⟨by omega, by omega⟩ ?_
  refine sv_go C.1 C.2.1 [(.iadd, 1), (.iload_n 1, 1), (.iadd, 1)] (pc' := 15) (by decide +kernel) rfl (lv' := [(0, sv_i y), (1, sv_i d)]) (st' := [sv_i (((365 * (y - 1)) + ((y - 1) / 4)) + d)]) rfl ?_
  exact sv_iret C hr (by decide +kernel) hok (⟨rfl, rfl⟩)

theorem ml_X11_20 : Cond.methodLink RX11 20 yX11_dayCount ∈ lw_good := sv_mem 1025 (by decide +kernel) rfl
theorem co_X11_dayCount : Cond.code yX11_dayCount cX11_dayCount 2 (some .int) ∈ lw_good := sv_mem 1027 (by decide +kernel) rfl
theorem st_X11_dayCount : Cond.static yX11_dayCount ∈ lw_good := sv_mem 1026 (by decide +kernel) rfl
set_option maxHeartbeats 4000000 in
set_option maxRecDepth 100000 in
theorem ct_X11_weekday (l : Launch) (g : sv_G) (A : Nat → Prop) (ty : Nat → Nat) (σ : Nat → Nat → Int) (hok : sv_ok ty σ) (y : Int) (hy : 1 ≤ y ∧ y ≤ 2000) (d : Int) (hd : 0 ≤ d ∧ d ≤ 400) : sv_M l yX11_weekday cX11_weekday 2 (some .int) { frames := 1, cells := 0, slots := 0, locals := 21 } g A ty σ [sv_i y, sv_i d] (fun r σ' => σ = σ' ∧ r = [sv_i (dy_wd y d)]) := by
  refine sv_enter (by decide) (Nat.le_of_ble_eq_true rfl) ?_
  intro p e s m args below meth c C hr
  have C : sv_C g A RX11 cX11_weekday 2 p s m args meth c := C
  have hr : meth.sig.returnType = (some .int) := hr
  refine sv_same (st2 := []) (lv2 := [(0, sv_i y), (1, sv_i d)]) rfl rfl ?_
  refine sv_go C.1 C.2.1 [(.bipush 6, 2), (.iload_n 0, 1), (.iload_n 1, 1)] (pc' := 4) (by decide +kernel) rfl (lv' := [(0, sv_i y), (1, sv_i d)]) (st' := [sv_i d, sv_i y, sv_i 6]) rfl ?_
  refine sv_cs C (index := 20) (k := 2) (rest := [sv_i 6]) (by decide +kernel) (ct_X11_dayCount l g A ty σ hok (y) ⟨by omega, by omega⟩ (d) ⟨by omega, by omega⟩) ⟨co_X11_dayCount, in_X11, ⟨by decide, by decide, by decide +kernel⟩, Nat.le_of_ble_eq_true rfl, Nat.le_of_ble_eq_true rfl⟩ ml_X11_20 st_X11_dayCount rfl rfl (Nat.le_of_ble_eq_true rfl) ⟨Nat.zero_le _, Nat.zero_le _⟩ (fun r2 σ3 hpo1 hok4 => ?_)
  obtain ⟨rfl, rfl⟩ := hpo1
  refine sv_same (st2 := [sv_i (365 * (y - 1) + (y - 1) / 4 + d), sv_i 6]) (lv2 := [(0, sv_i y), (1, sv_i d)]) rfl rfl ?_
  refine sv_go C.1 C.2.1 [(.iadd, 1), (.bipush 7, 2)] (pc' := 10) (by decide +kernel) rfl (lv' := [(0, sv_i y), (1, sv_i d)]) (st' := [sv_i 7, sv_i (6 + (365 * (y - 1) + (y - 1) / 4 + d))]) rfl ?_
  refine sv_iremP C.1 C.2.1 (by decide +kernel) ⟨by omega, by omega⟩ ⟨by omega, by omega⟩ ?_
  exact sv_iret C hr (by decide +kernel) hok4 (⟨rfl, congrArg (fun q => [sv_i q]) (by unfold dy_wd; omega)⟩)

theorem ml_X11_24 : Cond.methodLink RX11 24 yX11_monthDays ∈ lw_good := sv_mem 1016 (by decide +kernel) rfl
theorem co_X11_monthDays : Cond.code yX11_monthDays cX11_monthDays 2 (some .int) ∈ lw_good := sv_mem 1018 (by decide +kernel) rfl
theorem st_X11_monthDays : Cond.static yX11_monthDays ∈ lw_good := sv_mem 1017 (by decide +kernel) rfl
set_option maxHeartbeats 4000000 in
set_option maxRecDepth 100000 in
theorem ct_X11_dayOf (l : Launch) (g : sv_G) (A : Nat → Prop) (ty : Nat → Nat) (σ : Nat → Nat → Int) (hok : sv_ok ty σ) (y : Int) (hy : 1 ≤ y ∧ y ≤ 2000) (mo : Int) (hm : 1 ≤ mo ∧ mo ≤ 12) (d : Int) (hd : 1 ≤ d ∧ d ≤ 31) : sv_M l yX11_dayOf cX11_dayOf 5 (some .int) { frames := 2, cells := 0, slots := 0, locals := 41 } g A ty σ [sv_i y, sv_i mo, sv_i d] (fun r σ' => σ = σ' ∧ r = [sv_i (dy_ms y mo + d - 1)]) := by
  refine sv_enter (by decide) (Nat.le_of_ble_eq_true rfl) ?_
  intro p e s m args below meth c C hr
  have C : sv_C g A RX11 cX11_dayOf 5 p s m args meth c := C
  have hr : meth.sig.returnType = (some .int) := hr
  refine sv_same (st2 := []) (lv2 := [(0, sv_i y), (1, sv_i mo), (2, sv_i d)]) rfl rfl ?_
  refine sv_go C.1 C.2.1 [(.iload_n 2, 1), (.iconst 1, 1), (.isub, 1), (.istore_n 3, 1), (.iconst 1, 1), (.istore 4, 2)] (pc' := 7) (by decide +kernel) rfl (lv' := [(0, sv_i y), (1, sv_i mo), (2, sv_i d), (3, sv_i (d - 1)), (4, sv_i 1)]) (st' := []) rfl ?_
  have L1 : ∀ (n : Nat) (N : Int) (M : Int) , (1 ≤ M ∧ M ≤ mo) → (N = dy_ms y M + d - 1) → (mo - M) < (n : Int) → sv_E p l e { frames := 2, cells := 0, slots := 0, locals := 41 } s m args below meth c 5 g A ty (fun r σ' => σ = σ' ∧ r = [sv_i (dy_ms y mo + d - 1)]) σ 7 [(0, sv_i y), (1, sv_i mo), (2, sv_i d), (3, sv_i N), (4, sv_i M)] [] := by
    intro n
    induction n with
    | zero => intro N M  hM hN hmu; exact absurd hmu (by omega)
    | succ n ih2 =>
      intro N M  hM hN hmu
      refine sv_go C.1 C.2.1 [(.iload 4, 2), (.iload_n 1, 1)] (pc' := 10) (by decide +kernel) rfl (lv' := [(0, sv_i y), (1, sv_i mo), (2, sv_i d), (3, sv_i N), (4, sv_i M)]) (st' := [sv_i mo, sv_i M]) rfl ?_
      refine sv_icmp C.1 C.2.1 (cnd := .ge) (off := 18) (tgt := 28) (by decide +kernel) (by decide) ⟨by omega, by omega⟩ ⟨by omega, by omega⟩ (fun (h3 : mo ≤ M) => ?_) (fun (h3 : ¬ (mo ≤ M)) => ?_)
      · refine sv_go C.1 C.2.1 [(.iload_n 3, 1)] (pc' := 29) (by decide +kernel) rfl (lv' := [(0, sv_i y), (1, sv_i mo), (2, sv_i d), (3, sv_i N), (4, sv_i M)]) (st' := [sv_i N]) rfl ?_
        exact sv_iret C hr (by decide +kernel) hok (⟨rfl, congrArg (fun q => [sv_i q]) (by rw [hN, show M = mo by omega])⟩)
      · refine sv_go C.1 C.2.1 [(.iload_n 3, 1), (.iload_n 0, 1), (.iload 4, 2)] (pc' := 17) (by decide +kernel) rfl (lv' := [(0, sv_i y), (1, sv_i mo), (2, sv_i d), (3, sv_i N), (4, sv_i M)]) (st' := [sv_i M, sv_i y, sv_i N]) rfl ?_
        refine sv_cs C (index := 24) (k := 2) (rest := [sv_i N]) (by decide +kernel) (ct_X11_monthDays l g A ty σ hok (y) ⟨by omega, by omega⟩ (M) ⟨by omega, by omega⟩) ⟨co_X11_monthDays, in_X11, ⟨by decide, by decide, by decide +kernel⟩, Nat.le_of_ble_eq_true rfl, Nat.le_of_ble_eq_true rfl⟩ ml_X11_24 st_X11_monthDays rfl rfl (Nat.le_of_ble_eq_true rfl) ⟨Nat.zero_le _, Nat.zero_le _⟩ (fun r5 σ6 hpo4 hok7 => ?_)
        obtain ⟨rfl, rfl⟩ := hpo4
        have hn8 := dy_md_in y M
        refine sv_same (st2 := [sv_i (dy_md y M), sv_i N]) (lv2 := [(0, sv_i y), (1, sv_i mo), (2, sv_i d), (3, sv_i N), (4, sv_i M)]) rfl rfl ?_
        refine sv_go C.1 C.2.1 [(.iadd, 1), (.istore_n 3, 1), (.iinc 4 1, 3)] (pc' := 25) (by decide +kernel) rfl (lv' := [(0, sv_i y), (1, sv_i mo), (2, sv_i d), (3, sv_i (N + (dy_md y M))), (4, sv_i (M + 1))]) (st' := []) rfl ?_
        refine sv_goto C.1 C.2.1 (off := (-18)) (tgt := 7) (by decide +kernel) (by decide) ?_
        exact ih2 (N + (dy_md y M)) (M + 1)  (by omega) (by rw [dy_ms_s (by omega) (by omega)]; omega) (by omega)
  exact L1 (((mo - 1 : Int)).toNat + 1) (d - 1) 1  (by omega) (by rw [dy_ms1]; omega) (by omega)

theorem ml_X11_27 : Cond.methodLink RX11 27 yX11_dayOf ∈ lw_good := sv_mem 1013 (by decide +kernel) rfl
theorem co_X11_dayOf : Cond.code yX11_dayOf cX11_dayOf 5 (some .int) ∈ lw_good := sv_mem 1015 (by decide +kernel) rfl
theorem st_X11_dayOf : Cond.static yX11_dayOf ∈ lw_good := sv_mem 1014 (by decide +kernel) rfl
theorem ml_X11_31 : Cond.methodLink RX11 31 yX11_weekday ∈ lw_good := sv_mem 1022 (by decide +kernel) rfl
theorem co_X11_weekday : Cond.code yX11_weekday cX11_weekday 2 (some .int) ∈ lw_good := sv_mem 1024 (by decide +kernel) rfl
theorem st_X11_weekday : Cond.static yX11_weekday ∈ lw_good := sv_mem 1023 (by decide +kernel) rfl
set_option maxHeartbeats 4000000 in
set_option maxRecDepth 100000 in
theorem ct_X11_easterOf (l : Launch) (g : sv_G) (A : Nat → Prop) (ty : Nat → Nat) (σ : Nat → Nat → Int) (hok : sv_ok ty σ) (y : Int) (hy : 1 ≤ y ∧ y ≤ 2000) : sv_M l yX11_easterOf cX11_easterOf 2 (some .int) { frames := 3, cells := 0, slots := 0, locals := 65 } g A ty σ [sv_i y] (fun r σ' => σ = σ' ∧ r = [sv_i (dy_ea y)]) := by
  refine sv_enter (by decide) (Nat.le_of_ble_eq_true rfl) ?_
  intro p e s m args below meth c C hr
  have C : sv_C g A RX11 cX11_easterOf 2 p s m args meth c := C
  have hr : meth.sig.returnType = (some .int) := hr
  have hlp := dy_lp_in y
  have e3 := dy_ms3 y
  obtain ⟨D, hD⟩ : ∃ D : Int, D = dy_ms y 3 + 20 + (19 * (y % 19) + 15) % 30 := ⟨_, rfl⟩
  have hw := dy_wd_in y D
  have hea : dy_ea y = D + 7 - dy_wd y D := by unfold dy_ea; rw [← hD]
  refine sv_same (st2 := []) (lv2 := [(0, sv_i y)]) rfl rfl ?_
  refine sv_go C.1 C.2.1 [(.iload_n 0, 1), (.iconst 3, 1), (.bipush 21, 2)] (pc' := 4) (by decide +kernel) rfl (lv' := [(0, sv_i y)]) (st' := [sv_i 21, sv_i 3, sv_i y]) rfl ?_
  refine sv_cs C (index := 27) (k := 3) (rest := []) (by decide +kernel) (ct_X11_dayOf l g A ty σ hok (y) ⟨by omega, by omega⟩ (3) ⟨by omega, by omega⟩ (21) ⟨by omega, by omega⟩) ⟨co_X11_dayOf, in_X11, ⟨by decide, by decide, by decide +kernel⟩, Nat.le_of_ble_eq_true rfl, Nat.le_of_ble_eq_true rfl⟩ ml_X11_27 st_X11_dayOf rfl rfl (Nat.le_of_ble_eq_true rfl) ⟨Nat.zero_le _, Nat.zero_le _⟩ (fun r2 σ3 hpo1 hok4 => ?_)
  obtain ⟨rfl, rfl⟩ := hpo1
  have hn5 := dy_ms_in y 3
  refine sv_same (st2 := [sv_i (dy_ms y 3 + 21 - 1)]) (lv2 := [(0, sv_i y)]) rfl rfl ?_
  refine sv_go C.1 C.2.1 [(.bipush 19, 2), (.iload_n 0, 1), (.bipush 19, 2)] (pc' := 12) (by decide +kernel) rfl (lv' := [(0, sv_i y)]) (st' := [sv_i 19, sv_i y, sv_i 19, sv_i (dy_ms y 3 + 21 - 1)]) rfl ?_
  refine sv_iremP C.1 C.2.1 (by decide +kernel) ⟨by omega, by omega⟩ ⟨by omega, by omega⟩ ?_
  refine sv_go C.1 C.2.1 [(.imul, 1), (.bipush 15, 2), (.iadd, 1), (.bipush 30, 2)] (pc' := 19) (by decide +kernel) rfl (lv' := [(0, sv_i y)]) (st' := [sv_i 30, sv_i ((19 * (y % 19)) + 15), sv_i (dy_ms y 3 + 21 - 1)]) rfl ?_
  refine sv_iremP C.1 C.2.1 (by decide +kernel) ⟨by omega, by omega⟩ ⟨by omega, by omega⟩ ?_
  refine sv_go C.1 C.2.1 [(.iadd, 1), (.istore_n 1, 1)] (pc' := 22) (by decide +kernel) rfl (lv' := [(0, sv_i y), (1, sv_i ((dy_ms y 3 + 21 - 1) + (((19 * (y % 19)) + 15) % 30)))]) (st' := []) rfl ?_
  have L6 : ∀ (n : Nat) (X : Int) , (D ≤ X ∧ X < D + 7 - dy_wd y D) → (D + 8 - X) < (n : Int) → sv_E p l e { frames := 3, cells := 0, slots := 0, locals := 65 } s m args below meth c 2 g A ty (fun r σ' => σ = σ' ∧ r = [sv_i (dy_ea y)]) σ 22 [(0, sv_i y), (1, sv_i X)] [] := by
    intro n
    induction n with
    | zero => intro X  hX hmu; exact absurd hmu (by omega)
    | succ n ih7 =>
      intro X  hX hmu
      refine sv_go C.1 C.2.1 [(.iinc 1 1, 3)] (pc' := 25) (by decide +kernel) rfl (lv' := [(0, sv_i y), (1, sv_i (X + 1))]) (st' := []) rfl ?_
      have hsh := dy_wd_sh y D (X + 1 - D)
      rw [show D + (X + 1 - D) = X + 1 by omega] at hsh
      refine sv_go C.1 C.2.1 [(.iload_n 0, 1), (.iload_n 1, 1)] (pc' := 27) (by decide +kernel) rfl (lv' := [(0, sv_i y), (1, sv_i (X + 1))]) (st' := [sv_i (X + 1), sv_i y]) rfl ?_
      refine sv_cs C (index := 31) (k := 2) (rest := []) (by decide +kernel) (ct_X11_weekday l g A ty σ hok4 (y) ⟨by omega, by omega⟩ (X + 1) ⟨by omega, by omega⟩) ⟨co_X11_weekday, in_X11, ⟨by decide, by decide, by decide +kernel⟩, Nat.le_of_ble_eq_true rfl, Nat.le_of_ble_eq_true rfl⟩ ml_X11_31 st_X11_weekday rfl rfl (Nat.le_of_ble_eq_true rfl) ⟨Nat.zero_le _, Nat.zero_le _⟩ (fun r9 σ10 hpo8 hok11 => ?_)
      obtain ⟨rfl, rfl⟩ := hpo8
      have hn12 := dy_wd_in y (X + 1)
      refine sv_same (st2 := [sv_i (dy_wd y (X + 1))]) (lv2 := [(0, sv_i y), (1, sv_i (X + 1))]) rfl rfl ?_
      refine sv_if C.1 C.2.1 (cnd := .ne) (off := -8) (tgt := 22) (by decide +kernel) (by decide) ⟨by omega, by omega⟩ (fun (h13 : (dy_wd y (X + 1)) ≠ 0) => ?_) (fun (h13 : ¬ ((dy_wd y (X + 1)) ≠ 0)) => ?_)
      · exact ih7 (X + 1)  (by omega) (by omega)
      · refine sv_go C.1 C.2.1 [(.iload_n 1, 1)] (pc' := 34) (by decide +kernel) rfl (lv' := [(0, sv_i y), (1, sv_i (X + 1))]) (st' := [sv_i (X + 1)]) rfl ?_
        exact sv_iret C hr (by decide +kernel) hok11 (⟨rfl, congrArg (fun q => [sv_i q]) (by omega)⟩)
  exact L6 (((D + 8 - ((dy_ms y 3 + 21 - 1) + (((19 * (y % 19)) + 15) % 30)) : Int)).toNat + 1) ((dy_ms y 3 + 21 - 1) + (((19 * (y % 19)) + 15) % 30))  (by omega) (by omega)
end
section
/-! what stays of a store, and what its cells are within -/
def sv_off (L : List Nat) (ty : Nat → Nat) (σ σ' : Nat → Nat → Int) : Prop := ∀ a k, ty a ∉ L → σ' a k = σ a k
theorem sv_off.rf {L : List Nat} {ty : Nat → Nat} {σ : Nat → Nat → Int} : sv_off L ty σ σ := fun _ _ _ => rfl
theorem sv_off.up {L : List Nat} {ty : Nat → Nat} {σ0 σ : Nat → Nat → Int} (h : sv_off L ty σ0 σ) {a k : Nat} {z : Int} (hk : ty a ∈ L) : sv_off L ty σ0 (sv_up σ a k z) := fun b j hb => by
  have e : b ≠ a := fun e => hb (by rw [e]; exact hk)
  rw [sv_up_a e]
  exact h b j hb
theorem sv_off.tr {L L2 : List Nat} {ty : Nat → Nat} {σ0 σ σ' : Nat → Nat → Int} (h : sv_off L ty σ0 σ) (h2 : sv_off L2 ty σ σ') (hs : ∀ x ∈ L2, x ∈ L) : sv_off L ty σ0 σ' := fun b j hb => (h2 b j (fun q => hb (hs _ q))).trans (h b j hb)
theorem sv_off.at {L : List Nat} {ty : Nat → Nat} {σ σ' : Nat → Nat → Int} (h : sv_off L ty σ σ') {a k K : Nat} (ha : ty a = K) (hK : K ∉ L) : σ' a k = σ a k := h a k (by rw [ha]; exact hK)
abbrev sv_Sp : Type := Nat → Nat → Option ((Int × Int) ⊕ (Nat × Bool))
def sv_sat (ty : Nat → Nat) : Option ((Int × Int) ⊕ (Nat × Bool)) → Int → Prop
  | none, _ => True
  | some (.inl (lo, hi)), z => lo ≤ z ∧ z ≤ hi
  | some (.inr (K, nl)), z => (nl = true ∧ z = 0) ∨ ∃ q : Nat, z = (q : Int) + 1 ∧ ty q = K
def sv_inv (sp : sv_Sp) (ty : Nat → Nat) (σ : Nat → Nat → Int) : Prop := ∀ a k, sv_sat ty (sp (ty a) k) (σ a k)
theorem sv_inv.ref {sp : sv_Sp} {ty : Nat → Nat} {σ : Nat → Nat → Int} (h : sv_inv sp ty σ) {a k Ka K : Nat} (ha : ty a = Ka) (hs : sp Ka k = some (.inr (K, false))) : ∃ q : Nat, σ a k = (q : Int) + 1 ∧ ty q = K := by
  have h1 := h a k
  rw [ha, hs] at h1
  rcases h1 with ⟨h2, -⟩ | h2
  · cases h2
  · exact h2
theorem sv_inv.num {sp : sv_Sp} {ty : Nat → Nat} {σ : Nat → Nat → Int} (h : sv_inv sp ty σ) {a k Ka : Nat} {lo hi : Int} (ha : ty a = Ka) (hs : sp Ka k = some (.inl (lo, hi))) : lo ≤ σ a k ∧ σ a k ≤ hi := by
  have h1 := h a k
  rw [ha, hs] at h1
  exact h1
theorem sv_inv.up {sp : sv_Sp} {ty : Nat → Nat} {σ : Nat → Nat → Int} (h : sv_inv sp ty σ) {a k : Nat} {z : Int} (hz : sv_sat ty (sp (ty a) k) z) : sv_inv sp ty (sv_up σ a k z) := by
  intro b j
  by_cases e : b = a ∧ j = k
  · rw [e.1, e.2, sv_up_s]; exact hz
  · rw [show sv_up σ a k z b j = σ b j from if_neg e]; exact h b j
theorem sv_ne {ty : Nat → Nat} {a b Ka Kb : Nat} (ha : ty a = Ka) (hb : ty b = Kb) (h : Ka ≠ Kb) : a ≠ b := fun e => h (by rw [← ha, ← hb, e])
/-- the numbers of a field or an element, by the type -/
theorem sv_ok.num {ty : Nat → Nat} {σ : Nat → Nat → Int} (h : sv_ok ty σ) {a k ci : Nat} {r : vw_C} (hk : sv_kT (ty a) = some (.inl ci)) (hr : vwCl[ci]? = some r) (hn : k < r.2.2) : sv_rg (sv_ft ci k) (σ a k) := by
  have h1 := h a
  rw [hk] at h1
  exact h1 r hr k hn
theorem sv_ok.el {ty : Nat → Nat} {σ : Nat → Nat → Int} (h : sv_ok ty σ) {a k n : Nat} {t : FieldType} (hk : sv_kT (ty a) = some (.inr (t, n))) (hn : k < n) : sv_rg t (σ a k) := by
  have h1 := h a
  rw [hk] at h1
  exact h1 k hn
/-- the world of empty calendars: where references lead, and what is still as it was made -/
def sp_1 : sv_Sp
  | 1, 0 => some (.inr (2, false)) | 1, 1 => some (.inr (3, false)) | 1, 2 => some (.inr (21, false)) | 1, 3 => some (.inr (5, false)) | 1, 4 => some (.inr (6, false)) | 1, 5 => some (.inr (7, false))
  | 2, 0 => some (.inr (20, false))
  | 3, 2 => some (.inr (2, true)) | 3, 3 => some (.inr (7, true)) | 3, 4 => some (.inr (8, true))
  | 4, 0 => some (.inr (24, false)) | 4, 1 => some (.inr (25, false)) | 4, 2 => some (.inr (7, false)) | 4, 3 => some (.inr (26, false)) | 4, 4 => some (.inr (27, false)) | 4, 5 => some (.inr (28, false)) | 4, 6 => some (.inr (29, false))
  | 5, 0 => some (.inr (30, false)) | 5, 3 => some (.inr (31, false)) | 5, 4 => some (.inr (32, false)) | 5, 5 => some (.inr (33, false)) | 5, 6 => some (.inr (34, false)) | 5, 7 => some (.inr (35, false)) | 5, 8 => some (.inr (36, false))
  | 6, 0 => some (.inr (37, false)) | 6, 2 => some (.inr (38, false)) | 6, 3 => some (.inr (39, false))
  | 7, 0 => some (.inr (22, false)) | 7, 1 => some (.inr (23, false)) | 7, 2 => some (.inl (0, 0)) | 7, 5 => some (.inl (-1, -1))
  | 9, 2 => some (.inr (40, false)) | 9, 3 => some (.inr (41, false))
  | 10, 15 => some (.inr (11, false)) | 10, 17 => none | 10, 18 => none | 10, 19 => none | 10, 20 => none | 10, 21 => none | 10, 22 => none | 10, 23 => none | 10, 24 => none | 10, 25 => none | 10, 26 => none | 10, 40 => none
  | 10, k => if k < 47 then some (.inr (60 + k, false)) else none
  | 21, k => if k < 4 then some (.inr (4, false)) else none
  | 22, k => if k < 60 then some (.inr (8, false)) else none
  | 37, k => if k < 12 then some (.inr (9, false)) else none
  | 60, _ => some (.inl (0, 0))
  | _, _ => none
/-- the numbers of a fresh object -/
def sp_0 : sv_Sp
  | 2, 1 => some (.inl (0, 0)) | 3, 0 => some (.inl (0, 0)) | 3, 1 => some (.inl (-1, -1)) | 4, 10 => some (.inl (0, 0)) | 5, 1 => some (.inl (0, 0)) | 5, 2 => some (.inl (0, 0)) | 6, 1 => some (.inl (0, 0)) | 9, 0 => some (.inl (0, 0))
  | 10, 17 => some (.inl (0, 0)) | 10, 23 => some (.inl (0, 0)) | 10, 24 => some (.inl (-1, -1)) | 10, 40 => some (.inl (0, 0))
  | 30, _ => some (.inl (0, 0)) | 31, _ => some (.inl (0, 0)) | 38, _ => some (.inl (0, 0)) | 60, _ => some (.inl (0, 0)) | 63, _ => some (.inl (0, 0)) | 93, _ => some (.inl (0, 0)) | 98, _ => some (.inl (0, 0)) | 101, _ => some (.inl (0, 0)) | 102, _ => some (.inl (0, 0))
  | _, _ => none
end
section
set_option maxHeartbeats 4000000 in
set_option maxRecDepth 100000 in
/-- Arrays.fill(b, v): every element of b is v, nothing else changes -/
theorem ct_fill (l : Launch) (g : sv_G) (A : Nat → Prop) (ty : Nat → Nat) (σ : Nat → Nat → Int) (hok : sv_ok ty σ) (b n : Nat) (hk : sv_kT (ty b) = some (.inr (.int, n))) (hn : n < 2147483647) (hA : A b) (v : Int) (hv : sv_in v) : sv_M l yJ7_fill_53178 cJ7_fill_53178 4 none { frames := 0, cells := 0, slots := 0, locals := 0 } g A ty σ [sv_r b, sv_i v] (fun r σ' => r = [] ∧ (∀ a, a ≠ b → ∀ k, σ' a k = σ a k) ∧ (∀ i : Nat, i < n → σ' b i = v) ∧ ∀ i : Nat, n ≤ i → σ' b i = σ b i) := by
  refine sv_enter (by decide) (Nat.le_of_ble_eq_true rfl) ?_
  intro p e s m args below meth c C hr
  have C : sv_C g A RJ7 cJ7_fill_53178 4 p s m args meth c := C
  have hr : meth.sig.returnType = none := hr
  refine sv_same (st2 := []) (lv2 := [(0, sv_r b), (1, sv_i v)]) rfl rfl ?_
  refine sv_go C.1 C.2.1 [(.iconst 0, 1), (.istore_n 2, 1), (.aload_n 0, 1)] (pc' := 3) (by decide +kernel) rfl (lv' := [(0, sv_r b), (1, sv_i v), (2, sv_i 0)]) (st' := [sv_r b]) rfl ?_
  refine sv_al C (t := .int) (Or.inl rfl) (by decide +kernel) hk ?_
  refine sv_go C.1 C.2.1 [(.istore_n 3, 1)] (pc' := 5) (by decide +kernel) rfl (lv' := [(0, sv_r b), (1, sv_i v), (2, sv_i 0), (3, sv_i (n : Int))]) (st' := []) rfl ?_
  have L1 : ∀ (j : Nat) (X : Int) (σ1 : Nat → Nat → Int), sv_ok ty σ1 → (0 ≤ X ∧ X ≤ n) → (∀ a, a ≠ b → ∀ k, σ1 a k = σ a k) → (∀ i : Nat, (i : Int) < X → σ1 b i = v) → (∀ i : Nat, n ≤ i → σ1 b i = σ b i) → (n : Int) - X < j → sv_E p l e { frames := 0, cells := 0, slots := 0, locals := 0 } s m args below meth c 4 g A ty (fun r σ' => r = [] ∧ (∀ a, a ≠ b → ∀ k, σ' a k = σ a k) ∧ (∀ i : Nat, i < n → σ' b i = v) ∧ ∀ i : Nat, n ≤ i → σ' b i = σ b i) σ1 5 [(0, sv_r b), (1, sv_i v), (2, sv_i X), (3, sv_i (n : Int))] [] := by
    intro j
    induction j with
    | zero => intro X σ1 hok1 hX hO hE hR hmu; exact absurd hmu (by omega)
    | succ j ih =>
      intro X σ1 hok1 hX hO hE hR hmu
      refine sv_go C.1 C.2.1 [(.iload_n 2, 1), (.iload_n 3, 1)] (pc' := 7) (by decide +kernel) rfl (lv' := [(0, sv_r b), (1, sv_i v), (2, sv_i X), (3, sv_i (n : Int))]) (st' := [sv_i (n : Int), sv_i X]) rfl ?_
      refine sv_icmp C.1 C.2.1 (cnd := .ge) (off := 13) (tgt := 20) (by decide +kernel) (by decide) ⟨by omega, by omega⟩ ⟨by omega, by omega⟩ (fun (h1 : (n : Int) ≤ X) => ?_) (fun (h1 : ¬ ((n : Int) ≤ X)) => ?_)
      · exact sv_vret C hr (by decide +kernel) hok1 ⟨rfl, hO, fun i hi => hE i (by omega), hR⟩
      · refine sv_go C.1 C.2.1 [(.aload_n 0, 1), (.iload_n 2, 1), (.iload_n 1, 1)] (pc' := 13) (by decide +kernel) rfl (lv' := [(0, sv_r b), (1, sv_i v), (2, sv_i X), (3, sv_i (n : Int))]) (st' := [sv_i v, sv_i X, sv_r b]) rfl ?_
        refine sv_is C (n := n) (by decide +kernel) hk (by omega) (by omega) (by omega) hv hA hok1 (fun hok2 => ?_)
        refine sv_go C.1 C.2.1 [(.iinc 2 1, 3)] (pc' := 17) (by decide +kernel) rfl (lv' := [(0, sv_r b), (1, sv_i v), (2, sv_i (X + 1)), (3, sv_i (n : Int))]) (st' := []) rfl ?_
        refine sv_goto C.1 C.2.1 (off := (-12)) (tgt := 5) (by decide +kernel) (by decide) ?_
        refine ih (X + 1) _ hok2 (by omega) (fun a ha k => by rw [sv_up_a ha]; exact hO a ha k) (fun i hi => ?_) (fun i hi => ?_) (by omega)
        · by_cases e : i = X.toNat
          · subst e; exact sv_up_s _ _ _ _
          · rw [sv_up_k e]; exact hE i (by omega)
        · rw [sv_up_k (by omega)]; exact hR i hi
  exact L1 (n + 1) 0 σ hok (by omega) (fun _ _ _ => rfl) (fun i hi => absurd hi (by omega)) (fun _ _ => rfl) (by omega)
end
section
theorem mw_in : Cond.initialized "java/lang/Math" ∈ lw_good := sv_mem 91 (by decide +kernel) rfl
theorem mw_min_co : Cond.code Lib.Math.min.name Lib.Math.min.code 2 (some .int) ∈ lw_good := sv_mem 806 (by decide +kernel) rfl
theorem mw_min_st : Cond.static Lib.Math.min.name ∈ lw_good := sv_mem 805 (by decide +kernel) rfl
theorem mw_max_co : Cond.code Lib.Math.max.name Lib.Math.max.code 2 (some .int) ∈ lw_good := sv_mem 798 (by decide +kernel) rfl
theorem mw_max_st : Cond.static Lib.Math.max.name ∈ lw_good := sv_mem 797 (by decide +kernel) rfl
section SVM
variable {p : Program} {l : Launch} {e : Env} {R : Room} {s : State} {m : MethodId} {args : Array Value} {below : List Frame} {meth : Method} {c : Code} {cells slots : Nat} {Q : State → Prop}
variable {cc : ByteArray} {pc nL : Nat} {Hp : Heap → Prop} {A : Nat → Prop} {lv : sv_L} {rest : List sv_T} {g : sv_G} {own : String}
theorem sv_min (C : sv_C g A own cc nL p s m args meth c) {index : Nat} {x y : Int} (hd : decode cc pc = .ok (.invokestatic index, 3)) (hl : Cond.methodLink own index Lib.Math.min.name ∈ lw_good) (h1 : sv_in x) (h2 : sv_in y) (hf : 1 ≤ R.frames) (hlo : (rest.map fun v => (sv_den v).category).sum + 13 ≤ R.locals) (hcs : cells ≤ R.cells ∧ slots ≤ R.slots)
    (kk : sv_V p l e R s m args below meth c nL A cells slots Q Hp (pc + 3) lv (sv_i (if y < x then y else x) :: rest)) : sv_V p l e R s m args below meth c nL A cells slots Q Hp pc lv (.inl y :: .inl x :: rest) := by
  intro H locs ls hH hS hll
  refine va_mmin C.1 C.2.1 (C.2.2.1.trans hll.1.symm) C.2.2.2.1 (C.2.2.2.2.1 _ hl) (C.2.2.2.2.1 _ mw_min_st) (C.2.2.2.2.1 _ mw_in) (C.2.2.2.2.1 _ mw_min_co) hf (by rw [List.map_map]; exact hlo) hcs.1 hcs.2 hd ?_
  have e1 : (if Int32.ofInt y < Int32.ofInt x then Int32.ofInt y else Int32.ofInt x) = Int32.ofInt (if y < x then y else x) := by
    by_cases q : y < x
    · rw [if_pos q, if_pos ((sv_lt h2 h1).mpr q)]
    · rw [if_neg q, if_neg (fun z => q ((sv_lt h2 h1).mp z))]
  rw [e1]
  exact kk H locs ls hH hS hll
theorem sv_max (C : sv_C g A own cc nL p s m args meth c) {index : Nat} {x y : Int} (hd : decode cc pc = .ok (.invokestatic index, 3)) (hl : Cond.methodLink own index Lib.Math.max.name ∈ lw_good) (h1 : sv_in x) (h2 : sv_in y) (hf : 1 ≤ R.frames) (hlo : (rest.map fun v => (sv_den v).category).sum + 13 ≤ R.locals) (hcs : cells ≤ R.cells ∧ slots ≤ R.slots)
    (kk : sv_V p l e R s m args below meth c nL A cells slots Q Hp (pc + 3) lv (sv_i (if x < y then y else x) :: rest)) : sv_V p l e R s m args below meth c nL A cells slots Q Hp pc lv (.inl y :: .inl x :: rest) := by
  intro H locs ls hH hS hll
  refine va_mmax C.1 C.2.1 (C.2.2.1.trans hll.1.symm) C.2.2.2.1 (C.2.2.2.2.1 _ hl) (C.2.2.2.2.1 _ mw_max_st) (C.2.2.2.2.1 _ mw_in) (C.2.2.2.2.1 _ mw_max_co) hf (by rw [List.map_map]; exact hlo) hcs.1 hcs.2 hd ?_
  have e1 : (if Int32.ofInt x < Int32.ofInt y then Int32.ofInt y else Int32.ofInt x) = Int32.ofInt (if x < y then y else x) := by
    by_cases q : x < y
    · rw [if_pos q, if_pos ((sv_lt h1 h2).mpr q)]
    · rw [if_neg q, if_neg (fun z => q ((sv_lt h1 h2).mp z))]
  rw [e1]
  exact kk H locs ls hH hS hll
end SVM
end
section
section SVW
variable {p : Program} {l : Launch} {e : Env} {R : Room} {s : State} {m : MethodId} {args : Array Value} {below : List Frame} {meth : Method} {c : Code} {cells slots : Nat} {Q : State → Prop}
variable {cc : ByteArray} {pc nL : Nat} {Hp : Heap → Prop} {A : Nat → Prop} {lv : sv_L} {rest : List sv_T}
theorem sv_tsI (hx : p.tables.exec = Jvm.exec) (hb : c.code = cc) {dflt lo hi : Int} {offs : Array Int} {len : Nat} {x off : Int} {tgt : Nat} (hd : decode cc pc = .ok (.tableswitch dflt lo hi offs, len)) (k : Int) (hk : x = k) (h : (-2147483648 ≤ k ∧ k < 2147483648) ∧ lo ≤ k ∧ k ≤ hi) (ho : offs[(k - lo).toNat]? = some off) (ht : (pc : Int) + off = (tgt : Int))
    (kk : sv_V p l e R s m args below meth c nL A cells slots Q Hp tgt lv rest) : sv_V p l e R s m args below meth c nL A cells slots Q Hp pc lv (.inl x :: rest) := by
  subst hk
  intro H locs ls hH hS hl
  refine lv_tableIn hx hb hd (by rw [sv_oi h.1]; omega) (by rw [sv_oi h.1]; omega) (by rw [sv_oi h.1]; exact ho) ht (kk H locs ls hH hS hl)
theorem sv_tsO (hx : p.tables.exec = Jvm.exec) (hb : c.code = cc) {dflt lo hi : Int} {offs : Array Int} {len : Nat} {x : Int} {tgt : Nat} (hd : decode cc pc = .ok (.tableswitch dflt lo hi offs, len)) (h1 : sv_in x) (h : x < lo ∨ hi < x) (ht : (pc : Int) + dflt = (tgt : Int))
    (kk : sv_V p l e R s m args below meth c nL A cells slots Q Hp tgt lv rest) : sv_V p l e R s m args below meth c nL A cells slots Q Hp pc lv (.inl x :: rest) :=
  fun H locs ls hH hS hl => lv_tableOut hx hb hd (by rw [sv_oi h1]; exact h) ht (kk H locs ls hH hS hl)
theorem sv_los {l : List (Int × Int)} {d x : Int} (h : ∀ q ∈ l, x ≠ q.1) : Op.lookupswitch.offset l d x = d := by
  induction l with
  | nil => rfl
  | cons q r ih =>
    obtain ⟨a, o⟩ := q
    rw [Op.lookupswitch.offset_cons, if_neg (fun e => h (a, o) List.mem_cons_self e.symm)]
    exact ih fun q hq => h q (List.mem_cons_of_mem _ hq)
theorem sv_lsI (hx : p.tables.exec = Jvm.exec) (hb : c.code = cc) {dflt : Int} {ps : Array (Int × Int)} {len : Nat} {x off : Int} {tgt : Nat} (hd : decode cc pc = .ok (.lookupswitch dflt ps, len)) (hp : (ps.toList.zip (ps.toList.drop 1)).all (fun (a, next) => a.1 < next.1) = true) (k : Int) (hk : x = k) (h : sv_in k) (ho : Op.lookupswitch.offset ps.toList dflt k = off) (ht : (pc : Int) + off = (tgt : Int))
    (kk : sv_V p l e R s m args below meth c nL A cells slots Q Hp tgt lv rest) : sv_V p l e R s m args below meth c nL A cells slots Q Hp pc lv (.inl x :: rest) := by
  subst hk
  exact fun H locs ls hH hS hl => lv_lookup hx hb hd hp (by rw [sv_oi h]; exact ho) ht (kk H locs ls hH hS hl)
theorem sv_lsO (hx : p.tables.exec = Jvm.exec) (hb : c.code = cc) {dflt : Int} {ps : Array (Int × Int)} {len : Nat} {x : Int} {tgt : Nat} (hd : decode cc pc = .ok (.lookupswitch dflt ps, len)) (hp : (ps.toList.zip (ps.toList.drop 1)).all (fun (a, next) => a.1 < next.1) = true) (h : sv_in x) (hn : ∀ q ∈ ps.toList, x ≠ q.1) (ht : (pc : Int) + dflt = (tgt : Int))
    (kk : sv_V p l e R s m args below meth c nL A cells slots Q Hp tgt lv rest) : sv_V p l e R s m args below meth c nL A cells slots Q Hp pc lv (.inl x :: rest) :=
  fun H locs ls hH hS hl => lv_lookup hx hb hd hp (by rw [sv_oi h]; exact sv_los hn) ht (kk H locs ls hH hS hl)
end SVW
end
section
theorem sv_by (x : Int32) : -128 ≤ x.toInt8.toInt32.toInt ∧ x.toInt8.toInt32.toInt ≤ 127 := by
  rw [Int8.toInt_toInt32]
  have h1 := Int8.le_toInt x.toInt8
  have h2 := Int8.toInt_lt x.toInt8
  omega
/-! the answers of the first call on a fresh object -/
def fx_20 : Int := 20
def fx_end (n : Int) : Int := if n = 0 then 0 else -1
def fx_fault (w : Int) : Int := if w = 0 then 0 else -1
theorem sv_boF {r : List sv_T} (h : sv_bo False r) : r = [sv_i 0] := by
  rcases h with ⟨h, -⟩ | ⟨-, h⟩
  · exact h.elim
  · exact h
theorem sv_and0 (x : Int) : (Int32.ofInt (Int32.ofInt 0 >>> (Int32.ofInt x &&& 31)).toInt &&& Int32.ofInt 1).toInt = 0 := by
  have h : Int32.ofInt 0 >>> (Int32.ofInt x &&& 31) = 0 := by
    rw [← Int32.toBitVec_inj]
    simp
  rw [h]; decide
def fx_cmp (x y : Int) : Int := if x < y then -1 else if x = y then 0 else 1
theorem fx_cmp_in (x y : Int) : -1 ≤ fx_cmp x y ∧ fx_cmp x y ≤ 1 := by unfold fx_cmp; omega
def fx_easter (y : Int) : Int := if 1 ≤ y ∧ y ≤ 2000 then dy_ea y else -2
def dy_mo (y d : Int) : Int := if d < dy_ms y 2 then 1 else if d < dy_ms y 3 then 2 else if d < dy_ms y 4 then 3 else if d < dy_ms y 5 then 4 else if d < dy_ms y 6 then 5 else if d < dy_ms y 7 then 6 else if d < dy_ms y 8 then 7 else if d < dy_ms y 9 then 8 else if d < dy_ms y 10 then 9 else if d < dy_ms y 11 then 10 else if d < dy_ms y 12 then 11 else 12
theorem dy_mo_ok {y d : Int} (h0 : 0 ≤ d) (h1 : d < 365 + dy_lp y) : (1 ≤ dy_mo y d ∧ dy_mo y d ≤ 12) ∧ dy_ms y (dy_mo y d) ≤ d ∧ d < dy_ms y (dy_mo y d + 1) := by
  have e1 := dy_ms1 y
  have e13 := dy_ms13 y
  unfold dy_mo
  repeat' split
  all_goals refine ⟨by omega, by omega, ?_⟩
  all_goals first | assumption | (show d < dy_ms y 13; omega)
theorem dy_mo_of {y d M : Int} (h0 : 0 ≤ d) (h1 : d < 365 + dy_lp y) (h2 : 1 ≤ M ∧ M ≤ 12) (h3 : dy_ms y M ≤ d) (h4 : M = 12 ∨ d < dy_ms y (M + 1)) : M = dy_mo y d := by
  obtain ⟨a, b, c⟩ := dy_mo_ok h0 h1
  refine dy_mo_uniq h2 a h3 ?_ b c
  rcases h4 with rfl | h4
  · show d < dy_ms y 13
    rw [dy_ms13]; exact h1
  · exact h4
def fx_date (y d w : Int) : Int := if (1 ≤ y ∧ y ≤ 2000) ∧ 0 ≤ d ∧ d < 365 + dy_lp y then (if w = 0 then dy_mo y d else if w = 1 then d - dy_ms y (dy_mo y d) + 1 else if w = 2 then dy_wd y d else -1) else -1
def fx_br (b : Int) : Int := if 0 ≤ b ∧ b ≤ 9 then 0 else -2
def fx_quarrel (a b on : Int) : Int := if (0 ≤ a ∧ a ≤ 9) ∧ (0 ≤ b ∧ b ≤ 9) ∧ a ≠ b then on else -2
def fx_street (a b m : Int) : Int := if (0 ≤ a ∧ a ≤ 19) ∧ (0 ≤ b ∧ b ≤ 19) ∧ a ≠ b ∧ 0 ≤ m ∧ m ≤ 60 then 0 else -2
def fx_begin (k c m t : Int) : Int := if (0 ≤ k ∧ k ≤ 11) ∧ (0 ≤ c ∧ c ≤ 19) ∧ (0 ≤ m ∧ m ≤ 1440) ∧ 0 ≤ t ∧ t ≤ 30 then 1 else -2
def fx_count (w : Int) : Int := if (0 ≤ w ∧ w ≤ 3) ∨ (10 ≤ w ∧ w ≤ 13) then 0 else -1
end
section
set_option maxHeartbeats 4000000 in
set_option maxRecDepth 100000 in
theorem ct_X9_isPlace (l : Launch) (g : sv_G) (A : Nat → Prop) (ty : Nat → Nat) (σ : Nat → Nat → Int) (hok : sv_ok ty σ) (v : Int) (hv : sv_in v) : sv_M l yX9_isPlace cX9_isPlace 1 (some .boolean) { frames := 0, cells := 0, slots := 0, locals := 0 } g A ty σ [sv_i v] (fun r σ' => σ = σ' ∧ sv_bo (0 ≤ v ∧ v ≤ 3) r) := by
  refine sv_enter (by decide) (Nat.le_of_ble_eq_true rfl) ?_
  intro p e s m args below meth c C hr
  have C : sv_C g A RX9 cX9_isPlace 1 p s m args meth c := C
  have hr : meth.sig.returnType = (some .boolean) := hr
  refine sv_same (st2 := []) (lv2 := [(0, sv_i v)]) rfl rfl ?_
  refine sv_go C.1 C.2.1 [(.iload_n 0, 1)] (pc' := 1) (by decide +kernel) rfl (lv' := [(0, sv_i v)]) (st' := [sv_i v]) rfl ?_
  refine sv_if C.1 C.2.1 (cnd := .lt) (off := 12) (tgt := 13) (by decide +kernel) (by decide) ⟨by omega, by omega⟩ (fun (h1 : v < 0) => ?_) (fun (h1 : ¬ (v < 0)) => ?_)
  · refine sv_go C.1 C.2.1 [(.iconst 0, 1)] (pc' := 14) (by decide +kernel) rfl (lv' := [(0, sv_i v)]) (st' := [sv_i 0]) rfl ?_
    exact sv_zret C hr (by first | exact Or.inl rfl | exact Or.inr rfl | omega) (by decide +kernel) hok (by first | exact ⟨rfl, Or.inl ⟨by omega, rfl⟩⟩ | exact ⟨rfl, Or.inr ⟨by omega, rfl⟩⟩)
  · refine sv_go C.1 C.2.1 [(.iload_n 0, 1), (.iconst 4, 1)] (pc' := 6) (by decide +kernel) rfl (lv' := [(0, sv_i v)]) (st' := [sv_i 4, sv_i v]) rfl ?_
    refine sv_icmp C.1 C.2.1 (cnd := .ge) (off := 7) (tgt := 13) (by decide +kernel) (by decide) ⟨by omega, by omega⟩ ⟨by omega, by omega⟩ (fun (h2 : 4 ≤ v) => ?_) (fun (h2 : ¬ (4 ≤ v)) => ?_)
    · refine sv_go C.1 C.2.1 [(.iconst 0, 1)] (pc' := 14) (by decide +kernel) rfl (lv' := [(0, sv_i v)]) (st' := [sv_i 0]) rfl ?_
      exact sv_zret C hr (by first | exact Or.inl rfl | exact Or.inr rfl | omega) (by decide +kernel) hok (by first | exact ⟨rfl, Or.inl ⟨by omega, rfl⟩⟩ | exact ⟨rfl, Or.inr ⟨by omega, rfl⟩⟩)
    · refine sv_go C.1 C.2.1 [(.iconst 1, 1)] (pc' := 10) (by decide +kernel) rfl (lv' := [(0, sv_i v)]) (st' := [sv_i 1]) rfl ?_
      refine sv_goto C.1 C.2.1 (off := 4) (tgt := 14) (by decide +kernel) (by decide) ?_
      exact sv_zret C hr (by first | exact Or.inl rfl | exact Or.inr rfl | omega) (by decide +kernel) hok (by first | exact ⟨rfl, Or.inl ⟨by omega, rfl⟩⟩ | exact ⟨rfl, Or.inr ⟨by omega, rfl⟩⟩)

set_option maxHeartbeats 4000000 in
set_option maxRecDepth 100000 in
theorem ct_X9_isRank (l : Launch) (g : sv_G) (A : Nat → Prop) (ty : Nat → Nat) (σ : Nat → Nat → Int) (hok : sv_ok ty σ) (v : Int) (hv : sv_in v) : sv_M l yX9_isRank cX9_isRank 1 (some .boolean) { frames := 0, cells := 0, slots := 0, locals := 0 } g A ty σ [sv_i v] (fun r σ' => σ = σ' ∧ sv_bo (1 ≤ v ∧ v ≤ 8) r) := by
  refine sv_enter (by decide) (Nat.le_of_ble_eq_true rfl) ?_
  intro p e s m args below meth c C hr
  have C : sv_C g A RX9 cX9_isRank 1 p s m args meth c := C
  have hr : meth.sig.returnType = (some .boolean) := hr
  refine sv_same (st2 := []) (lv2 := [(0, sv_i v)]) rfl rfl ?_
  refine sv_go C.1 C.2.1 [(.iload_n 0, 1), (.iconst 1, 1)] (pc' := 2) (by decide +kernel) rfl (lv' := [(0, sv_i v)]) (st' := [sv_i 1, sv_i v]) rfl ?_
  refine sv_icmp C.1 C.2.1 (cnd := .lt) (off := 13) (tgt := 15) (by decide +kernel) (by decide) ⟨by omega, by omega⟩ ⟨by omega, by omega⟩ (fun (h1 : v < 1) => ?_) (fun (h1 : ¬ (v < 1)) => ?_)
  · refine sv_go C.1 C.2.1 [(.iconst 0, 1)] (pc' := 16) (by decide +kernel) rfl (lv' := [(0, sv_i v)]) (st' := [sv_i 0]) rfl ?_
    exact sv_zret C hr (by first | exact Or.inl rfl | exact Or.inr rfl | omega) (by decide +kernel) hok (by first | exact ⟨rfl, Or.inl ⟨by omega, rfl⟩⟩ | exact ⟨rfl, Or.inr ⟨by omega, rfl⟩⟩)
  · refine sv_go C.1 C.2.1 [(.iload_n 0, 1), (.bipush 8, 2)] (pc' := 8) (by decide +kernel) rfl (lv' := [(0, sv_i v)]) (st' := [sv_i 8, sv_i v]) rfl ?_
    refine sv_icmp C.1 C.2.1 (cnd := .gt) (off := 7) (tgt := 15) (by decide +kernel) (by decide) ⟨by omega, by omega⟩ ⟨by omega, by omega⟩ (fun (h2 : 8 < v) => ?_) (fun (h2 : ¬ (8 < v)) => ?_)
    · refine sv_go C.1 C.2.1 [(.iconst 0, 1)] (pc' := 16) (by decide +kernel) rfl (lv' := [(0, sv_i v)]) (st' := [sv_i 0]) rfl ?_
      exact sv_zret C hr (by first | exact Or.inl rfl | exact Or.inr rfl | omega) (by decide +kernel) hok (by first | exact ⟨rfl, Or.inl ⟨by omega, rfl⟩⟩ | exact ⟨rfl, Or.inr ⟨by omega, rfl⟩⟩)
    · refine sv_go C.1 C.2.1 [(.iconst 1, 1)] (pc' := 12) (by decide +kernel) rfl (lv' := [(0, sv_i v)]) (st' := [sv_i 1]) rfl ?_
      refine sv_goto C.1 C.2.1 (off := 4) (tgt := 16) (by decide +kernel) (by decide) ?_
      exact sv_zret C hr (by first | exact Or.inl rfl | exact Or.inr rfl | omega) (by decide +kernel) hok (by first | exact ⟨rfl, Or.inl ⟨by omega, rfl⟩⟩ | exact ⟨rfl, Or.inr ⟨by omega, rfl⟩⟩)

set_option maxHeartbeats 4000000 in
set_option maxRecDepth 100000 in
theorem ct_X9_isBrotherhood (l : Launch) (g : sv_G) (A : Nat → Prop) (ty : Nat → Nat) (σ : Nat → Nat → Int) (hok : sv_ok ty σ) (v : Int) (hv : sv_in v) : sv_M l yX9_isBrotherhood cX9_isBrotherhood 1 (some .boolean) { frames := 0, cells := 0, slots := 0, locals := 0 } g A ty σ [sv_i v] (fun r σ' => σ = σ' ∧ sv_bo (0 ≤ v ∧ v ≤ 9) r) := by
  refine sv_enter (by decide) (Nat.le_of_ble_eq_true rfl) ?_
  intro p e s m args below meth c C hr
  have C : sv_C g A RX9 cX9_isBrotherhood 1 p s m args meth c := C
  have hr : meth.sig.returnType = (some .boolean) := hr
  refine sv_same (st2 := []) (lv2 := [(0, sv_i v)]) rfl rfl ?_
  refine sv_go C.1 C.2.1 [(.iload_n 0, 1)] (pc' := 1) (by decide +kernel) rfl (lv' := [(0, sv_i v)]) (st' := [sv_i v]) rfl ?_
  refine sv_if C.1 C.2.1 (cnd := .lt) (off := 13) (tgt := 14) (by decide +kernel) (by decide) ⟨by omega, by omega⟩ (fun (h1 : v < 0) => ?_) (fun (h1 : ¬ (v < 0)) => ?_)
  · refine sv_go C.1 C.2.1 [(.iconst 0, 1)] (pc' := 15) (by decide +kernel) rfl (lv' := [(0, sv_i v)]) (st' := [sv_i 0]) rfl ?_
    exact sv_zret C hr (by first | exact Or.inl rfl | exact Or.inr rfl | omega) (by decide +kernel) hok (by first | exact ⟨rfl, Or.inl ⟨by omega, rfl⟩⟩ | exact ⟨rfl, Or.inr ⟨by omega, rfl⟩⟩)
  · refine sv_go C.1 C.2.1 [(.iload_n 0, 1), (.bipush 10, 2)] (pc' := 7) (by decide +kernel) rfl (lv' := [(0, sv_i v)]) (st' := [sv_i 10, sv_i v]) rfl ?_
    refine sv_icmp C.1 C.2.1 (cnd := .ge) (off := 7) (tgt := 14) (by decide +kernel) (by decide) ⟨by omega, by omega⟩ ⟨by omega, by omega⟩ (fun (h2 : 10 ≤ v) => ?_) (fun (h2 : ¬ (10 ≤ v)) => ?_)
    · refine sv_go C.1 C.2.1 [(.iconst 0, 1)] (pc' := 15) (by decide +kernel) rfl (lv' := [(0, sv_i v)]) (st' := [sv_i 0]) rfl ?_
      exact sv_zret C hr (by first | exact Or.inl rfl | exact Or.inr rfl | omega) (by decide +kernel) hok (by first | exact ⟨rfl, Or.inl ⟨by omega, rfl⟩⟩ | exact ⟨rfl, Or.inr ⟨by omega, rfl⟩⟩)
    · refine sv_go C.1 C.2.1 [(.iconst 1, 1)] (pc' := 11) (by decide +kernel) rfl (lv' := [(0, sv_i v)]) (st' := [sv_i 1]) rfl ?_
      refine sv_goto C.1 C.2.1 (off := 4) (tgt := 15) (by decide +kernel) (by decide) ?_
      exact sv_zret C hr (by first | exact Or.inl rfl | exact Or.inr rfl | omega) (by decide +kernel) hok (by first | exact ⟨rfl, Or.inl ⟨by omega, rfl⟩⟩ | exact ⟨rfl, Or.inr ⟨by omega, rfl⟩⟩)

set_option maxHeartbeats 4000000 in
set_option maxRecDepth 100000 in
theorem ct_X9_isCorner (l : Launch) (g : sv_G) (A : Nat → Prop) (ty : Nat → Nat) (σ : Nat → Nat → Int) (hok : sv_ok ty σ) (v : Int) (hv : sv_in v) : sv_M l yX9_isCorner cX9_isCorner 1 (some .boolean) { frames := 0, cells := 0, slots := 0, locals := 0 } g A ty σ [sv_i v] (fun r σ' => σ = σ' ∧ sv_bo (0 ≤ v ∧ v ≤ 19) r) := by
  refine sv_enter (by decide) (Nat.le_of_ble_eq_true rfl) ?_
  intro p e s m args below meth c C hr
  have C : sv_C g A RX9 cX9_isCorner 1 p s m args meth c := C
  have hr : meth.sig.returnType = (some .boolean) := hr
  refine sv_same (st2 := []) (lv2 := [(0, sv_i v)]) rfl rfl ?_
  refine sv_go C.1 C.2.1 [(.iload_n 0, 1)] (pc' := 1) (by decide +kernel) rfl (lv' := [(0, sv_i v)]) (st' := [sv_i v]) rfl ?_
  refine sv_if C.1 C.2.1 (cnd := .lt) (off := 13) (tgt := 14) (by decide +kernel) (by decide) ⟨by omega, by omega⟩ (fun (h1 : v < 0) => ?_) (fun (h1 : ¬ (v < 0)) => ?_)
  · refine sv_go C.1 C.2.1 [(.iconst 0, 1)] (pc' := 15) (by decide +kernel) rfl (lv' := [(0, sv_i v)]) (st' := [sv_i 0]) rfl ?_
    exact sv_zret C hr (by first | exact Or.inl rfl | exact Or.inr rfl | omega) (by decide +kernel) hok (by first | exact ⟨rfl, Or.inl ⟨by omega, rfl⟩⟩ | exact ⟨rfl, Or.inr ⟨by omega, rfl⟩⟩)
  · refine sv_go C.1 C.2.1 [(.iload_n 0, 1), (.bipush 20, 2)] (pc' := 7) (by decide +kernel) rfl (lv' := [(0, sv_i v)]) (st' := [sv_i 20, sv_i v]) rfl ?_
    refine sv_icmp C.1 C.2.1 (cnd := .ge) (off := 7) (tgt := 14) (by decide +kernel) (by decide) ⟨by omega, by omega⟩ ⟨by omega, by omega⟩ (fun (h2 : 20 ≤ v) => ?_) (fun (h2 : ¬ (20 ≤ v)) => ?_)
    · refine sv_go C.1 C.2.1 [(.iconst 0, 1)] (pc' := 15) (by decide +kernel) rfl (lv' := [(0, sv_i v)]) (st' := [sv_i 0]) rfl ?_
      exact sv_zret C hr (by first | exact Or.inl rfl | exact Or.inr rfl | omega) (by decide +kernel) hok (by first | exact ⟨rfl, Or.inl ⟨by omega, rfl⟩⟩ | exact ⟨rfl, Or.inr ⟨by omega, rfl⟩⟩)
    · refine sv_go C.1 C.2.1 [(.iconst 1, 1)] (pc' := 11) (by decide +kernel) rfl (lv' := [(0, sv_i v)]) (st' := [sv_i 1]) rfl ?_
      refine sv_goto C.1 C.2.1 (off := 4) (tgt := 15) (by decide +kernel) (by decide) ?_
      exact sv_zret C hr (by first | exact Or.inl rfl | exact Or.inr rfl | omega) (by decide +kernel) hok (by first | exact ⟨rfl, Or.inl ⟨by omega, rfl⟩⟩ | exact ⟨rfl, Or.inr ⟨by omega, rfl⟩⟩)

set_option maxHeartbeats 4000000 in
set_option maxRecDepth 100000 in
theorem ct_X9_isProcession (l : Launch) (g : sv_G) (A : Nat → Prop) (ty : Nat → Nat) (σ : Nat → Nat → Int) (hok : sv_ok ty σ) (v : Int) (hv : sv_in v) : sv_M l yX9_isProcession cX9_isProcession 1 (some .boolean) { frames := 0, cells := 0, slots := 0, locals := 0 } g A ty σ [sv_i v] (fun r σ' => σ = σ' ∧ sv_bo (0 ≤ v ∧ v ≤ 11) r) := by
  refine sv_enter (by decide) (Nat.le_of_ble_eq_true rfl) ?_
  intro p e s m args below meth c C hr
  have C : sv_C g A RX9 cX9_isProcession 1 p s m args meth c := C
  have hr : meth.sig.returnType = (some .boolean) := hr
  refine sv_same (st2 := []) (lv2 := [(0, sv_i v)]) rfl rfl ?_
  refine sv_go C.1 C.2.1 [(.iload_n 0, 1)] (pc' := 1) (by decide +kernel) rfl (lv' := [(0, sv_i v)]) (st' := [sv_i v]) rfl ?_
  refine sv_if C.1 C.2.1 (cnd := .lt) (off := 13) (tgt := 14) (by decide +kernel) (by decide) ⟨by omega, by omega⟩ (fun (h1 : v < 0) => ?_) (fun (h1 : ¬ (v < 0)) => ?_)
  · refine sv_go C.1 C.2.1 [(.iconst 0, 1)] (pc' := 15) (by decide +kernel) rfl (lv' := [(0, sv_i v)]) (st' := [sv_i 0]) rfl ?_
    exact sv_zret C hr (by first | exact Or.inl rfl | exact Or.inr rfl | omega) (by decide +kernel) hok (by first | exact ⟨rfl, Or.inl ⟨by omega, rfl⟩⟩ | exact ⟨rfl, Or.inr ⟨by omega, rfl⟩⟩)
  · refine sv_go C.1 C.2.1 [(.iload_n 0, 1), (.bipush 12, 2)] (pc' := 7) (by decide +kernel) rfl (lv' := [(0, sv_i v)]) (st' := [sv_i 12, sv_i v]) rfl ?_
    refine sv_icmp C.1 C.2.1 (cnd := .ge) (off := 7) (tgt := 14) (by decide +kernel) (by decide) ⟨by omega, by omega⟩ ⟨by omega, by omega⟩ (fun (h2 : 12 ≤ v) => ?_) (fun (h2 : ¬ (12 ≤ v)) => ?_)
    · refine sv_go C.1 C.2.1 [(.iconst 0, 1)] (pc' := 15) (by decide +kernel) rfl (lv' := [(0, sv_i v)]) (st' := [sv_i 0]) rfl ?_
      exact sv_zret C hr (by first | exact Or.inl rfl | exact Or.inr rfl | omega) (by decide +kernel) hok (by first | exact ⟨rfl, Or.inl ⟨by omega, rfl⟩⟩ | exact ⟨rfl, Or.inr ⟨by omega, rfl⟩⟩)
    · refine sv_go C.1 C.2.1 [(.iconst 1, 1)] (pc' := 11) (by decide +kernel) rfl (lv' := [(0, sv_i v)]) (st' := [sv_i 1]) rfl ?_
      refine sv_goto C.1 C.2.1 (off := 4) (tgt := 15) (by decide +kernel) (by decide) ?_
      exact sv_zret C hr (by first | exact Or.inl rfl | exact Or.inr rfl | omega) (by decide +kernel) hok (by first | exact ⟨rfl, Or.inl ⟨by omega, rfl⟩⟩ | exact ⟨rfl, Or.inr ⟨by omega, rfl⟩⟩)

set_option maxHeartbeats 4000000 in
set_option maxRecDepth 100000 in
theorem ct_X9_isBeginning (l : Launch) (g : sv_G) (A : Nat → Prop) (ty : Nat → Nat) (σ : Nat → Nat → Int) (hok : sv_ok ty σ) (v : Int) (hv : sv_in v) : sv_M l yX9_isBeginning cX9_isBeginning 1 (some .boolean) { frames := 0, cells := 0, slots := 0, locals := 0 } g A ty σ [sv_i v] (fun r σ' => σ = σ' ∧ sv_bo (0 ≤ v ∧ v ≤ 1440) r) := by
  refine sv_enter (by decide) (Nat.le_of_ble_eq_true rfl) ?_
  intro p e s m args below meth c C hr
  have C : sv_C g A RX9 cX9_isBeginning 1 p s m args meth c := C
  have hr : meth.sig.returnType = (some .boolean) := hr
  refine sv_same (st2 := []) (lv2 := [(0, sv_i v)]) rfl rfl ?_
  refine sv_go C.1 C.2.1 [(.iload_n 0, 1)] (pc' := 1) (by decide +kernel) rfl (lv' := [(0, sv_i v)]) (st' := [sv_i v]) rfl ?_
  refine sv_if C.1 C.2.1 (cnd := .lt) (off := 14) (tgt := 15) (by decide +kernel) (by decide) ⟨by omega, by omega⟩ (fun (h1 : v < 0) => ?_) (fun (h1 : ¬ (v < 0)) => ?_)
  · refine sv_go C.1 C.2.1 [(.iconst 0, 1)] (pc' := 16) (by decide +kernel) rfl (lv' := [(0, sv_i v)]) (st' := [sv_i 0]) rfl ?_
    exact sv_zret C hr (by first | exact Or.inl rfl | exact Or.inr rfl | omega) (by decide +kernel) hok (by first | exact ⟨rfl, Or.inl ⟨by omega, rfl⟩⟩ | exact ⟨rfl, Or.inr ⟨by omega, rfl⟩⟩)
  · refine sv_go C.1 C.2.1 [(.iload_n 0, 1), (.sipush 1440, 3)] (pc' := 8) (by decide +kernel) rfl (lv' := [(0, sv_i v)]) (st' := [sv_i 1440, sv_i v]) rfl ?_
    refine sv_icmp C.1 C.2.1 (cnd := .gt) (off := 7) (tgt := 15) (by decide +kernel) (by decide) ⟨by omega, by omega⟩ ⟨by omega, by omega⟩ (fun (h2 : 1440 < v) => ?_) (fun (h2 : ¬ (1440 < v)) => ?_)
    · refine sv_go C.1 C.2.1 [(.iconst 0, 1)] (pc' := 16) (by decide +kernel) rfl (lv' := [(0, sv_i v)]) (st' := [sv_i 0]) rfl ?_
      exact sv_zret C hr (by first | exact Or.inl rfl | exact Or.inr rfl | omega) (by decide +kernel) hok (by first | exact ⟨rfl, Or.inl ⟨by omega, rfl⟩⟩ | exact ⟨rfl, Or.inr ⟨by omega, rfl⟩⟩)
    · refine sv_go C.1 C.2.1 [(.iconst 1, 1)] (pc' := 12) (by decide +kernel) rfl (lv' := [(0, sv_i v)]) (st' := [sv_i 1]) rfl ?_
      refine sv_goto C.1 C.2.1 (off := 4) (tgt := 16) (by decide +kernel) (by decide) ?_
      exact sv_zret C hr (by first | exact Or.inl rfl | exact Or.inr rfl | omega) (by decide +kernel) hok (by first | exact ⟨rfl, Or.inl ⟨by omega, rfl⟩⟩ | exact ⟨rfl, Or.inr ⟨by omega, rfl⟩⟩)

theorem fl_X7_15 : Cond.fieldLink RX7 15 "SaintsRoad$Tape" "length" "I" ∈ lw_good := sv_mem 108 (by decide +kernel) rfl
theorem fl_X7_9 : Cond.fieldLink RX7 9 "SaintsRoad$Tape" "bytes" "[B" ∈ lw_good := sv_mem 107 (by decide +kernel) rfl
set_option maxHeartbeats 4000000 in
set_option maxRecDepth 100000 in
theorem ct_X7_addInt (l : Launch) (g : sv_G) (A : Nat → Prop) (ty : Nat → Nat) (σ : Nat → Nat → Int) (hok : sv_ok ty σ) (hTA : ∀ q, ty q ≠ 0 → A q) (hI : sv_inv sp_1 ty σ) (a : Nat) (k_a : ty a = 2) (four : Int) (h4 : sv_in four) (hL : 0 ≤ σ a 1 ∧ σ a 1 + 4 ≤ 4000) : sv_M l yX7_addInt cX7_addInt 3 none { frames := 0, cells := 0, slots := 0, locals := 0 } g A ty σ [sv_r a, sv_i four] (fun r σ' => r = [] ∧ sv_inv sp_1 ty σ' ∧ sv_off [2, 20] ty σ σ' ∧ σ' a 1 = σ a 1 + 4) := by
  refine sv_enter (by decide) (Nat.le_of_ble_eq_true rfl) ?_
  intro p e s m args below meth c C hr
  have C : sv_C g A RX7 cX7_addInt 3 p s m args meth c := C
  have hr : meth.sig.returnType = none := hr
  have hF : sv_off [2, 20] ty σ σ := sv_off.rf
  refine sv_same (st2 := []) (lv2 := [(0, sv_r a), (1, sv_i four)]) rfl rfl ?_
  refine sv_go C.1 C.2.1 [(.aload_n 0, 1)] (pc' := 1) (by decide +kernel) rfl (lv' := [(0, sv_r a), (1, sv_i four)]) (st' := [sv_r a]) rfl ?_
  have w1 := sv_ok.num hok (k := 1) (ci := 6) (r := (RX7, TX7, 2)) (by rw [k_a]; rfl) rfl (by decide)
  have w1 : sv_in (σ a 1) := w1
  refine sv_gf C (index := 15) (ci := 6) (k := 1) (r := (RX7, TX7, 2)) (v := sv_i (σ a 1)) (by decide +kernel) (by rw [k_a]; rfl) rfl (by decide) fl_X7_15 rfl ?_
  refine sv_go C.1 C.2.1 [(.iconst 4, 1), (.iadd, 1), (.sipush 4000, 3)] (pc' := 9) (by decide +kernel) rfl (lv' := [(0, sv_r a), (1, sv_i four)]) (st' := [sv_i 4000, sv_i ((σ a 1) + 4)]) rfl ?_
  refine sv_icmp_t C.1 C.2.1 (cnd := .le) (off := 4) (tgt := 13) (by decide +kernel) (by decide) ⟨by omega, by omega⟩ ⟨by omega, by omega⟩ (show ((σ a 1) + 4) ≤ 4000 by omega) ?_
  refine sv_go C.1 C.2.1 [(.bipush 24, 2), (.istore_n 2, 1)] (pc' := 16) (by decide +kernel) rfl (lv' := [(0, sv_r a), (1, sv_i four), (2, sv_i 24)]) (st' := []) rfl ?_
  have L2 : ∀ (n : Nat) (X : Int) (σ1 : Nat → Nat → Int), (sv_ok ty σ1) → (sv_inv sp_1 ty σ1) → (sv_off [2, 20] ty σ σ1) → (-8 ≤ X ∧ X ≤ 24 ∧ X % 8 = 0) → (σ1 a 1 = σ a 1 + (24 - X) / 8) → (X + 8) < (n : Int) → sv_E p l e { frames := 0, cells := 0, slots := 0, locals := 0 } s m args below meth c 3 g A ty (fun r σ' => r = [] ∧ sv_inv sp_1 ty σ' ∧ sv_off [2, 20] ty σ σ' ∧ σ' a 1 = σ a 1 + 4) σ1 16 [(0, sv_r a), (1, sv_i four), (2, sv_i X)] [] := by
    intro n
    induction n with
    | zero => intro X σ1 hok1 hI1 hF1 hX hT hmu; exact absurd hmu (by omega)
    | succ n ih3 =>
      intro X σ1 hok1 hI1 hF1 hX hT hmu
      refine sv_go C.1 C.2.1 [(.iload_n 2, 1)] (pc' := 17) (by decide +kernel) rfl (lv' := [(0, sv_r a), (1, sv_i four), (2, sv_i X)]) (st' := [sv_i X]) rfl ?_
      refine sv_if C.1 C.2.1 (cnd := .lt) (off := 32) (tgt := 49) (by decide +kernel) (by decide) ⟨by omega, by omega⟩ (fun (h4 : X < 0) => ?_) (fun (h4 : ¬ (X < 0)) => ?_)
      · exact sv_vret C hr (by decide +kernel) hok1 (⟨rfl, hI1, hF1, by rw [hT]; omega⟩)
      · refine sv_go C.1 C.2.1 [(.aload_n 0, 1)] (pc' := 21) (by decide +kernel) rfl (lv' := [(0, sv_r a), (1, sv_i four), (2, sv_i X)]) (st' := [sv_r a]) rfl ?_
        obtain ⟨q5, eq5, kq5⟩ := hI1.ref (k := 0) k_a rfl
        refine sv_gf C (index := 9) (ci := 6) (k := 0) (r := (RX7, TX7, 2)) (v := sv_r q5) (by decide +kernel) (by rw [k_a]; rfl) rfl (by decide) fl_X7_9 (congrArg sv_a eq5) ?_
        refine sv_go C.1 C.2.1 [(.aload_n 0, 1)] (pc' := 25) (by decide +kernel) rfl (lv' := [(0, sv_r a), (1, sv_i four), (2, sv_i X)]) (st' := [sv_r a, sv_r q5]) rfl ?_
        refine sv_gf C (index := 15) (ci := 6) (k := 1) (r := (RX7, TX7, 2)) (v := sv_i (σ a 1 + (24 - X) / 8)) (by decide +kernel) (by rw [k_a]; rfl) rfl (by decide) fl_X7_15 (congrArg sv_i hT) ?_
        refine sv_go C.1 C.2.1 [(.iload_n 1, 1), (.iload_n 2, 1), (.ishr, 1), (.i2b, 1)] (pc' := 32) (by decide +kernel) rfl (lv' := [(0, sv_r a), (1, sv_i four), (2, sv_i X)]) (st' := [sv_i ((Int32.ofInt ((Int32.ofInt four >>> (Int32.ofInt X &&& 31)).toInt)).toInt8.toInt32.toInt), sv_i (σ a 1 + (24 - X) / 8), sv_r q5]) rfl ?_
        have hby := sv_by (Int32.ofInt ((Int32.ofInt four >>> (Int32.ofInt X &&& 31)).toInt))
        refine sv_bs C (n := 4000) (by decide +kernel) (by rw [kq5]; rfl) (by decide) (by omega) (by omega) ⟨by omega, by omega⟩ (hTA _ (by rw [kq5]; decide)) hok1 (fun hok6 => ?_)
        have hI8 := hI1.up (a := q5) (k := (σ a 1 + (24 - X) / 8 : Int).toNat) (z := (Int32.ofInt ((Int32.ofInt four >>> (Int32.ofInt X &&& 31)).toInt)).toInt8.toInt32.toInt) (by rw [kq5]; exact trivial)
        have hF9 := hF1.up (a := q5) (k := (σ a 1 + (24 - X) / 8 : Int).toNat) (z := (Int32.ofInt ((Int32.ofInt four >>> (Int32.ofInt X &&& 31)).toInt)).toInt8.toInt32.toInt) (by rw [kq5]; decide)
        generalize eσ7 : sv_up σ1 q5 (σ a 1 + (24 - X) / 8 : Int).toNat ((Int32.ofInt ((Int32.ofInt four >>> (Int32.ofInt X &&& 31)).toInt)).toInt8.toInt32.toInt) = σ7 at hok6 hI8 hF9 ⊢
        have t10 : σ7 a 1 = σ a 1 + (24 - X) / 8 := by rw [← eσ7, sv_up_a (sv_ne k_a kq5 (by decide))]; exact hT
        have t11 : σ7 a 0 = (q5 : Int) + 1 := by rw [← eσ7, sv_up_a (sv_ne k_a kq5 (by decide))]; exact eq5
        refine sv_go C.1 C.2.1 [(.aload_n 0, 1), (.dup, 1)] (pc' := 35) (by decide +kernel) rfl (lv' := [(0, sv_r a), (1, sv_i four), (2, sv_i X)]) (st' := [sv_r a, sv_r a]) rfl ?_
        refine sv_gf C (index := 15) (ci := 6) (k := 1) (r := (RX7, TX7, 2)) (v := sv_i (σ a 1 + (24 - X) / 8)) (by decide +kernel) (by rw [k_a]; rfl) rfl (by decide) fl_X7_15 (congrArg sv_i t10) ?_
        refine sv_go C.1 C.2.1 [(.iconst 1, 1), (.iadd, 1)] (pc' := 40) (by decide +kernel) rfl (lv' := [(0, sv_r a), (1, sv_i four), (2, sv_i X)]) (st' := [sv_i ((σ a 1 + (24 - X) / 8) + 1), sv_r a]) rfl ?_
        refine sv_pf C (index := 15) (ci := 6) (k := 1) (r := (RX7, TX7, 2)) (z := (σ a 1 + (24 - X) / 8) + 1) (by decide +kernel) (by rw [k_a]; rfl) rfl (by decide) rfl fl_X7_15 rfl (Or.inl rfl) ⟨by omega, by omega⟩ (hTA _ (by rw [k_a]; decide)) hok6 (fun hok12 => ?_)
        have hI14 := hI8.up (a := a) (k := 1) (z := (σ a 1 + (24 - X) / 8) + 1) (by rw [k_a]; exact trivial)
        have hF15 := hF9.up (a := a) (k := 1) (z := (σ a 1 + (24 - X) / 8) + 1) (by rw [k_a]; decide)
        generalize eσ13 : sv_up σ7 a 1 ((σ a 1 + (24 - X) / 8) + 1) = σ13 at hok12 hI14 hF15 ⊢
        have t16 : σ13 a 0 = (q5 : Int) + 1 := by rw [← eσ13, sv_up_k (by decide)]; exact t11
        have t17 : σ13 a 1 = (σ a 1 + (24 - X) / 8) + 1 := by rw [← eσ13]; exact sv_up_s _ _ _ _
        refine sv_go C.1 C.2.1 [(.iinc 2 (-8), 3)] (pc' := 46) (by decide +kernel) rfl (lv' := [(0, sv_r a), (1, sv_i four), (2, sv_i (X + (-8)))]) (st' := []) rfl ?_
        refine sv_goto C.1 C.2.1 (off := (-30)) (tgt := 16) (by decide +kernel) (by decide) ?_
        exact ih3 (X + (-8)) σ13 hok12 hI14 hF15 (by omega) (by rw [t17]; omega) (by omega)
  exact L2 (((24 + 8 : Int)).toNat + 1) 24 σ hok hI hF (by omega) (by omega) (by omega)

theorem fl_X9_10 : Cond.fieldLink RX9 10 "SaintsRoad" "tape" "LSaintsRoad$Tape;" ∈ lw_good := sv_mem 406 (by decide +kernel) rfl
theorem fl_X9_51 : Cond.fieldLink RX9 51 "SaintsRoad$Tape" "length" "I" ∈ lw_good := sv_mem 109 (by decide +kernel) rfl
theorem ml_X9_55 : Cond.methodLink RX9 55 yX7_addInt ∈ lw_good := sv_mem 429 (by decide +kernel) rfl
theorem co_X7_addInt : Cond.code yX7_addInt cX7_addInt 3 none ∈ lw_good := sv_mem 432 (by decide +kernel) rfl
theorem in_X7 : Cond.initialized RX7 ∈ lw_good := sv_mem 73 (by decide +kernel) rfl
theorem im_X7_addInt : Cond.instanceMethod yX7_addInt ∈ lw_good := sv_mem 430 (by decide +kernel) rfl
theorem se_X7_addInt : Cond.selects RX7 yX7_addInt yX7_addInt ∈ lw_good := sv_mem 431 (by decide +kernel) rfl
set_option maxHeartbeats 4000000 in
set_option maxRecDepth 100000 in
theorem ct_X9_feed (l : Launch) (g : sv_G) (A : Nat → Prop) (ty : Nat → Nat) (σ : Nat → Nat → Int) (hok : sv_ok ty σ) (hTA : ∀ q, ty q ≠ 0 → A q) (hI : sv_inv sp_1 ty σ) (hZ : sv_inv sp_0 ty σ) (a : Nat) (k_a : ty a = 1) (a1 : Int) (ha1 : sv_in a1) (a2 : Int) (ha2 : sv_in a2) (a3 : Int) (ha3 : sv_in a3) (a4 : Int) (ha4 : sv_in a4) (a5 : Int) (ha5 : sv_in a5) : sv_M l yX9_feed cX9_feed 6 (some .int) { frames := 1, cells := 0, slots := 0, locals := 22 } g A ty σ [sv_r a, sv_i a1, sv_i a2, sv_i a3, sv_i a4, sv_i a5] (fun r σ' => r = [sv_i (20)] ∧ sv_off [2, 20] ty σ σ') := by
  refine sv_enter (by decide) (Nat.le_of_ble_eq_true rfl) ?_
  intro p e s m args below meth c C hr
  have C : sv_C g A RX9 cX9_feed 6 p s m args meth c := C
  have hr : meth.sig.returnType = (some .int) := hr
  have hF : sv_off [2, 20] ty σ σ := sv_off.rf
  refine sv_same (st2 := []) (lv2 := [(0, sv_r a), (1, sv_i a1), (2, sv_i a2), (3, sv_i a3), (4, sv_i a4), (5, sv_i a5)]) rfl rfl ?_
  refine sv_go C.1 C.2.1 [(.aload_n 0, 1)] (pc' := 1) (by decide +kernel) rfl (lv' := [(0, sv_r a), (1, sv_i a1), (2, sv_i a2), (3, sv_i a3), (4, sv_i a4), (5, sv_i a5)]) (st' := [sv_r a]) rfl ?_
  obtain ⟨q1, eq1, kq1⟩ := hI.ref (k := 0) k_a rfl
  refine sv_gf C (index := 10) (ci := 8) (k := 0) (r := (RX9, TX9, 6)) (v := sv_r q1) (by decide +kernel) (by rw [k_a]; rfl) rfl (by decide) fl_X9_10 (congrArg sv_a eq1) ?_
  have t2 : σ q1 1 = 0 := by have q := hZ.num (k := 1) kq1 rfl; omega
  refine sv_gf C (index := 51) (ci := 6) (k := 1) (r := (RX7, TX7, 2)) (v := sv_i 0) (by decide +kernel) (by rw [kq1]; rfl) rfl (by decide) fl_X9_51 (congrArg sv_i t2) ?_
  refine sv_go C.1 C.2.1 [(.bipush 20, 2), (.iadd, 1), (.sipush 4000, 3)] (pc' := 13) (by decide +kernel) rfl (lv' := [(0, sv_r a), (1, sv_i a1), (2, sv_i a2), (3, sv_i a3), (4, sv_i a4), (5, sv_i a5)]) (st' := [sv_i 4000, sv_i (0 + 20)]) rfl ?_
  refine sv_icmp_t C.1 C.2.1 (cnd := .le) (off := 6) (tgt := 19) (by decide +kernel) (by decide) ⟨by omega, by omega⟩ ⟨by omega, by omega⟩ (show (0 + 20) ≤ 4000 by omega) ?_
  refine sv_go C.1 C.2.1 [(.aload_n 0, 1)] (pc' := 20) (by decide +kernel) rfl (lv' := [(0, sv_r a), (1, sv_i a1), (2, sv_i a2), (3, sv_i a3), (4, sv_i a4), (5, sv_i a5)]) (st' := [sv_r a]) rfl ?_
  refine sv_gf C (index := 10) (ci := 8) (k := 0) (r := (RX9, TX9, 6)) (v := sv_r q1) (by decide +kernel) (by rw [k_a]; rfl) rfl (by decide) fl_X9_10 (congrArg sv_a eq1) ?_
  refine sv_go C.1 C.2.1 [(.iload_n 1, 1)] (pc' := 24) (by decide +kernel) rfl (lv' := [(0, sv_r a), (1, sv_i a1), (2, sv_i a2), (3, sv_i a3), (4, sv_i a4), (5, sv_i a5)]) (st' := [sv_i a1, sv_r q1]) rfl ?_
  refine sv_cv C (index := 55) (k := 1) (rest := []) (ci := 6) (r := (RX7, TX7, 2)) (by decide +kernel) (ct_X7_addInt l g A ty σ hok hTA hI q1 kq1 (a1) ⟨by omega, by omega⟩ (by rw [t2]; omega)) ⟨co_X7_addInt, in_X7, ⟨by decide, by decide, by decide +kernel⟩, Nat.le_of_ble_eq_true rfl, Nat.le_of_ble_eq_true rfl⟩ ml_X9_55 im_X7_addInt se_X7_addInt (by rw [kq1]; rfl) rfl rfl rfl (Nat.le_of_ble_eq_true rfl) ⟨Nat.zero_le _, Nat.zero_le _⟩ (fun r4 σ5 hpo3 hok6 => ?_)
  obtain ⟨rfl, hIu7, hFu7, xu7⟩ := hpo3
  have hGu7 := hF.tr hFu7 (by decide)
  have t8 : σ5 a 0 = (q1 : Int) + 1 := (hFu7.at k_a (by decide)).trans eq1
  have t9 : σ5 q1 1 = 0 + 4 := by rw [xu7, t2]
  refine sv_same (st2 := []) (lv2 := [(0, sv_r a), (1, sv_i a1), (2, sv_i a2), (3, sv_i a3), (4, sv_i a4), (5, sv_i a5)]) rfl rfl ?_
  refine sv_go C.1 C.2.1 [(.aload_n 0, 1)] (pc' := 28) (by decide +kernel) rfl (lv' := [(0, sv_r a), (1, sv_i a1), (2, sv_i a2), (3, sv_i a3), (4, sv_i a4), (5, sv_i a5)]) (st' := [sv_r a]) rfl ?_
  refine sv_gf C (index := 10) (ci := 8) (k := 0) (r := (RX9, TX9, 6)) (v := sv_r q1) (by decide +kernel) (by rw [k_a]; rfl) rfl (by decide) fl_X9_10 (congrArg sv_a t8) ?_
  refine sv_go C.1 C.2.1 [(.iload_n 2, 1)] (pc' := 32) (by decide +kernel) rfl (lv' := [(0, sv_r a), (1, sv_i a1), (2, sv_i a2), (3, sv_i a3), (4, sv_i a4), (5, sv_i a5)]) (st' := [sv_i a2, sv_r q1]) rfl ?_
  refine sv_cv C (index := 55) (k := 1) (rest := []) (ci := 6) (r := (RX7, TX7, 2)) (by decide +kernel) (ct_X7_addInt l g A ty σ5 hok6 hTA hIu7 q1 kq1 (a2) ⟨by omega, by omega⟩ (by rw [t9]; omega)) ⟨co_X7_addInt, in_X7, ⟨by decide, by decide, by decide +kernel⟩, Nat.le_of_ble_eq_true rfl, Nat.le_of_ble_eq_true rfl⟩ ml_X9_55 im_X7_addInt se_X7_addInt (by rw [kq1]; rfl) rfl rfl rfl (Nat.le_of_ble_eq_true rfl) ⟨Nat.zero_le _, Nat.zero_le _⟩ (fun r11 σ12 hpo10 hok13 => ?_)
  obtain ⟨rfl, hIu14, hFu14, xu14⟩ := hpo10
  have hGu14 := hGu7.tr hFu14 (by decide)
  have t15 : σ12 a 0 = (q1 : Int) + 1 := (hFu14.at k_a (by decide)).trans t8
  have t16 : σ12 q1 1 = 0 + 4 + 4 := by rw [xu14, t9]
  refine sv_same (st2 := []) (lv2 := [(0, sv_r a), (1, sv_i a1), (2, sv_i a2), (3, sv_i a3), (4, sv_i a4), (5, sv_i a5)]) rfl rfl ?_
  refine sv_go C.1 C.2.1 [(.aload_n 0, 1)] (pc' := 36) (by decide +kernel) rfl (lv' := [(0, sv_r a), (1, sv_i a1), (2, sv_i a2), (3, sv_i a3), (4, sv_i a4), (5, sv_i a5)]) (st' := [sv_r a]) rfl ?_
  refine sv_gf C (index := 10) (ci := 8) (k := 0) (r := (RX9, TX9, 6)) (v := sv_r q1) (by decide +kernel) (by rw [k_a]; rfl) rfl (by decide) fl_X9_10 (congrArg sv_a t15) ?_
  refine sv_go C.1 C.2.1 [(.iload_n 3, 1)] (pc' := 40) (by decide +kernel) rfl (lv' := [(0, sv_r a), (1, sv_i a1), (2, sv_i a2), (3, sv_i a3), (4, sv_i a4), (5, sv_i a5)]) (st' := [sv_i a3, sv_r q1]) rfl ?_
  refine sv_cv C (index := 55) (k := 1) (rest := []) (ci := 6) (r := (RX7, TX7, 2)) (by decide +kernel) (ct_X7_addInt l g A ty σ12 hok13 hTA hIu14 q1 kq1 (a3) ⟨by omega, by omega⟩ (by rw [t16]; omega)) ⟨co_X7_addInt, in_X7, ⟨by decide, by decide, by decide +kernel⟩, Nat.le_of_ble_eq_true rfl, Nat.le_of_ble_eq_true rfl⟩ ml_X9_55 im_X7_addInt se_X7_addInt (by rw [kq1]; rfl) rfl rfl rfl (Nat.le_of_ble_eq_true rfl) ⟨Nat.zero_le _, Nat.zero_le _⟩ (fun r18 σ19 hpo17 hok20 => ?_)
  obtain ⟨rfl, hIu21, hFu21, xu21⟩ := hpo17
  have hGu21 := hGu14.tr hFu21 (by decide)
  have t22 : σ19 a 0 = (q1 : Int) + 1 := (hFu21.at k_a (by decide)).trans t15
  have t23 : σ19 q1 1 = 0 + 4 + 4 + 4 := by rw [xu21, t16]
  refine sv_same (st2 := []) (lv2 := [(0, sv_r a), (1, sv_i a1), (2, sv_i a2), (3, sv_i a3), (4, sv_i a4), (5, sv_i a5)]) rfl rfl ?_
  refine sv_go C.1 C.2.1 [(.aload_n 0, 1)] (pc' := 44) (by decide +kernel) rfl (lv' := [(0, sv_r a), (1, sv_i a1), (2, sv_i a2), (3, sv_i a3), (4, sv_i a4), (5, sv_i a5)]) (st' := [sv_r a]) rfl ?_
  refine sv_gf C (index := 10) (ci := 8) (k := 0) (r := (RX9, TX9, 6)) (v := sv_r q1) (by decide +kernel) (by rw [k_a]; rfl) rfl (by decide) fl_X9_10 (congrArg sv_a t22) ?_
  refine sv_go C.1 C.2.1 [(.iload 4, 2)] (pc' := 49) (by decide +kernel) rfl (lv' := [(0, sv_r a), (1, sv_i a1), (2, sv_i a2), (3, sv_i a3), (4, sv_i a4), (5, sv_i a5)]) (st' := [sv_i a4, sv_r q1]) rfl ?_
  refine sv_cv C (index := 55) (k := 1) (rest := []) (ci := 6) (r := (RX7, TX7, 2)) (by decide +kernel) (ct_X7_addInt l g A ty σ19 hok20 hTA hIu21 q1 kq1 (a4) ⟨by omega, by omega⟩ (by rw [t23]; omega)) ⟨co_X7_addInt, in_X7, ⟨by decide, by decide, by decide +kernel⟩, Nat.le_of_ble_eq_true rfl, Nat.le_of_ble_eq_true rfl⟩ ml_X9_55 im_X7_addInt se_X7_addInt (by rw [kq1]; rfl) rfl rfl rfl (Nat.le_of_ble_eq_true rfl) ⟨Nat.zero_le _, Nat.zero_le _⟩ (fun r25 σ26 hpo24 hok27 => ?_)
  obtain ⟨rfl, hIu28, hFu28, xu28⟩ := hpo24
  have hGu28 := hGu21.tr hFu28 (by decide)
  have t29 : σ26 a 0 = (q1 : Int) + 1 := (hFu28.at k_a (by decide)).trans t22
  have t30 : σ26 q1 1 = 0 + 4 + 4 + 4 + 4 := by rw [xu28, t23]
  refine sv_same (st2 := []) (lv2 := [(0, sv_r a), (1, sv_i a1), (2, sv_i a2), (3, sv_i a3), (4, sv_i a4), (5, sv_i a5)]) rfl rfl ?_
  refine sv_go C.1 C.2.1 [(.aload_n 0, 1)] (pc' := 53) (by decide +kernel) rfl (lv' := [(0, sv_r a), (1, sv_i a1), (2, sv_i a2), (3, sv_i a3), (4, sv_i a4), (5, sv_i a5)]) (st' := [sv_r a]) rfl ?_
  refine sv_gf C (index := 10) (ci := 8) (k := 0) (r := (RX9, TX9, 6)) (v := sv_r q1) (by decide +kernel) (by rw [k_a]; rfl) rfl (by decide) fl_X9_10 (congrArg sv_a t29) ?_
  refine sv_go C.1 C.2.1 [(.iload 5, 2)] (pc' := 58) (by decide +kernel) rfl (lv' := [(0, sv_r a), (1, sv_i a1), (2, sv_i a2), (3, sv_i a3), (4, sv_i a4), (5, sv_i a5)]) (st' := [sv_i a5, sv_r q1]) rfl ?_
  refine sv_cv C (index := 55) (k := 1) (rest := []) (ci := 6) (r := (RX7, TX7, 2)) (by decide +kernel) (ct_X7_addInt l g A ty σ26 hok27 hTA hIu28 q1 kq1 (a5) ⟨by omega, by omega⟩ (by rw [t30]; omega)) ⟨co_X7_addInt, in_X7, ⟨by decide, by decide, by decide +kernel⟩, Nat.le_of_ble_eq_true rfl, Nat.le_of_ble_eq_true rfl⟩ ml_X9_55 im_X7_addInt se_X7_addInt (by rw [kq1]; rfl) rfl rfl rfl (Nat.le_of_ble_eq_true rfl) ⟨Nat.zero_le _, Nat.zero_le _⟩ (fun r32 σ33 hpo31 hok34 => ?_)
  obtain ⟨rfl, hIu35, hFu35, xu35⟩ := hpo31
  have hGu35 := hGu28.tr hFu35 (by decide)
  have t36 : σ33 a 0 = (q1 : Int) + 1 := (hFu35.at k_a (by decide)).trans t29
  have t37 : σ33 q1 1 = 0 + 4 + 4 + 4 + 4 + 4 := by rw [xu35, t30]
  refine sv_same (st2 := []) (lv2 := [(0, sv_r a), (1, sv_i a1), (2, sv_i a2), (3, sv_i a3), (4, sv_i a4), (5, sv_i a5)]) rfl rfl ?_
  refine sv_go C.1 C.2.1 [(.aload_n 0, 1)] (pc' := 62) (by decide +kernel) rfl (lv' := [(0, sv_r a), (1, sv_i a1), (2, sv_i a2), (3, sv_i a3), (4, sv_i a4), (5, sv_i a5)]) (st' := [sv_r a]) rfl ?_
  refine sv_gf C (index := 10) (ci := 8) (k := 0) (r := (RX9, TX9, 6)) (v := sv_r q1) (by decide +kernel) (by rw [k_a]; rfl) rfl (by decide) fl_X9_10 (congrArg sv_a t36) ?_
  refine sv_gf C (index := 51) (ci := 6) (k := 1) (r := (RX7, TX7, 2)) (v := sv_i (0 + 4 + 4 + 4 + 4 + 4)) (by decide +kernel) (by rw [kq1]; rfl) rfl (by decide) fl_X9_51 (congrArg sv_i t37) ?_
  exact sv_iret C hr (by decide +kernel) hok34 (⟨congrArg (fun q => [sv_i q]) (by first | omega | (unfold fx_20; omega)), hGu35⟩)

set_option maxHeartbeats 4000000 in
set_option maxRecDepth 100000 in
theorem ct_X9_end (l : Launch) (g : sv_G) (A : Nat → Prop) (ty : Nat → Nat) (σ : Nat → Nat → Int) (hok : sv_ok ty σ) (hTA : ∀ q, ty q ≠ 0 → A q) (hI : sv_inv sp_1 ty σ) (hZ : sv_inv sp_0 ty σ) (a : Nat) (k_a : ty a = 1) (n1 : Int) (hn1 : sv_in n1) : sv_M l yX9_end cX9_end 2 (some .int) { frames := 0, cells := 0, slots := 0, locals := 0 } g A ty σ [sv_r a, sv_i n1] (fun r σ' => r = [sv_i (fx_end n1)] ∧ sv_off [2] ty σ σ') := by
  refine sv_enter (by decide) (Nat.le_of_ble_eq_true rfl) ?_
  intro p e s m args below meth c C hr
  have C : sv_C g A RX9 cX9_end 2 p s m args meth c := C
  have hr : meth.sig.returnType = (some .int) := hr
  have hF : sv_off [2] ty σ σ := sv_off.rf
  refine sv_same (st2 := []) (lv2 := [(0, sv_r a), (1, sv_i n1)]) rfl rfl ?_
  refine sv_go C.1 C.2.1 [(.iload_n 1, 1)] (pc' := 1) (by decide +kernel) rfl (lv' := [(0, sv_r a), (1, sv_i n1)]) (st' := [sv_i n1]) rfl ?_
  refine sv_if C.1 C.2.1 (cnd := .lt) (off := 14) (tgt := 15) (by decide +kernel) (by decide) ⟨by omega, by omega⟩ (fun (h1 : n1 < 0) => ?_) (fun (h1 : ¬ (n1 < 0)) => ?_)
  · refine sv_go C.1 C.2.1 [(.iconst (-1), 1)] (pc' := 16) (by decide +kernel) rfl (lv' := [(0, sv_r a), (1, sv_i n1)]) (st' := [sv_i ((-1))]) rfl ?_
    exact sv_iret C hr (by decide +kernel) hok (⟨congrArg (fun q => [sv_i q]) (by first | omega | (unfold fx_end; omega)), hF⟩)
  · refine sv_go C.1 C.2.1 [(.iload_n 1, 1), (.aload_n 0, 1)] (pc' := 6) (by decide +kernel) rfl (lv' := [(0, sv_r a), (1, sv_i n1)]) (st' := [sv_r a, sv_i n1]) rfl ?_
    obtain ⟨q2, eq2, kq2⟩ := hI.ref (k := 0) k_a rfl
    refine sv_gf C (index := 10) (ci := 8) (k := 0) (r := (RX9, TX9, 6)) (v := sv_r q2) (by decide +kernel) (by rw [k_a]; rfl) rfl (by decide) fl_X9_10 (congrArg sv_a eq2) ?_
    have t3 : σ q2 1 = 0 := by have q := hZ.num (k := 1) kq2 rfl; omega
    refine sv_gf C (index := 51) (ci := 6) (k := 1) (r := (RX7, TX7, 2)) (v := sv_i 0) (by decide +kernel) (by rw [kq2]; rfl) rfl (by decide) fl_X9_51 (congrArg sv_i t3) ?_
    refine sv_icmp C.1 C.2.1 (cnd := .le) (off := 5) (tgt := 17) (by decide +kernel) (by decide) ⟨by omega, by omega⟩ ⟨by omega, by omega⟩ (fun (h4 : n1 ≤ 0) => ?_) (fun (h4 : ¬ (n1 ≤ 0)) => ?_)
    · refine sv_go C.1 C.2.1 [(.aload_n 0, 1)] (pc' := 18) (by decide +kernel) rfl (lv' := [(0, sv_r a), (1, sv_i n1)]) (st' := [sv_r a]) rfl ?_
      refine sv_gf C (index := 10) (ci := 8) (k := 0) (r := (RX9, TX9, 6)) (v := sv_r q2) (by decide +kernel) (by rw [k_a]; rfl) rfl (by decide) fl_X9_10 (congrArg sv_a eq2) ?_
      refine sv_go C.1 C.2.1 [(.iload_n 1, 1)] (pc' := 22) (by decide +kernel) rfl (lv' := [(0, sv_r a), (1, sv_i n1)]) (st' := [sv_i n1, sv_r q2]) rfl ?_
      refine sv_pf C (index := 51) (ci := 6) (k := 1) (r := (RX7, TX7, 2)) (z := n1) (by decide +kernel) (by rw [kq2]; rfl) rfl (by decide) rfl fl_X9_51 rfl (Or.inl rfl) ⟨by omega, by omega⟩ (hTA _ (by rw [kq2]; decide)) hok (fun hok5 => ?_)
      have hI7 := hI.up (a := q2) (k := 1) (z := n1) (by rw [kq2]; exact trivial)
      have hF8 := hF.up (a := q2) (k := 1) (z := n1) (by rw [kq2]; decide)
      generalize eσ6 : sv_up σ q2 1 n1 = σ6 at hok5 hI7 hF8 ⊢
      have t9 : σ6 a 0 = (q2 : Int) + 1 := by rw [← eσ6, sv_up_a (sv_ne k_a kq2 (by decide))]; exact eq2
      have t10 : σ6 q2 1 = n1 := by rw [← eσ6]; exact sv_up_s _ _ _ _
      refine sv_go C.1 C.2.1 [(.iload_n 1, 1)] (pc' := 26) (by decide +kernel) rfl (lv' := [(0, sv_r a), (1, sv_i n1)]) (st' := [sv_i n1]) rfl ?_
      exact sv_iret C hr (by decide +kernel) hok5 (⟨congrArg (fun q => [sv_i q]) (by first | omega | (unfold fx_end; omega)), hF8⟩)
    · refine sv_go C.1 C.2.1 [(.iconst (-1), 1)] (pc' := 16) (by decide +kernel) rfl (lv' := [(0, sv_r a), (1, sv_i n1)]) (st' := [sv_i ((-1))]) rfl ?_
      exact sv_iret C hr (by decide +kernel) hok (⟨congrArg (fun q => [sv_i q]) (by first | omega | (unfold fx_end; omega)), hF⟩)

theorem fl_X9_19 : Cond.fieldLink RX9 19 "SaintsRoad" "reader" "LSaintsRoad$Reader;" ∈ lw_good := sv_mem 407 (by decide +kernel) rfl
theorem fl_X9_77 : Cond.fieldLink RX9 77 "SaintsRoad$Reader" "faultKind" "I" ∈ lw_good := sv_mem 124 (by decide +kernel) rfl
theorem fl_X9_80 : Cond.fieldLink RX9 80 "SaintsRoad$Reader" "faultPlace" "I" ∈ lw_good := sv_mem 126 (by decide +kernel) rfl
set_option maxHeartbeats 4000000 in
set_option maxRecDepth 100000 in
theorem ct_X9_fault (l : Launch) (g : sv_G) (A : Nat → Prop) (ty : Nat → Nat) (σ : Nat → Nat → Int) (hok : sv_ok ty σ) (hTA : ∀ q, ty q ≠ 0 → A q) (hI : sv_inv sp_1 ty σ) (hZ : sv_inv sp_0 ty σ) (a : Nat) (k_a : ty a = 1) (w1 : Int) (hw1 : sv_in w1) : sv_M l yX9_fault cX9_fault 2 (some .int) { frames := 0, cells := 0, slots := 0, locals := 0 } g A ty σ [sv_r a, sv_i w1] (fun r σ' => r = [sv_i (fx_fault w1)] ∧ sv_off [] ty σ σ') := by
  refine sv_enter (by decide) (Nat.le_of_ble_eq_true rfl) ?_
  intro p e s m args below meth c C hr
  have C : sv_C g A RX9 cX9_fault 2 p s m args meth c := C
  have hr : meth.sig.returnType = (some .int) := hr
  have hF : sv_off [] ty σ σ := sv_off.rf
  refine sv_same (st2 := []) (lv2 := [(0, sv_r a), (1, sv_i w1)]) rfl rfl ?_
  refine sv_go C.1 C.2.1 [(.iload_n 1, 1)] (pc' := 1) (by decide +kernel) rfl (lv' := [(0, sv_r a), (1, sv_i w1)]) (st' := [sv_i w1]) rfl ?_
  rcases (show w1 = 0 ∨ w1 = 1 ∨ (w1 ≠ 0 ∧ w1 ≠ 1) by omega) with h1 | h1 | h1
  · refine sv_lsI C.1 C.2.1 (dflt := 43) (ps := #[(0, 27), (1, 35)]) (len := 27) (off := 27) (tgt := 28) (by decide +kernel) (by decide) 0 h1 (by decide) (by decide) (by decide) ?_
    refine sv_go C.1 C.2.1 [(.aload_n 0, 1)] (pc' := 29) (by decide +kernel) rfl (lv' := [(0, sv_r a), (1, sv_i w1)]) (st' := [sv_r a]) rfl ?_
    obtain ⟨q2, eq2, kq2⟩ := hI.ref (k := 1) k_a rfl
    refine sv_gf C (index := 19) (ci := 8) (k := 1) (r := (RX9, TX9, 6)) (v := sv_r q2) (by decide +kernel) (by rw [k_a]; rfl) rfl (by decide) fl_X9_19 (congrArg sv_a eq2) ?_
    have t3 : σ q2 0 = 0 := by have q := hZ.num (k := 0) kq2 rfl; omega
    refine sv_gf C (index := 77) (ci := 5) (k := 0) (r := (RX6, TX6, 13)) (v := sv_i 0) (by decide +kernel) (by rw [kq2]; rfl) rfl (by decide) fl_X9_77 (congrArg sv_i t3) ?_
    exact sv_iret C hr (by decide +kernel) hok (⟨congrArg (fun q => [sv_i q]) (by first | omega | (unfold fx_fault; omega)), hF⟩)
  · refine sv_lsI C.1 C.2.1 (dflt := 43) (ps := #[(0, 27), (1, 35)]) (len := 27) (off := 35) (tgt := 36) (by decide +kernel) (by decide) 1 h1 (by decide) (by decide) (by decide) ?_
    refine sv_go C.1 C.2.1 [(.aload_n 0, 1)] (pc' := 37) (by decide +kernel) rfl (lv' := [(0, sv_r a), (1, sv_i w1)]) (st' := [sv_r a]) rfl ?_
    obtain ⟨q4, eq4, kq4⟩ := hI.ref (k := 1) k_a rfl
    refine sv_gf C (index := 19) (ci := 8) (k := 1) (r := (RX9, TX9, 6)) (v := sv_r q4) (by decide +kernel) (by rw [k_a]; rfl) rfl (by decide) fl_X9_19 (congrArg sv_a eq4) ?_
    have t5 : σ q4 1 = (-1) := by have q := hZ.num (k := 1) kq4 rfl; omega
    refine sv_gf C (index := 80) (ci := 5) (k := 1) (r := (RX6, TX6, 13)) (v := sv_i ((-1))) (by decide +kernel) (by rw [kq4]; rfl) rfl (by decide) fl_X9_80 (congrArg sv_i t5) ?_
    exact sv_iret C hr (by decide +kernel) hok (⟨congrArg (fun q => [sv_i q]) (by first | omega | (unfold fx_fault; omega)), hF⟩)
  · refine sv_lsO C.1 C.2.1 (dflt := 43) (ps := #[(0, 27), (1, 35)]) (len := 27) (tgt := 44) (by decide +kernel) (by decide) ⟨by omega, by omega⟩ (by simp only [List.forall_mem_cons]; (repeat' constructor) <;> first | omega | (intro q hq; cases hq)) (by decide) ?_
    refine sv_go C.1 C.2.1 [(.iconst (-1), 1)] (pc' := 45) (by decide +kernel) rfl (lv' := [(0, sv_r a), (1, sv_i w1)]) (st' := [sv_i ((-1))]) rfl ?_
    exact sv_iret C hr (by decide +kernel) hok (⟨congrArg (fun q => [sv_i q]) (by first | omega | (unfold fx_fault; omega)), hF⟩)

theorem ml_X9_59 : Cond.methodLink RX9 59 yX9_isPlace ∈ lw_good := sv_mem 441 (by decide +kernel) rfl
theorem co_X9_isPlace : Cond.code yX9_isPlace cX9_isPlace 1 (some .boolean) ∈ lw_good := sv_mem 443 (by decide +kernel) rfl
theorem in_X9 : Cond.initialized RX9 ∈ lw_good := sv_mem 72 (by decide +kernel) rfl
theorem st_X9_isPlace : Cond.static yX9_isPlace ∈ lw_good := sv_mem 442 (by decide +kernel) rfl
theorem fl_X9_25 : Cond.fieldLink RX9 25 "SaintsRoad" "places" "[LSaintsRoad$Place;" ∈ lw_good := sv_mem 408 (by decide +kernel) rfl
theorem fl_X9_71 : Cond.fieldLink RX9 71 "SaintsRoad$Place" "calendar" "LSaintsRoad$Calendar;" ∈ lw_good := sv_mem 279 (by decide +kernel) rfl
theorem fl_X9_74 : Cond.fieldLink RX9 74 "SaintsRoad$Calendar" "size" "I" ∈ lw_good := sv_mem 250 (by decide +kernel) rfl
set_option maxHeartbeats 4000000 in
set_option maxRecDepth 100000 in
theorem ct_X9_isFeast (l : Launch) (g : sv_G) (A : Nat → Prop) (ty : Nat → Nat) (σ : Nat → Nat → Int) (hok : sv_ok ty σ) (hI : sv_inv sp_1 ty σ) (a : Nat) (k_a : ty a = 1) (v1 : Int) (hv1 : sv_in v1) (v2 : Int) (hv2 : sv_in v2) : sv_M l yX9_isFeast cX9_isFeast 3 (some .boolean) { frames := 1, cells := 0, slots := 0, locals := 20 } g A ty σ [sv_r a, sv_i v1, sv_i v2] (fun r σ' => σ = σ' ∧ sv_bo (False) r) := by
  refine sv_enter (by decide) (Nat.le_of_ble_eq_true rfl) ?_
  intro p e s m args below meth c C hr
  have C : sv_C g A RX9 cX9_isFeast 3 p s m args meth c := C
  have hr : meth.sig.returnType = (some .boolean) := hr
  refine sv_same (st2 := []) (lv2 := [(0, sv_r a), (1, sv_i v1), (2, sv_i v2)]) rfl rfl ?_
  refine sv_go C.1 C.2.1 [(.iload_n 1, 1)] (pc' := 1) (by decide +kernel) rfl (lv' := [(0, sv_r a), (1, sv_i v1), (2, sv_i v2)]) (st' := [sv_i v1]) rfl ?_
  refine sv_cs C (index := 59) (k := 1) (rest := []) (by decide +kernel) (ct_X9_isPlace l g A ty σ hok (v1) ⟨by omega, by omega⟩) ⟨co_X9_isPlace, in_X9, ⟨by decide, by decide, by decide +kernel⟩, Nat.le_of_ble_eq_true rfl, Nat.le_of_ble_eq_true rfl⟩ ml_X9_59 st_X9_isPlace rfl rfl (Nat.le_of_ble_eq_true rfl) ⟨Nat.zero_le _, Nat.zero_le _⟩ (fun r2 σ3 hpo1 hok4 => ?_)
  obtain ⟨rfl, ⟨h5, rfl⟩ | ⟨h5, rfl⟩⟩ := hpo1
  · refine sv_same (st2 := [sv_i 1]) (lv2 := [(0, sv_r a), (1, sv_i v1), (2, sv_i v2)]) rfl rfl ?_
    refine sv_if_f C.1 C.2.1 (cnd := .eq) (off := 27) (tgt := 31) (by decide +kernel) (by decide) ⟨by omega, by omega⟩ (show ¬ (1 = 0) by omega) ?_
    refine sv_go C.1 C.2.1 [(.iload_n 2, 1)] (pc' := 8) (by decide +kernel) rfl (lv' := [(0, sv_r a), (1, sv_i v1), (2, sv_i v2)]) (st' := [sv_i v2]) rfl ?_
    refine sv_if C.1 C.2.1 (cnd := .lt) (off := 23) (tgt := 31) (by decide +kernel) (by decide) ⟨by omega, by omega⟩ (fun (h6 : v2 < 0) => ?_) (fun (h6 : ¬ (v2 < 0)) => ?_)
    · refine sv_go C.1 C.2.1 [(.iconst 0, 1)] (pc' := 32) (by decide +kernel) rfl (lv' := [(0, sv_r a), (1, sv_i v1), (2, sv_i v2)]) (st' := [sv_i 0]) rfl ?_
      exact sv_zret C hr (by first | exact Or.inl rfl | exact Or.inr rfl | omega) (by decide +kernel) hok4 (⟨rfl, Or.inr ⟨id, rfl⟩⟩)
    · refine sv_go C.1 C.2.1 [(.iload_n 2, 1), (.aload_n 0, 1)] (pc' := 13) (by decide +kernel) rfl (lv' := [(0, sv_r a), (1, sv_i v1), (2, sv_i v2)]) (st' := [sv_r a, sv_i v2]) rfl ?_
      obtain ⟨q7, eq7, kq7⟩ := hI.ref (k := 2) k_a rfl
      refine sv_gf C (index := 25) (ci := 8) (k := 2) (r := (RX9, TX9, 6)) (v := sv_r q7) (by decide +kernel) (by rw [k_a]; rfl) rfl (by decide) fl_X9_25 (congrArg sv_a eq7) ?_
      refine sv_go C.1 C.2.1 [(.iload_n 1, 1)] (pc' := 17) (by decide +kernel) rfl (lv' := [(0, sv_r a), (1, sv_i v1), (2, sv_i v2)]) (st' := [sv_i v1, sv_r q7, sv_i v2]) rfl ?_
      refine sv_aa C (N := "SaintsRoad$Place") (by decide) (n := 4) (by decide +kernel) (by rw [kq7]; rfl) (by decide) (by omega) (by omega) ?_
      obtain ⟨q8, eq8, kq8⟩ := hI.ref (k := (v1 : Int).toNat) kq7 (by first | rfl | (show (if _ then _ else _) = _; rw [if_pos (by omega)]))
      rw [eq8]
      obtain ⟨q9, eq9, kq9⟩ := hI.ref (k := 2) kq8 rfl
      refine sv_gf C (index := 71) (ci := 3) (k := 2) (r := (RX4, TX4, 11)) (v := sv_r q9) (by decide +kernel) (by rw [kq8]; rfl) rfl (by decide) fl_X9_71 (congrArg sv_a eq9) ?_
      have t10 : σ q9 2 = 0 := by have q := hI.num (k := 2) kq9 rfl; omega
      refine sv_gf C (index := 74) (ci := 1) (k := 2) (r := (RX1, TX1, 6)) (v := sv_i 0) (by decide +kernel) (by rw [kq9]; rfl) rfl (by decide) fl_X9_74 (congrArg sv_i t10) ?_
      refine sv_icmp_t C.1 C.2.1 (cnd := .ge) (off := 7) (tgt := 31) (by decide +kernel) (by decide) ⟨by omega, by omega⟩ ⟨by omega, by omega⟩ (show 0 ≤ v2 by omega) ?_
      refine sv_go C.1 C.2.1 [(.iconst 0, 1)] (pc' := 32) (by decide +kernel) rfl (lv' := [(0, sv_r a), (1, sv_i v1), (2, sv_i v2)]) (st' := [sv_i 0]) rfl ?_
      exact sv_zret C hr (by first | exact Or.inl rfl | exact Or.inr rfl | omega) (by decide +kernel) hok4 (⟨rfl, Or.inr ⟨id, rfl⟩⟩)
  · refine sv_same (st2 := [sv_i 0]) (lv2 := [(0, sv_r a), (1, sv_i v1), (2, sv_i v2)]) rfl rfl ?_
    refine sv_if_t C.1 C.2.1 (cnd := .eq) (off := 27) (tgt := 31) (by decide +kernel) (by decide) ⟨by omega, by omega⟩ (show 0 = 0 by omega) ?_
    refine sv_go C.1 C.2.1 [(.iconst 0, 1)] (pc' := 32) (by decide +kernel) rfl (lv' := [(0, sv_r a), (1, sv_i v1), (2, sv_i v2)]) (st' := [sv_i 0]) rfl ?_
    exact sv_zret C hr (by first | exact Or.inl rfl | exact Or.inr rfl | omega) (by decide +kernel) hok4 (⟨rfl, Or.inr ⟨id, rfl⟩⟩)

set_option maxHeartbeats 4000000 in
set_option maxRecDepth 100000 in
theorem ct_J6_compare_7cf53 (l : Launch) (g : sv_G) (A : Nat → Prop) (ty : Nat → Nat) (σ : Nat → Nat → Int) (hok : sv_ok ty σ) (v1 : Int) (hv1 : sv_in v1) (v2 : Int) (hv2 : sv_in v2) : sv_M l yJ6_compare_7cf53 cJ6_compare_7cf53 2 (some .int) { frames := 0, cells := 0, slots := 0, locals := 0 } g A ty σ [sv_i v1, sv_i v2] (fun r σ' => σ = σ' ∧ r = [sv_i (fx_cmp v1 v2)]) := by
  refine sv_enter (by decide) (Nat.le_of_ble_eq_true rfl) ?_
  intro p e s m args below meth c C hr
  have C : sv_C g A RJ6 cJ6_compare_7cf53 2 p s m args meth c := C
  have hr : meth.sig.returnType = (some .int) := hr
  refine sv_same (st2 := []) (lv2 := [(0, sv_i v1), (1, sv_i v2)]) rfl rfl ?_
  refine sv_go C.1 C.2.1 [(.iload_n 0, 1), (.iload_n 1, 1)] (pc' := 2) (by decide +kernel) rfl (lv' := [(0, sv_i v1), (1, sv_i v2)]) (st' := [sv_i v2, sv_i v1]) rfl ?_
  refine sv_icmp C.1 C.2.1 (cnd := .ge) (off := 7) (tgt := 9) (by decide +kernel) (by decide) ⟨by omega, by omega⟩ ⟨by omega, by omega⟩ (fun (h1 : v2 ≤ v1) => ?_) (fun (h1 : ¬ (v2 ≤ v1)) => ?_)
  · refine sv_go C.1 C.2.1 [(.iload_n 0, 1), (.iload_n 1, 1)] (pc' := 11) (by decide +kernel) rfl (lv' := [(0, sv_i v1), (1, sv_i v2)]) (st' := [sv_i v2, sv_i v1]) rfl ?_
    refine sv_icmp C.1 C.2.1 (cnd := .ne) (off := 7) (tgt := 18) (by decide +kernel) (by decide) ⟨by omega, by omega⟩ ⟨by omega, by omega⟩ (fun (h2 : v1 ≠ v2) => ?_) (fun (h2 : ¬ (v1 ≠ v2)) => ?_)
    · refine sv_go C.1 C.2.1 [(.iconst 1, 1)] (pc' := 19) (by decide +kernel) rfl (lv' := [(0, sv_i v1), (1, sv_i v2)]) (st' := [sv_i 1]) rfl ?_
      exact sv_iret C hr (by decide +kernel) hok (⟨rfl, congrArg (fun q => [sv_i q]) (by unfold fx_cmp; omega)⟩)
    · refine sv_go C.1 C.2.1 [(.iconst 0, 1)] (pc' := 15) (by decide +kernel) rfl (lv' := [(0, sv_i v1), (1, sv_i v2)]) (st' := [sv_i 0]) rfl ?_
      refine sv_goto C.1 C.2.1 (off := 4) (tgt := 19) (by decide +kernel) (by decide) ?_
      exact sv_iret C hr (by decide +kernel) hok (⟨rfl, congrArg (fun q => [sv_i q]) (by unfold fx_cmp; omega)⟩)
  · refine sv_go C.1 C.2.1 [(.iconst (-1), 1)] (pc' := 6) (by decide +kernel) rfl (lv' := [(0, sv_i v1), (1, sv_i v2)]) (st' := [sv_i ((-1))]) rfl ?_
    refine sv_goto C.1 C.2.1 (off := 13) (tgt := 19) (by decide +kernel) (by decide) ?_
    exact sv_iret C hr (by decide +kernel) hok (⟨rfl, congrArg (fun q => [sv_i q]) (by unfold fx_cmp; omega)⟩)

theorem ml_X9_184 : Cond.methodLink RX9 184 yX9_isProcession ∈ lw_good := sv_mem 897 (by decide +kernel) rfl
theorem co_X9_isProcession : Cond.code yX9_isProcession cX9_isProcession 1 (some .boolean) ∈ lw_good := sv_mem 899 (by decide +kernel) rfl
theorem st_X9_isProcession : Cond.static yX9_isProcession ∈ lw_good := sv_mem 898 (by decide +kernel) rfl
theorem fl_X9_40 : Cond.fieldLink RX9 40 "SaintsRoad" "town" "LSaintsRoad$Town;" ∈ lw_good := sv_mem 410 (by decide +kernel) rfl
theorem fl_X9_190 : Cond.fieldLink RX9 190 "SaintsRoad$Town" "processions" "[LSaintsRoad$Procession;" ∈ lw_good := sv_mem 390 (by decide +kernel) rfl
theorem fl_X9_213 : Cond.fieldLink RX9 213 "SaintsRoad$Procession" "size" "I" ∈ lw_good := sv_mem 372 (by decide +kernel) rfl
set_option maxHeartbeats 4000000 in
set_option maxRecDepth 100000 in
theorem ct_X9_isLong (l : Launch) (g : sv_G) (A : Nat → Prop) (ty : Nat → Nat) (σ : Nat → Nat → Int) (hok : sv_ok ty σ) (hI : sv_inv sp_1 ty σ) (hZ : sv_inv sp_0 ty σ) (a : Nat) (k_a : ty a = 1) (v1 : Int) (hv1 : sv_in v1) (cn : Int) (hc : 1 ≤ cn ∧ cn ≤ 2) : sv_M l yX9_isLong cX9_isLong 3 (some .boolean) { frames := 1, cells := 0, slots := 0, locals := 20 } g A ty σ [sv_r a, sv_i v1, sv_i cn] (fun r σ' => σ = σ' ∧ sv_bo (False) r) := by
  refine sv_enter (by decide) (Nat.le_of_ble_eq_true rfl) ?_
  intro p e s m args below meth c C hr
  have C : sv_C g A RX9 cX9_isLong 3 p s m args meth c := C
  have hr : meth.sig.returnType = (some .boolean) := hr
  refine sv_same (st2 := []) (lv2 := [(0, sv_r a), (1, sv_i v1), (2, sv_i cn)]) rfl rfl ?_
  refine sv_go C.1 C.2.1 [(.iload_n 1, 1)] (pc' := 1) (by decide +kernel) rfl (lv' := [(0, sv_r a), (1, sv_i v1), (2, sv_i cn)]) (st' := [sv_i v1]) rfl ?_
  refine sv_cs C (index := 184) (k := 1) (rest := []) (by decide +kernel) (ct_X9_isProcession l g A ty σ hok (v1) ⟨by omega, by omega⟩) ⟨co_X9_isProcession, in_X9, ⟨by decide, by decide, by decide +kernel⟩, Nat.le_of_ble_eq_true rfl, Nat.le_of_ble_eq_true rfl⟩ ml_X9_184 st_X9_isProcession rfl rfl (Nat.le_of_ble_eq_true rfl) ⟨Nat.zero_le _, Nat.zero_le _⟩ (fun r2 σ3 hpo1 hok4 => ?_)
  obtain ⟨rfl, ⟨h5, rfl⟩ | ⟨h5, rfl⟩⟩ := hpo1
  · refine sv_same (st2 := [sv_i 1]) (lv2 := [(0, sv_r a), (1, sv_i v1), (2, sv_i cn)]) rfl rfl ?_
    refine sv_if_f C.1 C.2.1 (cnd := .eq) (off := 23) (tgt := 27) (by decide +kernel) (by decide) ⟨by omega, by omega⟩ (show ¬ (1 = 0) by omega) ?_
    refine sv_go C.1 C.2.1 [(.aload_n 0, 1)] (pc' := 8) (by decide +kernel) rfl (lv' := [(0, sv_r a), (1, sv_i v1), (2, sv_i cn)]) (st' := [sv_r a]) rfl ?_
    obtain ⟨q6, eq6, kq6⟩ := hI.ref (k := 4) k_a rfl
    refine sv_gf C (index := 40) (ci := 8) (k := 4) (r := (RX9, TX9, 6)) (v := sv_r q6) (by decide +kernel) (by rw [k_a]; rfl) rfl (by decide) fl_X9_40 (congrArg sv_a eq6) ?_
    obtain ⟨q7, eq7, kq7⟩ := hI.ref (k := 0) kq6 rfl
    refine sv_gf C (index := 190) (ci := 7) (k := 0) (r := (RX8, TX8, 4)) (v := sv_r q7) (by decide +kernel) (by rw [kq6]; rfl) rfl (by decide) fl_X9_190 (congrArg sv_a eq7) ?_
    refine sv_go C.1 C.2.1 [(.iload_n 1, 1)] (pc' := 15) (by decide +kernel) rfl (lv' := [(0, sv_r a), (1, sv_i v1), (2, sv_i cn)]) (st' := [sv_i v1, sv_r q7]) rfl ?_
    refine sv_aa C (N := "SaintsRoad$Procession") (by decide) (n := 12) (by decide +kernel) (by rw [kq7]; rfl) (by decide) (by omega) (by omega) ?_
    obtain ⟨q8, eq8, kq8⟩ := hI.ref (k := (v1 : Int).toNat) kq7 (by first | rfl | (show (if _ then _ else _) = _; rw [if_pos (by omega)]))
    rw [eq8]
    have t9 : σ q8 0 = 0 := by have q := hZ.num (k := 0) kq8 rfl; omega
    refine sv_gf C (index := 213) (ci := 4) (k := 0) (r := (RX5, TX5, 5)) (v := sv_i 0) (by decide +kernel) (by rw [kq8]; rfl) rfl (by decide) fl_X9_213 (congrArg sv_i t9) ?_
    refine sv_go C.1 C.2.1 [(.iload_n 2, 1)] (pc' := 20) (by decide +kernel) rfl (lv' := [(0, sv_r a), (1, sv_i v1), (2, sv_i cn)]) (st' := [sv_i cn, sv_i 0]) rfl ?_
    refine sv_icmp_t C.1 C.2.1 (cnd := .lt) (off := 7) (tgt := 27) (by decide +kernel) (by decide) ⟨by omega, by omega⟩ ⟨by omega, by omega⟩ (show 0 < cn by omega) ?_
    refine sv_go C.1 C.2.1 [(.iconst 0, 1)] (pc' := 28) (by decide +kernel) rfl (lv' := [(0, sv_r a), (1, sv_i v1), (2, sv_i cn)]) (st' := [sv_i 0]) rfl ?_
    exact sv_zret C hr (by first | exact Or.inl rfl | exact Or.inr rfl | omega) (by decide +kernel) hok4 (⟨rfl, Or.inr ⟨id, rfl⟩⟩)
  · refine sv_same (st2 := [sv_i 0]) (lv2 := [(0, sv_r a), (1, sv_i v1), (2, sv_i cn)]) rfl rfl ?_
    refine sv_if_t C.1 C.2.1 (cnd := .eq) (off := 23) (tgt := 27) (by decide +kernel) (by decide) ⟨by omega, by omega⟩ (show 0 = 0 by omega) ?_
    refine sv_go C.1 C.2.1 [(.iconst 0, 1)] (pc' := 28) (by decide +kernel) rfl (lv' := [(0, sv_r a), (1, sv_i v1), (2, sv_i cn)]) (st' := [sv_i 0]) rfl ?_
    exact sv_zret C hr (by first | exact Or.inl rfl | exact Or.inr rfl | omega) (by decide +kernel) hok4 (⟨rfl, Or.inr ⟨id, rfl⟩⟩)

theorem ml_X9_83 : Cond.methodLink RX9 83 yX9_isFeast ∈ lw_good := sv_mem 630 (by decide +kernel) rfl
theorem co_X9_isFeast : Cond.code yX9_isFeast cX9_isFeast 3 (some .boolean) ∈ lw_good := sv_mem 633 (by decide +kernel) rfl
theorem im_X9_isFeast : Cond.instanceMethod yX9_isFeast ∈ lw_good := sv_mem 632 (by decide +kernel) rfl
theorem se_X9_isFeast : Cond.selects RX9 yX9_isFeast yX9_isFeast ∈ lw_good := sv_mem 18 (by decide +kernel) rfl
set_option maxHeartbeats 4000000 in
set_option maxRecDepth 100000 in
theorem ct_X9_feast (l : Launch) (g : sv_G) (A : Nat → Prop) (ty : Nat → Nat) (σ : Nat → Nat → Int) (hok : sv_ok ty σ) (hTA : ∀ q, ty q ≠ 0 → A q) (hI : sv_inv sp_1 ty σ) (hZ : sv_inv sp_0 ty σ) (a : Nat) (k_a : ty a = 1) (v1 : Int) (hv1 : sv_in v1) (v2 : Int) (hv2 : sv_in v2) (v3 : Int) (hv3 : sv_in v3) : sv_M l yX9_feast cX9_feast 4 (some .int) { frames := 2, cells := 0, slots := 0, locals := 42 } g A ty σ [sv_r a, sv_i v1, sv_i v2, sv_i v3] (fun r σ' => r = [sv_i (-1)] ∧ sv_off [] ty σ σ') := by
  refine sv_enter (by decide) (Nat.le_of_ble_eq_true rfl) ?_
  intro p e s m args below meth c C hr
  have C : sv_C g A RX9 cX9_feast 4 p s m args meth c := C
  have hr : meth.sig.returnType = (some .int) := hr
  have hF : sv_off [] ty σ σ := sv_off.rf
  refine sv_same (st2 := []) (lv2 := [(0, sv_r a), (1, sv_i v1), (2, sv_i v2), (3, sv_i v3)]) rfl rfl ?_
  refine sv_go C.1 C.2.1 [(.aload_n 0, 1), (.iload_n 1, 1), (.iload_n 2, 1)] (pc' := 3) (by decide +kernel) rfl (lv' := [(0, sv_r a), (1, sv_i v1), (2, sv_i v2), (3, sv_i v3)]) (st' := [sv_i v2, sv_i v1, sv_r a]) rfl ?_
  refine sv_cv C (index := 83) (k := 2) (rest := []) (ci := 8) (r := (RX9, TX9, 6)) (by decide +kernel) (ct_X9_isFeast l g A ty σ hok hI a k_a (v1) ⟨by omega, by omega⟩ (v2) ⟨by omega, by omega⟩) ⟨co_X9_isFeast, in_X9, ⟨by decide, by decide, by decide +kernel⟩, Nat.le_of_ble_eq_true rfl, Nat.le_of_ble_eq_true rfl⟩ ml_X9_83 im_X9_isFeast se_X9_isFeast (by rw [k_a]; rfl) rfl rfl rfl (Nat.le_of_ble_eq_true rfl) ⟨Nat.zero_le _, Nat.zero_le _⟩ (fun r2 σ3 hpo1 hok4 => ?_)
  obtain ⟨rfl, hpo1⟩ := hpo1
  obtain rfl := sv_boF hpo1
  refine sv_same (st2 := [sv_i 0]) (lv2 := [(0, sv_r a), (1, sv_i v1), (2, sv_i v2), (3, sv_i v3)]) rfl rfl ?_
  refine sv_if_f C.1 C.2.1 (cnd := .ne) (off := 5) (tgt := 11) (by decide +kernel) (by decide) ⟨by omega, by omega⟩ (show ¬ (0 ≠ 0) by omega) ?_
  refine sv_go C.1 C.2.1 [(.iconst (-1), 1)] (pc' := 10) (by decide +kernel) rfl (lv' := [(0, sv_r a), (1, sv_i v1), (2, sv_i v2), (3, sv_i v3)]) (st' := [sv_i ((-1))]) rfl ?_
  exact sv_iret C hr (by decide +kernel) hok4 (⟨congrArg (fun q => [sv_i q]) (by first | omega | (unfold x; omega)), hF⟩)

theorem ml_X9_97 : Cond.methodLink RX9 97 yX2_isYear ∈ lw_good := sv_mem 647 (by decide +kernel) rfl
theorem ml_X9_102 : Cond.methodLink RX9 102 yX2_easterOf ∈ lw_good := sv_mem 650 (by decide +kernel) rfl
theorem co_X2_easterOf : Cond.code yX2_easterOf cX2_easterOf 3 (some .int) ∈ lw_good := sv_mem 652 (by decide +kernel) rfl
theorem st_X2_easterOf : Cond.static yX2_easterOf ∈ lw_good := sv_mem 651 (by decide +kernel) rfl
set_option maxHeartbeats 4000000 in
set_option maxRecDepth 100000 in
theorem ct_X9_easter (l : Launch) (g : sv_G) (A : Nat → Prop) (ty : Nat → Nat) (σ : Nat → Nat → Int) (hok : sv_ok ty σ) (hTA : ∀ q, ty q ≠ 0 → A q) (hI : sv_inv sp_1 ty σ) (hZ : sv_inv sp_0 ty σ) (a : Nat) (k_a : ty a = 1) (y : Int) (hy : sv_in y) : sv_M l yX9_easter cX9_easter 2 (some .int) { frames := 3, cells := 0, slots := 0, locals := 63 } g A ty σ [sv_r a, sv_i y] (fun r σ' => r = [sv_i (fx_easter y)] ∧ sv_off [] ty σ σ') := by
  refine sv_enter (by decide) (Nat.le_of_ble_eq_true rfl) ?_
  intro p e s m args below meth c C hr
  have C : sv_C g A RX9 cX9_easter 2 p s m args meth c := C
  have hr : meth.sig.returnType = (some .int) := hr
  have hF : sv_off [] ty σ σ := sv_off.rf
  refine sv_same (st2 := []) (lv2 := [(0, sv_r a), (1, sv_i y)]) rfl rfl ?_
  refine sv_go C.1 C.2.1 [(.iload_n 1, 1)] (pc' := 1) (by decide +kernel) rfl (lv' := [(0, sv_r a), (1, sv_i y)]) (st' := [sv_i y]) rfl ?_
  refine sv_cs C (index := 97) (k := 1) (rest := []) (by decide +kernel) (ct_X2_isYear l g A ty σ hok (y) ⟨by omega, by omega⟩) ⟨co_X2_isYear, in_X2, ⟨by decide, by decide, by decide +kernel⟩, Nat.le_of_ble_eq_true rfl, Nat.le_of_ble_eq_true rfl⟩ ml_X9_97 st_X2_isYear rfl rfl (Nat.le_of_ble_eq_true rfl) ⟨Nat.zero_le _, Nat.zero_le _⟩ (fun r2 σ3 hpo1 hok4 => ?_)
  obtain ⟨rfl, ⟨h5, rfl⟩ | ⟨h5, rfl⟩⟩ := hpo1
  · refine sv_same (st2 := [sv_i 1]) (lv2 := [(0, sv_r a), (1, sv_i y)]) rfl rfl ?_
    refine sv_if_f C.1 C.2.1 (cnd := .eq) (off := 10) (tgt := 14) (by decide +kernel) (by decide) ⟨by omega, by omega⟩ (show ¬ (1 = 0) by omega) ?_
    refine sv_go C.1 C.2.1 [(.iload_n 1, 1)] (pc' := 8) (by decide +kernel) rfl (lv' := [(0, sv_r a), (1, sv_i y)]) (st' := [sv_i y]) rfl ?_
    refine sv_cs C (index := 102) (k := 1) (rest := []) (by decide +kernel) (ct_X2_easterOf l g A ty σ hok4 (y) ⟨by omega, by omega⟩) ⟨co_X2_easterOf, in_X2, ⟨by decide, by decide, by decide +kernel⟩, Nat.le_of_ble_eq_true rfl, Nat.le_of_ble_eq_true rfl⟩ ml_X9_102 st_X2_easterOf rfl rfl (Nat.le_of_ble_eq_true rfl) ⟨Nat.zero_le _, Nat.zero_le _⟩ (fun r7 σ8 hpo6 hok9 => ?_)
    obtain ⟨rfl, rfl⟩ := hpo6
    refine sv_same (st2 := [sv_i (dy_ea y)]) (lv2 := [(0, sv_r a), (1, sv_i y)]) rfl rfl ?_
    refine sv_goto C.1 C.2.1 (off := 5) (tgt := 16) (by decide +kernel) (by decide) ?_
    exact sv_iret C hr (by decide +kernel) hok9 (⟨congrArg (fun q => [sv_i q]) (by first | omega | (unfold fx_easter; omega)), hF⟩)
  · refine sv_same (st2 := [sv_i 0]) (lv2 := [(0, sv_r a), (1, sv_i y)]) rfl rfl ?_
    refine sv_if_t C.1 C.2.1 (cnd := .eq) (off := 10) (tgt := 14) (by decide +kernel) (by decide) ⟨by omega, by omega⟩ (show 0 = 0 by omega) ?_
    refine sv_go C.1 C.2.1 [(.bipush (-2), 2)] (pc' := 16) (by decide +kernel) rfl (lv' := [(0, sv_r a), (1, sv_i y)]) (st' := [sv_i ((-2))]) rfl ?_
    exact sv_iret C hr (by decide +kernel) hok4 (⟨congrArg (fun q => [sv_i q]) (by first | omega | (unfold fx_easter; omega)), hF⟩)

theorem ml_X9_105 : Cond.methodLink RX9 105 yX2_isDay ∈ lw_good := sv_mem 671 (by decide +kernel) rfl
theorem co_X2_isDay : Cond.code yX2_isDay cX2_isDay 2 (some .boolean) ∈ lw_good := sv_mem 673 (by decide +kernel) rfl
theorem st_X2_isDay : Cond.static yX2_isDay ∈ lw_good := sv_mem 672 (by decide +kernel) rfl
theorem ml_X9_108 : Cond.methodLink RX9 108 yX2_monthOf ∈ lw_good := sv_mem 678 (by decide +kernel) rfl
theorem co_X2_monthOf : Cond.code yX2_monthOf cX2_monthOf 3 (some .int) ∈ lw_good := sv_mem 680 (by decide +kernel) rfl
theorem st_X2_monthOf : Cond.static yX2_monthOf ∈ lw_good := sv_mem 679 (by decide +kernel) rfl
theorem ml_X9_112 : Cond.methodLink RX9 112 yX2_monthStart ∈ lw_good := sv_mem 681 (by decide +kernel) rfl
theorem ml_X9_115 : Cond.methodLink RX9 115 yX2_weekday ∈ lw_good := sv_mem 682 (by decide +kernel) rfl
set_option maxHeartbeats 4000000 in
set_option maxRecDepth 100000 in
theorem ct_X9_date (l : Launch) (g : sv_G) (A : Nat → Prop) (ty : Nat → Nat) (σ : Nat → Nat → Int) (hok : sv_ok ty σ) (hTA : ∀ q, ty q ≠ 0 → A q) (hI : sv_inv sp_1 ty σ) (hZ : sv_inv sp_0 ty σ) (a : Nat) (k_a : ty a = 1) (y : Int) (hy : sv_in y) (d : Int) (hd : sv_in d) (w1 : Int) (hw1 : sv_in w1) : sv_M l yX9_date cX9_date 5 (some .int) { frames := 3, cells := 0, slots := 0, locals := 63 } g A ty σ [sv_r a, sv_i y, sv_i d, sv_i w1] (fun r σ' => r = [sv_i (fx_date y d w1)] ∧ sv_off [] ty σ σ') := by
  refine sv_enter (by decide) (Nat.le_of_ble_eq_true rfl) ?_
  intro p e s m args below meth c C hr
  have C : sv_C g A RX9 cX9_date 5 p s m args meth c := C
  have hr : meth.sig.returnType = (some .int) := hr
  have hF : sv_off [] ty σ σ := sv_off.rf
  have hlp := dy_lp_in y
  refine sv_same (st2 := []) (lv2 := [(0, sv_r a), (1, sv_i y), (2, sv_i d), (3, sv_i w1)]) rfl rfl ?_
  refine sv_go C.1 C.2.1 [(.iload_n 1, 1), (.iload_n 2, 1)] (pc' := 2) (by decide +kernel) rfl (lv' := [(0, sv_r a), (1, sv_i y), (2, sv_i d), (3, sv_i w1)]) (st' := [sv_i d, sv_i y]) rfl ?_
  refine sv_cs C (index := 105) (k := 2) (rest := []) (by decide +kernel) (ct_X2_isDay l g A ty σ hok (y) ⟨by omega, by omega⟩ (d) ⟨by omega, by omega⟩) ⟨co_X2_isDay, in_X2, ⟨by decide, by decide, by decide +kernel⟩, Nat.le_of_ble_eq_true rfl, Nat.le_of_ble_eq_true rfl⟩ ml_X9_105 st_X2_isDay rfl rfl (Nat.le_of_ble_eq_true rfl) ⟨Nat.zero_le _, Nat.zero_le _⟩ (fun r2 σ3 hpo1 hok4 => ?_)
  obtain ⟨rfl, ⟨h5, rfl⟩ | ⟨h5, rfl⟩⟩ := hpo1
  · refine sv_same (st2 := [sv_i 1]) (lv2 := [(0, sv_r a), (1, sv_i y), (2, sv_i d), (3, sv_i w1)]) rfl rfl ?_
    refine sv_if_t C.1 C.2.1 (cnd := .ne) (off := 5) (tgt := 10) (by decide +kernel) (by decide) ⟨by omega, by omega⟩ (show 1 ≠ 0 by omega) ?_
    refine sv_go C.1 C.2.1 [(.iload_n 1, 1), (.iload_n 2, 1)] (pc' := 12) (by decide +kernel) rfl (lv' := [(0, sv_r a), (1, sv_i y), (2, sv_i d), (3, sv_i w1)]) (st' := [sv_i d, sv_i y]) rfl ?_
    refine sv_cs C (index := 108) (k := 2) (rest := []) (by decide +kernel) (ct_X2_monthOf l g A ty σ hok4 (y) ⟨by omega, by omega⟩ (d) ⟨by omega, by omega⟩) ⟨co_X2_monthOf, in_X2, ⟨by decide, by decide, by decide +kernel⟩, Nat.le_of_ble_eq_true rfl, Nat.le_of_ble_eq_true rfl⟩ ml_X9_108 st_X2_monthOf rfl rfl (Nat.le_of_ble_eq_true rfl) ⟨Nat.zero_le _, Nat.zero_le _⟩ (fun r7 σ8 hpo6 hok9 => ?_)
    obtain ⟨rfl, M10, rfl, hM10a, hM10b, hM10c⟩ := hpo6
    refine sv_same (st2 := [sv_i M10]) (lv2 := [(0, sv_r a), (1, sv_i y), (2, sv_i d), (3, sv_i w1)]) rfl rfl ?_
    refine sv_go C.1 C.2.1 [(.istore 4, 2), (.iload_n 3, 1)] (pc' := 18) (by decide +kernel) rfl (lv' := [(0, sv_r a), (1, sv_i y), (2, sv_i d), (3, sv_i w1), (4, sv_i M10)]) (st' := [sv_i w1]) rfl ?_
    have hmo := dy_mo_of (y := y) (d := d) (M := M10) (by omega) (by omega) (by omega) (by omega) (by omega)
    rcases (show w1 = 0 ∨ w1 = 1 ∨ w1 = 2 ∨ (w1 ≠ 0 ∧ w1 ≠ 1 ∧ w1 ≠ 2) by omega) with h11 | h11 | h11 | h11
    · refine sv_tsI C.1 C.2.1 (dflt := 46) (lo := 0) (hi := 2) (offs := #[26, 29, 40]) (len := 26) (off := 26) (tgt := 44) (by decide +kernel) 0 h11 (by decide) rfl (by decide) ?_
      refine sv_go C.1 C.2.1 [(.iload 4, 2)] (pc' := 46) (by decide +kernel) rfl (lv' := [(0, sv_r a), (1, sv_i y), (2, sv_i d), (3, sv_i w1), (4, sv_i M10)]) (st' := [sv_i M10]) rfl ?_
      exact sv_iret C hr (by decide +kernel) hok9 (⟨congrArg (fun q => [sv_i q]) (by first | (unfold fx_date; omega) | (unfold fx_date; rw [← hmo]; omega)), hF⟩)
    · refine sv_tsI C.1 C.2.1 (dflt := 46) (lo := 0) (hi := 2) (offs := #[26, 29, 40]) (len := 26) (off := 29) (tgt := 47) (by decide +kernel) 1 h11 (by decide) rfl (by decide) ?_
      refine sv_go C.1 C.2.1 [(.iload_n 2, 1), (.iload_n 1, 1), (.iload 4, 2)] (pc' := 51) (by decide +kernel) rfl (lv' := [(0, sv_r a), (1, sv_i y), (2, sv_i d), (3, sv_i w1), (4, sv_i M10)]) (st' := [sv_i M10, sv_i y, sv_i d]) rfl ?_
      refine sv_cs C (index := 112) (k := 2) (rest := [sv_i d]) (by decide +kernel) (ct_X2_monthStart l g A ty σ hok9 (y) ⟨by omega, by omega⟩ (M10) ⟨by omega, by omega⟩) ⟨co_X2_monthStart, in_X2, ⟨by decide, by decide, by decide +kernel⟩, Nat.le_of_ble_eq_true rfl, Nat.le_of_ble_eq_true rfl⟩ ml_X9_112 st_X2_monthStart rfl rfl (Nat.le_of_ble_eq_true rfl) ⟨Nat.zero_le _, Nat.zero_le _⟩ (fun r13 σ14 hpo12 hok15 => ?_)
      obtain ⟨rfl, rfl⟩ := hpo12
      have hn16 := dy_ms_in y M10
      refine sv_same (st2 := [sv_i (dy_ms y M10), sv_i d]) (lv2 := [(0, sv_r a), (1, sv_i y), (2, sv_i d), (3, sv_i w1), (4, sv_i M10)]) rfl rfl ?_
      refine sv_go C.1 C.2.1 [(.isub, 1), (.iconst 1, 1), (.iadd, 1)] (pc' := 57) (by decide +kernel) rfl (lv' := [(0, sv_r a), (1, sv_i y), (2, sv_i d), (3, sv_i w1), (4, sv_i M10)]) (st' := [sv_i ((d - (dy_ms y M10)) + 1)]) rfl ?_
      exact sv_iret C hr (by decide +kernel) hok15 (⟨congrArg (fun q => [sv_i q]) (by first | (unfold fx_date; omega) | (unfold fx_date; rw [← hmo]; omega)), hF⟩)
    · refine sv_tsI C.1 C.2.1 (dflt := 46) (lo := 0) (hi := 2) (offs := #[26, 29, 40]) (len := 26) (off := 40) (tgt := 58) (by decide +kernel) 2 h11 (by decide) rfl (by decide) ?_
      refine sv_go C.1 C.2.1 [(.iload_n 1, 1), (.iload_n 2, 1)] (pc' := 60) (by decide +kernel) rfl (lv' := [(0, sv_r a), (1, sv_i y), (2, sv_i d), (3, sv_i w1), (4, sv_i M10)]) (st' := [sv_i d, sv_i y]) rfl ?_
      refine sv_cs C (index := 115) (k := 2) (rest := []) (by decide +kernel) (ct_X2_weekday l g A ty σ hok9 (y) ⟨by omega, by omega⟩ (d) ⟨by omega, by omega⟩) ⟨co_X2_weekday, in_X2, ⟨by decide, by decide, by decide +kernel⟩, Nat.le_of_ble_eq_true rfl, Nat.le_of_ble_eq_true rfl⟩ ml_X9_115 st_X2_weekday rfl rfl (Nat.le_of_ble_eq_true rfl) ⟨Nat.zero_le _, Nat.zero_le _⟩ (fun r18 σ19 hpo17 hok20 => ?_)
      obtain ⟨rfl, rfl⟩ := hpo17
      refine sv_same (st2 := [sv_i (dy_wd y d)]) (lv2 := [(0, sv_r a), (1, sv_i y), (2, sv_i d), (3, sv_i w1), (4, sv_i M10)]) rfl rfl ?_
      exact sv_iret C hr (by decide +kernel) hok20 (⟨congrArg (fun q => [sv_i q]) (by first | (unfold fx_date; omega) | (unfold fx_date; rw [← hmo]; omega)), hF⟩)
    · refine sv_tsO C.1 C.2.1 (dflt := 46) (lo := 0) (hi := 2) (offs := #[26, 29, 40]) (len := 26) (tgt := 64) (by decide +kernel) ⟨by omega, by omega⟩ (by omega) (by decide) ?_
      refine sv_go C.1 C.2.1 [(.iconst (-1), 1)] (pc' := 65) (by decide +kernel) rfl (lv' := [(0, sv_r a), (1, sv_i y), (2, sv_i d), (3, sv_i w1), (4, sv_i M10)]) (st' := [sv_i ((-1))]) rfl ?_
      exact sv_iret C hr (by decide +kernel) hok9 (⟨congrArg (fun q => [sv_i q]) (by first | (unfold fx_date; omega) | (unfold fx_date; rw [← hmo]; omega)), hF⟩)
  · refine sv_same (st2 := [sv_i 0]) (lv2 := [(0, sv_r a), (1, sv_i y), (2, sv_i d), (3, sv_i w1)]) rfl rfl ?_
    refine sv_if_f C.1 C.2.1 (cnd := .ne) (off := 5) (tgt := 10) (by decide +kernel) (by decide) ⟨by omega, by omega⟩ (show ¬ (0 ≠ 0) by omega) ?_
    refine sv_go C.1 C.2.1 [(.iconst (-1), 1)] (pc' := 9) (by decide +kernel) rfl (lv' := [(0, sv_r a), (1, sv_i y), (2, sv_i d), (3, sv_i w1)]) (st' := [sv_i ((-1))]) rfl ?_
    exact sv_iret C hr (by decide +kernel) hok4 (⟨congrArg (fun q => [sv_i q]) (by first | (unfold fx_date; omega) | (unfold fx_date; rw [← hmo]; omega)), hF⟩)

set_option maxHeartbeats 4000000 in
set_option maxRecDepth 100000 in
theorem ct_X9_held (l : Launch) (g : sv_G) (A : Nat → Prop) (ty : Nat → Nat) (σ : Nat → Nat → Int) (hok : sv_ok ty σ) (hTA : ∀ q, ty q ≠ 0 → A q) (hI : sv_inv sp_1 ty σ) (hZ : sv_inv sp_0 ty σ) (a : Nat) (k_a : ty a = 1) (v1 : Int) (hv1 : sv_in v1) (v2 : Int) (hv2 : sv_in v2) (v3 : Int) (hv3 : sv_in v3) : sv_M l yX9_held cX9_held 4 (some .int) { frames := 2, cells := 0, slots := 0, locals := 42 } g A ty σ [sv_r a, sv_i v1, sv_i v2, sv_i v3] (fun r σ' => r = [sv_i (-2)] ∧ sv_off [] ty σ σ') := by
  refine sv_enter (by decide) (Nat.le_of_ble_eq_true rfl) ?_
  intro p e s m args below meth c C hr
  have C : sv_C g A RX9 cX9_held 4 p s m args meth c := C
  have hr : meth.sig.returnType = (some .int) := hr
  have hF : sv_off [] ty σ σ := sv_off.rf
  refine sv_same (st2 := []) (lv2 := [(0, sv_r a), (1, sv_i v1), (2, sv_i v2), (3, sv_i v3)]) rfl rfl ?_
  refine sv_go C.1 C.2.1 [(.aload_n 0, 1), (.iload_n 1, 1), (.iload_n 3, 1)] (pc' := 3) (by decide +kernel) rfl (lv' := [(0, sv_r a), (1, sv_i v1), (2, sv_i v2), (3, sv_i v3)]) (st' := [sv_i v3, sv_i v1, sv_r a]) rfl ?_
  refine sv_cv C (index := 83) (k := 2) (rest := []) (ci := 8) (r := (RX9, TX9, 6)) (by decide +kernel) (ct_X9_isFeast l g A ty σ hok hI a k_a (v1) ⟨by omega, by omega⟩ (v3) ⟨by omega, by omega⟩) ⟨co_X9_isFeast, in_X9, ⟨by decide, by decide, by decide +kernel⟩, Nat.le_of_ble_eq_true rfl, Nat.le_of_ble_eq_true rfl⟩ ml_X9_83 im_X9_isFeast se_X9_isFeast (by rw [k_a]; rfl) rfl rfl rfl (Nat.le_of_ble_eq_true rfl) ⟨Nat.zero_le _, Nat.zero_le _⟩ (fun r2 σ3 hpo1 hok4 => ?_)
  obtain ⟨rfl, hpo1⟩ := hpo1
  obtain rfl := sv_boF hpo1
  refine sv_same (st2 := [sv_i 0]) (lv2 := [(0, sv_r a), (1, sv_i v1), (2, sv_i v2), (3, sv_i v3)]) rfl rfl ?_
  refine sv_if_t C.1 C.2.1 (cnd := .eq) (off := 10) (tgt := 16) (by decide +kernel) (by decide) ⟨by omega, by omega⟩ (show 0 = 0 by omega) ?_
  refine sv_go C.1 C.2.1 [(.bipush (-2), 2)] (pc' := 18) (by decide +kernel) rfl (lv' := [(0, sv_r a), (1, sv_i v1), (2, sv_i v2), (3, sv_i v3)]) (st' := [sv_i ((-2))]) rfl ?_
  exact sv_iret C hr (by decide +kernel) hok4 (⟨congrArg (fun q => [sv_i q]) (by first | omega | (unfold x; omega)), hF⟩)

set_option maxHeartbeats 4000000 in
set_option maxRecDepth 100000 in
theorem ct_X9_own (l : Launch) (g : sv_G) (A : Nat → Prop) (ty : Nat → Nat) (σ : Nat → Nat → Int) (hok : sv_ok ty σ) (hTA : ∀ q, ty q ≠ 0 → A q) (hI : sv_inv sp_1 ty σ) (hZ : sv_inv sp_0 ty σ) (a : Nat) (k_a : ty a = 1) (v1 : Int) (hv1 : sv_in v1) (v2 : Int) (hv2 : sv_in v2) (v3 : Int) (hv3 : sv_in v3) : sv_M l yX9_own cX9_own 4 (some .int) { frames := 2, cells := 0, slots := 0, locals := 42 } g A ty σ [sv_r a, sv_i v1, sv_i v2, sv_i v3] (fun r σ' => r = [sv_i (-2)] ∧ sv_off [] ty σ σ') := by
  refine sv_enter (by decide) (Nat.le_of_ble_eq_true rfl) ?_
  intro p e s m args below meth c C hr
  have C : sv_C g A RX9 cX9_own 4 p s m args meth c := C
  have hr : meth.sig.returnType = (some .int) := hr
  have hF : sv_off [] ty σ σ := sv_off.rf
  refine sv_same (st2 := []) (lv2 := [(0, sv_r a), (1, sv_i v1), (2, sv_i v2), (3, sv_i v3)]) rfl rfl ?_
  refine sv_go C.1 C.2.1 [(.aload_n 0, 1), (.iload_n 1, 1), (.iload_n 3, 1)] (pc' := 3) (by decide +kernel) rfl (lv' := [(0, sv_r a), (1, sv_i v1), (2, sv_i v2), (3, sv_i v3)]) (st' := [sv_i v3, sv_i v1, sv_r a]) rfl ?_
  refine sv_cv C (index := 83) (k := 2) (rest := []) (ci := 8) (r := (RX9, TX9, 6)) (by decide +kernel) (ct_X9_isFeast l g A ty σ hok hI a k_a (v1) ⟨by omega, by omega⟩ (v3) ⟨by omega, by omega⟩) ⟨co_X9_isFeast, in_X9, ⟨by decide, by decide, by decide +kernel⟩, Nat.le_of_ble_eq_true rfl, Nat.le_of_ble_eq_true rfl⟩ ml_X9_83 im_X9_isFeast se_X9_isFeast (by rw [k_a]; rfl) rfl rfl rfl (Nat.le_of_ble_eq_true rfl) ⟨Nat.zero_le _, Nat.zero_le _⟩ (fun r2 σ3 hpo1 hok4 => ?_)
  obtain ⟨rfl, hpo1⟩ := hpo1
  obtain rfl := sv_boF hpo1
  refine sv_same (st2 := [sv_i 0]) (lv2 := [(0, sv_r a), (1, sv_i v1), (2, sv_i v2), (3, sv_i v3)]) rfl rfl ?_
  refine sv_if_t C.1 C.2.1 (cnd := .eq) (off := 10) (tgt := 16) (by decide +kernel) (by decide) ⟨by omega, by omega⟩ (show 0 = 0 by omega) ?_
  refine sv_go C.1 C.2.1 [(.bipush (-2), 2)] (pc' := 18) (by decide +kernel) rfl (lv' := [(0, sv_r a), (1, sv_i v1), (2, sv_i v2), (3, sv_i v3)]) (st' := [sv_i ((-2))]) rfl ?_
  exact sv_iret C hr (by decide +kernel) hok4 (⟨congrArg (fun q => [sv_i q]) (by first | omega | (unfold x; omega)), hF⟩)

theorem fl_X0_40 : Cond.fieldLink RX0 40 "SaintsRoad$Brotherhoods" "turns" "I" ∈ lw_good := sv_mem 321 (by decide +kernel) rfl
set_option maxHeartbeats 4000000 in
set_option maxRecDepth 100000 in
theorem ct_X0_tellTurn (l : Launch) (g : sv_G) (A : Nat → Prop) (ty : Nat → Nat) (σ : Nat → Nat → Int) (hok : sv_ok ty σ) (hI : sv_inv sp_1 ty σ) (hZ : sv_inv sp_0 ty σ) (a : Nat) (k_a : ty a = 5) (v1 : Int) (hv1 : sv_in v1) (v2 : Int) (hv2 : sv_in v2) : sv_M l yX0_tellTurn cX0_tellTurn 3 (some .int) { frames := 0, cells := 0, slots := 0, locals := 0 } g A ty σ [sv_r a, sv_i v1, sv_i v2] (fun r σ' => σ = σ' ∧ r = [sv_i (-1)]) := by
  refine sv_enter (by decide) (Nat.le_of_ble_eq_true rfl) ?_
  intro p e s m args below meth c C hr
  have C : sv_C g A RX0 cX0_tellTurn 3 p s m args meth c := C
  have hr : meth.sig.returnType = (some .int) := hr
  refine sv_same (st2 := []) (lv2 := [(0, sv_r a), (1, sv_i v1), (2, sv_i v2)]) rfl rfl ?_
  refine sv_go C.1 C.2.1 [(.iload_n 1, 1)] (pc' := 1) (by decide +kernel) rfl (lv' := [(0, sv_r a), (1, sv_i v1), (2, sv_i v2)]) (st' := [sv_i v1]) rfl ?_
  refine sv_if C.1 C.2.1 (cnd := .lt) (off := 18) (tgt := 19) (by decide +kernel) (by decide) ⟨by omega, by omega⟩ (fun (h1 : v1 < 0) => ?_) (fun (h1 : ¬ (v1 < 0)) => ?_)
  · refine sv_go C.1 C.2.1 [(.iconst (-1), 1)] (pc' := 20) (by decide +kernel) rfl (lv' := [(0, sv_r a), (1, sv_i v1), (2, sv_i v2)]) (st' := [sv_i ((-1))]) rfl ?_
    exact sv_iret C hr (by decide +kernel) hok (⟨rfl, rfl⟩)
  · refine sv_go C.1 C.2.1 [(.iload_n 1, 1), (.aload_n 0, 1)] (pc' := 6) (by decide +kernel) rfl (lv' := [(0, sv_r a), (1, sv_i v1), (2, sv_i v2)]) (st' := [sv_r a, sv_i v1]) rfl ?_
    have t2 : σ a 2 = 0 := by have q := hZ.num (k := 2) k_a rfl; omega
    refine sv_gf C (index := 40) (ci := 0) (k := 2) (r := (RX0, TX0, 12)) (v := sv_i 0) (by decide +kernel) (by rw [k_a]; rfl) rfl (by decide) fl_X0_40 (congrArg sv_i t2) ?_
    refine sv_icmp_t C.1 C.2.1 (cnd := .ge) (off := 10) (tgt := 19) (by decide +kernel) (by decide) ⟨by omega, by omega⟩ ⟨by omega, by omega⟩ (show 0 ≤ v1 by omega) ?_
    refine sv_go C.1 C.2.1 [(.iconst (-1), 1)] (pc' := 20) (by decide +kernel) rfl (lv' := [(0, sv_r a), (1, sv_i v1), (2, sv_i v2)]) (st' := [sv_i ((-1))]) rfl ?_
    exact sv_iret C hr (by decide +kernel) hok (⟨rfl, rfl⟩)

theorem fl_X9_33 : Cond.fieldLink RX9 33 "SaintsRoad" "brotherhoods" "LSaintsRoad$Brotherhoods;" ∈ lw_good := sv_mem 409 (by decide +kernel) rfl
theorem ml_X9_171 : Cond.methodLink RX9 171 yX0_tellTurn ∈ lw_good := sv_mem 866 (by decide +kernel) rfl
theorem co_X0_tellTurn : Cond.code yX0_tellTurn cX0_tellTurn 3 (some .int) ∈ lw_good := sv_mem 869 (by decide +kernel) rfl
theorem in_X0 : Cond.initialized RX0 ∈ lw_good := sv_mem 79 (by decide +kernel) rfl
theorem im_X0_tellTurn : Cond.instanceMethod yX0_tellTurn ∈ lw_good := sv_mem 867 (by decide +kernel) rfl
theorem se_X0_tellTurn : Cond.selects RX0 yX0_tellTurn yX0_tellTurn ∈ lw_good := sv_mem 868 (by decide +kernel) rfl
set_option maxHeartbeats 4000000 in
set_option maxRecDepth 100000 in
theorem ct_X9_turn (l : Launch) (g : sv_G) (A : Nat → Prop) (ty : Nat → Nat) (σ : Nat → Nat → Int) (hok : sv_ok ty σ) (hTA : ∀ q, ty q ≠ 0 → A q) (hI : sv_inv sp_1 ty σ) (hZ : sv_inv sp_0 ty σ) (a : Nat) (k_a : ty a = 1) (v1 : Int) (hv1 : sv_in v1) (v2 : Int) (hv2 : sv_in v2) : sv_M l yX9_turn cX9_turn 3 (some .int) { frames := 1, cells := 0, slots := 0, locals := 22 } g A ty σ [sv_r a, sv_i v1, sv_i v2] (fun r σ' => r = [sv_i (-1)] ∧ sv_off [] ty σ σ') := by
  refine sv_enter (by decide) (Nat.le_of_ble_eq_true rfl) ?_
  intro p e s m args below meth c C hr
  have C : sv_C g A RX9 cX9_turn 3 p s m args meth c := C
  have hr : meth.sig.returnType = (some .int) := hr
  have hF : sv_off [] ty σ σ := sv_off.rf
  refine sv_same (st2 := []) (lv2 := [(0, sv_r a), (1, sv_i v1), (2, sv_i v2)]) rfl rfl ?_
  refine sv_go C.1 C.2.1 [(.aload_n 0, 1)] (pc' := 1) (by decide +kernel) rfl (lv' := [(0, sv_r a), (1, sv_i v1), (2, sv_i v2)]) (st' := [sv_r a]) rfl ?_
  obtain ⟨q1, eq1, kq1⟩ := hI.ref (k := 3) k_a rfl
  refine sv_gf C (index := 33) (ci := 8) (k := 3) (r := (RX9, TX9, 6)) (v := sv_r q1) (by decide +kernel) (by rw [k_a]; rfl) rfl (by decide) fl_X9_33 (congrArg sv_a eq1) ?_
  refine sv_go C.1 C.2.1 [(.iload_n 1, 1), (.iload_n 2, 1)] (pc' := 6) (by decide +kernel) rfl (lv' := [(0, sv_r a), (1, sv_i v1), (2, sv_i v2)]) (st' := [sv_i v2, sv_i v1, sv_r q1]) rfl ?_
  refine sv_cv C (index := 171) (k := 2) (rest := []) (ci := 0) (r := (RX0, TX0, 12)) (by decide +kernel) (ct_X0_tellTurn l g A ty σ hok hI hZ q1 kq1 (v1) ⟨by omega, by omega⟩ (v2) ⟨by omega, by omega⟩) ⟨co_X0_tellTurn, in_X0, ⟨by decide, by decide, by decide +kernel⟩, Nat.le_of_ble_eq_true rfl, Nat.le_of_ble_eq_true rfl⟩ ml_X9_171 im_X0_tellTurn se_X0_tellTurn (by rw [kq1]; rfl) rfl rfl rfl (Nat.le_of_ble_eq_true rfl) ⟨Nat.zero_le _, Nat.zero_le _⟩ (fun r3 σ4 hpo2 hok5 => ?_)
  obtain ⟨rfl, rfl⟩ := hpo2
  refine sv_same (st2 := [sv_i ((-1))]) (lv2 := [(0, sv_r a), (1, sv_i v1), (2, sv_i v2)]) rfl rfl ?_
  exact sv_iret C hr (by decide +kernel) hok5 (⟨congrArg (fun q => [sv_i q]) (by first | omega | (unfold x; omega)), hF⟩)

theorem ml_X9_154 : Cond.methodLink RX9 154 yX9_isBrotherhood ∈ lw_good := sv_mem 824 (by decide +kernel) rfl
theorem co_X9_isBrotherhood : Cond.code yX9_isBrotherhood cX9_isBrotherhood 1 (some .boolean) ∈ lw_good := sv_mem 826 (by decide +kernel) rfl
theorem st_X9_isBrotherhood : Cond.static yX9_isBrotherhood ∈ lw_good := sv_mem 825 (by decide +kernel) rfl
theorem fl_X9_174 : Cond.fieldLink RX9 174 "SaintsRoad$Brotherhoods" "carriedBy" "[I" ∈ lw_good := sv_mem 318 (by decide +kernel) rfl
set_option maxHeartbeats 4000000 in
set_option maxRecDepth 100000 in
theorem ct_X9_carried (l : Launch) (g : sv_G) (A : Nat → Prop) (ty : Nat → Nat) (σ : Nat → Nat → Int) (hok : sv_ok ty σ) (hTA : ∀ q, ty q ≠ 0 → A q) (hI : sv_inv sp_1 ty σ) (hZ : sv_inv sp_0 ty σ) (a : Nat) (k_a : ty a = 1) (v1 : Int) (hv1 : sv_in v1) : sv_M l yX9_carried cX9_carried 2 (some .int) { frames := 1, cells := 0, slots := 0, locals := 20 } g A ty σ [sv_r a, sv_i v1] (fun r σ' => r = [sv_i (fx_br v1)] ∧ sv_off [] ty σ σ') := by
  refine sv_enter (by decide) (Nat.le_of_ble_eq_true rfl) ?_
  intro p e s m args below meth c C hr
  have C : sv_C g A RX9 cX9_carried 2 p s m args meth c := C
  have hr : meth.sig.returnType = (some .int) := hr
  have hF : sv_off [] ty σ σ := sv_off.rf
  refine sv_same (st2 := []) (lv2 := [(0, sv_r a), (1, sv_i v1)]) rfl rfl ?_
  refine sv_go C.1 C.2.1 [(.iload_n 1, 1)] (pc' := 1) (by decide +kernel) rfl (lv' := [(0, sv_r a), (1, sv_i v1)]) (st' := [sv_i v1]) rfl ?_
  refine sv_cs C (index := 154) (k := 1) (rest := []) (by decide +kernel) (ct_X9_isBrotherhood l g A ty σ hok (v1) ⟨by omega, by omega⟩) ⟨co_X9_isBrotherhood, in_X9, ⟨by decide, by decide, by decide +kernel⟩, Nat.le_of_ble_eq_true rfl, Nat.le_of_ble_eq_true rfl⟩ ml_X9_154 st_X9_isBrotherhood rfl rfl (Nat.le_of_ble_eq_true rfl) ⟨Nat.zero_le _, Nat.zero_le _⟩ (fun r2 σ3 hpo1 hok4 => ?_)
  obtain ⟨rfl, ⟨h5, rfl⟩ | ⟨h5, rfl⟩⟩ := hpo1
  · refine sv_same (st2 := [sv_i 1]) (lv2 := [(0, sv_r a), (1, sv_i v1)]) rfl rfl ?_
    refine sv_if_f C.1 C.2.1 (cnd := .eq) (off := 15) (tgt := 19) (by decide +kernel) (by decide) ⟨by omega, by omega⟩ (show ¬ (1 = 0) by omega) ?_
    refine sv_go C.1 C.2.1 [(.aload_n 0, 1)] (pc' := 8) (by decide +kernel) rfl (lv' := [(0, sv_r a), (1, sv_i v1)]) (st' := [sv_r a]) rfl ?_
    obtain ⟨q6, eq6, kq6⟩ := hI.ref (k := 3) k_a rfl
    refine sv_gf C (index := 33) (ci := 8) (k := 3) (r := (RX9, TX9, 6)) (v := sv_r q6) (by decide +kernel) (by rw [k_a]; rfl) rfl (by decide) fl_X9_33 (congrArg sv_a eq6) ?_
    obtain ⟨q7, eq7, kq7⟩ := hI.ref (k := 0) kq6 rfl
    refine sv_gf C (index := 174) (ci := 0) (k := 0) (r := (RX0, TX0, 12)) (v := sv_r q7) (by decide +kernel) (by rw [kq6]; rfl) rfl (by decide) fl_X9_174 (congrArg sv_a eq7) ?_
    refine sv_go C.1 C.2.1 [(.iload_n 1, 1)] (pc' := 15) (by decide +kernel) rfl (lv' := [(0, sv_r a), (1, sv_i v1)]) (st' := [sv_i v1, sv_r q7]) rfl ?_
    refine sv_ia C (n := 10) (by decide +kernel) (by rw [kq7]; rfl) (by decide) (by omega) (by omega) ?_
    have w8 : σ q7 v1.toNat = 0 := by have q := hZ.num (k := (v1 : Int).toNat) kq7 rfl; omega
    rw [w8]
    refine sv_goto C.1 C.2.1 (off := 5) (tgt := 21) (by decide +kernel) (by decide) ?_
    exact sv_iret C hr (by decide +kernel) hok4 (⟨congrArg (fun q => [sv_i q]) (by first | omega | (unfold fx_br; omega)), hF⟩)
  · refine sv_same (st2 := [sv_i 0]) (lv2 := [(0, sv_r a), (1, sv_i v1)]) rfl rfl ?_
    refine sv_if_t C.1 C.2.1 (cnd := .eq) (off := 15) (tgt := 19) (by decide +kernel) (by decide) ⟨by omega, by omega⟩ (show 0 = 0 by omega) ?_
    refine sv_go C.1 C.2.1 [(.bipush (-2), 2)] (pc' := 21) (by decide +kernel) rfl (lv' := [(0, sv_r a), (1, sv_i v1)]) (st' := [sv_i ((-2))]) rfl ?_
    exact sv_iret C hr (by decide +kernel) hok4 (⟨congrArg (fun q => [sv_i q]) (by first | omega | (unfold fx_br; omega)), hF⟩)

theorem fl_X0_15 : Cond.fieldLink RX0 15 "SaintsRoad$Brotherhoods" "quarrels" "[I" ∈ lw_good := sv_mem 323 (by decide +kernel) rfl
theorem fl_X0_33 : Cond.fieldLink RX0 33 "SaintsRoad$Brotherhoods" "quarrelCount" "I" ∈ lw_good := sv_mem 319 (by decide +kernel) rfl
set_option maxHeartbeats 4000000 in
set_option maxRecDepth 100000 in
theorem ct_X0_setQuarrel (l : Launch) (g : sv_G) (A : Nat → Prop) (ty : Nat → Nat) (σ : Nat → Nat → Int) (hok : sv_ok ty σ) (hTA : ∀ q, ty q ≠ 0 → A q) (hI : sv_inv sp_1 ty σ) (hZ : sv_inv sp_0 ty σ) (a : Nat) (k_a : ty a = 5) (v1 : Int) (hv1 : 0 ≤ v1 ∧ v1 ≤ 9) (v2 : Int) (hv2 : 0 ≤ v2 ∧ v2 ≤ 9) (on : Int) (hon : 0 ≤ on ∧ on ≤ 1) : sv_M l yX0_setQuarrel cX0_setQuarrel 5 (some .boolean) { frames := 0, cells := 0, slots := 0, locals := 0 } g A ty σ [sv_r a, sv_i v1, sv_i v2, sv_i on] (fun r σ' => r = [sv_i on] ∧ sv_inv sp_1 ty σ' ∧ sv_off [5, 31] ty σ σ') := by
  refine sv_enter (by decide) (Nat.le_of_ble_eq_true rfl) ?_
  intro p e s m args below meth c C hr
  have C : sv_C g A RX0 cX0_setQuarrel 5 p s m args meth c := C
  have hr : meth.sig.returnType = (some .boolean) := hr
  have hF : sv_off [5, 31] ty σ σ := sv_off.rf
  have hs0 : σ a 1 = 0 := by have q := hZ.num (k := 1) k_a rfl; omega
  refine sv_same (st2 := []) (lv2 := [(0, sv_r a), (1, sv_i v1), (2, sv_i v2), (3, sv_i on)]) rfl rfl ?_
  refine sv_go C.1 C.2.1 [(.aload_n 0, 1)] (pc' := 1) (by decide +kernel) rfl (lv' := [(0, sv_r a), (1, sv_i v1), (2, sv_i v2), (3, sv_i on)]) (st' := [sv_r a]) rfl ?_
  obtain ⟨q1, eq1, kq1⟩ := hI.ref (k := 3) k_a rfl
  refine sv_gf C (index := 15) (ci := 0) (k := 3) (r := (RX0, TX0, 12)) (v := sv_r q1) (by decide +kernel) (by rw [k_a]; rfl) rfl (by decide) fl_X0_15 (congrArg sv_a eq1) ?_
  refine sv_go C.1 C.2.1 [(.iload_n 1, 1)] (pc' := 5) (by decide +kernel) rfl (lv' := [(0, sv_r a), (1, sv_i v1), (2, sv_i v2), (3, sv_i on)]) (st' := [sv_i v1, sv_r q1]) rfl ?_
  refine sv_ia C (n := 10) (by decide +kernel) (by rw [kq1]; rfl) (by decide) (by omega) (by omega) ?_
  have w2 : σ q1 v1.toNat = 0 := by have q := hZ.num (k := (v1 : Int).toNat) kq1 rfl; omega
  rw [w2]
  refine sv_go C.1 C.2.1 [(.iload_n 2, 1), (.ishr, 1), (.iconst 1, 1), (.iand, 1)] (pc' := 10) (by decide +kernel) rfl (lv' := [(0, sv_r a), (1, sv_i v1), (2, sv_i v2), (3, sv_i on)]) (st' := [sv_i ((Int32.ofInt ((Int32.ofInt 0 >>> (Int32.ofInt v2 &&& 31)).toInt) &&& Int32.ofInt 1).toInt)]) rfl ?_
  refine sv_same (st2 := [sv_i 0]) (lv2 := [(0, sv_r a), (1, sv_i v1), (2, sv_i v2), (3, sv_i on)]) (congrArg (fun q => [sv_i q]) (sv_and0 _)) rfl ?_
  refine sv_if_t C.1 C.2.1 (cnd := .eq) (off := 7) (tgt := 17) (by decide +kernel) (by decide) ⟨by omega, by omega⟩ (show 0 = 0 by omega) ?_
  refine sv_go C.1 C.2.1 [(.iconst 0, 1), (.istore 4, 2), (.iload 4, 2), (.iload_n 3, 1)] (pc' := 23) (by decide +kernel) rfl (lv' := [(0, sv_r a), (1, sv_i v1), (2, sv_i v2), (3, sv_i on), (4, sv_i 0)]) (st' := [sv_i on, sv_i 0]) rfl ?_
  refine sv_icmp C.1 C.2.1 (cnd := .ne) (off := 5) (tgt := 28) (by decide +kernel) (by decide) ⟨by omega, by omega⟩ ⟨by omega, by omega⟩ (fun (h3 : 0 ≠ on) => ?_) (fun (h3 : ¬ (0 ≠ on)) => ?_)
  · refine sv_go C.1 C.2.1 [(.aload_n 0, 1)] (pc' := 29) (by decide +kernel) rfl (lv' := [(0, sv_r a), (1, sv_i v1), (2, sv_i v2), (3, sv_i on), (4, sv_i 0)]) (st' := [sv_r a]) rfl ?_
    refine sv_gf C (index := 15) (ci := 0) (k := 3) (r := (RX0, TX0, 12)) (v := sv_r q1) (by decide +kernel) (by rw [k_a]; rfl) rfl (by decide) fl_X0_15 (congrArg sv_a eq1) ?_
    refine sv_go C.1 C.2.1 [(.iload_n 1, 1), (.dup2, 1)] (pc' := 34) (by decide +kernel) rfl (lv' := [(0, sv_r a), (1, sv_i v1), (2, sv_i v2), (3, sv_i on), (4, sv_i 0)]) (st' := [sv_i v1, sv_r q1, sv_i v1, sv_r q1]) rfl ?_
    refine sv_ia C (n := 10) (by decide +kernel) (by rw [kq1]; rfl) (by decide) (by omega) (by omega) ?_
    have w4 : σ q1 v1.toNat = 0 := by have q := hZ.num (k := (v1 : Int).toNat) kq1 rfl; omega
    rw [w4]
    refine sv_go C.1 C.2.1 [(.iconst 1, 1), (.iload_n 2, 1), (.ishl, 1), (.ixor, 1)] (pc' := 39) (by decide +kernel) rfl (lv' := [(0, sv_r a), (1, sv_i v1), (2, sv_i v2), (3, sv_i on), (4, sv_i 0)]) (st' := [sv_i ((Int32.ofInt 0 ^^^ Int32.ofInt ((Int32.ofInt 1 <<< (Int32.ofInt v2 &&& 31)).toInt)).toInt), sv_i v1, sv_r q1]) rfl ?_
    have hq5 := sv_ioin (Int32.ofInt 0 ^^^ Int32.ofInt ((Int32.ofInt 1 <<< (Int32.ofInt v2 &&& 31)).toInt))
    refine sv_is C (n := 10) (by decide +kernel) (by rw [kq1]; rfl) (by decide) (by omega) (by omega) ⟨by omega, by omega⟩ (hTA _ (by rw [kq1]; decide)) hok (fun hok6 => ?_)
    have hI8 := hI.up (a := q1) (k := (v1 : Int).toNat) (z := (Int32.ofInt 0 ^^^ Int32.ofInt ((Int32.ofInt 1 <<< (Int32.ofInt v2 &&& 31)).toInt)).toInt) (by rw [kq1]; exact trivial)
    have hF9 := hF.up (a := q1) (k := (v1 : Int).toNat) (z := (Int32.ofInt 0 ^^^ Int32.ofInt ((Int32.ofInt 1 <<< (Int32.ofInt v2 &&& 31)).toInt)).toInt) (by rw [kq1]; decide)
    generalize eσ7 : sv_up σ q1 (v1 : Int).toNat ((Int32.ofInt 0 ^^^ Int32.ofInt ((Int32.ofInt 1 <<< (Int32.ofInt v2 &&& 31)).toInt)).toInt) = σ7 at hok6 hI8 hF9 ⊢
    have t10 : σ7 a 1 = 0 := by rw [← eσ7, sv_up_a (sv_ne k_a kq1 (by decide))]; exact hs0
    have t11 : σ7 a 3 = (q1 : Int) + 1 := by rw [← eσ7, sv_up_a (sv_ne k_a kq1 (by decide))]; exact eq1
    refine sv_go C.1 C.2.1 [(.aload_n 0, 1)] (pc' := 41) (by decide +kernel) rfl (lv' := [(0, sv_r a), (1, sv_i v1), (2, sv_i v2), (3, sv_i on), (4, sv_i 0)]) (st' := [sv_r a]) rfl ?_
    refine sv_gf C (index := 15) (ci := 0) (k := 3) (r := (RX0, TX0, 12)) (v := sv_r q1) (by decide +kernel) (by rw [k_a]; rfl) rfl (by decide) fl_X0_15 (congrArg sv_a t11) ?_
    refine sv_go C.1 C.2.1 [(.iload_n 2, 1), (.dup2, 1)] (pc' := 46) (by decide +kernel) rfl (lv' := [(0, sv_r a), (1, sv_i v1), (2, sv_i v2), (3, sv_i on), (4, sv_i 0)]) (st' := [sv_i v2, sv_r q1, sv_i v2, sv_r q1]) rfl ?_
    refine sv_ia C (n := 10) (by decide +kernel) (by rw [kq1]; rfl) (by decide) (by omega) (by omega) ?_
    have w12 := sv_ok.el hok6 (k := (v2 : Int).toNat) (t := .int) (n := 10) (by rw [kq1]; rfl) (by omega)
    generalize hw12 : σ7 q1 v2.toNat = xw12 at w12 ⊢
    have w12 : sv_in xw12 := w12
    refine sv_go C.1 C.2.1 [(.iconst 1, 1), (.iload_n 1, 1), (.ishl, 1), (.ixor, 1)] (pc' := 51) (by decide +kernel) rfl (lv' := [(0, sv_r a), (1, sv_i v1), (2, sv_i v2), (3, sv_i on), (4, sv_i 0)]) (st' := [sv_i ((Int32.ofInt xw12 ^^^ Int32.ofInt ((Int32.ofInt 1 <<< (Int32.ofInt v1 &&& 31)).toInt)).toInt), sv_i v2, sv_r q1]) rfl ?_
    have hq13 := sv_ioin (Int32.ofInt xw12 ^^^ Int32.ofInt ((Int32.ofInt 1 <<< (Int32.ofInt v1 &&& 31)).toInt))
    refine sv_is C (n := 10) (by decide +kernel) (by rw [kq1]; rfl) (by decide) (by omega) (by omega) ⟨by omega, by omega⟩ (hTA _ (by rw [kq1]; decide)) hok6 (fun hok14 => ?_)
    have hI16 := hI8.up (a := q1) (k := (v2 : Int).toNat) (z := (Int32.ofInt xw12 ^^^ Int32.ofInt ((Int32.ofInt 1 <<< (Int32.ofInt v1 &&& 31)).toInt)).toInt) (by rw [kq1]; exact trivial)
    have hF17 := hF9.up (a := q1) (k := (v2 : Int).toNat) (z := (Int32.ofInt xw12 ^^^ Int32.ofInt ((Int32.ofInt 1 <<< (Int32.ofInt v1 &&& 31)).toInt)).toInt) (by rw [kq1]; decide)
    generalize eσ15 : sv_up σ7 q1 (v2 : Int).toNat ((Int32.ofInt xw12 ^^^ Int32.ofInt ((Int32.ofInt 1 <<< (Int32.ofInt v1 &&& 31)).toInt)).toInt) = σ15 at hok14 hI16 hF17 ⊢
    have t18 : σ15 a 1 = 0 := by rw [← eσ15, sv_up_a (sv_ne k_a kq1 (by decide))]; exact t10
    have t19 : σ15 a 3 = (q1 : Int) + 1 := by rw [← eσ15, sv_up_a (sv_ne k_a kq1 (by decide))]; exact t11
    refine sv_go C.1 C.2.1 [(.aload_n 0, 1), (.dup, 1)] (pc' := 54) (by decide +kernel) rfl (lv' := [(0, sv_r a), (1, sv_i v1), (2, sv_i v2), (3, sv_i on), (4, sv_i 0)]) (st' := [sv_r a, sv_r a]) rfl ?_
    refine sv_gf C (index := 33) (ci := 0) (k := 1) (r := (RX0, TX0, 12)) (v := sv_i 0) (by decide +kernel) (by rw [k_a]; rfl) rfl (by decide) fl_X0_33 (congrArg sv_i t18) ?_
    refine sv_go C.1 C.2.1 [(.iload_n 3, 1)] (pc' := 58) (by decide +kernel) rfl (lv' := [(0, sv_r a), (1, sv_i v1), (2, sv_i v2), (3, sv_i on), (4, sv_i 0)]) (st' := [sv_i on, sv_i 0, sv_r a]) rfl ?_
    refine sv_if C.1 C.2.1 (cnd := .eq) (off := 7) (tgt := 65) (by decide +kernel) (by decide) ⟨by omega, by omega⟩ (fun (h20 : on = 0) => ?_) (fun (h20 : ¬ (on = 0)) => ?_)
    · refine sv_go C.1 C.2.1 [(.iconst (-1), 1), (.iadd, 1)] (pc' := 67) (by decide +kernel) rfl (lv' := [(0, sv_r a), (1, sv_i v1), (2, sv_i v2), (3, sv_i on), (4, sv_i 0)]) (st' := [sv_i (0 + ((-1))), sv_r a]) rfl ?_
      refine sv_pf C (index := 33) (ci := 0) (k := 1) (r := (RX0, TX0, 12)) (z := 0 + ((-1))) (by decide +kernel) (by rw [k_a]; rfl) rfl (by decide) rfl fl_X0_33 rfl (Or.inl rfl) ⟨by omega, by omega⟩ (hTA _ (by rw [k_a]; decide)) hok14 (fun hok21 => ?_)
      have hI23 := hI16.up (a := a) (k := 1) (z := 0 + ((-1))) (by rw [k_a]; exact trivial)
      have hF24 := hF17.up (a := a) (k := 1) (z := 0 + ((-1))) (by rw [k_a]; decide)
      generalize eσ22 : sv_up σ15 a 1 (0 + ((-1))) = σ22 at hok21 hI23 hF24 ⊢
      have t25 : σ22 a 3 = (q1 : Int) + 1 := by rw [← eσ22, sv_up_k (by decide)]; exact t19
      have t26 : σ22 a 1 = 0 + ((-1)) := by rw [← eσ22]; exact sv_up_s _ _ _ _
      refine sv_go C.1 C.2.1 [(.iconst 1, 1)] (pc' := 71) (by decide +kernel) rfl (lv' := [(0, sv_r a), (1, sv_i v1), (2, sv_i v2), (3, sv_i on), (4, sv_i 0)]) (st' := [sv_i 1]) rfl ?_
      exact sv_zret C hr (by first | exact Or.inl rfl | exact Or.inr rfl | omega) (by decide +kernel) hok21 (⟨congrArg (fun q => [sv_i q]) (by omega), hI23, hF24⟩)
    · refine sv_go C.1 C.2.1 [(.iconst 1, 1)] (pc' := 62) (by decide +kernel) rfl (lv' := [(0, sv_r a), (1, sv_i v1), (2, sv_i v2), (3, sv_i on), (4, sv_i 0)]) (st' := [sv_i 1, sv_i 0, sv_r a]) rfl ?_
      refine sv_goto C.1 C.2.1 (off := 4) (tgt := 66) (by decide +kernel) (by decide) ?_
      refine sv_go C.1 C.2.1 [(.iadd, 1)] (pc' := 67) (by decide +kernel) rfl (lv' := [(0, sv_r a), (1, sv_i v1), (2, sv_i v2), (3, sv_i on), (4, sv_i 0)]) (st' := [sv_i (0 + 1), sv_r a]) rfl ?_
      refine sv_pf C (index := 33) (ci := 0) (k := 1) (r := (RX0, TX0, 12)) (z := 0 + 1) (by decide +kernel) (by rw [k_a]; rfl) rfl (by decide) rfl fl_X0_33 rfl (Or.inl rfl) ⟨by omega, by omega⟩ (hTA _ (by rw [k_a]; decide)) hok14 (fun hok27 => ?_)
      have hI29 := hI16.up (a := a) (k := 1) (z := 0 + 1) (by rw [k_a]; exact trivial)
      have hF30 := hF17.up (a := a) (k := 1) (z := 0 + 1) (by rw [k_a]; decide)
      generalize eσ28 : sv_up σ15 a 1 (0 + 1) = σ28 at hok27 hI29 hF30 ⊢
      have t31 : σ28 a 3 = (q1 : Int) + 1 := by rw [← eσ28, sv_up_k (by decide)]; exact t19
      have t32 : σ28 a 1 = 0 + 1 := by rw [← eσ28]; exact sv_up_s _ _ _ _
      refine sv_go C.1 C.2.1 [(.iconst 1, 1)] (pc' := 71) (by decide +kernel) rfl (lv' := [(0, sv_r a), (1, sv_i v1), (2, sv_i v2), (3, sv_i on), (4, sv_i 0)]) (st' := [sv_i 1]) rfl ?_
      exact sv_zret C hr (by first | exact Or.inl rfl | exact Or.inr rfl | omega) (by decide +kernel) hok27 (⟨congrArg (fun q => [sv_i q]) (by omega), hI29, hF30⟩)
  · refine sv_go C.1 C.2.1 [(.iconst 0, 1)] (pc' := 27) (by decide +kernel) rfl (lv' := [(0, sv_r a), (1, sv_i v1), (2, sv_i v2), (3, sv_i on), (4, sv_i 0)]) (st' := [sv_i 0]) rfl ?_
    exact sv_zret C hr (by first | exact Or.inl rfl | exact Or.inr rfl | omega) (by decide +kernel) hok (⟨congrArg (fun q => [sv_i q]) (by omega), hI, hF⟩)

theorem ml_X9_157 : Cond.methodLink RX9 157 yX0_setQuarrel ∈ lw_good := sv_mem 827 (by decide +kernel) rfl
theorem co_X0_setQuarrel : Cond.code yX0_setQuarrel cX0_setQuarrel 5 (some .boolean) ∈ lw_good := sv_mem 830 (by decide +kernel) rfl
theorem im_X0_setQuarrel : Cond.instanceMethod yX0_setQuarrel ∈ lw_good := sv_mem 828 (by decide +kernel) rfl
theorem se_X0_setQuarrel : Cond.selects RX0 yX0_setQuarrel yX0_setQuarrel ∈ lw_good := sv_mem 829 (by decide +kernel) rfl
set_option maxHeartbeats 4000000 in
set_option maxRecDepth 100000 in
theorem ct_X9_quarrel (l : Launch) (g : sv_G) (A : Nat → Prop) (ty : Nat → Nat) (σ : Nat → Nat → Int) (hok : sv_ok ty σ) (hTA : ∀ q, ty q ≠ 0 → A q) (hI : sv_inv sp_1 ty σ) (hZ : sv_inv sp_0 ty σ) (a : Nat) (k_a : ty a = 1) (v1 : Int) (hv1 : sv_in v1) (v2 : Int) (hv2 : sv_in v2) (on : Int) (hon : 0 ≤ on ∧ on ≤ 1) : sv_M l yX9_quarrel cX9_quarrel 4 (some .int) { frames := 1, cells := 0, slots := 0, locals := 24 } g A ty σ [sv_r a, sv_i v1, sv_i v2, sv_i on] (fun r σ' => r = [sv_i (fx_quarrel v1 v2 on)] ∧ sv_off [5, 31] ty σ σ') := by
  refine sv_enter (by decide) (Nat.le_of_ble_eq_true rfl) ?_
  intro p e s m args below meth c C hr
  have C : sv_C g A RX9 cX9_quarrel 4 p s m args meth c := C
  have hr : meth.sig.returnType = (some .int) := hr
  have hF : sv_off [5, 31] ty σ σ := sv_off.rf
  refine sv_same (st2 := []) (lv2 := [(0, sv_r a), (1, sv_i v1), (2, sv_i v2), (3, sv_i on)]) rfl rfl ?_
  refine sv_go C.1 C.2.1 [(.iload_n 1, 1)] (pc' := 1) (by decide +kernel) rfl (lv' := [(0, sv_r a), (1, sv_i v1), (2, sv_i v2), (3, sv_i on)]) (st' := [sv_i v1]) rfl ?_
  refine sv_cs C (index := 154) (k := 1) (rest := []) (by decide +kernel) (ct_X9_isBrotherhood l g A ty σ hok (v1) ⟨by omega, by omega⟩) ⟨co_X9_isBrotherhood, in_X9, ⟨by decide, by decide, by decide +kernel⟩, Nat.le_of_ble_eq_true rfl, Nat.le_of_ble_eq_true rfl⟩ ml_X9_154 st_X9_isBrotherhood rfl rfl (Nat.le_of_ble_eq_true rfl) ⟨Nat.zero_le _, Nat.zero_le _⟩ (fun r2 σ3 hpo1 hok4 => ?_)
  obtain ⟨rfl, ⟨h5, rfl⟩ | ⟨h5, rfl⟩⟩ := hpo1
  · refine sv_same (st2 := [sv_i 1]) (lv2 := [(0, sv_r a), (1, sv_i v1), (2, sv_i v2), (3, sv_i on)]) rfl rfl ?_
    refine sv_if_f C.1 C.2.1 (cnd := .eq) (off := 15) (tgt := 19) (by decide +kernel) (by decide) ⟨by omega, by omega⟩ (show ¬ (1 = 0) by omega) ?_
    refine sv_go C.1 C.2.1 [(.iload_n 2, 1)] (pc' := 8) (by decide +kernel) rfl (lv' := [(0, sv_r a), (1, sv_i v1), (2, sv_i v2), (3, sv_i on)]) (st' := [sv_i v2]) rfl ?_
    refine sv_cs C (index := 154) (k := 1) (rest := []) (by decide +kernel) (ct_X9_isBrotherhood l g A ty σ hok4 (v2) ⟨by omega, by omega⟩) ⟨co_X9_isBrotherhood, in_X9, ⟨by decide, by decide, by decide +kernel⟩, Nat.le_of_ble_eq_true rfl, Nat.le_of_ble_eq_true rfl⟩ ml_X9_154 st_X9_isBrotherhood rfl rfl (Nat.le_of_ble_eq_true rfl) ⟨Nat.zero_le _, Nat.zero_le _⟩ (fun r7 σ8 hpo6 hok9 => ?_)
    obtain ⟨rfl, ⟨h10, rfl⟩ | ⟨h10, rfl⟩⟩ := hpo6
    · refine sv_same (st2 := [sv_i 1]) (lv2 := [(0, sv_r a), (1, sv_i v1), (2, sv_i v2), (3, sv_i on)]) rfl rfl ?_
      refine sv_if_f C.1 C.2.1 (cnd := .eq) (off := 8) (tgt := 19) (by decide +kernel) (by decide) ⟨by omega, by omega⟩ (show ¬ (1 = 0) by omega) ?_
      refine sv_go C.1 C.2.1 [(.iload_n 1, 1), (.iload_n 2, 1)] (pc' := 16) (by decide +kernel) rfl (lv' := [(0, sv_r a), (1, sv_i v1), (2, sv_i v2), (3, sv_i on)]) (st' := [sv_i v2, sv_i v1]) rfl ?_
      refine sv_icmp C.1 C.2.1 (cnd := .ne) (off := 6) (tgt := 22) (by decide +kernel) (by decide) ⟨by omega, by omega⟩ ⟨by omega, by omega⟩ (fun (h11 : v1 ≠ v2) => ?_) (fun (h11 : ¬ (v1 ≠ v2)) => ?_)
      · refine sv_go C.1 C.2.1 [(.aload_n 0, 1)] (pc' := 23) (by decide +kernel) rfl (lv' := [(0, sv_r a), (1, sv_i v1), (2, sv_i v2), (3, sv_i on)]) (st' := [sv_r a]) rfl ?_
        obtain ⟨q12, eq12, kq12⟩ := hI.ref (k := 3) k_a rfl
        refine sv_gf C (index := 33) (ci := 8) (k := 3) (r := (RX9, TX9, 6)) (v := sv_r q12) (by decide +kernel) (by rw [k_a]; rfl) rfl (by decide) fl_X9_33 (congrArg sv_a eq12) ?_
        refine sv_go C.1 C.2.1 [(.iload_n 1, 1), (.iload_n 2, 1), (.iload_n 3, 1)] (pc' := 29) (by decide +kernel) rfl (lv' := [(0, sv_r a), (1, sv_i v1), (2, sv_i v2), (3, sv_i on)]) (st' := [sv_i on, sv_i v2, sv_i v1, sv_r q12]) rfl ?_
        refine sv_cv C (index := 157) (k := 3) (rest := []) (ci := 0) (r := (RX0, TX0, 12)) (by decide +kernel) (ct_X0_setQuarrel l g A ty σ hok9 hTA hI hZ q12 kq12 (v1) ⟨by omega, by omega⟩ (v2) ⟨by omega, by omega⟩ (on) ⟨by omega, by omega⟩) ⟨co_X0_setQuarrel, in_X0, ⟨by decide, by decide, by decide +kernel⟩, Nat.le_of_ble_eq_true rfl, Nat.le_of_ble_eq_true rfl⟩ ml_X9_157 im_X0_setQuarrel se_X0_setQuarrel (by rw [kq12]; rfl) rfl rfl rfl (Nat.le_of_ble_eq_true rfl) ⟨Nat.zero_le _, Nat.zero_le _⟩ (fun r14 σ15 hpo13 hok16 => ?_)
        obtain ⟨rfl, hIu17, hFu17⟩ := hpo13
        have hGu17 := hF.tr hFu17 (by decide)
        have t18 : σ15 a 3 = (q12 : Int) + 1 := (hFu17.at k_a (by decide)).trans eq12
        refine sv_same (st2 := [sv_i on]) (lv2 := [(0, sv_r a), (1, sv_i v1), (2, sv_i v2), (3, sv_i on)]) rfl rfl ?_
        refine sv_if C.1 C.2.1 (cnd := .eq) (off := 7) (tgt := 39) (by decide +kernel) (by decide) ⟨by omega, by omega⟩ (fun (h19 : on = 0) => ?_) (fun (h19 : ¬ (on = 0)) => ?_)
        · refine sv_go C.1 C.2.1 [(.iconst 0, 1)] (pc' := 40) (by decide +kernel) rfl (lv' := [(0, sv_r a), (1, sv_i v1), (2, sv_i v2), (3, sv_i on)]) (st' := [sv_i 0]) rfl ?_
          exact sv_iret C hr (by decide +kernel) hok16 (⟨congrArg (fun q => [sv_i q]) (by first | omega | (unfold fx_quarrel; omega)), hGu17⟩)
        · refine sv_go C.1 C.2.1 [(.iconst 1, 1)] (pc' := 36) (by decide +kernel) rfl (lv' := [(0, sv_r a), (1, sv_i v1), (2, sv_i v2), (3, sv_i on)]) (st' := [sv_i 1]) rfl ?_
          refine sv_goto C.1 C.2.1 (off := 4) (tgt := 40) (by decide +kernel) (by decide) ?_
          exact sv_iret C hr (by decide +kernel) hok16 (⟨congrArg (fun q => [sv_i q]) (by first | omega | (unfold fx_quarrel; omega)), hGu17⟩)
      · refine sv_go C.1 C.2.1 [(.bipush (-2), 2)] (pc' := 21) (by decide +kernel) rfl (lv' := [(0, sv_r a), (1, sv_i v1), (2, sv_i v2), (3, sv_i on)]) (st' := [sv_i ((-2))]) rfl ?_
        exact sv_iret C hr (by decide +kernel) hok9 (⟨congrArg (fun q => [sv_i q]) (by first | omega | (unfold fx_quarrel; omega)), hF⟩)
    · refine sv_same (st2 := [sv_i 0]) (lv2 := [(0, sv_r a), (1, sv_i v1), (2, sv_i v2), (3, sv_i on)]) rfl rfl ?_
      refine sv_if_t C.1 C.2.1 (cnd := .eq) (off := 8) (tgt := 19) (by decide +kernel) (by decide) ⟨by omega, by omega⟩ (show 0 = 0 by omega) ?_
      refine sv_go C.1 C.2.1 [(.bipush (-2), 2)] (pc' := 21) (by decide +kernel) rfl (lv' := [(0, sv_r a), (1, sv_i v1), (2, sv_i v2), (3, sv_i on)]) (st' := [sv_i ((-2))]) rfl ?_
      exact sv_iret C hr (by decide +kernel) hok9 (⟨congrArg (fun q => [sv_i q]) (by first | omega | (unfold fx_quarrel; omega)), hF⟩)
  · refine sv_same (st2 := [sv_i 0]) (lv2 := [(0, sv_r a), (1, sv_i v1), (2, sv_i v2), (3, sv_i on)]) rfl rfl ?_
    refine sv_if_t C.1 C.2.1 (cnd := .eq) (off := 15) (tgt := 19) (by decide +kernel) (by decide) ⟨by omega, by omega⟩ (show 0 = 0 by omega) ?_
    refine sv_go C.1 C.2.1 [(.bipush (-2), 2)] (pc' := 21) (by decide +kernel) rfl (lv' := [(0, sv_r a), (1, sv_i v1), (2, sv_i v2), (3, sv_i on)]) (st' := [sv_i ((-2))]) rfl ?_
    exact sv_iret C hr (by decide +kernel) hok4 (⟨congrArg (fun q => [sv_i q]) (by first | omega | (unfold fx_quarrel; omega)), hF⟩)

theorem mn_X8_25 : Cond.methodLinkNest RX8 25 yX9_isCorner "SaintsRoad" ∈ sv_nest := sv_memN 889 (by decide +kernel) rfl
theorem co_X9_isCorner : Cond.code yX9_isCorner cX9_isCorner 1 (some .boolean) ∈ lw_good := sv_mem 880 (by decide +kernel) rfl
theorem st_X9_isCorner : Cond.static yX9_isCorner ∈ lw_good := sv_mem 879 (by decide +kernel) rfl
theorem fl_X8_17 : Cond.fieldLink RX8 17 "SaintsRoad$Town" "minutes" "[I" ∈ lw_good := sv_mem 393 (by decide +kernel) rfl
set_option maxHeartbeats 4000000 in
set_option maxRecDepth 100000 in
theorem ct_X8_minutesBetween (l : Launch) (g : sv_G) (A : Nat → Prop) (ty : Nat → Nat) (σ : Nat → Nat → Int) (hok : sv_ok ty σ) (hI : sv_inv sp_1 ty σ) (hZ : sv_inv sp_0 ty σ) (a : Nat) (k_a : ty a = 6) (v1 : Int) (hv1 : sv_in v1) (v2 : Int) (hv2 : sv_in v2) : sv_M l yX8_minutesBetween cX8_minutesBetween 3 (some .int) { frames := 1, cells := 0, slots := 0, locals := 20 } g A ty σ [sv_r a, sv_i v1, sv_i v2] (fun r σ' => σ = σ' ∧ r = [sv_i (0)]) := by
  refine sv_enter (by decide) (Nat.le_of_ble_eq_true rfl) ?_
  intro p e s m args below meth c C hr
  have C : sv_C g A RX8 cX8_minutesBetween 3 p s m args meth c := C
  have hr : meth.sig.returnType = (some .int) := hr
  refine sv_same (st2 := []) (lv2 := [(0, sv_r a), (1, sv_i v1), (2, sv_i v2)]) rfl rfl ?_
  refine sv_go C.1 C.2.1 [(.iload_n 1, 1)] (pc' := 1) (by decide +kernel) rfl (lv' := [(0, sv_r a), (1, sv_i v1), (2, sv_i v2)]) (st' := [sv_i v1]) rfl ?_
  refine sv_csN C (index := 25) (k := 1) (rest := []) (by decide +kernel) (ct_X9_isCorner l g A ty σ hok (v1) ⟨by omega, by omega⟩) ⟨co_X9_isCorner, in_X9, ⟨by decide, by decide, by decide +kernel⟩, Nat.le_of_ble_eq_true rfl, Nat.le_of_ble_eq_true rfl⟩ mn_X8_25 st_X9_isCorner rfl rfl (Nat.le_of_ble_eq_true rfl) ⟨Nat.zero_le _, Nat.zero_le _⟩ (fun r2 σ3 hpo1 hok4 => ?_)
  obtain ⟨rfl, ⟨h5, rfl⟩ | ⟨h5, rfl⟩⟩ := hpo1
  · refine sv_same (st2 := [sv_i 1]) (lv2 := [(0, sv_r a), (1, sv_i v1), (2, sv_i v2)]) rfl rfl ?_
    refine sv_if_f C.1 C.2.1 (cnd := .eq) (off := 24) (tgt := 28) (by decide +kernel) (by decide) ⟨by omega, by omega⟩ (show ¬ (1 = 0) by omega) ?_
    refine sv_go C.1 C.2.1 [(.iload_n 2, 1)] (pc' := 8) (by decide +kernel) rfl (lv' := [(0, sv_r a), (1, sv_i v1), (2, sv_i v2)]) (st' := [sv_i v2]) rfl ?_
    refine sv_csN C (index := 25) (k := 1) (rest := []) (by decide +kernel) (ct_X9_isCorner l g A ty σ hok4 (v2) ⟨by omega, by omega⟩) ⟨co_X9_isCorner, in_X9, ⟨by decide, by decide, by decide +kernel⟩, Nat.le_of_ble_eq_true rfl, Nat.le_of_ble_eq_true rfl⟩ mn_X8_25 st_X9_isCorner rfl rfl (Nat.le_of_ble_eq_true rfl) ⟨Nat.zero_le _, Nat.zero_le _⟩ (fun r7 σ8 hpo6 hok9 => ?_)
    obtain ⟨rfl, ⟨h10, rfl⟩ | ⟨h10, rfl⟩⟩ := hpo6
    · refine sv_same (st2 := [sv_i 1]) (lv2 := [(0, sv_r a), (1, sv_i v1), (2, sv_i v2)]) rfl rfl ?_
      refine sv_if_f C.1 C.2.1 (cnd := .eq) (off := 17) (tgt := 28) (by decide +kernel) (by decide) ⟨by omega, by omega⟩ (show ¬ (1 = 0) by omega) ?_
      refine sv_go C.1 C.2.1 [(.aload_n 0, 1)] (pc' := 15) (by decide +kernel) rfl (lv' := [(0, sv_r a), (1, sv_i v1), (2, sv_i v2)]) (st' := [sv_r a]) rfl ?_
      obtain ⟨q11, eq11, kq11⟩ := hI.ref (k := 2) k_a rfl
      refine sv_gf C (index := 17) (ci := 7) (k := 2) (r := (RX8, TX8, 4)) (v := sv_r q11) (by decide +kernel) (by rw [k_a]; rfl) rfl (by decide) fl_X8_17 (congrArg sv_a eq11) ?_
      refine sv_go C.1 C.2.1 [(.bipush 20, 2), (.iload_n 1, 1), (.imul, 1), (.iload_n 2, 1), (.iadd, 1)] (pc' := 24) (by decide +kernel) rfl (lv' := [(0, sv_r a), (1, sv_i v1), (2, sv_i v2)]) (st' := [sv_i ((20 * v1) + v2), sv_r q11]) rfl ?_
      refine sv_ia C (n := 400) (by decide +kernel) (by rw [kq11]; rfl) (by decide) (by omega) (by omega) ?_
      have w12 : σ q11 ((20 * v1) + v2).toNat = 0 := by have q := hZ.num (k := ((20 * v1) + v2 : Int).toNat) kq11 rfl; omega
      rw [w12]
      refine sv_goto C.1 C.2.1 (off := 4) (tgt := 29) (by decide +kernel) (by decide) ?_
      exact sv_iret C hr (by decide +kernel) hok9 (⟨rfl, rfl⟩)
    · refine sv_same (st2 := [sv_i 0]) (lv2 := [(0, sv_r a), (1, sv_i v1), (2, sv_i v2)]) rfl rfl ?_
      refine sv_if_t C.1 C.2.1 (cnd := .eq) (off := 17) (tgt := 28) (by decide +kernel) (by decide) ⟨by omega, by omega⟩ (show 0 = 0 by omega) ?_
      refine sv_go C.1 C.2.1 [(.iconst 0, 1)] (pc' := 29) (by decide +kernel) rfl (lv' := [(0, sv_r a), (1, sv_i v1), (2, sv_i v2)]) (st' := [sv_i 0]) rfl ?_
      exact sv_iret C hr (by decide +kernel) hok9 (⟨rfl, rfl⟩)
  · refine sv_same (st2 := [sv_i 0]) (lv2 := [(0, sv_r a), (1, sv_i v1), (2, sv_i v2)]) rfl rfl ?_
    refine sv_if_t C.1 C.2.1 (cnd := .eq) (off := 24) (tgt := 28) (by decide +kernel) (by decide) ⟨by omega, by omega⟩ (show 0 = 0 by omega) ?_
    refine sv_go C.1 C.2.1 [(.iconst 0, 1)] (pc' := 29) (by decide +kernel) rfl (lv' := [(0, sv_r a), (1, sv_i v1), (2, sv_i v2)]) (st' := [sv_i 0]) rfl ?_
    exact sv_iret C hr (by decide +kernel) hok4 (⟨rfl, rfl⟩)

theorem ml_X8_29 : Cond.methodLink RX8 29 yX8_minutesBetween ∈ lw_good := sv_mem 885 (by decide +kernel) rfl
theorem co_X8_minutesBetween : Cond.code yX8_minutesBetween cX8_minutesBetween 3 (some .int) ∈ lw_good := sv_mem 888 (by decide +kernel) rfl
theorem in_X8 : Cond.initialized RX8 ∈ lw_good := sv_mem 80 (by decide +kernel) rfl
theorem im_X8_minutesBetween : Cond.instanceMethod yX8_minutesBetween ∈ lw_good := sv_mem 886 (by decide +kernel) rfl
theorem se_X8_minutesBetween : Cond.selects RX8 yX8_minutesBetween yX8_minutesBetween ∈ lw_good := sv_mem 887 (by decide +kernel) rfl
theorem fl_X8_33 : Cond.fieldLink RX8 33 "SaintsRoad$Town" "streetCount" "I" ∈ lw_good := sv_mem 391 (by decide +kernel) rfl
theorem ml_X8_37 : Cond.methodLink RX8 37 yJ6_compare_7cf53 ∈ lw_good := sv_mem 890 (by decide +kernel) rfl
theorem co_J6_compare_7cf53 : Cond.code yJ6_compare_7cf53 cJ6_compare_7cf53 2 (some .int) ∈ lw_good := sv_mem 892 (by decide +kernel) rfl
theorem in_J6 : Cond.initialized RJ6 ∈ lw_good := sv_mem 92 (by decide +kernel) rfl
theorem st_J6_compare_7cf53 : Cond.static yJ6_compare_7cf53 ∈ lw_good := sv_mem 891 (by decide +kernel) rfl
set_option maxHeartbeats 4000000 in
set_option maxRecDepth 100000 in
theorem ct_X8_setStreet (l : Launch) (g : sv_G) (A : Nat → Prop) (ty : Nat → Nat) (σ : Nat → Nat → Int) (hok : sv_ok ty σ) (hTA : ∀ q, ty q ≠ 0 → A q) (hI : sv_inv sp_1 ty σ) (hZ : sv_inv sp_0 ty σ) (a : Nat) (k_a : ty a = 6) (v1 : Int) (hv1 : 0 ≤ v1 ∧ v1 ≤ 19) (v2 : Int) (hv2 : 0 ≤ v2 ∧ v2 ≤ 19) (v3 : Int) (hv3 : 0 ≤ v3 ∧ v3 ≤ 60) : sv_M l yX8_setStreet cX8_setStreet 5 (some .int) { frames := 2, cells := 0, slots := 0, locals := 42 } g A ty σ [sv_r a, sv_i v1, sv_i v2, sv_i v3] (fun r σ' => r = [sv_i 0] ∧ sv_inv sp_1 ty σ' ∧ sv_off [6, 38] ty σ σ') := by
  refine sv_enter (by decide) (Nat.le_of_ble_eq_true rfl) ?_
  intro p e s m args below meth c C hr
  have C : sv_C g A RX8 cX8_setStreet 5 p s m args meth c := C
  have hr : meth.sig.returnType = (some .int) := hr
  have hF : sv_off [6, 38] ty σ σ := sv_off.rf
  have hs0 : σ a 1 = 0 := by have q := hZ.num (k := 1) k_a rfl; omega
  refine sv_same (st2 := []) (lv2 := [(0, sv_r a), (1, sv_i v1), (2, sv_i v2), (3, sv_i v3)]) rfl rfl ?_
  refine sv_go C.1 C.2.1 [(.aload_n 0, 1), (.iload_n 1, 1), (.iload_n 2, 1)] (pc' := 3) (by decide +kernel) rfl (lv' := [(0, sv_r a), (1, sv_i v1), (2, sv_i v2), (3, sv_i v3)]) (st' := [sv_i v2, sv_i v1, sv_r a]) rfl ?_
  refine sv_cv C (index := 29) (k := 2) (rest := []) (ci := 7) (r := (RX8, TX8, 4)) (by decide +kernel) (ct_X8_minutesBetween l g A ty σ hok hI hZ a k_a (v1) ⟨by omega, by omega⟩ (v2) ⟨by omega, by omega⟩) ⟨co_X8_minutesBetween, in_X8, ⟨by decide, by decide, by decide +kernel⟩, Nat.le_of_ble_eq_true rfl, Nat.le_of_ble_eq_true rfl⟩ ml_X8_29 im_X8_minutesBetween se_X8_minutesBetween (by rw [k_a]; rfl) rfl rfl rfl (Nat.le_of_ble_eq_true rfl) ⟨Nat.zero_le _, Nat.zero_le _⟩ (fun r2 σ3 hpo1 hok4 => ?_)
  obtain ⟨rfl, rfl⟩ := hpo1
  refine sv_same (st2 := [sv_i 0]) (lv2 := [(0, sv_r a), (1, sv_i v1), (2, sv_i v2), (3, sv_i v3)]) rfl rfl ?_
  refine sv_go C.1 C.2.1 [(.istore 4, 2), (.aload_n 0, 1)] (pc' := 9) (by decide +kernel) rfl (lv' := [(0, sv_r a), (1, sv_i v1), (2, sv_i v2), (3, sv_i v3), (4, sv_i 0)]) (st' := [sv_r a]) rfl ?_
  obtain ⟨q5, eq5, kq5⟩ := hI.ref (k := 2) k_a rfl
  refine sv_gf C (index := 17) (ci := 7) (k := 2) (r := (RX8, TX8, 4)) (v := sv_r q5) (by decide +kernel) (by rw [k_a]; rfl) rfl (by decide) fl_X8_17 (congrArg sv_a eq5) ?_
  refine sv_go C.1 C.2.1 [(.bipush 20, 2), (.iload_n 1, 1), (.imul, 1), (.iload_n 2, 1), (.iadd, 1), (.iload_n 3, 1)] (pc' := 19) (by decide +kernel) rfl (lv' := [(0, sv_r a), (1, sv_i v1), (2, sv_i v2), (3, sv_i v3), (4, sv_i 0)]) (st' := [sv_i v3, sv_i ((20 * v1) + v2), sv_r q5]) rfl ?_
  refine sv_is C (n := 400) (by decide +kernel) (by rw [kq5]; rfl) (by decide) (by omega) (by omega) ⟨by omega, by omega⟩ (hTA _ (by rw [kq5]; decide)) hok4 (fun hok6 => ?_)
  have hI8 := hI.up (a := q5) (k := ((20 * v1) + v2 : Int).toNat) (z := v3) (by rw [kq5]; exact trivial)
  have hF9 := hF.up (a := q5) (k := ((20 * v1) + v2 : Int).toNat) (z := v3) (by rw [kq5]; decide)
  generalize eσ7 : sv_up σ q5 ((20 * v1) + v2 : Int).toNat v3 = σ7 at hok6 hI8 hF9 ⊢
  have t10 : σ7 a 1 = 0 := by rw [← eσ7, sv_up_a (sv_ne k_a kq5 (by decide))]; exact hs0
  have t11 : σ7 a 2 = (q5 : Int) + 1 := by rw [← eσ7, sv_up_a (sv_ne k_a kq5 (by decide))]; exact eq5
  refine sv_go C.1 C.2.1 [(.aload_n 0, 1)] (pc' := 21) (by decide +kernel) rfl (lv' := [(0, sv_r a), (1, sv_i v1), (2, sv_i v2), (3, sv_i v3), (4, sv_i 0)]) (st' := [sv_r a]) rfl ?_
  refine sv_gf C (index := 17) (ci := 7) (k := 2) (r := (RX8, TX8, 4)) (v := sv_r q5) (by decide +kernel) (by rw [k_a]; rfl) rfl (by decide) fl_X8_17 (congrArg sv_a t11) ?_
  refine sv_go C.1 C.2.1 [(.bipush 20, 2), (.iload_n 2, 1), (.imul, 1), (.iload_n 1, 1), (.iadd, 1), (.iload_n 3, 1)] (pc' := 31) (by decide +kernel) rfl (lv' := [(0, sv_r a), (1, sv_i v1), (2, sv_i v2), (3, sv_i v3), (4, sv_i 0)]) (st' := [sv_i v3, sv_i ((20 * v2) + v1), sv_r q5]) rfl ?_
  refine sv_is C (n := 400) (by decide +kernel) (by rw [kq5]; rfl) (by decide) (by omega) (by omega) ⟨by omega, by omega⟩ (hTA _ (by rw [kq5]; decide)) hok6 (fun hok12 => ?_)
  have hI14 := hI8.up (a := q5) (k := ((20 * v2) + v1 : Int).toNat) (z := v3) (by rw [kq5]; exact trivial)
  have hF15 := hF9.up (a := q5) (k := ((20 * v2) + v1 : Int).toNat) (z := v3) (by rw [kq5]; decide)
  generalize eσ13 : sv_up σ7 q5 ((20 * v2) + v1 : Int).toNat v3 = σ13 at hok12 hI14 hF15 ⊢
  have t16 : σ13 a 1 = 0 := by rw [← eσ13, sv_up_a (sv_ne k_a kq5 (by decide))]; exact t10
  have t17 : σ13 a 2 = (q5 : Int) + 1 := by rw [← eσ13, sv_up_a (sv_ne k_a kq5 (by decide))]; exact t11
  refine sv_go C.1 C.2.1 [(.aload_n 0, 1), (.dup, 1)] (pc' := 34) (by decide +kernel) rfl (lv' := [(0, sv_r a), (1, sv_i v1), (2, sv_i v2), (3, sv_i v3), (4, sv_i 0)]) (st' := [sv_r a, sv_r a]) rfl ?_
  refine sv_gf C (index := 33) (ci := 7) (k := 1) (r := (RX8, TX8, 4)) (v := sv_i 0) (by decide +kernel) (by rw [k_a]; rfl) rfl (by decide) fl_X8_33 (congrArg sv_i t16) ?_
  refine sv_go C.1 C.2.1 [(.iload_n 3, 1), (.iconst 0, 1)] (pc' := 39) (by decide +kernel) rfl (lv' := [(0, sv_r a), (1, sv_i v1), (2, sv_i v2), (3, sv_i v3), (4, sv_i 0)]) (st' := [sv_i 0, sv_i v3, sv_i 0, sv_r a]) rfl ?_
  refine sv_cs C (index := 37) (k := 2) (rest := [sv_i 0, sv_r a]) (by decide +kernel) (ct_J6_compare_7cf53 l g A ty σ13 hok12 (v3) ⟨by omega, by omega⟩ (0) ⟨by omega, by omega⟩) ⟨co_J6_compare_7cf53, in_J6, ⟨by decide, by decide, by decide +kernel⟩, Nat.le_of_ble_eq_true rfl, Nat.le_of_ble_eq_true rfl⟩ ml_X8_37 st_J6_compare_7cf53 rfl rfl (Nat.le_of_ble_eq_true rfl) ⟨Nat.zero_le _, Nat.zero_le _⟩ (fun r19 σ20 hpo18 hok21 => ?_)
  obtain ⟨rfl, rfl⟩ := hpo18
  have hn22 := fx_cmp_in v3 0
  refine sv_same (st2 := [sv_i (fx_cmp v3 0), sv_i 0, sv_r a]) (lv2 := [(0, sv_r a), (1, sv_i v1), (2, sv_i v2), (3, sv_i v3), (4, sv_i 0)]) rfl rfl ?_
  refine sv_go C.1 C.2.1 [(.iload 4, 2), (.iconst 0, 1)] (pc' := 45) (by decide +kernel) rfl (lv' := [(0, sv_r a), (1, sv_i v1), (2, sv_i v2), (3, sv_i v3), (4, sv_i 0)]) (st' := [sv_i 0, sv_i 0, sv_i (fx_cmp v3 0), sv_i 0, sv_r a]) rfl ?_
  refine sv_cs C (index := 37) (k := 2) (rest := [sv_i (fx_cmp v3 0), sv_i 0, sv_r a]) (by decide +kernel) (ct_J6_compare_7cf53 l g A ty σ13 hok21 (0) ⟨by omega, by omega⟩ (0) ⟨by omega, by omega⟩) ⟨co_J6_compare_7cf53, in_J6, ⟨by decide, by decide, by decide +kernel⟩, Nat.le_of_ble_eq_true rfl, Nat.le_of_ble_eq_true rfl⟩ ml_X8_37 st_J6_compare_7cf53 rfl rfl (Nat.le_of_ble_eq_true rfl) ⟨Nat.zero_le _, Nat.zero_le _⟩ (fun r24 σ25 hpo23 hok26 => ?_)
  obtain ⟨rfl, rfl⟩ := hpo23
  have hn27 := fx_cmp_in 0 0
  refine sv_same (st2 := [sv_i (fx_cmp 0 0), sv_i (fx_cmp v3 0), sv_i 0, sv_r a]) (lv2 := [(0, sv_r a), (1, sv_i v1), (2, sv_i v2), (3, sv_i v3), (4, sv_i 0)]) rfl rfl ?_
  refine sv_go C.1 C.2.1 [(.isub, 1), (.iadd, 1)] (pc' := 50) (by decide +kernel) rfl (lv' := [(0, sv_r a), (1, sv_i v1), (2, sv_i v2), (3, sv_i v3), (4, sv_i 0)]) (st' := [sv_i (0 + ((fx_cmp v3 0) - (fx_cmp 0 0))), sv_r a]) rfl ?_
  refine sv_pf C (index := 33) (ci := 7) (k := 1) (r := (RX8, TX8, 4)) (z := 0 + ((fx_cmp v3 0) - (fx_cmp 0 0))) (by decide +kernel) (by rw [k_a]; rfl) rfl (by decide) rfl fl_X8_33 rfl (Or.inl rfl) ⟨by omega, by omega⟩ (hTA _ (by rw [k_a]; decide)) hok26 (fun hok28 => ?_)
  have hI30 := hI14.up (a := a) (k := 1) (z := 0 + ((fx_cmp v3 0) - (fx_cmp 0 0))) (by rw [k_a]; exact trivial)
  have hF31 := hF15.up (a := a) (k := 1) (z := 0 + ((fx_cmp v3 0) - (fx_cmp 0 0))) (by rw [k_a]; decide)
  generalize eσ29 : sv_up σ13 a 1 (0 + ((fx_cmp v3 0) - (fx_cmp 0 0))) = σ29 at hok28 hI30 hF31 ⊢
  have t32 : σ29 a 2 = (q5 : Int) + 1 := by rw [← eσ29, sv_up_k (by decide)]; exact t17
  have t33 : σ29 a 1 = 0 + ((fx_cmp v3 0) - (fx_cmp 0 0)) := by rw [← eσ29]; exact sv_up_s _ _ _ _
  refine sv_go C.1 C.2.1 [(.iload 4, 2)] (pc' := 55) (by decide +kernel) rfl (lv' := [(0, sv_r a), (1, sv_i v1), (2, sv_i v2), (3, sv_i v3), (4, sv_i 0)]) (st' := [sv_i 0]) rfl ?_
  exact sv_iret C hr (by decide +kernel) hok28 (⟨rfl, hI30, hF31⟩)

theorem ml_X9_177 : Cond.methodLink RX9 177 yX9_isCorner ∈ lw_good := sv_mem 878 (by decide +kernel) rfl
theorem ml_X9_180 : Cond.methodLink RX9 180 yX8_setStreet ∈ lw_good := sv_mem 881 (by decide +kernel) rfl
theorem co_X8_setStreet : Cond.code yX8_setStreet cX8_setStreet 5 (some .int) ∈ lw_good := sv_mem 884 (by decide +kernel) rfl
theorem im_X8_setStreet : Cond.instanceMethod yX8_setStreet ∈ lw_good := sv_mem 882 (by decide +kernel) rfl
theorem se_X8_setStreet : Cond.selects RX8 yX8_setStreet yX8_setStreet ∈ lw_good := sv_mem 883 (by decide +kernel) rfl
set_option maxHeartbeats 4000000 in
set_option maxRecDepth 100000 in
theorem ct_X9_street (l : Launch) (g : sv_G) (A : Nat → Prop) (ty : Nat → Nat) (σ : Nat → Nat → Int) (hok : sv_ok ty σ) (hTA : ∀ q, ty q ≠ 0 → A q) (hI : sv_inv sp_1 ty σ) (hZ : sv_inv sp_0 ty σ) (a : Nat) (k_a : ty a = 1) (v1 : Int) (hv1 : sv_in v1) (v2 : Int) (hv2 : sv_in v2) (v3 : Int) (hv3 : sv_in v3) : sv_M l yX9_street cX9_street 4 (some .int) { frames := 3, cells := 0, slots := 0, locals := 66 } g A ty σ [sv_r a, sv_i v1, sv_i v2, sv_i v3] (fun r σ' => r = [sv_i (fx_street v1 v2 v3)] ∧ sv_off [6, 38] ty σ σ') := by
  refine sv_enter (by decide) (Nat.le_of_ble_eq_true rfl) ?_
  intro p e s m args below meth c C hr
  have C : sv_C g A RX9 cX9_street 4 p s m args meth c := C
  have hr : meth.sig.returnType = (some .int) := hr
  have hF : sv_off [6, 38] ty σ σ := sv_off.rf
  refine sv_same (st2 := []) (lv2 := [(0, sv_r a), (1, sv_i v1), (2, sv_i v2), (3, sv_i v3)]) rfl rfl ?_
  refine sv_go C.1 C.2.1 [(.iload_n 1, 1)] (pc' := 1) (by decide +kernel) rfl (lv' := [(0, sv_r a), (1, sv_i v1), (2, sv_i v2), (3, sv_i v3)]) (st' := [sv_i v1]) rfl ?_
  refine sv_cs C (index := 177) (k := 1) (rest := []) (by decide +kernel) (ct_X9_isCorner l g A ty σ hok (v1) ⟨by omega, by omega⟩) ⟨co_X9_isCorner, in_X9, ⟨by decide, by decide, by decide +kernel⟩, Nat.le_of_ble_eq_true rfl, Nat.le_of_ble_eq_true rfl⟩ ml_X9_177 st_X9_isCorner rfl rfl (Nat.le_of_ble_eq_true rfl) ⟨Nat.zero_le _, Nat.zero_le _⟩ (fun r2 σ3 hpo1 hok4 => ?_)
  obtain ⟨rfl, ⟨h5, rfl⟩ | ⟨h5, rfl⟩⟩ := hpo1
  · refine sv_same (st2 := [sv_i 1]) (lv2 := [(0, sv_r a), (1, sv_i v1), (2, sv_i v2), (3, sv_i v3)]) rfl rfl ?_
    refine sv_if_f C.1 C.2.1 (cnd := .eq) (off := 25) (tgt := 29) (by decide +kernel) (by decide) ⟨by omega, by omega⟩ (show ¬ (1 = 0) by omega) ?_
    refine sv_go C.1 C.2.1 [(.iload_n 2, 1)] (pc' := 8) (by decide +kernel) rfl (lv' := [(0, sv_r a), (1, sv_i v1), (2, sv_i v2), (3, sv_i v3)]) (st' := [sv_i v2]) rfl ?_
    refine sv_cs C (index := 177) (k := 1) (rest := []) (by decide +kernel) (ct_X9_isCorner l g A ty σ hok4 (v2) ⟨by omega, by omega⟩) ⟨co_X9_isCorner, in_X9, ⟨by decide, by decide, by decide +kernel⟩, Nat.le_of_ble_eq_true rfl, Nat.le_of_ble_eq_true rfl⟩ ml_X9_177 st_X9_isCorner rfl rfl (Nat.le_of_ble_eq_true rfl) ⟨Nat.zero_le _, Nat.zero_le _⟩ (fun r7 σ8 hpo6 hok9 => ?_)
    obtain ⟨rfl, ⟨h10, rfl⟩ | ⟨h10, rfl⟩⟩ := hpo6
    · refine sv_same (st2 := [sv_i 1]) (lv2 := [(0, sv_r a), (1, sv_i v1), (2, sv_i v2), (3, sv_i v3)]) rfl rfl ?_
      refine sv_if_f C.1 C.2.1 (cnd := .eq) (off := 18) (tgt := 29) (by decide +kernel) (by decide) ⟨by omega, by omega⟩ (show ¬ (1 = 0) by omega) ?_
      refine sv_go C.1 C.2.1 [(.iload_n 1, 1), (.iload_n 2, 1)] (pc' := 16) (by decide +kernel) rfl (lv' := [(0, sv_r a), (1, sv_i v1), (2, sv_i v2), (3, sv_i v3)]) (st' := [sv_i v2, sv_i v1]) rfl ?_
      refine sv_icmp C.1 C.2.1 (cnd := .eq) (off := 13) (tgt := 29) (by decide +kernel) (by decide) ⟨by omega, by omega⟩ ⟨by omega, by omega⟩ (fun (h11 : v1 = v2) => ?_) (fun (h11 : ¬ (v1 = v2)) => ?_)
      · refine sv_go C.1 C.2.1 [(.bipush (-2), 2)] (pc' := 31) (by decide +kernel) rfl (lv' := [(0, sv_r a), (1, sv_i v1), (2, sv_i v2), (3, sv_i v3)]) (st' := [sv_i ((-2))]) rfl ?_
        exact sv_iret C hr (by decide +kernel) hok9 (⟨congrArg (fun q => [sv_i q]) (by first | omega | (unfold fx_street; omega)), hF⟩)
      · refine sv_go C.1 C.2.1 [(.iload_n 3, 1)] (pc' := 20) (by decide +kernel) rfl (lv' := [(0, sv_r a), (1, sv_i v1), (2, sv_i v2), (3, sv_i v3)]) (st' := [sv_i v3]) rfl ?_
        refine sv_if C.1 C.2.1 (cnd := .lt) (off := 9) (tgt := 29) (by decide +kernel) (by decide) ⟨by omega, by omega⟩ (fun (h12 : v3 < 0) => ?_) (fun (h12 : ¬ (v3 < 0)) => ?_)
        · refine sv_go C.1 C.2.1 [(.bipush (-2), 2)] (pc' := 31) (by decide +kernel) rfl (lv' := [(0, sv_r a), (1, sv_i v1), (2, sv_i v2), (3, sv_i v3)]) (st' := [sv_i ((-2))]) rfl ?_
          exact sv_iret C hr (by decide +kernel) hok9 (⟨congrArg (fun q => [sv_i q]) (by first | omega | (unfold fx_street; omega)), hF⟩)
        · refine sv_go C.1 C.2.1 [(.iload_n 3, 1), (.bipush 60, 2)] (pc' := 26) (by decide +kernel) rfl (lv' := [(0, sv_r a), (1, sv_i v1), (2, sv_i v2), (3, sv_i v3)]) (st' := [sv_i 60, sv_i v3]) rfl ?_
          refine sv_icmp C.1 C.2.1 (cnd := .le) (off := 6) (tgt := 32) (by decide +kernel) (by decide) ⟨by omega, by omega⟩ ⟨by omega, by omega⟩ (fun (h13 : v3 ≤ 60) => ?_) (fun (h13 : ¬ (v3 ≤ 60)) => ?_)
          · refine sv_go C.1 C.2.1 [(.aload_n 0, 1)] (pc' := 33) (by decide +kernel) rfl (lv' := [(0, sv_r a), (1, sv_i v1), (2, sv_i v2), (3, sv_i v3)]) (st' := [sv_r a]) rfl ?_
            obtain ⟨q14, eq14, kq14⟩ := hI.ref (k := 4) k_a rfl
            refine sv_gf C (index := 40) (ci := 8) (k := 4) (r := (RX9, TX9, 6)) (v := sv_r q14) (by decide +kernel) (by rw [k_a]; rfl) rfl (by decide) fl_X9_40 (congrArg sv_a eq14) ?_
            refine sv_go C.1 C.2.1 [(.iload_n 1, 1), (.iload_n 2, 1), (.iload_n 3, 1)] (pc' := 39) (by decide +kernel) rfl (lv' := [(0, sv_r a), (1, sv_i v1), (2, sv_i v2), (3, sv_i v3)]) (st' := [sv_i v3, sv_i v2, sv_i v1, sv_r q14]) rfl ?_
            refine sv_cv C (index := 180) (k := 3) (rest := []) (ci := 7) (r := (RX8, TX8, 4)) (by decide +kernel) (ct_X8_setStreet l g A ty σ hok9 hTA hI hZ q14 kq14 (v1) ⟨by omega, by omega⟩ (v2) ⟨by omega, by omega⟩ (v3) ⟨by omega, by omega⟩) ⟨co_X8_setStreet, in_X8, ⟨by decide, by decide, by decide +kernel⟩, Nat.le_of_ble_eq_true rfl, Nat.le_of_ble_eq_true rfl⟩ ml_X9_180 im_X8_setStreet se_X8_setStreet (by rw [kq14]; rfl) rfl rfl rfl (Nat.le_of_ble_eq_true rfl) ⟨Nat.zero_le _, Nat.zero_le _⟩ (fun r16 σ17 hpo15 hok18 => ?_)
            obtain ⟨rfl, hIu19, hFu19⟩ := hpo15
            have hGu19 := hF.tr hFu19 (by decide)
            have t20 : σ17 a 4 = (q14 : Int) + 1 := (hFu19.at k_a (by decide)).trans eq14
            refine sv_same (st2 := [sv_i 0]) (lv2 := [(0, sv_r a), (1, sv_i v1), (2, sv_i v2), (3, sv_i v3)]) rfl rfl ?_
            exact sv_iret C hr (by decide +kernel) hok18 (⟨congrArg (fun q => [sv_i q]) (by first | omega | (unfold fx_street; omega)), hGu19⟩)
          · refine sv_go C.1 C.2.1 [(.bipush (-2), 2)] (pc' := 31) (by decide +kernel) rfl (lv' := [(0, sv_r a), (1, sv_i v1), (2, sv_i v2), (3, sv_i v3)]) (st' := [sv_i ((-2))]) rfl ?_
            exact sv_iret C hr (by decide +kernel) hok9 (⟨congrArg (fun q => [sv_i q]) (by first | omega | (unfold fx_street; omega)), hF⟩)
    · refine sv_same (st2 := [sv_i 0]) (lv2 := [(0, sv_r a), (1, sv_i v1), (2, sv_i v2), (3, sv_i v3)]) rfl rfl ?_
      refine sv_if_t C.1 C.2.1 (cnd := .eq) (off := 18) (tgt := 29) (by decide +kernel) (by decide) ⟨by omega, by omega⟩ (show 0 = 0 by omega) ?_
      refine sv_go C.1 C.2.1 [(.bipush (-2), 2)] (pc' := 31) (by decide +kernel) rfl (lv' := [(0, sv_r a), (1, sv_i v1), (2, sv_i v2), (3, sv_i v3)]) (st' := [sv_i ((-2))]) rfl ?_
      exact sv_iret C hr (by decide +kernel) hok9 (⟨congrArg (fun q => [sv_i q]) (by first | omega | (unfold fx_street; omega)), hF⟩)
  · refine sv_same (st2 := [sv_i 0]) (lv2 := [(0, sv_r a), (1, sv_i v1), (2, sv_i v2), (3, sv_i v3)]) rfl rfl ?_
    refine sv_if_t C.1 C.2.1 (cnd := .eq) (off := 25) (tgt := 29) (by decide +kernel) (by decide) ⟨by omega, by omega⟩ (show 0 = 0 by omega) ?_
    refine sv_go C.1 C.2.1 [(.bipush (-2), 2)] (pc' := 31) (by decide +kernel) rfl (lv' := [(0, sv_r a), (1, sv_i v1), (2, sv_i v2), (3, sv_i v3)]) (st' := [sv_i ((-2))]) rfl ?_
    exact sv_iret C hr (by decide +kernel) hok4 (⟨congrArg (fun q => [sv_i q]) (by first | omega | (unfold fx_street; omega)), hF⟩)

theorem fl_X5_18 : Cond.fieldLink RX5 18 "SaintsRoad$Procession" "size" "I" ∈ lw_good := sv_mem 370 (by decide +kernel) rfl
theorem fl_X5_9 : Cond.fieldLink RX5 9 "SaintsRoad$Procession" "corners" "[I" ∈ lw_good := sv_mem 375 (by decide +kernel) rfl
theorem fl_X5_15 : Cond.fieldLink RX5 15 "SaintsRoad$Procession" "reached" "[I" ∈ lw_good := sv_mem 376 (by decide +kernel) rfl
theorem fl_X5_22 : Cond.fieldLink RX5 22 "SaintsRoad$Procession" "beginning" "I" ∈ lw_good := sv_mem 373 (by decide +kernel) rfl
theorem fl_X5_25 : Cond.fieldLink RX5 25 "SaintsRoad$Procession" "tail" "I" ∈ lw_good := sv_mem 377 (by decide +kernel) rfl
set_option maxHeartbeats 4000000 in
set_option maxRecDepth 100000 in
theorem ct_X5_start (l : Launch) (g : sv_G) (A : Nat → Prop) (ty : Nat → Nat) (σ : Nat → Nat → Int) (hok : sv_ok ty σ) (hTA : ∀ q, ty q ≠ 0 → A q) (hI : sv_inv sp_1 ty σ) (hZ : sv_inv sp_0 ty σ) (a : Nat) (k_a : ty a = 9) (v1 : Int) (hv1 : 0 ≤ v1 ∧ v1 ≤ 19) (v2 : Int) (hv2 : 0 ≤ v2 ∧ v2 ≤ 1440) (v3 : Int) (hv3 : 0 ≤ v3 ∧ v3 ≤ 30) : sv_M l yX5_start cX5_start 4 none { frames := 0, cells := 0, slots := 0, locals := 0 } g A ty σ [sv_r a, sv_i v1, sv_i v2, sv_i v3] (fun r σ' => r = [] ∧ sv_inv sp_1 ty σ' ∧ sv_off [9, 40, 41] ty σ σ') := by
  refine sv_enter (by decide) (Nat.le_of_ble_eq_true rfl) ?_
  intro p e s m args below meth c C hr
  have C : sv_C g A RX5 cX5_start 4 p s m args meth c := C
  have hr : meth.sig.returnType = none := hr
  have hF : sv_off [9, 40, 41] ty σ σ := sv_off.rf
  refine sv_same (st2 := []) (lv2 := [(0, sv_r a), (1, sv_i v1), (2, sv_i v2), (3, sv_i v3)]) rfl rfl ?_
  refine sv_go C.1 C.2.1 [(.aload_n 0, 1), (.iconst 1, 1)] (pc' := 2) (by decide +kernel) rfl (lv' := [(0, sv_r a), (1, sv_i v1), (2, sv_i v2), (3, sv_i v3)]) (st' := [sv_i 1, sv_r a]) rfl ?_
  refine sv_pf C (index := 18) (ci := 4) (k := 0) (r := (RX5, TX5, 5)) (z := 1) (by decide +kernel) (by rw [k_a]; rfl) rfl (by decide) rfl fl_X5_18 rfl (Or.inl rfl) ⟨by omega, by omega⟩ (hTA _ (by rw [k_a]; decide)) hok (fun hok1 => ?_)
  have hI3 := hI.up (a := a) (k := 0) (z := 1) (by rw [k_a]; exact trivial)
  have hF4 := hF.up (a := a) (k := 0) (z := 1) (by rw [k_a]; decide)
  generalize eσ2 : sv_up σ a 0 1 = σ2 at hok1 hI3 hF4 ⊢
  have t5 : σ2 a 0 = 1 := by rw [← eσ2]; exact sv_up_s _ _ _ _
  refine sv_go C.1 C.2.1 [(.aload_n 0, 1)] (pc' := 6) (by decide +kernel) rfl (lv' := [(0, sv_r a), (1, sv_i v1), (2, sv_i v2), (3, sv_i v3)]) (st' := [sv_r a]) rfl ?_
  obtain ⟨q6, eq6, kq6⟩ := hI3.ref (k := 2) k_a rfl
  refine sv_gf C (index := 9) (ci := 4) (k := 2) (r := (RX5, TX5, 5)) (v := sv_r q6) (by decide +kernel) (by rw [k_a]; rfl) rfl (by decide) fl_X5_9 (congrArg sv_a eq6) ?_
  refine sv_go C.1 C.2.1 [(.iconst 0, 1), (.iload_n 1, 1)] (pc' := 11) (by decide +kernel) rfl (lv' := [(0, sv_r a), (1, sv_i v1), (2, sv_i v2), (3, sv_i v3)]) (st' := [sv_i v1, sv_i 0, sv_r q6]) rfl ?_
  refine sv_is C (n := 12) (by decide +kernel) (by rw [kq6]; rfl) (by decide) (by omega) (by omega) ⟨by omega, by omega⟩ (hTA _ (by rw [kq6]; decide)) hok1 (fun hok7 => ?_)
  have hI9 := hI3.up (a := q6) (k := (0 : Int).toNat) (z := v1) (by rw [kq6]; exact trivial)
  have hF10 := hF4.up (a := q6) (k := (0 : Int).toNat) (z := v1) (by rw [kq6]; decide)
  generalize eσ8 : sv_up σ2 q6 (0 : Int).toNat v1 = σ8 at hok7 hI9 hF10 ⊢
  have t11 : σ8 a 0 = 1 := by rw [← eσ8, sv_up_a (sv_ne k_a kq6 (by decide))]; exact t5
  have t12 : σ8 a 2 = (q6 : Int) + 1 := by rw [← eσ8, sv_up_a (sv_ne k_a kq6 (by decide))]; exact eq6
  refine sv_go C.1 C.2.1 [(.aload_n 0, 1)] (pc' := 13) (by decide +kernel) rfl (lv' := [(0, sv_r a), (1, sv_i v1), (2, sv_i v2), (3, sv_i v3)]) (st' := [sv_r a]) rfl ?_
  obtain ⟨q13, eq13, kq13⟩ := hI9.ref (k := 3) k_a rfl
  refine sv_gf C (index := 15) (ci := 4) (k := 3) (r := (RX5, TX5, 5)) (v := sv_r q13) (by decide +kernel) (by rw [k_a]; rfl) rfl (by decide) fl_X5_15 (congrArg sv_a eq13) ?_
  refine sv_go C.1 C.2.1 [(.iconst 0, 1), (.iconst 0, 1)] (pc' := 18) (by decide +kernel) rfl (lv' := [(0, sv_r a), (1, sv_i v1), (2, sv_i v2), (3, sv_i v3)]) (st' := [sv_i 0, sv_i 0, sv_r q13]) rfl ?_
  refine sv_is C (n := 12) (by decide +kernel) (by rw [kq13]; rfl) (by decide) (by omega) (by omega) ⟨by omega, by omega⟩ (hTA _ (by rw [kq13]; decide)) hok7 (fun hok14 => ?_)
  have hI16 := hI9.up (a := q13) (k := (0 : Int).toNat) (z := 0) (by rw [kq13]; exact trivial)
  have hF17 := hF10.up (a := q13) (k := (0 : Int).toNat) (z := 0) (by rw [kq13]; decide)
  generalize eσ15 : sv_up σ8 q13 (0 : Int).toNat 0 = σ15 at hok14 hI16 hF17 ⊢
  have t18 : σ15 a 0 = 1 := by rw [← eσ15, sv_up_a (sv_ne k_a kq13 (by decide))]; exact t11
  have t19 : σ15 a 2 = (q6 : Int) + 1 := by rw [← eσ15, sv_up_a (sv_ne k_a kq13 (by decide))]; exact t12
  have t20 : σ15 a 3 = (q13 : Int) + 1 := by rw [← eσ15, sv_up_a (sv_ne k_a kq13 (by decide))]; exact eq13
  refine sv_go C.1 C.2.1 [(.aload_n 0, 1), (.iload_n 2, 1)] (pc' := 21) (by decide +kernel) rfl (lv' := [(0, sv_r a), (1, sv_i v1), (2, sv_i v2), (3, sv_i v3)]) (st' := [sv_i v2, sv_r a]) rfl ?_
  refine sv_pf C (index := 22) (ci := 4) (k := 1) (r := (RX5, TX5, 5)) (z := v2) (by decide +kernel) (by rw [k_a]; rfl) rfl (by decide) rfl fl_X5_22 rfl (Or.inl rfl) ⟨by omega, by omega⟩ (hTA _ (by rw [k_a]; decide)) hok14 (fun hok21 => ?_)
  have hI23 := hI16.up (a := a) (k := 1) (z := v2) (by rw [k_a]; exact trivial)
  have hF24 := hF17.up (a := a) (k := 1) (z := v2) (by rw [k_a]; decide)
  generalize eσ22 : sv_up σ15 a 1 v2 = σ22 at hok21 hI23 hF24 ⊢
  have t25 : σ22 a 0 = 1 := by rw [← eσ22, sv_up_k (by decide)]; exact t18
  have t26 : σ22 a 2 = (q6 : Int) + 1 := by rw [← eσ22, sv_up_k (by decide)]; exact t19
  have t27 : σ22 a 3 = (q13 : Int) + 1 := by rw [← eσ22, sv_up_k (by decide)]; exact t20
  have t28 : σ22 a 1 = v2 := by rw [← eσ22]; exact sv_up_s _ _ _ _
  refine sv_go C.1 C.2.1 [(.aload_n 0, 1), (.iload_n 3, 1)] (pc' := 26) (by decide +kernel) rfl (lv' := [(0, sv_r a), (1, sv_i v1), (2, sv_i v2), (3, sv_i v3)]) (st' := [sv_i v3, sv_r a]) rfl ?_
  refine sv_pf C (index := 25) (ci := 4) (k := 4) (r := (RX5, TX5, 5)) (z := v3) (by decide +kernel) (by rw [k_a]; rfl) rfl (by decide) rfl fl_X5_25 rfl (Or.inl rfl) ⟨by omega, by omega⟩ (hTA _ (by rw [k_a]; decide)) hok21 (fun hok29 => ?_)
  have hI31 := hI23.up (a := a) (k := 4) (z := v3) (by rw [k_a]; exact trivial)
  have hF32 := hF24.up (a := a) (k := 4) (z := v3) (by rw [k_a]; decide)
  generalize eσ30 : sv_up σ22 a 4 v3 = σ30 at hok29 hI31 hF32 ⊢
  have t33 : σ30 a 0 = 1 := by rw [← eσ30, sv_up_k (by decide)]; exact t25
  have t34 : σ30 a 2 = (q6 : Int) + 1 := by rw [← eσ30, sv_up_k (by decide)]; exact t26
  have t35 : σ30 a 3 = (q13 : Int) + 1 := by rw [← eσ30, sv_up_k (by decide)]; exact t27
  have t36 : σ30 a 1 = v2 := by rw [← eσ30, sv_up_k (by decide)]; exact t28
  have t37 : σ30 a 4 = v3 := by rw [← eσ30]; exact sv_up_s _ _ _ _
  exact sv_vret C hr (by decide +kernel) hok29 (⟨rfl, hI31, hF32⟩)

theorem ml_X9_187 : Cond.methodLink RX9 187 yX9_isBeginning ∈ lw_good := sv_mem 900 (by decide +kernel) rfl
theorem co_X9_isBeginning : Cond.code yX9_isBeginning cX9_isBeginning 1 (some .boolean) ∈ lw_good := sv_mem 902 (by decide +kernel) rfl
theorem st_X9_isBeginning : Cond.static yX9_isBeginning ∈ lw_good := sv_mem 901 (by decide +kernel) rfl
theorem ml_X9_194 : Cond.methodLink RX9 194 yX5_start ∈ lw_good := sv_mem 903 (by decide +kernel) rfl
theorem co_X5_start : Cond.code yX5_start cX5_start 4 none ∈ lw_good := sv_mem 906 (by decide +kernel) rfl
theorem in_X5 : Cond.initialized RX5 ∈ lw_good := sv_mem 81 (by decide +kernel) rfl
theorem im_X5_start : Cond.instanceMethod yX5_start ∈ lw_good := sv_mem 904 (by decide +kernel) rfl
theorem se_X5_start : Cond.selects RX5 yX5_start yX5_start ∈ lw_good := sv_mem 905 (by decide +kernel) rfl
set_option maxHeartbeats 4000000 in
set_option maxRecDepth 100000 in
theorem ct_X9_begin (l : Launch) (g : sv_G) (A : Nat → Prop) (ty : Nat → Nat) (σ : Nat → Nat → Int) (hok : sv_ok ty σ) (hTA : ∀ q, ty q ≠ 0 → A q) (hI : sv_inv sp_1 ty σ) (hZ : sv_inv sp_0 ty σ) (a : Nat) (k_a : ty a = 1) (v1 : Int) (hv1 : sv_in v1) (v2 : Int) (hv2 : sv_in v2) (v3 : Int) (hv3 : sv_in v3) (v4 : Int) (hv4 : sv_in v4) : sv_M l yX9_begin cX9_begin 5 (some .int) { frames := 1, cells := 0, slots := 0, locals := 23 } g A ty σ [sv_r a, sv_i v1, sv_i v2, sv_i v3, sv_i v4] (fun r σ' => r = [sv_i (fx_begin v1 v2 v3 v4)] ∧ sv_off [9, 40, 41] ty σ σ') := by
  refine sv_enter (by decide) (Nat.le_of_ble_eq_true rfl) ?_
  intro p e s m args below meth c C hr
  have C : sv_C g A RX9 cX9_begin 5 p s m args meth c := C
  have hr : meth.sig.returnType = (some .int) := hr
  have hF : sv_off [9, 40, 41] ty σ σ := sv_off.rf
  refine sv_same (st2 := []) (lv2 := [(0, sv_r a), (1, sv_i v1), (2, sv_i v2), (3, sv_i v3), (4, sv_i v4)]) rfl rfl ?_
  refine sv_go C.1 C.2.1 [(.iload_n 1, 1)] (pc' := 1) (by decide +kernel) rfl (lv' := [(0, sv_r a), (1, sv_i v1), (2, sv_i v2), (3, sv_i v3), (4, sv_i v4)]) (st' := [sv_i v1]) rfl ?_
  refine sv_cs C (index := 184) (k := 1) (rest := []) (by decide +kernel) (ct_X9_isProcession l g A ty σ hok (v1) ⟨by omega, by omega⟩) ⟨co_X9_isProcession, in_X9, ⟨by decide, by decide, by decide +kernel⟩, Nat.le_of_ble_eq_true rfl, Nat.le_of_ble_eq_true rfl⟩ ml_X9_184 st_X9_isProcession rfl rfl (Nat.le_of_ble_eq_true rfl) ⟨Nat.zero_le _, Nat.zero_le _⟩ (fun r2 σ3 hpo1 hok4 => ?_)
  obtain ⟨rfl, ⟨h5, rfl⟩ | ⟨h5, rfl⟩⟩ := hpo1
  · refine sv_same (st2 := [sv_i 1]) (lv2 := [(0, sv_r a), (1, sv_i v1), (2, sv_i v2), (3, sv_i v3), (4, sv_i v4)]) rfl rfl ?_
    refine sv_if_f C.1 C.2.1 (cnd := .eq) (off := 17) (tgt := 21) (by decide +kernel) (by decide) ⟨by omega, by omega⟩ (show ¬ (1 = 0) by omega) ?_
    refine sv_go C.1 C.2.1 [(.iload_n 2, 1)] (pc' := 8) (by decide +kernel) rfl (lv' := [(0, sv_r a), (1, sv_i v1), (2, sv_i v2), (3, sv_i v3), (4, sv_i v4)]) (st' := [sv_i v2]) rfl ?_
    refine sv_cs C (index := 177) (k := 1) (rest := []) (by decide +kernel) (ct_X9_isCorner l g A ty σ hok4 (v2) ⟨by omega, by omega⟩) ⟨co_X9_isCorner, in_X9, ⟨by decide, by decide, by decide +kernel⟩, Nat.le_of_ble_eq_true rfl, Nat.le_of_ble_eq_true rfl⟩ ml_X9_177 st_X9_isCorner rfl rfl (Nat.le_of_ble_eq_true rfl) ⟨Nat.zero_le _, Nat.zero_le _⟩ (fun r7 σ8 hpo6 hok9 => ?_)
    obtain ⟨rfl, ⟨h10, rfl⟩ | ⟨h10, rfl⟩⟩ := hpo6
    · refine sv_same (st2 := [sv_i 1]) (lv2 := [(0, sv_r a), (1, sv_i v1), (2, sv_i v2), (3, sv_i v3), (4, sv_i v4)]) rfl rfl ?_
      refine sv_if_f C.1 C.2.1 (cnd := .eq) (off := 10) (tgt := 21) (by decide +kernel) (by decide) ⟨by omega, by omega⟩ (show ¬ (1 = 0) by omega) ?_
      refine sv_go C.1 C.2.1 [(.iload_n 3, 1)] (pc' := 15) (by decide +kernel) rfl (lv' := [(0, sv_r a), (1, sv_i v1), (2, sv_i v2), (3, sv_i v3), (4, sv_i v4)]) (st' := [sv_i v3]) rfl ?_
      refine sv_cs C (index := 187) (k := 1) (rest := []) (by decide +kernel) (ct_X9_isBeginning l g A ty σ hok9 (v3) ⟨by omega, by omega⟩) ⟨co_X9_isBeginning, in_X9, ⟨by decide, by decide, by decide +kernel⟩, Nat.le_of_ble_eq_true rfl, Nat.le_of_ble_eq_true rfl⟩ ml_X9_187 st_X9_isBeginning rfl rfl (Nat.le_of_ble_eq_true rfl) ⟨Nat.zero_le _, Nat.zero_le _⟩ (fun r12 σ13 hpo11 hok14 => ?_)
      obtain ⟨rfl, ⟨h15, rfl⟩ | ⟨h15, rfl⟩⟩ := hpo11
      · refine sv_same (st2 := [sv_i 1]) (lv2 := [(0, sv_r a), (1, sv_i v1), (2, sv_i v2), (3, sv_i v3), (4, sv_i v4)]) rfl rfl ?_
        refine sv_if_t C.1 C.2.1 (cnd := .ne) (off := 6) (tgt := 24) (by decide +kernel) (by decide) ⟨by omega, by omega⟩ (show 1 ≠ 0 by omega) ?_
        refine sv_go C.1 C.2.1 [(.iload 4, 2)] (pc' := 26) (by decide +kernel) rfl (lv' := [(0, sv_r a), (1, sv_i v1), (2, sv_i v2), (3, sv_i v3), (4, sv_i v4)]) (st' := [sv_i v4]) rfl ?_
        refine sv_if C.1 C.2.1 (cnd := .lt) (off := 10) (tgt := 36) (by decide +kernel) (by decide) ⟨by omega, by omega⟩ (fun (h16 : v4 < 0) => ?_) (fun (h16 : ¬ (v4 < 0)) => ?_)
        · refine sv_go C.1 C.2.1 [(.bipush (-2), 2)] (pc' := 38) (by decide +kernel) rfl (lv' := [(0, sv_r a), (1, sv_i v1), (2, sv_i v2), (3, sv_i v3), (4, sv_i v4)]) (st' := [sv_i ((-2))]) rfl ?_
          exact sv_iret C hr (by decide +kernel) hok14 (⟨congrArg (fun q => [sv_i q]) (by first | omega | (unfold fx_begin; omega)), hF⟩)
        · refine sv_go C.1 C.2.1 [(.iload 4, 2), (.bipush 30, 2)] (pc' := 33) (by decide +kernel) rfl (lv' := [(0, sv_r a), (1, sv_i v1), (2, sv_i v2), (3, sv_i v3), (4, sv_i v4)]) (st' := [sv_i 30, sv_i v4]) rfl ?_
          refine sv_icmp C.1 C.2.1 (cnd := .le) (off := 6) (tgt := 39) (by decide +kernel) (by decide) ⟨by omega, by omega⟩ ⟨by omega, by omega⟩ (fun (h17 : v4 ≤ 30) => ?_) (fun (h17 : ¬ (v4 ≤ 30)) => ?_)
          · refine sv_go C.1 C.2.1 [(.aload_n 0, 1)] (pc' := 40) (by decide +kernel) rfl (lv' := [(0, sv_r a), (1, sv_i v1), (2, sv_i v2), (3, sv_i v3), (4, sv_i v4)]) (st' := [sv_r a]) rfl ?_
            obtain ⟨q18, eq18, kq18⟩ := hI.ref (k := 4) k_a rfl
            refine sv_gf C (index := 40) (ci := 8) (k := 4) (r := (RX9, TX9, 6)) (v := sv_r q18) (by decide +kernel) (by rw [k_a]; rfl) rfl (by decide) fl_X9_40 (congrArg sv_a eq18) ?_
            obtain ⟨q19, eq19, kq19⟩ := hI.ref (k := 0) kq18 rfl
            refine sv_gf C (index := 190) (ci := 7) (k := 0) (r := (RX8, TX8, 4)) (v := sv_r q19) (by decide +kernel) (by rw [kq18]; rfl) rfl (by decide) fl_X9_190 (congrArg sv_a eq19) ?_
            refine sv_go C.1 C.2.1 [(.iload_n 1, 1)] (pc' := 47) (by decide +kernel) rfl (lv' := [(0, sv_r a), (1, sv_i v1), (2, sv_i v2), (3, sv_i v3), (4, sv_i v4)]) (st' := [sv_i v1, sv_r q19]) rfl ?_
            refine sv_aa C (N := "SaintsRoad$Procession") (by decide) (n := 12) (by decide +kernel) (by rw [kq19]; rfl) (by decide) (by omega) (by omega) ?_
            obtain ⟨q20, eq20, kq20⟩ := hI.ref (k := (v1 : Int).toNat) kq19 (by first | rfl | (show (if _ then _ else _) = _; rw [if_pos (by omega)]))
            rw [eq20]
            refine sv_go C.1 C.2.1 [(.iload_n 2, 1), (.iload_n 3, 1), (.iload 4, 2)] (pc' := 52) (by decide +kernel) rfl (lv' := [(0, sv_r a), (1, sv_i v1), (2, sv_i v2), (3, sv_i v3), (4, sv_i v4)]) (st' := [sv_i v4, sv_i v3, sv_i v2, sv_r q20]) rfl ?_
            refine sv_cv C (index := 194) (k := 3) (rest := []) (ci := 4) (r := (RX5, TX5, 5)) (by decide +kernel) (ct_X5_start l g A ty σ hok14 hTA hI hZ q20 kq20 (v2) ⟨by omega, by omega⟩ (v3) ⟨by omega, by omega⟩ (v4) ⟨by omega, by omega⟩) ⟨co_X5_start, in_X5, ⟨by decide, by decide, by decide +kernel⟩, Nat.le_of_ble_eq_true rfl, Nat.le_of_ble_eq_true rfl⟩ ml_X9_194 im_X5_start se_X5_start (by rw [kq20]; rfl) rfl rfl rfl (Nat.le_of_ble_eq_true rfl) ⟨Nat.zero_le _, Nat.zero_le _⟩ (fun r22 σ23 hpo21 hok24 => ?_)
            obtain ⟨rfl, hIu25, hFu25⟩ := hpo21
            have hGu25 := hF.tr hFu25 (by decide)
            have t26 : σ23 a 4 = (q18 : Int) + 1 := (hFu25.at k_a (by decide)).trans eq18
            have t27 : σ23 q18 0 = (q19 : Int) + 1 := (hFu25.at kq18 (by decide)).trans eq19
            have t28 : σ23 q19 (v1 : Int).toNat = (q20 : Int) + 1 := (hFu25.at kq19 (by decide)).trans eq20
            refine sv_same (st2 := []) (lv2 := [(0, sv_r a), (1, sv_i v1), (2, sv_i v2), (3, sv_i v3), (4, sv_i v4)]) rfl rfl ?_
            refine sv_go C.1 C.2.1 [(.iconst 1, 1)] (pc' := 56) (by decide +kernel) rfl (lv' := [(0, sv_r a), (1, sv_i v1), (2, sv_i v2), (3, sv_i v3), (4, sv_i v4)]) (st' := [sv_i 1]) rfl ?_
            exact sv_iret C hr (by decide +kernel) hok24 (⟨congrArg (fun q => [sv_i q]) (by first | omega | (unfold fx_begin; omega)), hGu25⟩)
          · refine sv_go C.1 C.2.1 [(.bipush (-2), 2)] (pc' := 38) (by decide +kernel) rfl (lv' := [(0, sv_r a), (1, sv_i v1), (2, sv_i v2), (3, sv_i v3), (4, sv_i v4)]) (st' := [sv_i ((-2))]) rfl ?_
            exact sv_iret C hr (by decide +kernel) hok14 (⟨congrArg (fun q => [sv_i q]) (by first | omega | (unfold fx_begin; omega)), hF⟩)
      · refine sv_same (st2 := [sv_i 0]) (lv2 := [(0, sv_r a), (1, sv_i v1), (2, sv_i v2), (3, sv_i v3), (4, sv_i v4)]) rfl rfl ?_
        refine sv_if_f C.1 C.2.1 (cnd := .ne) (off := 6) (tgt := 24) (by decide +kernel) (by decide) ⟨by omega, by omega⟩ (show ¬ (0 ≠ 0) by omega) ?_
        refine sv_go C.1 C.2.1 [(.bipush (-2), 2)] (pc' := 23) (by decide +kernel) rfl (lv' := [(0, sv_r a), (1, sv_i v1), (2, sv_i v2), (3, sv_i v3), (4, sv_i v4)]) (st' := [sv_i ((-2))]) rfl ?_
        exact sv_iret C hr (by decide +kernel) hok14 (⟨congrArg (fun q => [sv_i q]) (by first | omega | (unfold fx_begin; omega)), hF⟩)
    · refine sv_same (st2 := [sv_i 0]) (lv2 := [(0, sv_r a), (1, sv_i v1), (2, sv_i v2), (3, sv_i v3), (4, sv_i v4)]) rfl rfl ?_
      refine sv_if_t C.1 C.2.1 (cnd := .eq) (off := 10) (tgt := 21) (by decide +kernel) (by decide) ⟨by omega, by omega⟩ (show 0 = 0 by omega) ?_
      refine sv_go C.1 C.2.1 [(.bipush (-2), 2)] (pc' := 23) (by decide +kernel) rfl (lv' := [(0, sv_r a), (1, sv_i v1), (2, sv_i v2), (3, sv_i v3), (4, sv_i v4)]) (st' := [sv_i ((-2))]) rfl ?_
      exact sv_iret C hr (by decide +kernel) hok9 (⟨congrArg (fun q => [sv_i q]) (by first | omega | (unfold fx_begin; omega)), hF⟩)
  · refine sv_same (st2 := [sv_i 0]) (lv2 := [(0, sv_r a), (1, sv_i v1), (2, sv_i v2), (3, sv_i v3), (4, sv_i v4)]) rfl rfl ?_
    refine sv_if_t C.1 C.2.1 (cnd := .eq) (off := 17) (tgt := 21) (by decide +kernel) (by decide) ⟨by omega, by omega⟩ (show 0 = 0 by omega) ?_
    refine sv_go C.1 C.2.1 [(.bipush (-2), 2)] (pc' := 23) (by decide +kernel) rfl (lv' := [(0, sv_r a), (1, sv_i v1), (2, sv_i v2), (3, sv_i v3), (4, sv_i v4)]) (st' := [sv_i ((-2))]) rfl ?_
    exact sv_iret C hr (by decide +kernel) hok4 (⟨congrArg (fun q => [sv_i q]) (by first | omega | (unfold fx_begin; omega)), hF⟩)

theorem ml_X9_200 : Cond.methodLink RX9 200 yX9_isLong ∈ lw_good := sv_mem 911 (by decide +kernel) rfl
theorem co_X9_isLong : Cond.code yX9_isLong cX9_isLong 3 (some .boolean) ∈ lw_good := sv_mem 914 (by decide +kernel) rfl
theorem im_X9_isLong : Cond.instanceMethod yX9_isLong ∈ lw_good := sv_mem 913 (by decide +kernel) rfl
theorem se_X9_isLong : Cond.selects RX9 yX9_isLong yX9_isLong ∈ lw_good := sv_mem 35 (by decide +kernel) rfl
set_option maxHeartbeats 4000000 in
set_option maxRecDepth 100000 in
theorem ct_X9_goes (l : Launch) (g : sv_G) (A : Nat → Prop) (ty : Nat → Nat) (σ : Nat → Nat → Int) (hok : sv_ok ty σ) (hTA : ∀ q, ty q ≠ 0 → A q) (hI : sv_inv sp_1 ty σ) (hZ : sv_inv sp_0 ty σ) (a : Nat) (k_a : ty a = 1) (v1 : Int) (hv1 : sv_in v1) (v2 : Int) (hv2 : sv_in v2) : sv_M l yX9_goes cX9_goes 5 (some .int) { frames := 2, cells := 0, slots := 0, locals := 42 } g A ty σ [sv_r a, sv_i v1, sv_i v2] (fun r σ' => r = [sv_i (-2)] ∧ sv_off [] ty σ σ') := by
  refine sv_enter (by decide) (Nat.le_of_ble_eq_true rfl) ?_
  intro p e s m args below meth c C hr
  have C : sv_C g A RX9 cX9_goes 5 p s m args meth c := C
  have hr : meth.sig.returnType = (some .int) := hr
  have hF : sv_off [] ty σ σ := sv_off.rf
  refine sv_same (st2 := []) (lv2 := [(0, sv_r a), (1, sv_i v1), (2, sv_i v2)]) rfl rfl ?_
  refine sv_go C.1 C.2.1 [(.aload_n 0, 1), (.iload_n 1, 1), (.iconst 1, 1)] (pc' := 3) (by decide +kernel) rfl (lv' := [(0, sv_r a), (1, sv_i v1), (2, sv_i v2)]) (st' := [sv_i 1, sv_i v1, sv_r a]) rfl ?_
  refine sv_cv C (index := 200) (k := 2) (rest := []) (ci := 8) (r := (RX9, TX9, 6)) (by decide +kernel) (ct_X9_isLong l g A ty σ hok hI hZ a k_a (v1) ⟨by omega, by omega⟩ (1) ⟨by omega, by omega⟩) ⟨co_X9_isLong, in_X9, ⟨by decide, by decide, by decide +kernel⟩, Nat.le_of_ble_eq_true rfl, Nat.le_of_ble_eq_true rfl⟩ ml_X9_200 im_X9_isLong se_X9_isLong (by rw [k_a]; rfl) rfl rfl rfl (Nat.le_of_ble_eq_true rfl) ⟨Nat.zero_le _, Nat.zero_le _⟩ (fun r2 σ3 hpo1 hok4 => ?_)
  obtain ⟨rfl, hpo1⟩ := hpo1
  obtain rfl := sv_boF hpo1
  refine sv_same (st2 := [sv_i 0]) (lv2 := [(0, sv_r a), (1, sv_i v1), (2, sv_i v2)]) rfl rfl ?_
  refine sv_if_t C.1 C.2.1 (cnd := .eq) (off := 10) (tgt := 16) (by decide +kernel) (by decide) ⟨by omega, by omega⟩ (show 0 = 0 by omega) ?_
  refine sv_go C.1 C.2.1 [(.bipush (-2), 2)] (pc' := 18) (by decide +kernel) rfl (lv' := [(0, sv_r a), (1, sv_i v1), (2, sv_i v2)]) (st' := [sv_i ((-2))]) rfl ?_
  exact sv_iret C hr (by decide +kernel) hok4 (⟨congrArg (fun q => [sv_i q]) (by first | omega | (unfold x; omega)), hF⟩)

set_option maxHeartbeats 4000000 in
set_option maxRecDepth 100000 in
theorem ct_X9_late (l : Launch) (g : sv_G) (A : Nat → Prop) (ty : Nat → Nat) (σ : Nat → Nat → Int) (hok : sv_ok ty σ) (hTA : ∀ q, ty q ≠ 0 → A q) (hI : sv_inv sp_1 ty σ) (hZ : sv_inv sp_0 ty σ) (a : Nat) (k_a : ty a = 1) (v1 : Int) (hv1 : sv_in v1) (v2 : Int) (hv2 : sv_in v2) : sv_M l yX9_late cX9_late 4 (some .int) { frames := 2, cells := 0, slots := 0, locals := 42 } g A ty σ [sv_r a, sv_i v1, sv_i v2] (fun r σ' => r = [sv_i (-2)] ∧ sv_off [] ty σ σ') := by
  refine sv_enter (by decide) (Nat.le_of_ble_eq_true rfl) ?_
  intro p e s m args below meth c C hr
  have C : sv_C g A RX9 cX9_late 4 p s m args meth c := C
  have hr : meth.sig.returnType = (some .int) := hr
  have hF : sv_off [] ty σ σ := sv_off.rf
  refine sv_same (st2 := []) (lv2 := [(0, sv_r a), (1, sv_i v1), (2, sv_i v2)]) rfl rfl ?_
  refine sv_go C.1 C.2.1 [(.aload_n 0, 1), (.iload_n 1, 1), (.iconst 1, 1)] (pc' := 3) (by decide +kernel) rfl (lv' := [(0, sv_r a), (1, sv_i v1), (2, sv_i v2)]) (st' := [sv_i 1, sv_i v1, sv_r a]) rfl ?_
  refine sv_cv C (index := 200) (k := 2) (rest := []) (ci := 8) (r := (RX9, TX9, 6)) (by decide +kernel) (ct_X9_isLong l g A ty σ hok hI hZ a k_a (v1) ⟨by omega, by omega⟩ (1) ⟨by omega, by omega⟩) ⟨co_X9_isLong, in_X9, ⟨by decide, by decide, by decide +kernel⟩, Nat.le_of_ble_eq_true rfl, Nat.le_of_ble_eq_true rfl⟩ ml_X9_200 im_X9_isLong se_X9_isLong (by rw [k_a]; rfl) rfl rfl rfl (Nat.le_of_ble_eq_true rfl) ⟨Nat.zero_le _, Nat.zero_le _⟩ (fun r2 σ3 hpo1 hok4 => ?_)
  obtain ⟨rfl, hpo1⟩ := hpo1
  obtain rfl := sv_boF hpo1
  refine sv_same (st2 := [sv_i 0]) (lv2 := [(0, sv_r a), (1, sv_i v1), (2, sv_i v2)]) rfl rfl ?_
  refine sv_if_t C.1 C.2.1 (cnd := .eq) (off := 15) (tgt := 21) (by decide +kernel) (by decide) ⟨by omega, by omega⟩ (show 0 = 0 by omega) ?_
  refine sv_go C.1 C.2.1 [(.bipush (-2), 2)] (pc' := 23) (by decide +kernel) rfl (lv' := [(0, sv_r a), (1, sv_i v1), (2, sv_i v2)]) (st' := [sv_i ((-2))]) rfl ?_
  exact sv_iret C hr (by decide +kernel) hok4 (⟨congrArg (fun q => [sv_i q]) (by first | omega | (unfold x; omega)), hF⟩)

set_option maxHeartbeats 4000000 in
set_option maxRecDepth 100000 in
theorem ct_X9_procession (l : Launch) (g : sv_G) (A : Nat → Prop) (ty : Nat → Nat) (σ : Nat → Nat → Int) (hok : sv_ok ty σ) (hTA : ∀ q, ty q ≠ 0 → A q) (hI : sv_inv sp_1 ty σ) (hZ : sv_inv sp_0 ty σ) (a : Nat) (k_a : ty a = 1) (v1 : Int) (hv1 : sv_in v1) (v2 : Int) (hv2 : sv_in v2) : sv_M l yX9_procession cX9_procession 3 (some .int) { frames := 2, cells := 0, slots := 0, locals := 42 } g A ty σ [sv_r a, sv_i v1, sv_i v2] (fun r σ' => r = [sv_i (-1)] ∧ sv_off [] ty σ σ') := by
  refine sv_enter (by decide) (Nat.le_of_ble_eq_true rfl) ?_
  intro p e s m args below meth c C hr
  have C : sv_C g A RX9 cX9_procession 3 p s m args meth c := C
  have hr : meth.sig.returnType = (some .int) := hr
  have hF : sv_off [] ty σ σ := sv_off.rf
  refine sv_same (st2 := []) (lv2 := [(0, sv_r a), (1, sv_i v1), (2, sv_i v2)]) rfl rfl ?_
  refine sv_go C.1 C.2.1 [(.aload_n 0, 1), (.iload_n 1, 1), (.iconst 1, 1)] (pc' := 3) (by decide +kernel) rfl (lv' := [(0, sv_r a), (1, sv_i v1), (2, sv_i v2)]) (st' := [sv_i 1, sv_i v1, sv_r a]) rfl ?_
  refine sv_cv C (index := 200) (k := 2) (rest := []) (ci := 8) (r := (RX9, TX9, 6)) (by decide +kernel) (ct_X9_isLong l g A ty σ hok hI hZ a k_a (v1) ⟨by omega, by omega⟩ (1) ⟨by omega, by omega⟩) ⟨co_X9_isLong, in_X9, ⟨by decide, by decide, by decide +kernel⟩, Nat.le_of_ble_eq_true rfl, Nat.le_of_ble_eq_true rfl⟩ ml_X9_200 im_X9_isLong se_X9_isLong (by rw [k_a]; rfl) rfl rfl rfl (Nat.le_of_ble_eq_true rfl) ⟨Nat.zero_le _, Nat.zero_le _⟩ (fun r2 σ3 hpo1 hok4 => ?_)
  obtain ⟨rfl, hpo1⟩ := hpo1
  obtain rfl := sv_boF hpo1
  refine sv_same (st2 := [sv_i 0]) (lv2 := [(0, sv_r a), (1, sv_i v1), (2, sv_i v2)]) rfl rfl ?_
  refine sv_if_t C.1 C.2.1 (cnd := .eq) (off := 19) (tgt := 25) (by decide +kernel) (by decide) ⟨by omega, by omega⟩ (show 0 = 0 by omega) ?_
  refine sv_go C.1 C.2.1 [(.iconst (-1), 1)] (pc' := 26) (by decide +kernel) rfl (lv' := [(0, sv_r a), (1, sv_i v1), (2, sv_i v2)]) (st' := [sv_i ((-1))]) rfl ?_
  exact sv_iret C hr (by decide +kernel) hok4 (⟨congrArg (fun q => [sv_i q]) (by first | omega | (unfold x; omega)), hF⟩)

set_option maxHeartbeats 4000000 in
set_option maxRecDepth 100000 in
theorem ct_X9_timed (l : Launch) (g : sv_G) (A : Nat → Prop) (ty : Nat → Nat) (σ : Nat → Nat → Int) (hok : sv_ok ty σ) (hTA : ∀ q, ty q ≠ 0 → A q) (hI : sv_inv sp_1 ty σ) (hZ : sv_inv sp_0 ty σ) (a : Nat) (k_a : ty a = 1) (v1 : Int) (hv1 : sv_in v1) (v2 : Int) (hv2 : sv_in v2) : sv_M l yX9_timed cX9_timed 3 (some .int) { frames := 2, cells := 0, slots := 0, locals := 42 } g A ty σ [sv_r a, sv_i v1, sv_i v2] (fun r σ' => r = [sv_i (-2)] ∧ sv_off [] ty σ σ') := by
  refine sv_enter (by decide) (Nat.le_of_ble_eq_true rfl) ?_
  intro p e s m args below meth c C hr
  have C : sv_C g A RX9 cX9_timed 3 p s m args meth c := C
  have hr : meth.sig.returnType = (some .int) := hr
  have hF : sv_off [] ty σ σ := sv_off.rf
  refine sv_same (st2 := []) (lv2 := [(0, sv_r a), (1, sv_i v1), (2, sv_i v2)]) rfl rfl ?_
  refine sv_go C.1 C.2.1 [(.aload_n 0, 1), (.iload_n 1, 1), (.iconst 2, 1)] (pc' := 3) (by decide +kernel) rfl (lv' := [(0, sv_r a), (1, sv_i v1), (2, sv_i v2)]) (st' := [sv_i 2, sv_i v1, sv_r a]) rfl ?_
  refine sv_cv C (index := 200) (k := 2) (rest := []) (ci := 8) (r := (RX9, TX9, 6)) (by decide +kernel) (ct_X9_isLong l g A ty σ hok hI hZ a k_a (v1) ⟨by omega, by omega⟩ (2) ⟨by omega, by omega⟩) ⟨co_X9_isLong, in_X9, ⟨by decide, by decide, by decide +kernel⟩, Nat.le_of_ble_eq_true rfl, Nat.le_of_ble_eq_true rfl⟩ ml_X9_200 im_X9_isLong se_X9_isLong (by rw [k_a]; rfl) rfl rfl rfl (Nat.le_of_ble_eq_true rfl) ⟨Nat.zero_le _, Nat.zero_le _⟩ (fun r2 σ3 hpo1 hok4 => ?_)
  obtain ⟨rfl, hpo1⟩ := hpo1
  obtain rfl := sv_boF hpo1
  refine sv_same (st2 := [sv_i 0]) (lv2 := [(0, sv_r a), (1, sv_i v1), (2, sv_i v2)]) rfl rfl ?_
  refine sv_if_t C.1 C.2.1 (cnd := .eq) (off := 10) (tgt := 16) (by decide +kernel) (by decide) ⟨by omega, by omega⟩ (show 0 = 0 by omega) ?_
  refine sv_go C.1 C.2.1 [(.bipush (-2), 2)] (pc' := 18) (by decide +kernel) rfl (lv' := [(0, sv_r a), (1, sv_i v1), (2, sv_i v2)]) (st' := [sv_i ((-2))]) rfl ?_
  exact sv_iret C hr (by decide +kernel) hok4 (⟨congrArg (fun q => [sv_i q]) (by first | omega | (unfold x; omega)), hF⟩)

set_option maxHeartbeats 4000000 in
set_option maxRecDepth 100000 in
theorem ct_X9_meeting (l : Launch) (g : sv_G) (A : Nat → Prop) (ty : Nat → Nat) (σ : Nat → Nat → Int) (hok : sv_ok ty σ) (hI : sv_inv sp_1 ty σ) (hZ : sv_inv sp_0 ty σ) (a : Nat) (k_a : ty a = 1) (v1 : Int) (hv1 : sv_in v1) (v2 : Int) (hv2 : sv_in v2) : sv_M l yX9_meeting cX9_meeting 3 (some .int) { frames := 2, cells := 0, slots := 0, locals := 42 } g A ty σ [sv_r a, sv_i v1, sv_i v2] (fun r σ' => σ = σ' ∧ r = [sv_i (-2)]) := by
  refine sv_enter (by decide) (Nat.le_of_ble_eq_true rfl) ?_
  intro p e s m args below meth c C hr
  have C : sv_C g A RX9 cX9_meeting 3 p s m args meth c := C
  have hr : meth.sig.returnType = (some .int) := hr
  refine sv_same (st2 := []) (lv2 := [(0, sv_r a), (1, sv_i v1), (2, sv_i v2)]) rfl rfl ?_
  refine sv_go C.1 C.2.1 [(.aload_n 0, 1), (.iload_n 1, 1), (.iconst 2, 1)] (pc' := 3) (by decide +kernel) rfl (lv' := [(0, sv_r a), (1, sv_i v1), (2, sv_i v2)]) (st' := [sv_i 2, sv_i v1, sv_r a]) rfl ?_
  refine sv_cv C (index := 200) (k := 2) (rest := []) (ci := 8) (r := (RX9, TX9, 6)) (by decide +kernel) (ct_X9_isLong l g A ty σ hok hI hZ a k_a (v1) ⟨by omega, by omega⟩ (2) ⟨by omega, by omega⟩) ⟨co_X9_isLong, in_X9, ⟨by decide, by decide, by decide +kernel⟩, Nat.le_of_ble_eq_true rfl, Nat.le_of_ble_eq_true rfl⟩ ml_X9_200 im_X9_isLong se_X9_isLong (by rw [k_a]; rfl) rfl rfl rfl (Nat.le_of_ble_eq_true rfl) ⟨Nat.zero_le _, Nat.zero_le _⟩ (fun r2 σ3 hpo1 hok4 => ?_)
  obtain ⟨rfl, hpo1⟩ := hpo1
  obtain rfl := sv_boF hpo1
  refine sv_same (st2 := [sv_i 0]) (lv2 := [(0, sv_r a), (1, sv_i v1), (2, sv_i v2)]) rfl rfl ?_
  refine sv_if_t C.1 C.2.1 (cnd := .eq) (off := 17) (tgt := 23) (by decide +kernel) (by decide) ⟨by omega, by omega⟩ (show 0 = 0 by omega) ?_
  refine sv_go C.1 C.2.1 [(.bipush (-2), 2)] (pc' := 25) (by decide +kernel) rfl (lv' := [(0, sv_r a), (1, sv_i v1), (2, sv_i v2)]) (st' := [sv_i ((-2))]) rfl ?_
  exact sv_iret C hr (by decide +kernel) hok4 (⟨rfl, rfl⟩)

theorem ml_X9_218 : Cond.methodLink RX9 218 yX9_meeting ∈ lw_good := sv_mem 952 (by decide +kernel) rfl
theorem co_X9_meeting : Cond.code yX9_meeting cX9_meeting 3 (some .int) ∈ lw_good := sv_mem 955 (by decide +kernel) rfl
theorem im_X9_meeting : Cond.instanceMethod yX9_meeting ∈ lw_good := sv_mem 953 (by decide +kernel) rfl
theorem se_X9_meeting : Cond.selects RX9 yX9_meeting yX9_meeting ∈ lw_good := sv_mem 954 (by decide +kernel) rfl
set_option maxHeartbeats 4000000 in
set_option maxRecDepth 100000 in
theorem ct_X9_meets (l : Launch) (g : sv_G) (A : Nat → Prop) (ty : Nat → Nat) (σ : Nat → Nat → Int) (hok : sv_ok ty σ) (hI : sv_inv sp_1 ty σ) (hZ : sv_inv sp_0 ty σ) (a : Nat) (k_a : ty a = 1) : sv_M l yX9_meets cX9_meets 3 (some .int) { frames := 3, cells := 0, slots := 0, locals := 64 } g A ty σ [sv_r a] (fun r σ' => σ = σ' ∧ r = [sv_i (-1)]) := by
  refine sv_enter (by decide) (Nat.le_of_ble_eq_true rfl) ?_
  intro p e s m args below meth c C hr
  have C : sv_C g A RX9 cX9_meets 3 p s m args meth c := C
  have hr : meth.sig.returnType = (some .int) := hr
  refine sv_same (st2 := []) (lv2 := [(0, sv_r a)]) rfl rfl ?_
  refine sv_go C.1 C.2.1 [(.iconst 0, 1), (.istore_n 1, 1)] (pc' := 2) (by decide +kernel) rfl (lv' := [(0, sv_r a), (1, sv_i 0)]) (st' := []) rfl ?_
  have L1 : ∀ (n : Nat) (X : Int) , (0 ≤ X ∧ X ≤ 12) → (12 - X) < (n : Int) → sv_E p l e { frames := 3, cells := 0, slots := 0, locals := 64 } s m args below meth c 3 g A ty (fun r σ' => σ = σ' ∧ r = [sv_i (-1)]) σ 2 [(0, sv_r a), (1, sv_i X)] [] := by
    intro n
    induction n with
    | zero => intro X  hX hmu; exact absurd hmu (by omega)
    | succ n ih2 =>
      intro X  hX hmu
      refine sv_go C.1 C.2.1 [(.iload_n 1, 1), (.bipush 12, 2)] (pc' := 5) (by decide +kernel) rfl (lv' := [(0, sv_r a), (1, sv_i X)]) (st' := [sv_i 12, sv_i X]) rfl ?_
      refine sv_icmp C.1 C.2.1 (cnd := .ge) (off := 41) (tgt := 46) (by decide +kernel) (by decide) ⟨by omega, by omega⟩ ⟨by omega, by omega⟩ (fun (h3 : 12 ≤ X) => ?_) (fun (h3 : ¬ (12 ≤ X)) => ?_)
      · refine sv_go C.1 C.2.1 [(.iconst (-1), 1)] (pc' := 47) (by decide +kernel) rfl (lv' := [(0, sv_r a), (1, sv_i X)]) (st' := [sv_i ((-1))]) rfl ?_
        exact sv_iret C hr (by decide +kernel) hok (⟨rfl, rfl⟩)
      · refine sv_go C.1 C.2.1 [(.iload_n 1, 1), (.iconst 1, 1), (.iadd, 1), (.istore_n 2, 1)] (pc' := 12) (by decide +kernel) rfl (lv' := [(0, sv_r a), (1, sv_i X), (2, sv_i (X + 1))]) (st' := []) rfl ?_
        have L4 : ∀ (n : Nat) (Y : Int) , (0 ≤ Y ∧ Y ≤ 12) → (12 - Y) < (n : Int) → sv_E p l e { frames := 3, cells := 0, slots := 0, locals := 64 } s m args below meth c 3 g A ty (fun r σ' => σ = σ' ∧ r = [sv_i (-1)]) σ 12 [(0, sv_r a), (1, sv_i X), (2, sv_i Y)] [] := by
          intro n
          induction n with
          | zero => intro Y  hY hmu; exact absurd hmu (by omega)
          | succ n ih5 =>
            intro Y  hY hmu
            refine sv_go C.1 C.2.1 [(.iload_n 2, 1), (.bipush 12, 2)] (pc' := 15) (by decide +kernel) rfl (lv' := [(0, sv_r a), (1, sv_i X), (2, sv_i Y)]) (st' := [sv_i 12, sv_i Y]) rfl ?_
            refine sv_icmp C.1 C.2.1 (cnd := .ge) (off := 25) (tgt := 40) (by decide +kernel) (by decide) ⟨by omega, by omega⟩ ⟨by omega, by omega⟩ (fun (h6 : 12 ≤ Y) => ?_) (fun (h6 : ¬ (12 ≤ Y)) => ?_)
            · refine sv_go C.1 C.2.1 [(.iinc 1 1, 3)] (pc' := 43) (by decide +kernel) rfl (lv' := [(0, sv_r a), (1, sv_i (X + 1)), (2, sv_i Y)]) (st' := []) rfl ?_
              refine sv_goto C.1 C.2.1 (off := (-41)) (tgt := 2) (by decide +kernel) (by decide) ?_
              refine sv_pick [0, 1] (lv2 := [(0, sv_r a), (1, sv_i (X + 1))]) rfl ?_
              exact ih2 (X + 1)  (by omega) (by omega)
            · refine sv_go C.1 C.2.1 [(.aload_n 0, 1), (.iload_n 1, 1), (.iload_n 2, 1)] (pc' := 21) (by decide +kernel) rfl (lv' := [(0, sv_r a), (1, sv_i X), (2, sv_i Y)]) (st' := [sv_i Y, sv_i X, sv_r a]) rfl ?_
              refine sv_cv C (index := 218) (k := 2) (rest := []) (ci := 8) (r := (RX9, TX9, 6)) (by decide +kernel) (ct_X9_meeting l g A ty σ hok hI hZ a k_a (X) ⟨by omega, by omega⟩ (Y) ⟨by omega, by omega⟩) ⟨co_X9_meeting, in_X9, ⟨by decide, by decide, by decide +kernel⟩, Nat.le_of_ble_eq_true rfl, Nat.le_of_ble_eq_true rfl⟩ ml_X9_218 im_X9_meeting se_X9_meeting (by rw [k_a]; rfl) rfl rfl rfl (Nat.le_of_ble_eq_true rfl) ⟨Nat.zero_le _, Nat.zero_le _⟩ (fun r8 σ9 hpo7 hok10 => ?_)
              obtain ⟨rfl, rfl⟩ := hpo7
              refine sv_same (st2 := [sv_i ((-2))]) (lv2 := [(0, sv_r a), (1, sv_i X), (2, sv_i Y)]) rfl rfl ?_
              refine sv_if_t C.1 C.2.1 (cnd := .lt) (off := 10) (tgt := 34) (by decide +kernel) (by decide) ⟨by omega, by omega⟩ (show ((-2)) < 0 by omega) ?_
              refine sv_go C.1 C.2.1 [(.iinc 2 1, 3)] (pc' := 37) (by decide +kernel) rfl (lv' := [(0, sv_r a), (1, sv_i X), (2, sv_i (Y + 1))]) (st' := []) rfl ?_
              refine sv_goto C.1 C.2.1 (off := (-25)) (tgt := 12) (by decide +kernel) (by decide) ?_
              exact ih5 (Y + 1)  (by omega) (by omega)
        exact L4 (((12 - (X + 1) : Int)).toNat + 1) (X + 1)  (by omega) (by omega)
  exact L1 (((12 - 0 : Int)).toNat + 1) 0  (by omega) (by omega)

theorem fl_X8_11 : Cond.fieldLink RX8 11 "SaintsRoad$Town" "processions" "[LSaintsRoad$Procession;" ∈ lw_good := sv_mem 389 (by decide +kernel) rfl
theorem fl_X8_42 : Cond.fieldLink RX8 42 "SaintsRoad$Procession" "size" "I" ∈ lw_good := sv_mem 371 (by decide +kernel) rfl
set_option maxHeartbeats 4000000 in
set_option maxRecDepth 100000 in
theorem ct_X8_begunCount (l : Launch) (g : sv_G) (A : Nat → Prop) (ty : Nat → Nat) (σ : Nat → Nat → Int) (hok : sv_ok ty σ) (hI : sv_inv sp_1 ty σ) (hZ : sv_inv sp_0 ty σ) (a : Nat) (k_a : ty a = 6) : sv_M l yX8_begunCount cX8_begunCount 3 (some .int) { frames := 0, cells := 0, slots := 0, locals := 0 } g A ty σ [sv_r a] (fun r σ' => σ = σ' ∧ r = [sv_i (0)]) := by
  refine sv_enter (by decide) (Nat.le_of_ble_eq_true rfl) ?_
  intro p e s m args below meth c C hr
  have C : sv_C g A RX8 cX8_begunCount 3 p s m args meth c := C
  have hr : meth.sig.returnType = (some .int) := hr
  refine sv_same (st2 := []) (lv2 := [(0, sv_r a)]) rfl rfl ?_
  refine sv_go C.1 C.2.1 [(.iconst 0, 1), (.istore_n 1, 1), (.iconst 0, 1), (.istore_n 2, 1)] (pc' := 4) (by decide +kernel) rfl (lv' := [(0, sv_r a), (1, sv_i 0), (2, sv_i 0)]) (st' := []) rfl ?_
  have L1 : ∀ (n : Nat) (X : Int) , (0 ≤ X ∧ X ≤ 12) → (12 - X) < (n : Int) → sv_E p l e { frames := 0, cells := 0, slots := 0, locals := 0 } s m args below meth c 3 g A ty (fun r σ' => σ = σ' ∧ r = [sv_i (0)]) σ 4 [(0, sv_r a), (1, sv_i 0), (2, sv_i X)] [] := by
    intro n
    induction n with
    | zero => intro X  hX hmu; exact absurd hmu (by omega)
    | succ n ih2 =>
      intro X  hX hmu
      refine sv_go C.1 C.2.1 [(.iload_n 2, 1), (.bipush 12, 2)] (pc' := 7) (by decide +kernel) rfl (lv' := [(0, sv_r a), (1, sv_i 0), (2, sv_i X)]) (st' := [sv_i 12, sv_i X]) rfl ?_
      refine sv_icmp C.1 C.2.1 (cnd := .ge) (off := 24) (tgt := 31) (by decide +kernel) (by decide) ⟨by omega, by omega⟩ ⟨by omega, by omega⟩ (fun (h3 : 12 ≤ X) => ?_) (fun (h3 : ¬ (12 ≤ X)) => ?_)
      · refine sv_go C.1 C.2.1 [(.iload_n 1, 1)] (pc' := 32) (by decide +kernel) rfl (lv' := [(0, sv_r a), (1, sv_i 0), (2, sv_i X)]) (st' := [sv_i 0]) rfl ?_
        exact sv_iret C hr (by decide +kernel) hok (⟨rfl, rfl⟩)
      · refine sv_go C.1 C.2.1 [(.aload_n 0, 1)] (pc' := 11) (by decide +kernel) rfl (lv' := [(0, sv_r a), (1, sv_i 0), (2, sv_i X)]) (st' := [sv_r a]) rfl ?_
        obtain ⟨q4, eq4, kq4⟩ := hI.ref (k := 0) k_a rfl
        refine sv_gf C (index := 11) (ci := 7) (k := 0) (r := (RX8, TX8, 4)) (v := sv_r q4) (by decide +kernel) (by rw [k_a]; rfl) rfl (by decide) fl_X8_11 (congrArg sv_a eq4) ?_
        refine sv_go C.1 C.2.1 [(.iload_n 2, 1)] (pc' := 15) (by decide +kernel) rfl (lv' := [(0, sv_r a), (1, sv_i 0), (2, sv_i X)]) (st' := [sv_i X, sv_r q4]) rfl ?_
        refine sv_aa C (N := "SaintsRoad$Procession") (by decide) (n := 12) (by decide +kernel) (by rw [kq4]; rfl) (by decide) (by omega) (by omega) ?_
        obtain ⟨q5, eq5, kq5⟩ := hI.ref (k := (X : Int).toNat) kq4 (by first | rfl | (show (if _ then _ else _) = _; rw [if_pos (by omega)]))
        rw [eq5]
        have t6 : σ q5 0 = 0 := by have q := hZ.num (k := 0) kq5 rfl; omega
        refine sv_gf C (index := 42) (ci := 4) (k := 0) (r := (RX5, TX5, 5)) (v := sv_i 0) (by decide +kernel) (by rw [kq5]; rfl) rfl (by decide) fl_X8_42 (congrArg sv_i t6) ?_
        refine sv_if_t C.1 C.2.1 (cnd := .le) (off := 6) (tgt := 25) (by decide +kernel) (by decide) ⟨by omega, by omega⟩ (show 0 ≤ 0 by omega) ?_
        refine sv_go C.1 C.2.1 [(.iinc 2 1, 3)] (pc' := 28) (by decide +kernel) rfl (lv' := [(0, sv_r a), (1, sv_i 0), (2, sv_i (X + 1))]) (st' := []) rfl ?_
        refine sv_goto C.1 C.2.1 (off := (-24)) (tgt := 4) (by decide +kernel) (by decide) ?_
        exact ih2 (X + 1)  (by omega) (by omega)
  exact L1 (((12 - 0 : Int)).toNat + 1) 0  (by omega) (by omega)

theorem fl_X9_228 : Cond.fieldLink RX9 228 "SaintsRoad$Town" "streetCount" "I" ∈ lw_good := sv_mem 392 (by decide +kernel) rfl
theorem fl_X9_231 : Cond.fieldLink RX9 231 "SaintsRoad$Brotherhoods" "quarrelCount" "I" ∈ lw_good := sv_mem 320 (by decide +kernel) rfl
theorem ml_X9_234 : Cond.methodLink RX9 234 yX8_begunCount ∈ lw_good := sv_mem 995 (by decide +kernel) rfl
theorem co_X8_begunCount : Cond.code yX8_begunCount cX8_begunCount 3 (some .int) ∈ lw_good := sv_mem 998 (by decide +kernel) rfl
theorem im_X8_begunCount : Cond.instanceMethod yX8_begunCount ∈ lw_good := sv_mem 996 (by decide +kernel) rfl
theorem se_X8_begunCount : Cond.selects RX8 yX8_begunCount yX8_begunCount ∈ lw_good := sv_mem 997 (by decide +kernel) rfl
set_option maxHeartbeats 4000000 in
set_option maxRecDepth 100000 in
theorem ct_X9_count (l : Launch) (g : sv_G) (A : Nat → Prop) (ty : Nat → Nat) (σ : Nat → Nat → Int) (hok : sv_ok ty σ) (hTA : ∀ q, ty q ≠ 0 → A q) (hI : sv_inv sp_1 ty σ) (hZ : sv_inv sp_0 ty σ) (a : Nat) (k_a : ty a = 1) (w1 : Int) (hw1 : sv_in w1) : sv_M l yX9_count cX9_count 2 (some .int) { frames := 1, cells := 0, slots := 0, locals := 22 } g A ty σ [sv_r a, sv_i w1] (fun r σ' => r = [sv_i (fx_count w1)] ∧ sv_off [] ty σ σ') := by
  refine sv_enter (by decide) (Nat.le_of_ble_eq_true rfl) ?_
  intro p e s m args below meth c C hr
  have C : sv_C g A RX9 cX9_count 2 p s m args meth c := C
  have hr : meth.sig.returnType = (some .int) := hr
  have hF : sv_off [] ty σ σ := sv_off.rf
  refine sv_same (st2 := []) (lv2 := [(0, sv_r a), (1, sv_i w1)]) rfl rfl ?_
  refine sv_go C.1 C.2.1 [(.iload_n 1, 1)] (pc' := 1) (by decide +kernel) rfl (lv' := [(0, sv_r a), (1, sv_i w1)]) (st' := [sv_i w1]) rfl ?_
  rcases (show w1 = 0 ∨ w1 = 1 ∨ w1 = 2 ∨ w1 = 3 ∨ (w1 ≠ 0 ∧ w1 ≠ 1 ∧ w1 ≠ 2 ∧ w1 ≠ 3) by omega) with h1 | h1 | h1 | h1 | h1
  · refine sv_tsI C.1 C.2.1 (dflt := 63) (lo := 0) (hi := 3) (offs := #[31, 39, 47, 55]) (len := 31) (off := 31) (tgt := 32) (by decide +kernel) 0 h1 (by decide) rfl (by decide) ?_
    refine sv_go C.1 C.2.1 [(.aload_n 0, 1)] (pc' := 33) (by decide +kernel) rfl (lv' := [(0, sv_r a), (1, sv_i w1)]) (st' := [sv_r a]) rfl ?_
    obtain ⟨q2, eq2, kq2⟩ := hI.ref (k := 0) k_a rfl
    refine sv_gf C (index := 10) (ci := 8) (k := 0) (r := (RX9, TX9, 6)) (v := sv_r q2) (by decide +kernel) (by rw [k_a]; rfl) rfl (by decide) fl_X9_10 (congrArg sv_a eq2) ?_
    have t3 : σ q2 1 = 0 := by have q := hZ.num (k := 1) kq2 rfl; omega
    refine sv_gf C (index := 51) (ci := 6) (k := 1) (r := (RX7, TX7, 2)) (v := sv_i 0) (by decide +kernel) (by rw [kq2]; rfl) rfl (by decide) fl_X9_51 (congrArg sv_i t3) ?_
    exact sv_iret C hr (by decide +kernel) hok (⟨congrArg (fun q => [sv_i q]) (by first | omega | (unfold fx_count; omega)), hF⟩)
  · refine sv_tsI C.1 C.2.1 (dflt := 63) (lo := 0) (hi := 3) (offs := #[31, 39, 47, 55]) (len := 31) (off := 39) (tgt := 40) (by decide +kernel) 1 h1 (by decide) rfl (by decide) ?_
    refine sv_go C.1 C.2.1 [(.aload_n 0, 1)] (pc' := 41) (by decide +kernel) rfl (lv' := [(0, sv_r a), (1, sv_i w1)]) (st' := [sv_r a]) rfl ?_
    obtain ⟨q4, eq4, kq4⟩ := hI.ref (k := 4) k_a rfl
    refine sv_gf C (index := 40) (ci := 8) (k := 4) (r := (RX9, TX9, 6)) (v := sv_r q4) (by decide +kernel) (by rw [k_a]; rfl) rfl (by decide) fl_X9_40 (congrArg sv_a eq4) ?_
    have t5 : σ q4 1 = 0 := by have q := hZ.num (k := 1) kq4 rfl; omega
    refine sv_gf C (index := 228) (ci := 7) (k := 1) (r := (RX8, TX8, 4)) (v := sv_i 0) (by decide +kernel) (by rw [kq4]; rfl) rfl (by decide) fl_X9_228 (congrArg sv_i t5) ?_
    exact sv_iret C hr (by decide +kernel) hok (⟨congrArg (fun q => [sv_i q]) (by first | omega | (unfold fx_count; omega)), hF⟩)
  · refine sv_tsI C.1 C.2.1 (dflt := 63) (lo := 0) (hi := 3) (offs := #[31, 39, 47, 55]) (len := 31) (off := 47) (tgt := 48) (by decide +kernel) 2 h1 (by decide) rfl (by decide) ?_
    refine sv_go C.1 C.2.1 [(.aload_n 0, 1)] (pc' := 49) (by decide +kernel) rfl (lv' := [(0, sv_r a), (1, sv_i w1)]) (st' := [sv_r a]) rfl ?_
    obtain ⟨q6, eq6, kq6⟩ := hI.ref (k := 3) k_a rfl
    refine sv_gf C (index := 33) (ci := 8) (k := 3) (r := (RX9, TX9, 6)) (v := sv_r q6) (by decide +kernel) (by rw [k_a]; rfl) rfl (by decide) fl_X9_33 (congrArg sv_a eq6) ?_
    have t7 : σ q6 1 = 0 := by have q := hZ.num (k := 1) kq6 rfl; omega
    refine sv_gf C (index := 231) (ci := 0) (k := 1) (r := (RX0, TX0, 12)) (v := sv_i 0) (by decide +kernel) (by rw [kq6]; rfl) rfl (by decide) fl_X9_231 (congrArg sv_i t7) ?_
    exact sv_iret C hr (by decide +kernel) hok (⟨congrArg (fun q => [sv_i q]) (by first | omega | (unfold fx_count; omega)), hF⟩)
  · refine sv_tsI C.1 C.2.1 (dflt := 63) (lo := 0) (hi := 3) (offs := #[31, 39, 47, 55]) (len := 31) (off := 55) (tgt := 56) (by decide +kernel) 3 h1 (by decide) rfl (by decide) ?_
    refine sv_go C.1 C.2.1 [(.aload_n 0, 1)] (pc' := 57) (by decide +kernel) rfl (lv' := [(0, sv_r a), (1, sv_i w1)]) (st' := [sv_r a]) rfl ?_
    obtain ⟨q8, eq8, kq8⟩ := hI.ref (k := 4) k_a rfl
    refine sv_gf C (index := 40) (ci := 8) (k := 4) (r := (RX9, TX9, 6)) (v := sv_r q8) (by decide +kernel) (by rw [k_a]; rfl) rfl (by decide) fl_X9_40 (congrArg sv_a eq8) ?_
    refine sv_cv C (index := 234) (k := 0) (rest := []) (ci := 7) (r := (RX8, TX8, 4)) (by decide +kernel) (ct_X8_begunCount l g A ty σ hok hI hZ q8 kq8 ) ⟨co_X8_begunCount, in_X8, ⟨by decide, by decide, by decide +kernel⟩, Nat.le_of_ble_eq_true rfl, Nat.le_of_ble_eq_true rfl⟩ ml_X9_234 im_X8_begunCount se_X8_begunCount (by rw [kq8]; rfl) rfl rfl rfl (Nat.le_of_ble_eq_true rfl) ⟨Nat.zero_le _, Nat.zero_le _⟩ (fun r10 σ11 hpo9 hok12 => ?_)
    obtain ⟨rfl, rfl⟩ := hpo9
    refine sv_same (st2 := [sv_i 0]) (lv2 := [(0, sv_r a), (1, sv_i w1)]) rfl rfl ?_
    exact sv_iret C hr (by decide +kernel) hok12 (⟨congrArg (fun q => [sv_i q]) (by first | omega | (unfold fx_count; omega)), hF⟩)
  · refine sv_tsO C.1 C.2.1 (dflt := 63) (lo := 0) (hi := 3) (offs := #[31, 39, 47, 55]) (len := 31) (tgt := 64) (by decide +kernel) ⟨by omega, by omega⟩ (by omega) (by decide) ?_
    refine sv_go C.1 C.2.1 [(.iload_n 1, 1), (.bipush 10, 2)] (pc' := 67) (by decide +kernel) rfl (lv' := [(0, sv_r a), (1, sv_i w1)]) (st' := [sv_i 10, sv_i w1]) rfl ?_
    refine sv_icmp C.1 C.2.1 (cnd := .lt) (off := 31) (tgt := 98) (by decide +kernel) (by decide) ⟨by omega, by omega⟩ ⟨by omega, by omega⟩ (fun (h13 : w1 < 10) => ?_) (fun (h13 : ¬ (w1 < 10)) => ?_)
    · refine sv_go C.1 C.2.1 [(.iconst (-1), 1)] (pc' := 99) (by decide +kernel) rfl (lv' := [(0, sv_r a), (1, sv_i w1)]) (st' := [sv_i ((-1))]) rfl ?_
      exact sv_iret C hr (by decide +kernel) hok (⟨congrArg (fun q => [sv_i q]) (by first | omega | (unfold fx_count; omega)), hF⟩)
    · refine sv_go C.1 C.2.1 [(.iload_n 1, 1), (.bipush 10, 2), (.isub, 1)] (pc' := 74) (by decide +kernel) rfl (lv' := [(0, sv_r a), (1, sv_i w1)]) (st' := [sv_i (w1 - 10)]) rfl ?_
      refine sv_cs C (index := 59) (k := 1) (rest := []) (by decide +kernel) (ct_X9_isPlace l g A ty σ hok (w1 - 10) ⟨by omega, by omega⟩) ⟨co_X9_isPlace, in_X9, ⟨by decide, by decide, by decide +kernel⟩, Nat.le_of_ble_eq_true rfl, Nat.le_of_ble_eq_true rfl⟩ ml_X9_59 st_X9_isPlace rfl rfl (Nat.le_of_ble_eq_true rfl) ⟨Nat.zero_le _, Nat.zero_le _⟩ (fun r15 σ16 hpo14 hok17 => ?_)
      obtain ⟨rfl, ⟨h18, rfl⟩ | ⟨h18, rfl⟩⟩ := hpo14
      · refine sv_same (st2 := [sv_i 1]) (lv2 := [(0, sv_r a), (1, sv_i w1)]) rfl rfl ?_
        refine sv_if_f C.1 C.2.1 (cnd := .eq) (off := 21) (tgt := 98) (by decide +kernel) (by decide) ⟨by omega, by omega⟩ (show ¬ (1 = 0) by omega) ?_
        refine sv_go C.1 C.2.1 [(.aload_n 0, 1)] (pc' := 81) (by decide +kernel) rfl (lv' := [(0, sv_r a), (1, sv_i w1)]) (st' := [sv_r a]) rfl ?_
        obtain ⟨q19, eq19, kq19⟩ := hI.ref (k := 2) k_a rfl
        refine sv_gf C (index := 25) (ci := 8) (k := 2) (r := (RX9, TX9, 6)) (v := sv_r q19) (by decide +kernel) (by rw [k_a]; rfl) rfl (by decide) fl_X9_25 (congrArg sv_a eq19) ?_
        refine sv_go C.1 C.2.1 [(.iload_n 1, 1), (.bipush 10, 2), (.isub, 1)] (pc' := 88) (by decide +kernel) rfl (lv' := [(0, sv_r a), (1, sv_i w1)]) (st' := [sv_i (w1 - 10), sv_r q19]) rfl ?_
        refine sv_aa C (N := "SaintsRoad$Place") (by decide) (n := 4) (by decide +kernel) (by rw [kq19]; rfl) (by decide) (by omega) (by omega) ?_
        obtain ⟨q20, eq20, kq20⟩ := hI.ref (k := (w1 - 10 : Int).toNat) kq19 (by first | rfl | (show (if _ then _ else _) = _; rw [if_pos (by omega)]))
        rw [eq20]
        obtain ⟨q21, eq21, kq21⟩ := hI.ref (k := 2) kq20 rfl
        refine sv_gf C (index := 71) (ci := 3) (k := 2) (r := (RX4, TX4, 11)) (v := sv_r q21) (by decide +kernel) (by rw [kq20]; rfl) rfl (by decide) fl_X9_71 (congrArg sv_a eq21) ?_
        have t22 : σ q21 2 = 0 := by have q := hI.num (k := 2) kq21 rfl; omega
        refine sv_gf C (index := 74) (ci := 1) (k := 2) (r := (RX1, TX1, 6)) (v := sv_i 0) (by decide +kernel) (by rw [kq21]; rfl) rfl (by decide) fl_X9_74 (congrArg sv_i t22) ?_
        refine sv_goto C.1 C.2.1 (off := 4) (tgt := 99) (by decide +kernel) (by decide) ?_
        exact sv_iret C hr (by decide +kernel) hok17 (⟨congrArg (fun q => [sv_i q]) (by first | omega | (unfold fx_count; omega)), hF⟩)
      · refine sv_same (st2 := [sv_i 0]) (lv2 := [(0, sv_r a), (1, sv_i w1)]) rfl rfl ?_
        refine sv_if_t C.1 C.2.1 (cnd := .eq) (off := 21) (tgt := 98) (by decide +kernel) (by decide) ⟨by omega, by omega⟩ (show 0 = 0 by omega) ?_
        refine sv_go C.1 C.2.1 [(.iconst (-1), 1)] (pc' := 99) (by decide +kernel) rfl (lv' := [(0, sv_r a), (1, sv_i w1)]) (st' := [sv_i ((-1))]) rfl ?_
        exact sv_iret C hr (by decide +kernel) hok17 (⟨congrArg (fun q => [sv_i q]) (by first | omega | (unfold fx_count; omega)), hF⟩)
end
section
/-! a place that is settled for a year, with an empty calendar -/
def pl_st (σ : Nat → Nat → Int) (q : Nat) (y : Int) : Prop := σ q 10 = y ∧ σ q 8 = dy_ea y ∧ ∀ h : Nat, σ q 1 = (h : Int) + 1 → ∀ i : Nat, i < 366 → σ h i = -1
def pl_X (ty : Nat → Nat) (σ σ' : Nat → Nat → Int) : Prop := ∀ h, ty h = 25 → (∀ i : Nat, i < 366 → σ h i = -1) → ∀ i : Nat, i < 366 → σ' h i = -1
def pl_Y (ty : Nat → Nat) (σ σ' : Nat → Nat → Int) (a : Nat) : Prop := ∀ b, b ≠ a → ty b = 4 → ∀ k, σ' b k = σ b k
theorem pl_X.rf {ty : Nat → Nat} {σ : Nat → Nat → Int} : pl_X ty σ σ := fun _ _ h => h
theorem pl_Y.rf {ty : Nat → Nat} {σ : Nat → Nat → Int} {a : Nat} : pl_Y ty σ σ a := fun _ _ _ _ => rfl
theorem pl_X.up {ty : Nat → Nat} {σ0 σ : Nat → Nat → Int} {a k : Nat} {z : Int} (h : pl_X ty σ0 σ) (ka : ty a = 4) : pl_X ty σ0 (sv_up σ a k z) := fun b kb e i hi => by
  rw [sv_up_a (sv_ne kb ka (by decide))]; exact h b kb e i hi
theorem pl_Y.up {ty : Nat → Nat} {σ0 σ : Nat → Nat → Int} {a k : Nat} {z : Int} (h : pl_Y ty σ0 σ a) : pl_Y ty σ0 (sv_up σ a k z) a := fun b hb kb j => by
  rw [sv_up_a hb]; exact h b hb kb j
theorem pl_X.fill {ty : Nat → Nat} {σ0 σ σ' : Nat → Nat → Int} {q : Nat} (h : pl_X ty σ0 σ) (hO : ∀ a, a ≠ q → ∀ k, σ' a k = σ a k) (hE : ∀ i : Nat, i < 366 → σ' q i = -1) : pl_X ty σ0 σ' := fun b kb e i hi => by
  by_cases hb : b = q
  · rw [hb]; exact hE i hi
  · rw [hO b hb]; exact h b kb e i hi
theorem pl_Y.fill {ty : Nat → Nat} {σ0 σ σ' : Nat → Nat → Int} {a q : Nat} (h : pl_Y ty σ0 σ a) (hO : ∀ a, a ≠ q → ∀ k, σ' a k = σ a k) (kq : ty q = 25) : pl_Y ty σ0 σ' a := fun b hb kb j => by
  rw [hO b (sv_ne kb kq (by decide))]; exact h b hb kb j
theorem sv_fill_inv {sp : sv_Sp} {ty : Nat → Nat} {σ σ' : Nat → Nat → Int} {q K : Nat} (hI : sv_inv sp ty σ) (hO : ∀ a, a ≠ q → ∀ k, σ' a k = σ a k) (kq : ty q = K) (hs : ∀ k, sp K k = none) : sv_inv sp ty σ' := fun b j => by
  by_cases hb : b = q
  · rw [hb, kq, hs]; trivial
  · rw [hO b hb]; exact hI b j
theorem sv_fill_off {L : List Nat} {ty : Nat → Nat} {σ0 σ σ' : Nat → Nat → Int} {q K : Nat} (hF : sv_off L ty σ0 σ) (hO : ∀ a, a ≠ q → ∀ k, σ' a k = σ a k) (kq : ty q = K) (hs : K ∈ L) : sv_off L ty σ0 σ' := fun b j hb => by
  rw [hO b (fun e => hb (by rw [e, kq]; exact hs))]; exact hF b j hb
theorem pl_keep {ty : Nat → Nat} {σ1 σ2 : Nat → Nat → Int} {a b : Nat} {y : Int} (h1 : pl_st σ1 a y) (ka : ty a = 4) (hI : sv_inv sp_1 ty σ1) (h2 : pl_st σ2 b y) (hX : pl_X ty σ1 σ2) (hY : pl_Y ty σ1 σ2 b) : pl_st σ2 a y := by
  by_cases e : a = b
  · rw [e]; exact h2
  · refine ⟨by rw [hY a e ka]; exact h1.1, by rw [hY a e ka]; exact h1.2.1, fun h hh i hi => ?_⟩
    rw [hY a e ka] at hh
    obtain ⟨q, eq, kq⟩ := hI.ref (k := 1) ka rfl
    have : h = q := by omega
    subst this
    exact hX h kq (h1.2.2 h hh) i hi
def pl_0 (ty : Nat → Nat) (σ : Nat → Nat → Int) (a : Nat) : Prop := σ a 10 = 0 ∨ pl_st σ a (σ a 10)
def fx_of (y d : Int) : Int := if dy_wd y d = 0 then -11 else -10
theorem fx_of_in (y d : Int) : fx_of y d = -11 ∨ fx_of y d = -10 := by unfold fx_of; omega
def fx_isd (y d : Int) : Prop := (1 ≤ y ∧ y ≤ 2000) ∧ 0 ≤ d ∧ d < 365 + dy_lp y
def fx_office (p y d : Int) : Int := if (0 ≤ p ∧ p ≤ 3) ∧ (1 ≤ y ∧ y ≤ 2000) ∧ 0 ≤ d ∧ d < 365 + dy_lp y then fx_of y d else -2
def fx_fast (p y d : Int) : Int := if (0 ≤ p ∧ p ≤ 3) ∧ (1 ≤ y ∧ y ≤ 2000) ∧ 0 ≤ d ∧ d < 365 + dy_lp y then 0 else -2
def fx_wax (p y f t : Int) : Int := if (0 ≤ p ∧ p ≤ 3) ∧ (1 ≤ y ∧ y ≤ 2000) ∧ (0 ≤ f ∧ f < 365 + dy_lp y) ∧ (0 ≤ t ∧ t < 365 + dy_lp y) ∧ f ≤ t then 0 else -2
def fx_next (p y d r : Int) : Int := if (0 ≤ p ∧ p ≤ 3) ∧ (1 ≤ y ∧ y ≤ 2000) ∧ (0 ≤ d ∧ d < 365 + dy_lp y) ∧ 1 ≤ r ∧ r ≤ 8 then -1 else -2
def fx_unlike (p q y : Int) : Int := if (0 ≤ p ∧ p ≤ 3) ∧ (0 ≤ q ∧ q ≤ 3) ∧ 1 ≤ y ∧ y ≤ 2000 then 0 else -2
def fx_rota (p f t r b : Int) : Int := if (0 ≤ p ∧ p ≤ 3) ∧ (1 ≤ f ∧ f ≤ 2000) ∧ (f ≤ t ∧ t ≤ 2000) ∧ t - f ≤ 19 ∧ (1 ≤ r ∧ r ≤ 8) ∧ 1 ≤ b ∧ b ≤ 1023 then 0 else -2
def fx_cal (p : Int) : Int := if 0 ≤ p ∧ p ≤ 3 then 0 else -2
def fx_min (x y : Int) : Int := if x ≤ y then x else y
end
section
theorem fl_X4_66 : Cond.fieldLink RX4 66 "SaintsRoad$Place" "inYear" "I" ∈ lw_good := sv_mem 284 (by decide +kernel) rfl
theorem fl_X4_21 : Cond.fieldLink RX4 21 "SaintsRoad$Place" "calendar" "LSaintsRoad$Calendar;" ∈ lw_good := sv_mem 278 (by decide +kernel) rfl
theorem fl_X4_75 : Cond.fieldLink RX4 75 "SaintsRoad$Calendar" "size" "I" ∈ lw_good := sv_mem 249 (by decide +kernel) rfl
set_option maxHeartbeats 4000000 in
set_option maxRecDepth 100000 in
theorem ct_X4_sortByOwnDay (l : Launch) (g : sv_G) (A : Nat → Prop) (ty : Nat → Nat) (σ : Nat → Nat → Int) (hok : sv_ok ty σ) (hTA : ∀ q, ty q ≠ 0 → A q) (hI : sv_inv sp_1 ty σ) (a : Nat) (k_a : ty a = 4) (y : Int) (hy : 1 ≤ y ∧ y ≤ 2000) : sv_M l yX4_sortByOwnDay cX4_sortByOwnDay 3 none { frames := 0, cells := 0, slots := 0, locals := 0 } g A ty σ [sv_r a, sv_i y] (fun r σ' => r = [] ∧ σ' = sv_up σ a 7 0) := by
  refine sv_enter (by decide) (Nat.le_of_ble_eq_true rfl) ?_
  intro p e s m args below meth c C hr
  have C : sv_C g A RX4 cX4_sortByOwnDay 3 p s m args meth c := C
  have hr : meth.sig.returnType = none := hr
  have hF : sv_off [4] ty σ σ := sv_off.rf
  refine sv_same (st2 := []) (lv2 := [(0, sv_r a), (1, sv_i y)]) rfl rfl ?_
  refine sv_go C.1 C.2.1 [(.aload_n 0, 1), (.iconst 0, 1)] (pc' := 2) (by decide +kernel) rfl (lv' := [(0, sv_r a), (1, sv_i y)]) (st' := [sv_i 0, sv_r a]) rfl ?_
  refine sv_pf C (index := 66) (ci := 3) (k := 7) (r := (RX4, TX4, 11)) (z := 0) (by decide +kernel) (by rw [k_a]; rfl) rfl (by decide) rfl fl_X4_66 rfl (Or.inl rfl) ⟨by omega, by omega⟩ (hTA _ (by rw [k_a]; decide)) hok (fun hok1 => ?_)
  have hI3 := hI.up (a := a) (k := 7) (z := 0) (by rw [k_a]; exact trivial)
  have hF4 := hF.up (a := a) (k := 7) (z := 0) (by rw [k_a]; decide)
  generalize eσ2 : sv_up σ a 7 0 = σ2 at hok1 hI3 hF4 ⊢
  have t5 : σ2 a 7 = 0 := by rw [← eσ2]; exact sv_up_s _ _ _ _
  refine sv_go C.1 C.2.1 [(.iconst 0, 1), (.istore_n 2, 1), (.iload_n 2, 1), (.aload_n 0, 1)] (pc' := 9) (by decide +kernel) rfl (lv' := [(0, sv_r a), (1, sv_i y), (2, sv_i 0)]) (st' := [sv_r a, sv_i 0]) rfl ?_
  obtain ⟨q6, eq6, kq6⟩ := hI3.ref (k := 2) k_a rfl
  refine sv_gf C (index := 21) (ci := 3) (k := 2) (r := (RX4, TX4, 11)) (v := sv_r q6) (by decide +kernel) (by rw [k_a]; rfl) rfl (by decide) fl_X4_21 (congrArg sv_a eq6) ?_
  have t7 : σ2 q6 2 = 0 := by have q := hI3.num (k := 2) kq6 rfl; omega
  refine sv_gf C (index := 75) (ci := 1) (k := 2) (r := (RX1, TX1, 6)) (v := sv_i 0) (by decide +kernel) (by rw [kq6]; rfl) rfl (by decide) fl_X4_75 (congrArg sv_i t7) ?_
  refine sv_icmp_t C.1 C.2.1 (cnd := .ge) (off := 74) (tgt := 89) (by decide +kernel) (by decide) ⟨by omega, by omega⟩ ⟨by omega, by omega⟩ (show 0 ≤ 0 by omega) ?_
  exact sv_vret C hr (by decide +kernel) hok1 (⟨rfl, rfl⟩)

theorem fl_X4_37 : Cond.fieldLink RX4 37 "SaintsRoad$Place" "settledYear" "I" ∈ lw_good := sv_mem 287 (by decide +kernel) rfl
theorem ml_X4_41 : Cond.methodLink RX4 41 yX2_easterOf ∈ lw_good := sv_mem 691 (by decide +kernel) rfl
theorem fl_X4_47 : Cond.fieldLink RX4 47 "SaintsRoad$Place" "easterDay" "I" ∈ lw_good := sv_mem 285 (by decide +kernel) rfl
theorem fl_X4_15 : Cond.fieldLink RX4 15 "SaintsRoad$Place" "heldOn" "[I" ∈ lw_good := sv_mem 276 (by decide +kernel) rfl
theorem ml_X4_50 : Cond.methodLink RX4 50 yJ7_fill_53178 ∈ lw_good := sv_mem 692 (by decide +kernel) rfl
theorem co_J7_fill_53178 : Cond.code yJ7_fill_53178 cJ7_fill_53178 4 none ∈ lw_good := sv_mem 241 (by decide +kernel) rfl
theorem in_J7 : Cond.initialized RJ7 ∈ lw_good := sv_mem 78 (by decide +kernel) rfl
theorem st_J7_fill_53178 : Cond.static yJ7_fill_53178 ∈ lw_good := sv_mem 240 (by decide +kernel) rfl
theorem fl_X4_56 : Cond.fieldLink RX4 56 "SaintsRoad$Place" "waitingCount" "I" ∈ lw_good := sv_mem 286 (by decide +kernel) rfl
theorem ml_X4_59 : Cond.methodLink RX4 59 yX4_sortByOwnDay ∈ lw_good := sv_mem 693 (by decide +kernel) rfl
theorem co_X4_sortByOwnDay : Cond.code yX4_sortByOwnDay cX4_sortByOwnDay 3 none ∈ lw_good := sv_mem 696 (by decide +kernel) rfl
theorem in_X4 : Cond.initialized RX4 ∈ lw_good := sv_mem 75 (by decide +kernel) rfl
theorem im_X4_sortByOwnDay : Cond.instanceMethod yX4_sortByOwnDay ∈ lw_good := sv_mem 695 (by decide +kernel) rfl
theorem se_X4_sortByOwnDay : Cond.selects RX4 yX4_sortByOwnDay yX4_sortByOwnDay ∈ lw_good := sv_mem 20 (by decide +kernel) rfl
theorem ml_X4_63 : Cond.methodLink RX4 63 yX2_length ∈ lw_good := sv_mem 719 (by decide +kernel) rfl
set_option maxHeartbeats 4000000 in
set_option maxRecDepth 100000 in
theorem ct_X4_settle (l : Launch) (g : sv_G) (A : Nat → Prop) (ty : Nat → Nat) (σ : Nat → Nat → Int) (hok : sv_ok ty σ) (hTA : ∀ q, ty q ≠ 0 → A q) (hI : sv_inv sp_1 ty σ) (a : Nat) (k_a : ty a = 4) (y : Int) (hy : 1 ≤ y ∧ y ≤ 2000) (h0 : pl_0 ty σ a) : sv_M l yX4_settle cX4_settle 5 none { frames := 3, cells := 0, slots := 0, locals := 63 } g A ty σ [sv_r a, sv_i y] (fun r σ' => r = [] ∧ sv_inv sp_1 ty σ' ∧ sv_off [4, 25] ty σ σ' ∧ pl_st σ' a y ∧ pl_X ty σ σ' ∧ pl_Y ty σ σ' a) := by
  refine sv_enter (by decide) (Nat.le_of_ble_eq_true rfl) ?_
  intro p e s m args below meth c C hr
  have C : sv_C g A RX4 cX4_settle 5 p s m args meth c := C
  have hr : meth.sig.returnType = none := hr
  have hF : sv_off [4, 25] ty σ σ := sv_off.rf
  have hea := dy_ea_in y
  have hlp := dy_lp_in y
  have hX : pl_X ty σ σ := pl_X.rf
  have hY : pl_Y ty σ σ a := pl_Y.rf
  refine sv_same (st2 := []) (lv2 := [(0, sv_r a), (1, sv_i y)]) rfl rfl ?_
  refine sv_go C.1 C.2.1 [(.iload_n 1, 1), (.aload_n 0, 1)] (pc' := 2) (by decide +kernel) rfl (lv' := [(0, sv_r a), (1, sv_i y)]) (st' := [sv_r a, sv_i y]) rfl ?_
  have w1 := sv_ok.num hok (k := 10) (ci := 3) (r := (RX4, TX4, 11)) (by rw [k_a]; rfl) rfl (by decide)
  have w1 : sv_in (σ a 10) := w1
  refine sv_gf C (index := 37) (ci := 3) (k := 10) (r := (RX4, TX4, 11)) (v := sv_i (σ a 10)) (by decide +kernel) (by rw [k_a]; rfl) rfl (by decide) fl_X4_37 rfl ?_
  refine sv_icmp C.1 C.2.1 (cnd := .ne) (off := 4) (tgt := 9) (by decide +kernel) (by decide) ⟨by omega, by omega⟩ ⟨by omega, by omega⟩ (fun (h2 : y ≠ (σ a 10)) => ?_) (fun (h2 : ¬ (y ≠ (σ a 10))) => ?_)
  · refine sv_go C.1 C.2.1 [(.aload_n 0, 1), (.iload_n 1, 1)] (pc' := 11) (by decide +kernel) rfl (lv' := [(0, sv_r a), (1, sv_i y)]) (st' := [sv_i y, sv_r a]) rfl ?_
    refine sv_pf C (index := 37) (ci := 3) (k := 10) (r := (RX4, TX4, 11)) (z := y) (by decide +kernel) (by rw [k_a]; rfl) rfl (by decide) rfl fl_X4_37 rfl (Or.inl rfl) ⟨by omega, by omega⟩ (hTA _ (by rw [k_a]; decide)) hok (fun hok3 => ?_)
    have hI5 := hI.up (a := a) (k := 10) (z := y) (by rw [k_a]; exact trivial)
    have hF6 := hF.up (a := a) (k := 10) (z := y) (by rw [k_a]; decide)
    generalize eσ4 : sv_up σ a 10 y = σ4 at hok3 hI5 hF6 ⊢
    have t7 : σ4 a 10 = y := by rw [← eσ4]; exact sv_up_s _ _ _ _
    have hXu8 := hX.up (a := a) (k := 10) (z := y) k_a
    have hYu8 := hY.up (k := 10) (z := y)
    rw [eσ4] at hXu8 hYu8
    refine sv_go C.1 C.2.1 [(.aload_n 0, 1), (.iload_n 1, 1)] (pc' := 16) (by decide +kernel) rfl (lv' := [(0, sv_r a), (1, sv_i y)]) (st' := [sv_i y, sv_r a]) rfl ?_
    refine sv_cs C (index := 41) (k := 1) (rest := [sv_r a]) (by decide +kernel) (ct_X2_easterOf l g A ty σ4 hok3 (y) ⟨by omega, by omega⟩) ⟨co_X2_easterOf, in_X2, ⟨by decide, by decide, by decide +kernel⟩, Nat.le_of_ble_eq_true rfl, Nat.le_of_ble_eq_true rfl⟩ ml_X4_41 st_X2_easterOf rfl rfl (Nat.le_of_ble_eq_true rfl) ⟨Nat.zero_le _, Nat.zero_le _⟩ (fun r10 σ11 hpo9 hok12 => ?_)
    obtain ⟨rfl, rfl⟩ := hpo9
    refine sv_same (st2 := [sv_i (dy_ea y), sv_r a]) (lv2 := [(0, sv_r a), (1, sv_i y)]) rfl rfl ?_
    refine sv_pf C (index := 47) (ci := 3) (k := 8) (r := (RX4, TX4, 11)) (z := dy_ea y) (by decide +kernel) (by rw [k_a]; rfl) rfl (by decide) rfl fl_X4_47 rfl (Or.inl rfl) ⟨by omega, by omega⟩ (hTA _ (by rw [k_a]; decide)) hok12 (fun hok13 => ?_)
    have hI15 := hI5.up (a := a) (k := 8) (z := dy_ea y) (by rw [k_a]; exact trivial)
    have hF16 := hF6.up (a := a) (k := 8) (z := dy_ea y) (by rw [k_a]; decide)
    generalize eσ14 : sv_up σ4 a 8 (dy_ea y) = σ14 at hok13 hI15 hF16 ⊢
    have t17 : σ14 a 10 = y := by rw [← eσ14, sv_up_k (by decide)]; exact t7
    have t18 : σ14 a 8 = dy_ea y := by rw [← eσ14]; exact sv_up_s _ _ _ _
    have hXu19 := hXu8.up (a := a) (k := 8) (z := dy_ea y) k_a
    have hYu19 := hYu8.up (k := 8) (z := dy_ea y)
    rw [eσ14] at hXu19 hYu19
    refine sv_go C.1 C.2.1 [(.aload_n 0, 1)] (pc' := 23) (by decide +kernel) rfl (lv' := [(0, sv_r a), (1, sv_i y)]) (st' := [sv_r a]) rfl ?_
    obtain ⟨q20, eq20, kq20⟩ := hI15.ref (k := 1) k_a rfl
    refine sv_gf C (index := 15) (ci := 3) (k := 1) (r := (RX4, TX4, 11)) (v := sv_r q20) (by decide +kernel) (by rw [k_a]; rfl) rfl (by decide) fl_X4_15 (congrArg sv_a eq20) ?_
    refine sv_go C.1 C.2.1 [(.iconst (-1), 1)] (pc' := 27) (by decide +kernel) rfl (lv' := [(0, sv_r a), (1, sv_i y)]) (st' := [sv_i ((-1)), sv_r q20]) rfl ?_
    refine sv_cs C (index := 50) (k := 2) (rest := []) (by decide +kernel) (ct_fill l g A ty σ14 hok13 q20 366 (by rw [kq20]; rfl) (by decide) (hTA _ (by rw [kq20]; decide)) ((-1)) ⟨by omega, by omega⟩) ⟨co_J7_fill_53178, in_J7, ⟨by decide, by decide, by decide +kernel⟩, Nat.le_of_ble_eq_true rfl, Nat.le_of_ble_eq_true rfl⟩ ml_X4_50 st_J7_fill_53178 rfl rfl (Nat.le_of_ble_eq_true rfl) ⟨Nat.zero_le _, Nat.zero_le _⟩ (fun r22 σ23 hpo21 hok24 => ?_)
    obtain ⟨rfl, hOu25, hEu25, hRu25⟩ := hpo21
    have hIu25 := sv_fill_inv hI15 hOu25 kq20 (fun _ => rfl)
    have hFu25 := sv_fill_off hF16 hOu25 kq20 (by decide)
    have hXu25 := hXu19.fill hOu25 hEu25
    have hYu25 := hYu19.fill hOu25 kq20
    have t26 : σ23 a 10 = y := (hOu25 _ (sv_ne k_a kq20 (by decide)) _).trans t17
    have t27 : σ23 a 8 = dy_ea y := (hOu25 _ (sv_ne k_a kq20 (by decide)) _).trans t18
    have t28 : σ23 a 1 = (q20 : Int) + 1 := (hOu25 _ (sv_ne k_a kq20 (by decide)) _).trans eq20
    refine sv_same (st2 := []) (lv2 := [(0, sv_r a), (1, sv_i y)]) rfl rfl ?_
    refine sv_go C.1 C.2.1 [(.aload_n 0, 1), (.iconst 0, 1)] (pc' := 32) (by decide +kernel) rfl (lv' := [(0, sv_r a), (1, sv_i y)]) (st' := [sv_i 0, sv_r a]) rfl ?_
    refine sv_pf C (index := 56) (ci := 3) (k := 9) (r := (RX4, TX4, 11)) (z := 0) (by decide +kernel) (by rw [k_a]; rfl) rfl (by decide) rfl fl_X4_56 rfl (Or.inl rfl) ⟨by omega, by omega⟩ (hTA _ (by rw [k_a]; decide)) hok24 (fun hok29 => ?_)
    have hI31 := hIu25.up (a := a) (k := 9) (z := 0) (by rw [k_a]; exact trivial)
    have hF32 := hFu25.up (a := a) (k := 9) (z := 0) (by rw [k_a]; decide)
    generalize eσ30 : sv_up σ23 a 9 0 = σ30 at hok29 hI31 hF32 ⊢
    have t33 : σ30 a 10 = y := by rw [← eσ30, sv_up_k (by decide)]; exact t26
    have t34 : σ30 a 8 = dy_ea y := by rw [← eσ30, sv_up_k (by decide)]; exact t27
    have t35 : σ30 a 1 = (q20 : Int) + 1 := by rw [← eσ30, sv_up_k (by decide)]; exact t28
    have t36 : σ30 a 9 = 0 := by rw [← eσ30]; exact sv_up_s _ _ _ _
    have hXu37 := hXu25.up (a := a) (k := 9) (z := 0) k_a
    have hYu37 := hYu25.up (k := 9) (z := 0)
    rw [eσ30] at hXu37 hYu37
    have hA38 : ∀ i : Nat, i < 366 → σ30 q20 i = (-1) := fun i hi => by rw [← eσ30, sv_up_a (sv_ne kq20 k_a (by decide))]; exact hEu25 i hi
    refine sv_go C.1 C.2.1 [(.aload_n 0, 1), (.iload_n 1, 1)] (pc' := 37) (by decide +kernel) rfl (lv' := [(0, sv_r a), (1, sv_i y)]) (st' := [sv_i y, sv_r a]) rfl ?_
    refine sv_cv C (index := 59) (k := 1) (rest := []) (ci := 3) (r := (RX4, TX4, 11)) (by decide +kernel) (ct_X4_sortByOwnDay l g A ty σ30 hok29 hTA hI31 a k_a (y) ⟨by omega, by omega⟩) ⟨co_X4_sortByOwnDay, in_X4, ⟨by decide, by decide, by decide +kernel⟩, Nat.le_of_ble_eq_true rfl, Nat.le_of_ble_eq_true rfl⟩ ml_X4_59 im_X4_sortByOwnDay se_X4_sortByOwnDay (by rw [k_a]; rfl) rfl rfl rfl (Nat.le_of_ble_eq_true rfl) ⟨Nat.zero_le _, Nat.zero_le _⟩ (fun r40 σ41 hpo39 hok42 => ?_)
    obtain ⟨rfl, eu43⟩ := hpo39
    have hIu43 : sv_inv sp_1 ty σ41 := by rw [eu43]; exact hI31.up (by rw [k_a]; exact trivial)
    have hFu43 := hF32.up (a := a) (k := 7) (z := 0) (by rw [k_a]; decide)
    rw [← eu43] at hFu43
    have hXu43 := hXu37.up (a := a) (k := 7) (z := 0) k_a
    have hYu43 := hYu37.up (k := 7) (z := 0)
    rw [← eu43] at hXu43 hYu43
    have t44 : σ41 a 10 = y := by rw [eu43, sv_up_k (by decide)]; exact t33
    have t45 : σ41 a 8 = dy_ea y := by rw [eu43, sv_up_k (by decide)]; exact t34
    have t46 : σ41 a 1 = (q20 : Int) + 1 := by rw [eu43, sv_up_k (by decide)]; exact t35
    have t47 : σ41 a 9 = 0 := by rw [eu43, sv_up_k (by decide)]; exact t36
    have t48 : σ41 a 7 = 0 := by rw [eu43]; exact sv_up_s _ _ _ _
    have hA49 : ∀ i : Nat, i < 366 → σ41 q20 i = (-1) := fun i hi => by rw [eu43, sv_up_a (sv_ne kq20 k_a (by decide))]; exact hA38 i hi
    refine sv_same (st2 := []) (lv2 := [(0, sv_r a), (1, sv_i y)]) rfl rfl ?_
    refine sv_go C.1 C.2.1 [(.iload_n 1, 1)] (pc' := 41) (by decide +kernel) rfl (lv' := [(0, sv_r a), (1, sv_i y)]) (st' := [sv_i y]) rfl ?_
    refine sv_cs C (index := 63) (k := 1) (rest := []) (by decide +kernel) (ct_X2_length l g A ty σ41 hok42 (y) ⟨by omega, by omega⟩) ⟨co_X2_length, in_X2, ⟨by decide, by decide, by decide +kernel⟩, Nat.le_of_ble_eq_true rfl, Nat.le_of_ble_eq_true rfl⟩ ml_X4_63 st_X2_length rfl rfl (Nat.le_of_ble_eq_true rfl) ⟨Nat.zero_le _, Nat.zero_le _⟩ (fun r51 σ52 hpo50 hok53 => ?_)
    obtain ⟨rfl, rfl⟩ := hpo50
    refine sv_same (st2 := [sv_i (365 + dy_lp y)]) (lv2 := [(0, sv_r a), (1, sv_i y)]) rfl rfl ?_
    refine sv_go C.1 C.2.1 [(.istore_n 2, 1), (.iconst 0, 1), (.istore_n 3, 1), (.iconst 0, 1), (.istore 4, 2), (.iload 4, 2), (.iload_n 2, 1)] (pc' := 53) (by decide +kernel) rfl (lv' := [(0, sv_r a), (1, sv_i y), (2, sv_i (365 + dy_lp y)), (3, sv_i 0), (4, sv_i 0)]) (st' := [sv_i (365 + dy_lp y), sv_i 0]) rfl ?_
    refine sv_icmp_f C.1 C.2.1 (cnd := .ge) (off := 96) (tgt := 149) (by decide +kernel) (by decide) ⟨by omega, by omega⟩ ⟨by omega, by omega⟩ (show ¬ ((365 + dy_lp y) ≤ 0) by omega) ?_
    refine sv_go C.1 C.2.1 [(.iload_n 3, 1), (.aload_n 0, 1)] (pc' := 58) (by decide +kernel) rfl (lv' := [(0, sv_r a), (1, sv_i y), (2, sv_i (365 + dy_lp y)), (3, sv_i 0), (4, sv_i 0)]) (st' := [sv_r a, sv_i 0]) rfl ?_
    refine sv_gf C (index := 66) (ci := 3) (k := 7) (r := (RX4, TX4, 11)) (v := sv_i 0) (by decide +kernel) (by rw [k_a]; rfl) rfl (by decide) fl_X4_66 (congrArg sv_i t48) ?_
    refine sv_icmp_f C.1 C.2.1 (cnd := .lt) (off := 10) (tgt := 71) (by decide +kernel) (by decide) ⟨by omega, by omega⟩ ⟨by omega, by omega⟩ (show ¬ (0 < 0) by omega) ?_
    refine sv_go C.1 C.2.1 [(.aload_n 0, 1)] (pc' := 65) (by decide +kernel) rfl (lv' := [(0, sv_r a), (1, sv_i y), (2, sv_i (365 + dy_lp y)), (3, sv_i 0), (4, sv_i 0)]) (st' := [sv_r a]) rfl ?_
    refine sv_gf C (index := 56) (ci := 3) (k := 9) (r := (RX4, TX4, 11)) (v := sv_i 0) (by decide +kernel) (by rw [k_a]; rfl) rfl (by decide) fl_X4_56 (congrArg sv_i t47) ?_
    refine sv_if_t C.1 C.2.1 (cnd := .le) (off := 81) (tgt := 149) (by decide +kernel) (by decide) ⟨by omega, by omega⟩ (show 0 ≤ 0 by omega) ?_
    exact sv_vret C hr (by decide +kernel) hok53 (⟨rfl, hIu43, hFu43, ⟨t44, t45, fun h hh i hi => by have hb : h = q20 := (by have q := t46; omega); rw [hb]; exact hA49 i hi⟩, hXu43, hYu43⟩)
  · exact sv_vret C hr (by decide +kernel) hok (⟨rfl, hI, hF, h0.elim (fun q => absurd q (by omega)) (fun q => by rw [show y = σ a 10 by omega]; exact q), hX, hY⟩)

set_option maxHeartbeats 4000000 in
set_option maxRecDepth 100000 in
theorem ct_X4_feastHeldOn (l : Launch) (g : sv_G) (A : Nat → Prop) (ty : Nat → Nat) (σ : Nat → Nat → Int) (hok : sv_ok ty σ) (hI : sv_inv sp_1 ty σ) (a : Nat) (k_a : ty a = 4) (y : Int) (hy : 1 ≤ y ∧ y ≤ 2000) (hP : pl_st σ a y) (d : Int) (hd : -10 ≤ d ∧ d ≤ 370) : sv_M l yX4_feastHeldOn cX4_feastHeldOn 2 (some (.object "SaintsRoad$Feast")) { frames := 0, cells := 0, slots := 0, locals := 0 } g A ty σ [sv_r a, sv_i d] (fun r σ' => σ = σ' ∧ r = [sv_a 0]) := by
  refine sv_enter (by decide) (Nat.le_of_ble_eq_true rfl) ?_
  intro p e s m args below meth c C hr
  have C : sv_C g A RX4 cX4_feastHeldOn 2 p s m args meth c := C
  have hr : meth.sig.returnType = (some (.object "SaintsRoad$Feast")) := hr
  refine sv_same (st2 := []) (lv2 := [(0, sv_r a), (1, sv_i d)]) rfl rfl ?_
  refine sv_go C.1 C.2.1 [(.iload_n 1, 1)] (pc' := 1) (by decide +kernel) rfl (lv' := [(0, sv_r a), (1, sv_i d)]) (st' := [sv_i d]) rfl ?_
  refine sv_if C.1 C.2.1 (cnd := .lt) (off := 19) (tgt := 20) (by decide +kernel) (by decide) ⟨by omega, by omega⟩ (fun (h1 : d < 0) => ?_) (fun (h1 : ¬ (d < 0)) => ?_)
  · refine sv_go C.1 C.2.1 [(.aconst_null, 1)] (pc' := 21) (by decide +kernel) rfl (lv' := [(0, sv_r a), (1, sv_i d)]) (st' := [sv_a 0]) rfl ?_
    exact sv_aret C hr (Or.inl ⟨_, rfl⟩) (by decide +kernel) hok (⟨rfl, rfl⟩)
  · refine sv_go C.1 C.2.1 [(.iload_n 1, 1), (.sipush 366, 3)] (pc' := 8) (by decide +kernel) rfl (lv' := [(0, sv_r a), (1, sv_i d)]) (st' := [sv_i 366, sv_i d]) rfl ?_
    refine sv_icmp C.1 C.2.1 (cnd := .ge) (off := 12) (tgt := 20) (by decide +kernel) (by decide) ⟨by omega, by omega⟩ ⟨by omega, by omega⟩ (fun (h2 : 366 ≤ d) => ?_) (fun (h2 : ¬ (366 ≤ d)) => ?_)
    · refine sv_go C.1 C.2.1 [(.aconst_null, 1)] (pc' := 21) (by decide +kernel) rfl (lv' := [(0, sv_r a), (1, sv_i d)]) (st' := [sv_a 0]) rfl ?_
      exact sv_aret C hr (Or.inl ⟨_, rfl⟩) (by decide +kernel) hok (⟨rfl, rfl⟩)
    · refine sv_go C.1 C.2.1 [(.aload_n 0, 1)] (pc' := 12) (by decide +kernel) rfl (lv' := [(0, sv_r a), (1, sv_i d)]) (st' := [sv_r a]) rfl ?_
      obtain ⟨q3, eq3, kq3⟩ := hI.ref (k := 1) k_a rfl
      refine sv_gf C (index := 15) (ci := 3) (k := 1) (r := (RX4, TX4, 11)) (v := sv_r q3) (by decide +kernel) (by rw [k_a]; rfl) rfl (by decide) fl_X4_15 (congrArg sv_a eq3) ?_
      refine sv_go C.1 C.2.1 [(.iload_n 1, 1)] (pc' := 16) (by decide +kernel) rfl (lv' := [(0, sv_r a), (1, sv_i d)]) (st' := [sv_i d, sv_r q3]) rfl ?_
      refine sv_ia C (n := 366) (by decide +kernel) (by rw [kq3]; rfl) (by decide) (by omega) (by omega) ?_
      rw [show σ q3 d.toNat = -1 from (hP.2.2 q3 eq3 _ (by omega))]
      refine sv_if_f C.1 C.2.1 (cnd := .ge) (off := 5) (tgt := 22) (by decide +kernel) (by decide) ⟨by omega, by omega⟩ (show ¬ (0 ≤ (-1)) by omega) ?_
      refine sv_go C.1 C.2.1 [(.aconst_null, 1)] (pc' := 21) (by decide +kernel) rfl (lv' := [(0, sv_r a), (1, sv_i d)]) (st' := [sv_a 0]) rfl ?_
      exact sv_aret C hr (Or.inl ⟨_, rfl⟩) (by decide +kernel) hok (⟨rfl, rfl⟩)

theorem ml_X4_108 : Cond.methodLink RX4 108 yX4_feastHeldOn ∈ lw_good := sv_mem 740 (by decide +kernel) rfl
theorem co_X4_feastHeldOn : Cond.code yX4_feastHeldOn cX4_feastHeldOn 2 (some (.object "SaintsRoad$Feast")) ∈ lw_good := sv_mem 743 (by decide +kernel) rfl
theorem im_X4_feastHeldOn : Cond.instanceMethod yX4_feastHeldOn ∈ lw_good := sv_mem 741 (by decide +kernel) rfl
theorem se_X4_feastHeldOn : Cond.selects RX4 yX4_feastHeldOn yX4_feastHeldOn ∈ lw_good := sv_mem 742 (by decide +kernel) rfl
theorem ml_X4_116 : Cond.methodLink RX4 116 yX2_isSunday ∈ lw_good := sv_mem 744 (by decide +kernel) rfl
theorem co_X2_isSunday : Cond.code yX2_isSunday cX2_isSunday 2 (some .boolean) ∈ lw_good := sv_mem 746 (by decide +kernel) rfl
theorem st_X2_isSunday : Cond.static yX2_isSunday ∈ lw_good := sv_mem 745 (by decide +kernel) rfl
set_option maxHeartbeats 4000000 in
set_option maxRecDepth 100000 in
theorem ct_X4_officeOf (l : Launch) (g : sv_G) (A : Nat → Prop) (ty : Nat → Nat) (σ : Nat → Nat → Int) (hok : sv_ok ty σ) (hI : sv_inv sp_1 ty σ) (a : Nat) (k_a : ty a = 4) (y : Int) (hy : 1 ≤ y ∧ y ≤ 2000) (hP : pl_st σ a y) (d : Int) (hd : 0 ≤ d ∧ d ≤ 366) : sv_M l yX4_officeOf cX4_officeOf 4 (some .int) { frames := 3, cells := 0, slots := 0, locals := 62 } g A ty σ [sv_r a, sv_i d] (fun r σ' => σ = σ' ∧ r = [sv_i (fx_of y d)]) := by
  refine sv_enter (by decide) (Nat.le_of_ble_eq_true rfl) ?_
  intro p e s m args below meth c C hr
  have C : sv_C g A RX4 cX4_officeOf 4 p s m args meth c := C
  have hr : meth.sig.returnType = (some .int) := hr
  refine sv_same (st2 := []) (lv2 := [(0, sv_r a), (1, sv_i d)]) rfl rfl ?_
  refine sv_go C.1 C.2.1 [(.aload_n 0, 1), (.iload_n 1, 1)] (pc' := 2) (by decide +kernel) rfl (lv' := [(0, sv_r a), (1, sv_i d)]) (st' := [sv_i d, sv_r a]) rfl ?_
  refine sv_cv C (index := 108) (k := 1) (rest := []) (ci := 3) (r := (RX4, TX4, 11)) (by decide +kernel) (ct_X4_feastHeldOn l g A ty σ hok hI a k_a (y) ⟨by omega, by omega⟩ hP (d) ⟨by omega, by omega⟩) ⟨co_X4_feastHeldOn, in_X4, ⟨by decide, by decide, by decide +kernel⟩, Nat.le_of_ble_eq_true rfl, Nat.le_of_ble_eq_true rfl⟩ ml_X4_108 im_X4_feastHeldOn se_X4_feastHeldOn (by rw [k_a]; rfl) rfl rfl rfl (Nat.le_of_ble_eq_true rfl) ⟨Nat.zero_le _, Nat.zero_le _⟩ (fun r2 σ3 hpo1 hok4 => ?_)
  obtain ⟨rfl, rfl⟩ := hpo1
  refine sv_same (st2 := [sv_a 0]) (lv2 := [(0, sv_r a), (1, sv_i d)]) rfl rfl ?_
  refine sv_ifnull C.1 C.2.1 (off := 10) (tgt := 15) (by decide +kernel) (by decide) (by omega) (fun _ => ?_) (fun (h5 : 0 < 0) => absurd h5 (by omega))
  refine sv_go C.1 C.2.1 [(.iconst 1, 1), (.istore_n 2, 1)] (pc' := 17) (by decide +kernel) rfl (lv' := [(0, sv_r a), (1, sv_i d), (2, sv_i 1)]) (st' := []) rfl ?_
  have L6 : ∀ (n : Nat) (X : Int) , (1 ≤ X ∧ X ≤ 8) → (8 - X) < (n : Int) → sv_E p l e { frames := 3, cells := 0, slots := 0, locals := 62 } s m args below meth c 4 g A ty (fun r σ' => σ = σ' ∧ r = [sv_i (fx_of y d)]) σ 17 [(0, sv_r a), (1, sv_i d), (2, sv_i X)] [] := by
    intro n
    induction n with
    | zero => intro X  hX hmu; exact absurd hmu (by omega)
    | succ n ih7 =>
      intro X  hX hmu
      refine sv_go C.1 C.2.1 [(.iload_n 2, 1), (.bipush 7, 2)] (pc' := 20) (by decide +kernel) rfl (lv' := [(0, sv_r a), (1, sv_i d), (2, sv_i X)]) (st' := [sv_i 7, sv_i X]) rfl ?_
      refine sv_icmp C.1 C.2.1 (cnd := .gt) (off := 40) (tgt := 60) (by decide +kernel) (by decide) ⟨by omega, by omega⟩ ⟨by omega, by omega⟩ (fun (h8 : 7 < X) => ?_) (fun (h8 : ¬ (7 < X)) => ?_)
      · refine sv_go C.1 C.2.1 [(.aload_n 0, 1)] (pc' := 61) (by decide +kernel) rfl (lv' := [(0, sv_r a), (1, sv_i d), (2, sv_i X)]) (st' := [sv_r a]) rfl ?_
        refine sv_gf C (index := 37) (ci := 3) (k := 10) (r := (RX4, TX4, 11)) (v := sv_i y) (by decide +kernel) (by rw [k_a]; rfl) rfl (by decide) fl_X4_37 (congrArg sv_i hP.1) ?_
        refine sv_go C.1 C.2.1 [(.iload_n 1, 1)] (pc' := 65) (by decide +kernel) rfl (lv' := [(0, sv_r a), (1, sv_i d), (2, sv_i X)]) (st' := [sv_i d, sv_i y]) rfl ?_
        refine sv_cs C (index := 116) (k := 2) (rest := []) (by decide +kernel) (ct_X2_isSunday l g A ty σ hok4 (y) ⟨by omega, by omega⟩ (d) ⟨by omega, by omega⟩) ⟨co_X2_isSunday, in_X2, ⟨by decide, by decide, by decide +kernel⟩, Nat.le_of_ble_eq_true rfl, Nat.le_of_ble_eq_true rfl⟩ ml_X4_116 st_X2_isSunday rfl rfl (Nat.le_of_ble_eq_true rfl) ⟨Nat.zero_le _, Nat.zero_le _⟩ (fun r10 σ11 hpo9 hok12 => ?_)
        obtain ⟨rfl, ⟨h13, rfl⟩ | ⟨h13, rfl⟩⟩ := hpo9
        · refine sv_same (st2 := [sv_i 1]) (lv2 := [(0, sv_r a), (1, sv_i d), (2, sv_i X)]) rfl rfl ?_
          refine sv_if_f C.1 C.2.1 (cnd := .eq) (off := 8) (tgt := 76) (by decide +kernel) (by decide) ⟨by omega, by omega⟩ (show ¬ (1 = 0) by omega) ?_
          refine sv_go C.1 C.2.1 [(.bipush (-11), 2)] (pc' := 73) (by decide +kernel) rfl (lv' := [(0, sv_r a), (1, sv_i d), (2, sv_i X)]) (st' := [sv_i ((-11))]) rfl ?_
          refine sv_goto C.1 C.2.1 (off := 5) (tgt := 78) (by decide +kernel) (by decide) ?_
          exact sv_iret C hr (by decide +kernel) hok12 (⟨rfl, congrArg (fun q => [sv_i q]) (by unfold fx_of; omega)⟩)
        · refine sv_same (st2 := [sv_i 0]) (lv2 := [(0, sv_r a), (1, sv_i d), (2, sv_i X)]) rfl rfl ?_
          refine sv_if_t C.1 C.2.1 (cnd := .eq) (off := 8) (tgt := 76) (by decide +kernel) (by decide) ⟨by omega, by omega⟩ (show 0 = 0 by omega) ?_
          refine sv_go C.1 C.2.1 [(.bipush (-10), 2)] (pc' := 78) (by decide +kernel) rfl (lv' := [(0, sv_r a), (1, sv_i d), (2, sv_i X)]) (st' := [sv_i ((-10))]) rfl ?_
          exact sv_iret C hr (by decide +kernel) hok12 (⟨rfl, congrArg (fun q => [sv_i q]) (by unfold fx_of; omega)⟩)
      · refine sv_go C.1 C.2.1 [(.aload_n 0, 1), (.iload_n 1, 1), (.iload_n 2, 1), (.isub, 1)] (pc' := 27) (by decide +kernel) rfl (lv' := [(0, sv_r a), (1, sv_i d), (2, sv_i X)]) (st' := [sv_i (d - X), sv_r a]) rfl ?_
        refine sv_cv C (index := 108) (k := 1) (rest := []) (ci := 3) (r := (RX4, TX4, 11)) (by decide +kernel) (ct_X4_feastHeldOn l g A ty σ hok4 hI a k_a (y) ⟨by omega, by omega⟩ hP (d - X) ⟨by omega, by omega⟩) ⟨co_X4_feastHeldOn, in_X4, ⟨by decide, by decide, by decide +kernel⟩, Nat.le_of_ble_eq_true rfl, Nat.le_of_ble_eq_true rfl⟩ ml_X4_108 im_X4_feastHeldOn se_X4_feastHeldOn (by rw [k_a]; rfl) rfl rfl rfl (Nat.le_of_ble_eq_true rfl) ⟨Nat.zero_le _, Nat.zero_le _⟩ (fun r15 σ16 hpo14 hok17 => ?_)
        obtain ⟨rfl, rfl⟩ := hpo14
        refine sv_same (st2 := [sv_a 0]) (lv2 := [(0, sv_r a), (1, sv_i d), (2, sv_i X)]) rfl rfl ?_
        refine sv_go C.1 C.2.1 [(.astore_n 3, 1), (.aload_n 3, 1)] (pc' := 32) (by decide +kernel) rfl (lv' := [(0, sv_r a), (1, sv_i d), (2, sv_i X), (3, sv_a 0)]) (st' := [sv_a 0]) rfl ?_
        refine sv_ifnull C.1 C.2.1 (off := 22) (tgt := 54) (by decide +kernel) (by decide) (by omega) (fun _ => ?_) (fun (h18 : 0 < 0) => absurd h18 (by omega))
        refine sv_go C.1 C.2.1 [(.iinc 2 1, 3)] (pc' := 57) (by decide +kernel) rfl (lv' := [(0, sv_r a), (1, sv_i d), (2, sv_i (X + 1)), (3, sv_a 0)]) (st' := []) rfl ?_
        refine sv_goto C.1 C.2.1 (off := (-40)) (tgt := 17) (by decide +kernel) (by decide) ?_
        refine sv_pick [0, 1, 2] (lv2 := [(0, sv_r a), (1, sv_i d), (2, sv_i (X + 1))]) rfl ?_
        exact ih7 (X + 1)  (by omega) (by omega)
  exact L6 (((8 - 1 : Int)).toNat + 1) 1  (by omega) (by omega)

theorem fl_X4_126 : Cond.fieldLink RX4 126 "SaintsRoad$Calendar" "lent" "I" ∈ lw_good := sv_mem 260 (by decide +kernel) rfl
set_option maxHeartbeats 4000000 in
set_option maxRecDepth 100000 in
theorem ct_X4_isInLent (l : Launch) (g : sv_G) (A : Nat → Prop) (ty : Nat → Nat) (σ : Nat → Nat → Int) (hok : sv_ok ty σ) (hI : sv_inv sp_1 ty σ) (a : Nat) (k_a : ty a = 4) (y : Int) (hy : 1 ≤ y ∧ y ≤ 2000) (hP : pl_st σ a y) (d : Int) (hd : 0 ≤ d ∧ d ≤ 366) : sv_M l yX4_isInLent cX4_isInLent 2 (some .boolean) { frames := 0, cells := 0, slots := 0, locals := 0 } g A ty σ [sv_r a, sv_i d] (fun r σ' => σ = σ' ∧ sv_bo False r) := by
  refine sv_enter (by decide) (Nat.le_of_ble_eq_true rfl) ?_
  intro p e s m args below meth c C hr
  have C : sv_C g A RX4 cX4_isInLent 2 p s m args meth c := C
  have hr : meth.sig.returnType = (some .boolean) := hr
  have hea := dy_ea_in y
  refine sv_same (st2 := []) (lv2 := [(0, sv_r a), (1, sv_i d)]) rfl rfl ?_
  refine sv_go C.1 C.2.1 [(.iload_n 1, 1), (.aload_n 0, 1)] (pc' := 2) (by decide +kernel) rfl (lv' := [(0, sv_r a), (1, sv_i d)]) (st' := [sv_r a, sv_i d]) rfl ?_
  refine sv_gf C (index := 47) (ci := 3) (k := 8) (r := (RX4, TX4, 11)) (v := sv_i (dy_ea y)) (by decide +kernel) (by rw [k_a]; rfl) rfl (by decide) fl_X4_47 (congrArg sv_i hP.2.1) ?_
  refine sv_icmp C.1 C.2.1 (cnd := .ge) (off := 23) (tgt := 28) (by decide +kernel) (by decide) ⟨by omega, by omega⟩ ⟨by omega, by omega⟩ (fun (h1 : (dy_ea y) ≤ d) => ?_) (fun (h1 : ¬ ((dy_ea y) ≤ d)) => ?_)
  · refine sv_go C.1 C.2.1 [(.iconst 0, 1)] (pc' := 29) (by decide +kernel) rfl (lv' := [(0, sv_r a), (1, sv_i d)]) (st' := [sv_i 0]) rfl ?_
    exact sv_zret C hr (by first | exact Or.inl rfl | exact Or.inr rfl | omega) (by decide +kernel) hok (⟨rfl, Or.inr ⟨id, rfl⟩⟩)
  · refine sv_go C.1 C.2.1 [(.iload_n 1, 1), (.aload_n 0, 1)] (pc' := 10) (by decide +kernel) rfl (lv' := [(0, sv_r a), (1, sv_i d)]) (st' := [sv_r a, sv_i d]) rfl ?_
    refine sv_gf C (index := 47) (ci := 3) (k := 8) (r := (RX4, TX4, 11)) (v := sv_i (dy_ea y)) (by decide +kernel) (by rw [k_a]; rfl) rfl (by decide) fl_X4_47 (congrArg sv_i hP.2.1) ?_
    refine sv_go C.1 C.2.1 [(.aload_n 0, 1)] (pc' := 14) (by decide +kernel) rfl (lv' := [(0, sv_r a), (1, sv_i d)]) (st' := [sv_r a, sv_i (dy_ea y), sv_i d]) rfl ?_
    obtain ⟨q2, eq2, kq2⟩ := hI.ref (k := 2) k_a rfl
    refine sv_gf C (index := 21) (ci := 3) (k := 2) (r := (RX4, TX4, 11)) (v := sv_r q2) (by decide +kernel) (by rw [k_a]; rfl) rfl (by decide) fl_X4_21 (congrArg sv_a eq2) ?_
    have t3 : σ q2 5 = (-1) := by have q := hI.num (k := 5) kq2 rfl; omega
    refine sv_gf C (index := 126) (ci := 1) (k := 5) (r := (RX1, TX1, 6)) (v := sv_i ((-1))) (by decide +kernel) (by rw [kq2]; rfl) rfl (by decide) fl_X4_126 (congrArg sv_i t3) ?_
    refine sv_go C.1 C.2.1 [(.isub, 1)] (pc' := 21) (by decide +kernel) rfl (lv' := [(0, sv_r a), (1, sv_i d)]) (st' := [sv_i ((dy_ea y) - ((-1))), sv_i d]) rfl ?_
    refine sv_icmp_t C.1 C.2.1 (cnd := .lt) (off := 7) (tgt := 28) (by decide +kernel) (by decide) ⟨by omega, by omega⟩ ⟨by omega, by omega⟩ (show d < ((dy_ea y) - ((-1))) by omega) ?_
    refine sv_go C.1 C.2.1 [(.iconst 0, 1)] (pc' := 29) (by decide +kernel) rfl (lv' := [(0, sv_r a), (1, sv_i d)]) (st' := [sv_i 0]) rfl ?_
    exact sv_zret C hr (by first | exact Or.inl rfl | exact Or.inr rfl | omega) (by decide +kernel) hok (⟨rfl, Or.inr ⟨id, rfl⟩⟩)

set_option maxHeartbeats 4000000 in
set_option maxRecDepth 100000 in
theorem ct_X4_hasVigil (l : Launch) (g : sv_G) (A : Nat → Prop) (ty : Nat → Nat) (σ : Nat → Nat → Int) (hok : sv_ok ty σ) (hI : sv_inv sp_1 ty σ) (a : Nat) (k_a : ty a = 4) (y : Int) (hy : 1 ≤ y ∧ y ≤ 2000) (hP : pl_st σ a y) (d : Int) (hd : -10 ≤ d ∧ d ≤ 370) : sv_M l yX4_hasVigil cX4_hasVigil 3 (some .boolean) { frames := 1, cells := 0, slots := 0, locals := 21 } g A ty σ [sv_r a, sv_i d] (fun r σ' => σ = σ' ∧ sv_bo False r) := by
  refine sv_enter (by decide) (Nat.le_of_ble_eq_true rfl) ?_
  intro p e s m args below meth c C hr
  have C : sv_C g A RX4 cX4_hasVigil 3 p s m args meth c := C
  have hr : meth.sig.returnType = (some .boolean) := hr
  refine sv_same (st2 := []) (lv2 := [(0, sv_r a), (1, sv_i d)]) rfl rfl ?_
  refine sv_go C.1 C.2.1 [(.aload_n 0, 1), (.iload_n 1, 1)] (pc' := 2) (by decide +kernel) rfl (lv' := [(0, sv_r a), (1, sv_i d)]) (st' := [sv_i d, sv_r a]) rfl ?_
  refine sv_cv C (index := 108) (k := 1) (rest := []) (ci := 3) (r := (RX4, TX4, 11)) (by decide +kernel) (ct_X4_feastHeldOn l g A ty σ hok hI a k_a (y) ⟨by omega, by omega⟩ hP (d) ⟨by omega, by omega⟩) ⟨co_X4_feastHeldOn, in_X4, ⟨by decide, by decide, by decide +kernel⟩, Nat.le_of_ble_eq_true rfl, Nat.le_of_ble_eq_true rfl⟩ ml_X4_108 im_X4_feastHeldOn se_X4_feastHeldOn (by rw [k_a]; rfl) rfl rfl rfl (Nat.le_of_ble_eq_true rfl) ⟨Nat.zero_le _, Nat.zero_le _⟩ (fun r2 σ3 hpo1 hok4 => ?_)
  obtain ⟨rfl, rfl⟩ := hpo1
  refine sv_same (st2 := [sv_a 0]) (lv2 := [(0, sv_r a), (1, sv_i d)]) rfl rfl ?_
  refine sv_go C.1 C.2.1 [(.astore_n 2, 1), (.aload_n 2, 1)] (pc' := 7) (by decide +kernel) rfl (lv' := [(0, sv_r a), (1, sv_i d), (2, sv_a 0)]) (st' := [sv_a 0]) rfl ?_
  refine sv_ifnull C.1 C.2.1 (off := 14) (tgt := 21) (by decide +kernel) (by decide) (by omega) (fun _ => ?_) (fun (h5 : 0 < 0) => absurd h5 (by omega))
  refine sv_go C.1 C.2.1 [(.iconst 0, 1)] (pc' := 22) (by decide +kernel) rfl (lv' := [(0, sv_r a), (1, sv_i d), (2, sv_a 0)]) (st' := [sv_i 0]) rfl ?_
  exact sv_zret C hr (by first | exact Or.inl rfl | exact Or.inr rfl | omega) (by decide +kernel) hok4 (⟨rfl, Or.inr ⟨id, rfl⟩⟩)

theorem ml_X4_129 : Cond.methodLink RX4 129 yX4_hasVigil ∈ lw_good := sv_mem 772 (by decide +kernel) rfl
theorem co_X4_hasVigil : Cond.code yX4_hasVigil cX4_hasVigil 3 (some .boolean) ∈ lw_good := sv_mem 775 (by decide +kernel) rfl
theorem im_X4_hasVigil : Cond.instanceMethod yX4_hasVigil ∈ lw_good := sv_mem 774 (by decide +kernel) rfl
theorem se_X4_hasVigil : Cond.selects RX4 yX4_hasVigil yX4_hasVigil ∈ lw_good := sv_mem 29 (by decide +kernel) rfl
set_option maxHeartbeats 4000000 in
set_option maxRecDepth 100000 in
theorem ct_X4_isVigil (l : Launch) (g : sv_G) (A : Nat → Prop) (ty : Nat → Nat) (σ : Nat → Nat → Int) (hok : sv_ok ty σ) (hI : sv_inv sp_1 ty σ) (a : Nat) (k_a : ty a = 4) (y : Int) (hy : 1 ≤ y ∧ y ≤ 2000) (hP : pl_st σ a y) (d : Int) (hd : 0 ≤ d ∧ d ≤ 366) (b : Int) (hb : 0 ≤ b ∧ b ≤ 1) : sv_M l yX4_isVigil cX4_isVigil 3 (some .boolean) { frames := 3, cells := 0, slots := 0, locals := 62 } g A ty σ [sv_r a, sv_i d, sv_i b] (fun r σ' => σ = σ' ∧ sv_bo False r) := by
  refine sv_enter (by decide) (Nat.le_of_ble_eq_true rfl) ?_
  intro p e s m args below meth c C hr
  have C : sv_C g A RX4 cX4_isVigil 3 p s m args meth c := C
  have hr : meth.sig.returnType = (some .boolean) := hr
  refine sv_same (st2 := []) (lv2 := [(0, sv_r a), (1, sv_i d), (2, sv_i b)]) rfl rfl ?_
  refine sv_go C.1 C.2.1 [(.iload_n 2, 1)] (pc' := 1) (by decide +kernel) rfl (lv' := [(0, sv_r a), (1, sv_i d), (2, sv_i b)]) (st' := [sv_i b]) rfl ?_
  refine sv_if C.1 C.2.1 (cnd := .ne) (off := 15) (tgt := 16) (by decide +kernel) (by decide) ⟨by omega, by omega⟩ (fun (h1 : b ≠ 0) => ?_) (fun (h1 : ¬ (b ≠ 0)) => ?_)
  · refine sv_go C.1 C.2.1 [(.aload_n 0, 1)] (pc' := 17) (by decide +kernel) rfl (lv' := [(0, sv_r a), (1, sv_i d), (2, sv_i b)]) (st' := [sv_r a]) rfl ?_
    refine sv_gf C (index := 37) (ci := 3) (k := 10) (r := (RX4, TX4, 11)) (v := sv_i y) (by decide +kernel) (by rw [k_a]; rfl) rfl (by decide) fl_X4_37 (congrArg sv_i hP.1) ?_
    refine sv_go C.1 C.2.1 [(.iload_n 1, 1), (.iconst 1, 1), (.iadd, 1)] (pc' := 23) (by decide +kernel) rfl (lv' := [(0, sv_r a), (1, sv_i d), (2, sv_i b)]) (st' := [sv_i (d + 1), sv_i y]) rfl ?_
    refine sv_cs C (index := 116) (k := 2) (rest := []) (by decide +kernel) (ct_X2_isSunday l g A ty σ hok (y) ⟨by omega, by omega⟩ (d + 1) ⟨by omega, by omega⟩) ⟨co_X2_isSunday, in_X2, ⟨by decide, by decide, by decide +kernel⟩, Nat.le_of_ble_eq_true rfl, Nat.le_of_ble_eq_true rfl⟩ ml_X4_116 st_X2_isSunday rfl rfl (Nat.le_of_ble_eq_true rfl) ⟨Nat.zero_le _, Nat.zero_le _⟩ (fun r3 σ4 hpo2 hok5 => ?_)
    obtain ⟨rfl, ⟨h6, rfl⟩ | ⟨h6, rfl⟩⟩ := hpo2
    · refine sv_same (st2 := [sv_i 1]) (lv2 := [(0, sv_r a), (1, sv_i d), (2, sv_i b)]) rfl rfl ?_
      refine sv_if_f C.1 C.2.1 (cnd := .eq) (off := 17) (tgt := 43) (by decide +kernel) (by decide) ⟨by omega, by omega⟩ (show ¬ (1 = 0) by omega) ?_
      refine sv_go C.1 C.2.1 [(.aload_n 0, 1), (.iload_n 1, 1), (.iconst 2, 1), (.iadd, 1)] (pc' := 33) (by decide +kernel) rfl (lv' := [(0, sv_r a), (1, sv_i d), (2, sv_i b)]) (st' := [sv_i (d + 2), sv_r a]) rfl ?_
      refine sv_cv C (index := 129) (k := 1) (rest := []) (ci := 3) (r := (RX4, TX4, 11)) (by decide +kernel) (ct_X4_hasVigil l g A ty σ hok5 hI a k_a (y) ⟨by omega, by omega⟩ hP (d + 2) ⟨by omega, by omega⟩) ⟨co_X4_hasVigil, in_X4, ⟨by decide, by decide, by decide +kernel⟩, Nat.le_of_ble_eq_true rfl, Nat.le_of_ble_eq_true rfl⟩ ml_X4_129 im_X4_hasVigil se_X4_hasVigil (by rw [k_a]; rfl) rfl rfl rfl (Nat.le_of_ble_eq_true rfl) ⟨Nat.zero_le _, Nat.zero_le _⟩ (fun r8 σ9 hpo7 hok10 => ?_)
      obtain ⟨rfl, hpo7⟩ := hpo7
      obtain rfl := sv_boF hpo7
      refine sv_same (st2 := [sv_i 0]) (lv2 := [(0, sv_r a), (1, sv_i d), (2, sv_i b)]) rfl rfl ?_
      refine sv_if_t C.1 C.2.1 (cnd := .eq) (off := 7) (tgt := 43) (by decide +kernel) (by decide) ⟨by omega, by omega⟩ (show 0 = 0 by omega) ?_
      refine sv_go C.1 C.2.1 [(.iconst 0, 1)] (pc' := 44) (by decide +kernel) rfl (lv' := [(0, sv_r a), (1, sv_i d), (2, sv_i b)]) (st' := [sv_i 0]) rfl ?_
      exact sv_zret C hr (by first | exact Or.inl rfl | exact Or.inr rfl | omega) (by decide +kernel) hok10 (⟨rfl, Or.inr ⟨id, rfl⟩⟩)
    · refine sv_same (st2 := [sv_i 0]) (lv2 := [(0, sv_r a), (1, sv_i d), (2, sv_i b)]) rfl rfl ?_
      refine sv_if_t C.1 C.2.1 (cnd := .eq) (off := 17) (tgt := 43) (by decide +kernel) (by decide) ⟨by omega, by omega⟩ (show 0 = 0 by omega) ?_
      refine sv_go C.1 C.2.1 [(.iconst 0, 1)] (pc' := 44) (by decide +kernel) rfl (lv' := [(0, sv_r a), (1, sv_i d), (2, sv_i b)]) (st' := [sv_i 0]) rfl ?_
      exact sv_zret C hr (by first | exact Or.inl rfl | exact Or.inr rfl | omega) (by decide +kernel) hok5 (⟨rfl, Or.inr ⟨id, rfl⟩⟩)
  · refine sv_go C.1 C.2.1 [(.aload_n 0, 1), (.iload_n 1, 1), (.iconst 1, 1), (.iadd, 1)] (pc' := 8) (by decide +kernel) rfl (lv' := [(0, sv_r a), (1, sv_i d), (2, sv_i b)]) (st' := [sv_i (d + 1), sv_r a]) rfl ?_
    refine sv_cv C (index := 129) (k := 1) (rest := []) (ci := 3) (r := (RX4, TX4, 11)) (by decide +kernel) (ct_X4_hasVigil l g A ty σ hok hI a k_a (y) ⟨by omega, by omega⟩ hP (d + 1) ⟨by omega, by omega⟩) ⟨co_X4_hasVigil, in_X4, ⟨by decide, by decide, by decide +kernel⟩, Nat.le_of_ble_eq_true rfl, Nat.le_of_ble_eq_true rfl⟩ ml_X4_129 im_X4_hasVigil se_X4_hasVigil (by rw [k_a]; rfl) rfl rfl rfl (Nat.le_of_ble_eq_true rfl) ⟨Nat.zero_le _, Nat.zero_le _⟩ (fun r12 σ13 hpo11 hok14 => ?_)
    obtain ⟨rfl, hpo11⟩ := hpo11
    obtain rfl := sv_boF hpo11
    refine sv_same (st2 := [sv_i 0]) (lv2 := [(0, sv_r a), (1, sv_i d), (2, sv_i b)]) rfl rfl ?_
    refine sv_if_t C.1 C.2.1 (cnd := .eq) (off := 5) (tgt := 16) (by decide +kernel) (by decide) ⟨by omega, by omega⟩ (show 0 = 0 by omega) ?_
    refine sv_go C.1 C.2.1 [(.aload_n 0, 1)] (pc' := 17) (by decide +kernel) rfl (lv' := [(0, sv_r a), (1, sv_i d), (2, sv_i b)]) (st' := [sv_r a]) rfl ?_
    refine sv_gf C (index := 37) (ci := 3) (k := 10) (r := (RX4, TX4, 11)) (v := sv_i y) (by decide +kernel) (by rw [k_a]; rfl) rfl (by decide) fl_X4_37 (congrArg sv_i hP.1) ?_
    refine sv_go C.1 C.2.1 [(.iload_n 1, 1), (.iconst 1, 1), (.iadd, 1)] (pc' := 23) (by decide +kernel) rfl (lv' := [(0, sv_r a), (1, sv_i d), (2, sv_i b)]) (st' := [sv_i (d + 1), sv_i y]) rfl ?_
    refine sv_cs C (index := 116) (k := 2) (rest := []) (by decide +kernel) (ct_X2_isSunday l g A ty σ hok14 (y) ⟨by omega, by omega⟩ (d + 1) ⟨by omega, by omega⟩) ⟨co_X2_isSunday, in_X2, ⟨by decide, by decide, by decide +kernel⟩, Nat.le_of_ble_eq_true rfl, Nat.le_of_ble_eq_true rfl⟩ ml_X4_116 st_X2_isSunday rfl rfl (Nat.le_of_ble_eq_true rfl) ⟨Nat.zero_le _, Nat.zero_le _⟩ (fun r16 σ17 hpo15 hok18 => ?_)
    obtain ⟨rfl, ⟨h19, rfl⟩ | ⟨h19, rfl⟩⟩ := hpo15
    · refine sv_same (st2 := [sv_i 1]) (lv2 := [(0, sv_r a), (1, sv_i d), (2, sv_i b)]) rfl rfl ?_
      refine sv_if_f C.1 C.2.1 (cnd := .eq) (off := 17) (tgt := 43) (by decide +kernel) (by decide) ⟨by omega, by omega⟩ (show ¬ (1 = 0) by omega) ?_
      refine sv_go C.1 C.2.1 [(.aload_n 0, 1), (.iload_n 1, 1), (.iconst 2, 1), (.iadd, 1)] (pc' := 33) (by decide +kernel) rfl (lv' := [(0, sv_r a), (1, sv_i d), (2, sv_i b)]) (st' := [sv_i (d + 2), sv_r a]) rfl ?_
      refine sv_cv C (index := 129) (k := 1) (rest := []) (ci := 3) (r := (RX4, TX4, 11)) (by decide +kernel) (ct_X4_hasVigil l g A ty σ hok18 hI a k_a (y) ⟨by omega, by omega⟩ hP (d + 2) ⟨by omega, by omega⟩) ⟨co_X4_hasVigil, in_X4, ⟨by decide, by decide, by decide +kernel⟩, Nat.le_of_ble_eq_true rfl, Nat.le_of_ble_eq_true rfl⟩ ml_X4_129 im_X4_hasVigil se_X4_hasVigil (by rw [k_a]; rfl) rfl rfl rfl (Nat.le_of_ble_eq_true rfl) ⟨Nat.zero_le _, Nat.zero_le _⟩ (fun r21 σ22 hpo20 hok23 => ?_)
      obtain ⟨rfl, hpo20⟩ := hpo20
      obtain rfl := sv_boF hpo20
      refine sv_same (st2 := [sv_i 0]) (lv2 := [(0, sv_r a), (1, sv_i d), (2, sv_i b)]) rfl rfl ?_
      refine sv_if_t C.1 C.2.1 (cnd := .eq) (off := 7) (tgt := 43) (by decide +kernel) (by decide) ⟨by omega, by omega⟩ (show 0 = 0 by omega) ?_
      refine sv_go C.1 C.2.1 [(.iconst 0, 1)] (pc' := 44) (by decide +kernel) rfl (lv' := [(0, sv_r a), (1, sv_i d), (2, sv_i b)]) (st' := [sv_i 0]) rfl ?_
      exact sv_zret C hr (by first | exact Or.inl rfl | exact Or.inr rfl | omega) (by decide +kernel) hok23 (⟨rfl, Or.inr ⟨id, rfl⟩⟩)
    · refine sv_same (st2 := [sv_i 0]) (lv2 := [(0, sv_r a), (1, sv_i d), (2, sv_i b)]) rfl rfl ?_
      refine sv_if_t C.1 C.2.1 (cnd := .eq) (off := 17) (tgt := 43) (by decide +kernel) (by decide) ⟨by omega, by omega⟩ (show 0 = 0 by omega) ?_
      refine sv_go C.1 C.2.1 [(.iconst 0, 1)] (pc' := 44) (by decide +kernel) rfl (lv' := [(0, sv_r a), (1, sv_i d), (2, sv_i b)]) (st' := [sv_i 0]) rfl ?_
      exact sv_zret C hr (by first | exact Or.inl rfl | exact Or.inr rfl | omega) (by decide +kernel) hok18 (⟨rfl, Or.inr ⟨id, rfl⟩⟩)

theorem ml_X4_122 : Cond.methodLink RX4 122 yX4_isVigil ∈ lw_good := sv_mem 768 (by decide +kernel) rfl
theorem co_X4_isVigil : Cond.code yX4_isVigil cX4_isVigil 3 (some .boolean) ∈ lw_good := sv_mem 771 (by decide +kernel) rfl
theorem im_X4_isVigil : Cond.instanceMethod yX4_isVigil ∈ lw_good := sv_mem 770 (by decide +kernel) rfl
theorem se_X4_isVigil : Cond.selects RX4 yX4_isVigil yX4_isVigil ∈ lw_good := sv_mem 28 (by decide +kernel) rfl
theorem ml_X4_119 : Cond.methodLink RX4 119 yX4_isInLent ∈ lw_good := sv_mem 764 (by decide +kernel) rfl
theorem co_X4_isInLent : Cond.code yX4_isInLent cX4_isInLent 2 (some .boolean) ∈ lw_good := sv_mem 767 (by decide +kernel) rfl
theorem im_X4_isInLent : Cond.instanceMethod yX4_isInLent ∈ lw_good := sv_mem 766 (by decide +kernel) rfl
theorem se_X4_isInLent : Cond.selects RX4 yX4_isInLent yX4_isInLent ∈ lw_good := sv_mem 27 (by decide +kernel) rfl
set_option maxHeartbeats 4000000 in
set_option maxRecDepth 100000 in
theorem ct_X4_isFast (l : Launch) (g : sv_G) (A : Nat → Prop) (ty : Nat → Nat) (σ : Nat → Nat → Int) (hok : sv_ok ty σ) (hI : sv_inv sp_1 ty σ) (a : Nat) (k_a : ty a = 4) (y : Int) (hy : 1 ≤ y ∧ y ≤ 2000) (hP : pl_st σ a y) (d : Int) (hd : 0 ≤ d ∧ d ≤ 366) : sv_M l yX4_isFast cX4_isFast 3 (some .boolean) { frames := 4, cells := 0, slots := 0, locals := 84 } g A ty σ [sv_r a, sv_i d] (fun r σ' => σ = σ' ∧ sv_bo False r) := by
  refine sv_enter (by decide) (Nat.le_of_ble_eq_true rfl) ?_
  intro p e s m args below meth c C hr
  have C : sv_C g A RX4 cX4_isFast 3 p s m args meth c := C
  have hr : meth.sig.returnType = (some .boolean) := hr
  refine sv_same (st2 := []) (lv2 := [(0, sv_r a), (1, sv_i d)]) rfl rfl ?_
  refine sv_go C.1 C.2.1 [(.aload_n 0, 1)] (pc' := 1) (by decide +kernel) rfl (lv' := [(0, sv_r a), (1, sv_i d)]) (st' := [sv_r a]) rfl ?_
  refine sv_gf C (index := 37) (ci := 3) (k := 10) (r := (RX4, TX4, 11)) (v := sv_i y) (by decide +kernel) (by rw [k_a]; rfl) rfl (by decide) fl_X4_37 (congrArg sv_i hP.1) ?_
  refine sv_go C.1 C.2.1 [(.iload_n 1, 1)] (pc' := 5) (by decide +kernel) rfl (lv' := [(0, sv_r a), (1, sv_i d)]) (st' := [sv_i d, sv_i y]) rfl ?_
  refine sv_cs C (index := 116) (k := 2) (rest := []) (by decide +kernel) (ct_X2_isSunday l g A ty σ hok (y) ⟨by omega, by omega⟩ (d) ⟨by omega, by omega⟩) ⟨co_X2_isSunday, in_X2, ⟨by decide, by decide, by decide +kernel⟩, Nat.le_of_ble_eq_true rfl, Nat.le_of_ble_eq_true rfl⟩ ml_X4_116 st_X2_isSunday rfl rfl (Nat.le_of_ble_eq_true rfl) ⟨Nat.zero_le _, Nat.zero_le _⟩ (fun r2 σ3 hpo1 hok4 => ?_)
  obtain ⟨rfl, ⟨h5, rfl⟩ | ⟨h5, rfl⟩⟩ := hpo1
  · refine sv_same (st2 := [sv_i 1]) (lv2 := [(0, sv_r a), (1, sv_i d)]) rfl rfl ?_
    refine sv_go C.1 C.2.1 [(.istore_n 2, 1), (.iload_n 2, 1)] (pc' := 10) (by decide +kernel) rfl (lv' := [(0, sv_r a), (1, sv_i d), (2, sv_i 1)]) (st' := [sv_i 1]) rfl ?_
    refine sv_if_t C.1 C.2.1 (cnd := .ne) (off := 11) (tgt := 21) (by decide +kernel) (by decide) ⟨by omega, by omega⟩ (show 1 ≠ 0 by omega) ?_
    refine sv_go C.1 C.2.1 [(.aload_n 0, 1), (.iload_n 1, 1), (.iload_n 2, 1)] (pc' := 24) (by decide +kernel) rfl (lv' := [(0, sv_r a), (1, sv_i d), (2, sv_i 1)]) (st' := [sv_i 1, sv_i d, sv_r a]) rfl ?_
    refine sv_cv C (index := 122) (k := 2) (rest := []) (ci := 3) (r := (RX4, TX4, 11)) (by decide +kernel) (ct_X4_isVigil l g A ty σ hok4 hI a k_a (y) ⟨by omega, by omega⟩ hP (d) ⟨by omega, by omega⟩ (1) ⟨by omega, by omega⟩) ⟨co_X4_isVigil, in_X4, ⟨by decide, by decide, by decide +kernel⟩, Nat.le_of_ble_eq_true rfl, Nat.le_of_ble_eq_true rfl⟩ ml_X4_122 im_X4_isVigil se_X4_isVigil (by rw [k_a]; rfl) rfl rfl rfl (Nat.le_of_ble_eq_true rfl) ⟨Nat.zero_le _, Nat.zero_le _⟩ (fun r7 σ8 hpo6 hok9 => ?_)
    obtain ⟨rfl, hpo6⟩ := hpo6
    obtain rfl := sv_boF hpo6
    refine sv_same (st2 := [sv_i 0]) (lv2 := [(0, sv_r a), (1, sv_i d), (2, sv_i 1)]) rfl rfl ?_
    refine sv_if_t C.1 C.2.1 (cnd := .eq) (off := 7) (tgt := 34) (by decide +kernel) (by decide) ⟨by omega, by omega⟩ (show 0 = 0 by omega) ?_
    refine sv_go C.1 C.2.1 [(.iconst 0, 1)] (pc' := 35) (by decide +kernel) rfl (lv' := [(0, sv_r a), (1, sv_i d), (2, sv_i 1)]) (st' := [sv_i 0]) rfl ?_
    exact sv_zret C hr (by first | exact Or.inl rfl | exact Or.inr rfl | omega) (by decide +kernel) hok9 (⟨rfl, Or.inr ⟨id, rfl⟩⟩)
  · refine sv_same (st2 := [sv_i 0]) (lv2 := [(0, sv_r a), (1, sv_i d)]) rfl rfl ?_
    refine sv_go C.1 C.2.1 [(.istore_n 2, 1), (.iload_n 2, 1)] (pc' := 10) (by decide +kernel) rfl (lv' := [(0, sv_r a), (1, sv_i d), (2, sv_i 0)]) (st' := [sv_i 0]) rfl ?_
    refine sv_if_f C.1 C.2.1 (cnd := .ne) (off := 11) (tgt := 21) (by decide +kernel) (by decide) ⟨by omega, by omega⟩ (show ¬ (0 ≠ 0) by omega) ?_
    refine sv_go C.1 C.2.1 [(.aload_n 0, 1), (.iload_n 1, 1)] (pc' := 15) (by decide +kernel) rfl (lv' := [(0, sv_r a), (1, sv_i d), (2, sv_i 0)]) (st' := [sv_i d, sv_r a]) rfl ?_
    refine sv_cv C (index := 119) (k := 1) (rest := []) (ci := 3) (r := (RX4, TX4, 11)) (by decide +kernel) (ct_X4_isInLent l g A ty σ hok4 hI a k_a (y) ⟨by omega, by omega⟩ hP (d) ⟨by omega, by omega⟩) ⟨co_X4_isInLent, in_X4, ⟨by decide, by decide, by decide +kernel⟩, Nat.le_of_ble_eq_true rfl, Nat.le_of_ble_eq_true rfl⟩ ml_X4_119 im_X4_isInLent se_X4_isInLent (by rw [k_a]; rfl) rfl rfl rfl (Nat.le_of_ble_eq_true rfl) ⟨Nat.zero_le _, Nat.zero_le _⟩ (fun r11 σ12 hpo10 hok13 => ?_)
    obtain ⟨rfl, hpo10⟩ := hpo10
    obtain rfl := sv_boF hpo10
    refine sv_same (st2 := [sv_i 0]) (lv2 := [(0, sv_r a), (1, sv_i d), (2, sv_i 0)]) rfl rfl ?_
    refine sv_if_f C.1 C.2.1 (cnd := .ne) (off := 12) (tgt := 30) (by decide +kernel) (by decide) ⟨by omega, by omega⟩ (show ¬ (0 ≠ 0) by omega) ?_
    refine sv_go C.1 C.2.1 [(.aload_n 0, 1), (.iload_n 1, 1), (.iload_n 2, 1)] (pc' := 24) (by decide +kernel) rfl (lv' := [(0, sv_r a), (1, sv_i d), (2, sv_i 0)]) (st' := [sv_i 0, sv_i d, sv_r a]) rfl ?_
    refine sv_cv C (index := 122) (k := 2) (rest := []) (ci := 3) (r := (RX4, TX4, 11)) (by decide +kernel) (ct_X4_isVigil l g A ty σ hok13 hI a k_a (y) ⟨by omega, by omega⟩ hP (d) ⟨by omega, by omega⟩ (0) ⟨by omega, by omega⟩) ⟨co_X4_isVigil, in_X4, ⟨by decide, by decide, by decide +kernel⟩, Nat.le_of_ble_eq_true rfl, Nat.le_of_ble_eq_true rfl⟩ ml_X4_122 im_X4_isVigil se_X4_isVigil (by rw [k_a]; rfl) rfl rfl rfl (Nat.le_of_ble_eq_true rfl) ⟨Nat.zero_le _, Nat.zero_le _⟩ (fun r15 σ16 hpo14 hok17 => ?_)
    obtain ⟨rfl, hpo14⟩ := hpo14
    obtain rfl := sv_boF hpo14
    refine sv_same (st2 := [sv_i 0]) (lv2 := [(0, sv_r a), (1, sv_i d), (2, sv_i 0)]) rfl rfl ?_
    refine sv_if_t C.1 C.2.1 (cnd := .eq) (off := 7) (tgt := 34) (by decide +kernel) (by decide) ⟨by omega, by omega⟩ (show 0 = 0 by omega) ?_
    refine sv_go C.1 C.2.1 [(.iconst 0, 1)] (pc' := 35) (by decide +kernel) rfl (lv' := [(0, sv_r a), (1, sv_i d), (2, sv_i 0)]) (st' := [sv_i 0]) rfl ?_
    exact sv_zret C hr (by first | exact Or.inl rfl | exact Or.inr rfl | omega) (by decide +kernel) hok17 (⟨rfl, Or.inr ⟨id, rfl⟩⟩)

set_option maxHeartbeats 4000000 in
set_option maxRecDepth 100000 in
theorem ct_X4_feastOf (l : Launch) (g : sv_G) (A : Nat → Prop) (ty : Nat → Nat) (σ : Nat → Nat → Int) (hok : sv_ok ty σ) (hI : sv_inv sp_1 ty σ) (a : Nat) (k_a : ty a = 4) (y : Int) (hy : 1 ≤ y ∧ y ≤ 2000) (hP : pl_st σ a y) (v : Int) (hv : -11 ≤ v ∧ v ≤ -10) : sv_M l yX4_feastOf cX4_feastOf 3 (some (.object "SaintsRoad$Feast")) { frames := 0, cells := 0, slots := 0, locals := 0 } g A ty σ [sv_r a, sv_i v] (fun r σ' => σ = σ' ∧ r = [sv_a 0]) := by
  refine sv_enter (by decide) (Nat.le_of_ble_eq_true rfl) ?_
  intro p e s m args below meth c C hr
  have C : sv_C g A RX4 cX4_feastOf 3 p s m args meth c := C
  have hr : meth.sig.returnType = (some (.object "SaintsRoad$Feast")) := hr
  refine sv_same (st2 := []) (lv2 := [(0, sv_r a), (1, sv_i v)]) rfl rfl ?_
  refine sv_go C.1 C.2.1 [(.iload_n 1, 1), (.bipush (-20), 2)] (pc' := 3) (by decide +kernel) rfl (lv' := [(0, sv_r a), (1, sv_i v)]) (st' := [sv_i ((-20)), sv_i v]) rfl ?_
  refine sv_icmp_t C.1 C.2.1 (cnd := .gt) (off := 10) (tgt := 13) (by decide +kernel) (by decide) ⟨by omega, by omega⟩ ⟨by omega, by omega⟩ (show ((-20)) < v by omega) ?_
  refine sv_go C.1 C.2.1 [(.iload_n 1, 1), (.istore_n 2, 1), (.iload_n 2, 1)] (pc' := 16) (by decide +kernel) rfl (lv' := [(0, sv_r a), (1, sv_i v), (2, sv_i v)]) (st' := [sv_i v]) rfl ?_
  refine sv_if_t C.1 C.2.1 (cnd := .lt) (off := 26) (tgt := 42) (by decide +kernel) (by decide) ⟨by omega, by omega⟩ (show v < 0 by omega) ?_
  refine sv_go C.1 C.2.1 [(.aconst_null, 1)] (pc' := 43) (by decide +kernel) rfl (lv' := [(0, sv_r a), (1, sv_i v), (2, sv_i v)]) (st' := [sv_a 0]) rfl ?_
  exact sv_aret C hr (Or.inl ⟨_, rfl⟩) (by decide +kernel) hok (⟨rfl, rfl⟩)

theorem ml_X4_135 : Cond.methodLink RX4 135 yX4_officeOf ∈ lw_good := sv_mem 784 (by decide +kernel) rfl
theorem co_X4_officeOf : Cond.code yX4_officeOf cX4_officeOf 4 (some .int) ∈ lw_good := sv_mem 739 (by decide +kernel) rfl
theorem im_X4_officeOf : Cond.instanceMethod yX4_officeOf ∈ lw_good := sv_mem 737 (by decide +kernel) rfl
theorem se_X4_officeOf : Cond.selects RX4 yX4_officeOf yX4_officeOf ∈ lw_good := sv_mem 738 (by decide +kernel) rfl
theorem ml_X4_138 : Cond.methodLink RX4 138 yX4_feastOf ∈ lw_good := sv_mem 785 (by decide +kernel) rfl
theorem co_X4_feastOf : Cond.code yX4_feastOf cX4_feastOf 3 (some (.object "SaintsRoad$Feast")) ∈ lw_good := sv_mem 788 (by decide +kernel) rfl
theorem im_X4_feastOf : Cond.instanceMethod yX4_feastOf ∈ lw_good := sv_mem 787 (by decide +kernel) rfl
theorem se_X4_feastOf : Cond.selects RX4 yX4_feastOf yX4_feastOf ∈ lw_good := sv_mem 30 (by decide +kernel) rfl
set_option maxHeartbeats 4000000 in
set_option maxRecDepth 100000 in
theorem ct_X4_waxOf (l : Launch) (g : sv_G) (A : Nat → Prop) (ty : Nat → Nat) (σ : Nat → Nat → Int) (hok : sv_ok ty σ) (hI : sv_inv sp_1 ty σ) (a : Nat) (k_a : ty a = 4) (y : Int) (hy : 1 ≤ y ∧ y ≤ 2000) (hP : pl_st σ a y) (d : Int) (hd : 0 ≤ d ∧ d ≤ 366) : sv_M l yX4_waxOf cX4_waxOf 5 (some .int) { frames := 4, cells := 0, slots := 0, locals := 85 } g A ty σ [sv_r a, sv_i d] (fun r σ' => σ = σ' ∧ r = [sv_i 0]) := by
  refine sv_enter (by decide) (Nat.le_of_ble_eq_true rfl) ?_
  intro p e s m args below meth c C hr
  have C : sv_C g A RX4 cX4_waxOf 5 p s m args meth c := C
  have hr : meth.sig.returnType = (some .int) := hr
  refine sv_same (st2 := []) (lv2 := [(0, sv_r a), (1, sv_i d)]) rfl rfl ?_
  refine sv_go C.1 C.2.1 [(.aload_n 0, 1), (.iload_n 1, 1)] (pc' := 2) (by decide +kernel) rfl (lv' := [(0, sv_r a), (1, sv_i d)]) (st' := [sv_i d, sv_r a]) rfl ?_
  refine sv_cv C (index := 135) (k := 1) (rest := []) (ci := 3) (r := (RX4, TX4, 11)) (by decide +kernel) (ct_X4_officeOf l g A ty σ hok hI a k_a (y) ⟨by omega, by omega⟩ hP (d) ⟨by omega, by omega⟩) ⟨co_X4_officeOf, in_X4, ⟨by decide, by decide, by decide +kernel⟩, Nat.le_of_ble_eq_true rfl, Nat.le_of_ble_eq_true rfl⟩ ml_X4_135 im_X4_officeOf se_X4_officeOf (by rw [k_a]; rfl) rfl rfl rfl (Nat.le_of_ble_eq_true rfl) ⟨Nat.zero_le _, Nat.zero_le _⟩ (fun r2 σ3 hpo1 hok4 => ?_)
  obtain ⟨rfl, rfl⟩ := hpo1
  have ho5 := fx_of_in y d
  refine sv_same (st2 := [sv_i (fx_of y d)]) (lv2 := [(0, sv_r a), (1, sv_i d)]) rfl rfl ?_
  refine sv_go C.1 C.2.1 [(.istore_n 2, 1), (.aload_n 0, 1), (.iload_n 2, 1)] (pc' := 8) (by decide +kernel) rfl (lv' := [(0, sv_r a), (1, sv_i d), (2, sv_i (fx_of y d))]) (st' := [sv_i (fx_of y d), sv_r a]) rfl ?_
  refine sv_cv C (index := 138) (k := 1) (rest := []) (ci := 3) (r := (RX4, TX4, 11)) (by decide +kernel) (ct_X4_feastOf l g A ty σ hok4 hI a k_a (y) ⟨by omega, by omega⟩ hP (fx_of y d) ⟨by omega, by omega⟩) ⟨co_X4_feastOf, in_X4, ⟨by decide, by decide, by decide +kernel⟩, Nat.le_of_ble_eq_true rfl, Nat.le_of_ble_eq_true rfl⟩ ml_X4_138 im_X4_feastOf se_X4_feastOf (by rw [k_a]; rfl) rfl rfl rfl (Nat.le_of_ble_eq_true rfl) ⟨Nat.zero_le _, Nat.zero_le _⟩ (fun r7 σ8 hpo6 hok9 => ?_)
  obtain ⟨rfl, rfl⟩ := hpo6
  refine sv_same (st2 := [sv_a 0]) (lv2 := [(0, sv_r a), (1, sv_i d), (2, sv_i (fx_of y d))]) rfl rfl ?_
  refine sv_go C.1 C.2.1 [(.astore_n 3, 1), (.aload_n 3, 1)] (pc' := 13) (by decide +kernel) rfl (lv' := [(0, sv_r a), (1, sv_i d), (2, sv_i (fx_of y d)), (3, sv_a 0)]) (st' := [sv_a 0]) rfl ?_
  refine sv_ifnonnull C.1 C.2.1 (off := 5) (tgt := 18) (by decide +kernel) (by decide) (by omega) (fun (h10 : 0 < 0) => absurd h10 (by omega)) (fun _ => ?_)
  refine sv_go C.1 C.2.1 [(.iconst 0, 1)] (pc' := 17) (by decide +kernel) rfl (lv' := [(0, sv_r a), (1, sv_i d), (2, sv_i (fx_of y d)), (3, sv_a 0)]) (st' := [sv_i 0]) rfl ?_
  exact sv_iret C hr (by decide +kernel) hok9 (⟨rfl, rfl⟩)

set_option maxHeartbeats 4000000 in
set_option maxRecDepth 100000 in
theorem ct_X4_firstHeld (l : Launch) (g : sv_G) (A : Nat → Prop) (ty : Nat → Nat) (σ : Nat → Nat → Int) (hok : sv_ok ty σ) (hI : sv_inv sp_1 ty σ) (a : Nat) (k_a : ty a = 4) (y : Int) (hy : 1 ≤ y ∧ y ≤ 2000) (hP : pl_st σ a y) (v1 : Int) (hv1 : sv_in v1) (v2 : Int) (hv2 : sv_in v2) : sv_M l yX4_firstHeld cX4_firstHeld 6 (some .int) { frames := 0, cells := 0, slots := 0, locals := 0 } g A ty σ [sv_r a, sv_i v1, sv_i v2] (fun r σ' => σ = σ' ∧ r = [sv_i (-1)]) := by
  refine sv_enter (by decide) (Nat.le_of_ble_eq_true rfl) ?_
  intro p e s m args below meth c C hr
  have C : sv_C g A RX4 cX4_firstHeld 6 p s m args meth c := C
  have hr : meth.sig.returnType = (some .int) := hr
  refine sv_same (st2 := []) (lv2 := [(0, sv_r a), (1, sv_i v1), (2, sv_i v2)]) rfl rfl ?_
  refine sv_go C.1 C.2.1 [(.iconst (-1), 1), (.istore_n 3, 1), (.iconst 0, 1), (.istore 4, 2), (.iload 4, 2), (.aload_n 0, 1)] (pc' := 8) (by decide +kernel) rfl (lv' := [(0, sv_r a), (1, sv_i v1), (2, sv_i v2), (3, sv_i ((-1))), (4, sv_i 0)]) (st' := [sv_r a, sv_i 0]) rfl ?_
  obtain ⟨q1, eq1, kq1⟩ := hI.ref (k := 2) k_a rfl
  refine sv_gf C (index := 21) (ci := 3) (k := 2) (r := (RX4, TX4, 11)) (v := sv_r q1) (by decide +kernel) (by rw [k_a]; rfl) rfl (by decide) fl_X4_21 (congrArg sv_a eq1) ?_
  have t2 : σ q1 2 = 0 := by have q := hI.num (k := 2) kq1 rfl; omega
  refine sv_gf C (index := 75) (ci := 1) (k := 2) (r := (RX1, TX1, 6)) (v := sv_i 0) (by decide +kernel) (by rw [kq1]; rfl) rfl (by decide) fl_X4_75 (congrArg sv_i t2) ?_
  refine sv_icmp_t C.1 C.2.1 (cnd := .ge) (off := 72) (tgt := 86) (by decide +kernel) (by decide) ⟨by omega, by omega⟩ ⟨by omega, by omega⟩ (show 0 ≤ 0 by omega) ?_
  refine sv_go C.1 C.2.1 [(.iload_n 3, 1)] (pc' := 87) (by decide +kernel) rfl (lv' := [(0, sv_r a), (1, sv_i v1), (2, sv_i v2), (3, sv_i ((-1))), (4, sv_i 0)]) (st' := [sv_i ((-1))]) rfl ?_
  exact sv_iret C hr (by decide +kernel) hok (⟨rfl, rfl⟩)

set_option maxHeartbeats 4000000 in
set_option maxRecDepth 100000 in
theorem ct_X4_isAlike (l : Launch) (g : sv_G) (A : Nat → Prop) (ty : Nat → Nat) (σ : Nat → Nat → Int) (hok : sv_ok ty σ) (hI : sv_inv sp_1 ty σ) (a : Nat) (k_a : ty a = 4) (y : Int) (hy : 1 ≤ y ∧ y ≤ 2000) (hP : pl_st σ a y) (b : Nat) (k_b : ty b = 4) (hR : pl_st σ b y) (d : Int) (hd : 0 ≤ d ∧ d ≤ 366) : sv_M l yX4_isAlike cX4_isAlike 7 (some .boolean) { frames := 4, cells := 0, slots := 0, locals := 85 } g A ty σ [sv_r a, sv_r b, sv_i d] (fun r σ' => σ = σ' ∧ r = [sv_i 1]) := by
  refine sv_enter (by decide) (Nat.le_of_ble_eq_true rfl) ?_
  intro p e s m args below meth c C hr
  have C : sv_C g A RX4 cX4_isAlike 7 p s m args meth c := C
  have hr : meth.sig.returnType = (some .boolean) := hr
  refine sv_same (st2 := []) (lv2 := [(0, sv_r a), (1, sv_r b), (2, sv_i d)]) rfl rfl ?_
  refine sv_go C.1 C.2.1 [(.aload_n 0, 1), (.iload_n 2, 1)] (pc' := 2) (by decide +kernel) rfl (lv' := [(0, sv_r a), (1, sv_r b), (2, sv_i d)]) (st' := [sv_i d, sv_r a]) rfl ?_
  refine sv_cv C (index := 135) (k := 1) (rest := []) (ci := 3) (r := (RX4, TX4, 11)) (by decide +kernel) (ct_X4_officeOf l g A ty σ hok hI a k_a (y) ⟨by omega, by omega⟩ hP (d) ⟨by omega, by omega⟩) ⟨co_X4_officeOf, in_X4, ⟨by decide, by decide, by decide +kernel⟩, Nat.le_of_ble_eq_true rfl, Nat.le_of_ble_eq_true rfl⟩ ml_X4_135 im_X4_officeOf se_X4_officeOf (by rw [k_a]; rfl) rfl rfl rfl (Nat.le_of_ble_eq_true rfl) ⟨Nat.zero_le _, Nat.zero_le _⟩ (fun r2 σ3 hpo1 hok4 => ?_)
  obtain ⟨rfl, rfl⟩ := hpo1
  have ho5 := fx_of_in y d
  refine sv_same (st2 := [sv_i (fx_of y d)]) (lv2 := [(0, sv_r a), (1, sv_r b), (2, sv_i d)]) rfl rfl ?_
  refine sv_go C.1 C.2.1 [(.istore_n 3, 1), (.aload_n 1, 1), (.iload_n 2, 1)] (pc' := 8) (by decide +kernel) rfl (lv' := [(0, sv_r a), (1, sv_r b), (2, sv_i d), (3, sv_i (fx_of y d))]) (st' := [sv_i d, sv_r b]) rfl ?_
  refine sv_cv C (index := 135) (k := 1) (rest := []) (ci := 3) (r := (RX4, TX4, 11)) (by decide +kernel) (ct_X4_officeOf l g A ty σ hok4 hI b k_b (y) ⟨by omega, by omega⟩ hR (d) ⟨by omega, by omega⟩) ⟨co_X4_officeOf, in_X4, ⟨by decide, by decide, by decide +kernel⟩, Nat.le_of_ble_eq_true rfl, Nat.le_of_ble_eq_true rfl⟩ ml_X4_135 im_X4_officeOf se_X4_officeOf (by rw [k_b]; rfl) rfl rfl rfl (Nat.le_of_ble_eq_true rfl) ⟨Nat.zero_le _, Nat.zero_le _⟩ (fun r7 σ8 hpo6 hok9 => ?_)
  obtain ⟨rfl, rfl⟩ := hpo6
  have ho10 := fx_of_in y d
  refine sv_same (st2 := [sv_i (fx_of y d)]) (lv2 := [(0, sv_r a), (1, sv_r b), (2, sv_i d), (3, sv_i (fx_of y d))]) rfl rfl ?_
  refine sv_go C.1 C.2.1 [(.istore 4, 2), (.aload_n 0, 1), (.iload_n 3, 1)] (pc' := 15) (by decide +kernel) rfl (lv' := [(0, sv_r a), (1, sv_r b), (2, sv_i d), (3, sv_i (fx_of y d)), (4, sv_i (fx_of y d))]) (st' := [sv_i (fx_of y d), sv_r a]) rfl ?_
  refine sv_cv C (index := 138) (k := 1) (rest := []) (ci := 3) (r := (RX4, TX4, 11)) (by decide +kernel) (ct_X4_feastOf l g A ty σ hok9 hI a k_a (y) ⟨by omega, by omega⟩ hP (fx_of y d) ⟨by omega, by omega⟩) ⟨co_X4_feastOf, in_X4, ⟨by decide, by decide, by decide +kernel⟩, Nat.le_of_ble_eq_true rfl, Nat.le_of_ble_eq_true rfl⟩ ml_X4_138 im_X4_feastOf se_X4_feastOf (by rw [k_a]; rfl) rfl rfl rfl (Nat.le_of_ble_eq_true rfl) ⟨Nat.zero_le _, Nat.zero_le _⟩ (fun r12 σ13 hpo11 hok14 => ?_)
  obtain ⟨rfl, rfl⟩ := hpo11
  refine sv_same (st2 := [sv_a 0]) (lv2 := [(0, sv_r a), (1, sv_r b), (2, sv_i d), (3, sv_i (fx_of y d)), (4, sv_i (fx_of y d))]) rfl rfl ?_
  refine sv_go C.1 C.2.1 [(.astore 5, 2), (.aload_n 1, 1), (.iload 4, 2)] (pc' := 23) (by decide +kernel) rfl (lv' := [(0, sv_r a), (1, sv_r b), (2, sv_i d), (3, sv_i (fx_of y d)), (4, sv_i (fx_of y d)), (5, sv_a 0)]) (st' := [sv_i (fx_of y d), sv_r b]) rfl ?_
  refine sv_cv C (index := 138) (k := 1) (rest := []) (ci := 3) (r := (RX4, TX4, 11)) (by decide +kernel) (ct_X4_feastOf l g A ty σ hok14 hI b k_b (y) ⟨by omega, by omega⟩ hR (fx_of y d) ⟨by omega, by omega⟩) ⟨co_X4_feastOf, in_X4, ⟨by decide, by decide, by decide +kernel⟩, Nat.le_of_ble_eq_true rfl, Nat.le_of_ble_eq_true rfl⟩ ml_X4_138 im_X4_feastOf se_X4_feastOf (by rw [k_b]; rfl) rfl rfl rfl (Nat.le_of_ble_eq_true rfl) ⟨Nat.zero_le _, Nat.zero_le _⟩ (fun r16 σ17 hpo15 hok18 => ?_)
  obtain ⟨rfl, rfl⟩ := hpo15
  refine sv_same (st2 := [sv_a 0]) (lv2 := [(0, sv_r a), (1, sv_r b), (2, sv_i d), (3, sv_i (fx_of y d)), (4, sv_i (fx_of y d)), (5, sv_a 0)]) rfl rfl ?_
  refine sv_go C.1 C.2.1 [(.astore 6, 2), (.aload 5, 2)] (pc' := 30) (by decide +kernel) rfl (lv' := [(0, sv_r a), (1, sv_r b), (2, sv_i d), (3, sv_i (fx_of y d)), (4, sv_i (fx_of y d)), (5, sv_a 0), (6, sv_a 0)]) (st' := [sv_a 0]) rfl ?_
  refine sv_ifnull C.1 C.2.1 (off := 8) (tgt := 38) (by decide +kernel) (by decide) (by omega) (fun _ => ?_) (fun (h19 : 0 < 0) => absurd h19 (by omega))
  refine sv_go C.1 C.2.1 [(.iload_n 3, 1), (.iload 4, 2)] (pc' := 41) (by decide +kernel) rfl (lv' := [(0, sv_r a), (1, sv_r b), (2, sv_i d), (3, sv_i (fx_of y d)), (4, sv_i (fx_of y d)), (5, sv_a 0), (6, sv_a 0)]) (st' := [sv_i (fx_of y d), sv_i (fx_of y d)]) rfl ?_
  refine sv_icmp_f C.1 C.2.1 (cnd := .ne) (off := 7) (tgt := 48) (by decide +kernel) (by decide) ⟨by omega, by omega⟩ ⟨by omega, by omega⟩ (show ¬ ((fx_of y d) ≠ (fx_of y d)) by omega) ?_
  refine sv_go C.1 C.2.1 [(.iconst 1, 1)] (pc' := 45) (by decide +kernel) rfl (lv' := [(0, sv_r a), (1, sv_r b), (2, sv_i d), (3, sv_i (fx_of y d)), (4, sv_i (fx_of y d)), (5, sv_a 0), (6, sv_a 0)]) (st' := [sv_i 1]) rfl ?_
  refine sv_goto C.1 C.2.1 (off := 4) (tgt := 49) (by decide +kernel) (by decide) ?_
  exact sv_zret C hr (by first | exact Or.inl rfl | exact Or.inr rfl | omega) (by decide +kernel) hok18 (⟨rfl, rfl⟩)
end
section
theorem ml_X9_118 : Cond.methodLink RX9 118 yX4_settle ∈ lw_good := sv_mem 687 (by decide +kernel) rfl
theorem co_X4_settle : Cond.code yX4_settle cX4_settle 5 none ∈ lw_good := sv_mem 690 (by decide +kernel) rfl
theorem im_X4_settle : Cond.instanceMethod yX4_settle ∈ lw_good := sv_mem 688 (by decide +kernel) rfl
theorem se_X4_settle : Cond.selects RX4 yX4_settle yX4_settle ∈ lw_good := sv_mem 689 (by decide +kernel) rfl
theorem ml_X9_121 : Cond.methodLink RX9 121 yX4_officeOf ∈ lw_good := sv_mem 736 (by decide +kernel) rfl
set_option maxHeartbeats 4000000 in
set_option maxRecDepth 100000 in
theorem ct_X9_office (l : Launch) (g : sv_G) (A : Nat → Prop) (ty : Nat → Nat) (σ : Nat → Nat → Int) (hok : sv_ok ty σ) (hTA : ∀ q, ty q ≠ 0 → A q) (hI : sv_inv sp_1 ty σ) (hZ : sv_inv sp_0 ty σ) (a : Nat) (k_a : ty a = 1) (v1 : Int) (hv1 : sv_in v1) (y : Int) (hy : sv_in y) (d : Int) (hd : sv_in d) : sv_M l yX9_office cX9_office 4 (some .int) { frames := 4, cells := 0, slots := 0, locals := 87 } g A ty σ [sv_r a, sv_i v1, sv_i y, sv_i d] (fun r σ' => r = [sv_i (fx_office v1 y d)] ∧ sv_off [4, 25] ty σ σ') := by
  refine sv_enter (by decide) (Nat.le_of_ble_eq_true rfl) ?_
  intro p e s m args below meth c C hr
  have C : sv_C g A RX9 cX9_office 4 p s m args meth c := C
  have hr : meth.sig.returnType = (some .int) := hr
  have hF : sv_off [4, 25] ty σ σ := sv_off.rf
  have hlp := dy_lp_in y
  refine sv_same (st2 := []) (lv2 := [(0, sv_r a), (1, sv_i v1), (2, sv_i y), (3, sv_i d)]) rfl rfl ?_
  refine sv_go C.1 C.2.1 [(.iload_n 1, 1)] (pc' := 1) (by decide +kernel) rfl (lv' := [(0, sv_r a), (1, sv_i v1), (2, sv_i y), (3, sv_i d)]) (st' := [sv_i v1]) rfl ?_
  refine sv_cs C (index := 59) (k := 1) (rest := []) (by decide +kernel) (ct_X9_isPlace l g A ty σ hok (v1) ⟨by omega, by omega⟩) ⟨co_X9_isPlace, in_X9, ⟨by decide, by decide, by decide +kernel⟩, Nat.le_of_ble_eq_true rfl, Nat.le_of_ble_eq_true rfl⟩ ml_X9_59 st_X9_isPlace rfl rfl (Nat.le_of_ble_eq_true rfl) ⟨Nat.zero_le _, Nat.zero_le _⟩ (fun r2 σ3 hpo1 hok4 => ?_)
  obtain ⟨rfl, ⟨h5, rfl⟩ | ⟨h5, rfl⟩⟩ := hpo1
  · refine sv_same (st2 := [sv_i 1]) (lv2 := [(0, sv_r a), (1, sv_i v1), (2, sv_i y), (3, sv_i d)]) rfl rfl ?_
    refine sv_if_f C.1 C.2.1 (cnd := .eq) (off := 11) (tgt := 15) (by decide +kernel) (by decide) ⟨by omega, by omega⟩ (show ¬ (1 = 0) by omega) ?_
    refine sv_go C.1 C.2.1 [(.iload_n 2, 1), (.iload_n 3, 1)] (pc' := 9) (by decide +kernel) rfl (lv' := [(0, sv_r a), (1, sv_i v1), (2, sv_i y), (3, sv_i d)]) (st' := [sv_i d, sv_i y]) rfl ?_
    refine sv_cs C (index := 105) (k := 2) (rest := []) (by decide +kernel) (ct_X2_isDay l g A ty σ hok4 (y) ⟨by omega, by omega⟩ (d) ⟨by omega, by omega⟩) ⟨co_X2_isDay, in_X2, ⟨by decide, by decide, by decide +kernel⟩, Nat.le_of_ble_eq_true rfl, Nat.le_of_ble_eq_true rfl⟩ ml_X9_105 st_X2_isDay rfl rfl (Nat.le_of_ble_eq_true rfl) ⟨Nat.zero_le _, Nat.zero_le _⟩ (fun r7 σ8 hpo6 hok9 => ?_)
    obtain ⟨rfl, ⟨h10, rfl⟩ | ⟨h10, rfl⟩⟩ := hpo6
    · refine sv_same (st2 := [sv_i 1]) (lv2 := [(0, sv_r a), (1, sv_i v1), (2, sv_i y), (3, sv_i d)]) rfl rfl ?_
      refine sv_if_t C.1 C.2.1 (cnd := .ne) (off := 6) (tgt := 18) (by decide +kernel) (by decide) ⟨by omega, by omega⟩ (show 1 ≠ 0 by omega) ?_
      refine sv_go C.1 C.2.1 [(.aload_n 0, 1)] (pc' := 19) (by decide +kernel) rfl (lv' := [(0, sv_r a), (1, sv_i v1), (2, sv_i y), (3, sv_i d)]) (st' := [sv_r a]) rfl ?_
      obtain ⟨q11, eq11, kq11⟩ := hI.ref (k := 2) k_a rfl
      refine sv_gf C (index := 25) (ci := 8) (k := 2) (r := (RX9, TX9, 6)) (v := sv_r q11) (by decide +kernel) (by rw [k_a]; rfl) rfl (by decide) fl_X9_25 (congrArg sv_a eq11) ?_
      refine sv_go C.1 C.2.1 [(.iload_n 1, 1)] (pc' := 23) (by decide +kernel) rfl (lv' := [(0, sv_r a), (1, sv_i v1), (2, sv_i y), (3, sv_i d)]) (st' := [sv_i v1, sv_r q11]) rfl ?_
      refine sv_aa C (N := "SaintsRoad$Place") (by decide) (n := 4) (by decide +kernel) (by rw [kq11]; rfl) (by decide) (by omega) (by omega) ?_
      obtain ⟨q12, eq12, kq12⟩ := hI.ref (k := (v1 : Int).toNat) kq11 (by first | rfl | (show (if _ then _ else _) = _; rw [if_pos (by omega)]))
      rw [eq12]
      refine sv_go C.1 C.2.1 [(.iload_n 2, 1)] (pc' := 25) (by decide +kernel) rfl (lv' := [(0, sv_r a), (1, sv_i v1), (2, sv_i y), (3, sv_i d)]) (st' := [sv_i y, sv_r q12]) rfl ?_
      refine sv_cv C (index := 118) (k := 1) (rest := []) (ci := 3) (r := (RX4, TX4, 11)) (by decide +kernel) (ct_X4_settle l g A ty σ hok9 hTA hI q12 kq12 (y) ⟨by omega, by omega⟩ (Or.inl (by have z := hZ.num (k := 10) kq12 rfl; omega))) ⟨co_X4_settle, in_X4, ⟨by decide, by decide, by decide +kernel⟩, Nat.le_of_ble_eq_true rfl, Nat.le_of_ble_eq_true rfl⟩ ml_X9_118 im_X4_settle se_X4_settle (by rw [kq12]; rfl) rfl rfl rfl (Nat.le_of_ble_eq_true rfl) ⟨Nat.zero_le _, Nat.zero_le _⟩ (fun r14 σ15 hpo13 hok16 => ?_)
      obtain ⟨rfl, hIu17, hFu17, xu17, yu17, zu17⟩ := hpo13
      have hGu17 := hF.tr hFu17 (by decide)
      have t18 : σ15 a 2 = (q11 : Int) + 1 := (hFu17.at k_a (by decide)).trans eq11
      have t19 : σ15 q11 (v1 : Int).toNat = (q12 : Int) + 1 := (hFu17.at kq11 (by decide)).trans eq12
      refine sv_same (st2 := []) (lv2 := [(0, sv_r a), (1, sv_i v1), (2, sv_i y), (3, sv_i d)]) rfl rfl ?_
      refine sv_go C.1 C.2.1 [(.aload_n 0, 1)] (pc' := 29) (by decide +kernel) rfl (lv' := [(0, sv_r a), (1, sv_i v1), (2, sv_i y), (3, sv_i d)]) (st' := [sv_r a]) rfl ?_
      refine sv_gf C (index := 25) (ci := 8) (k := 2) (r := (RX9, TX9, 6)) (v := sv_r q11) (by decide +kernel) (by rw [k_a]; rfl) rfl (by decide) fl_X9_25 (congrArg sv_a t18) ?_
      refine sv_go C.1 C.2.1 [(.iload_n 1, 1)] (pc' := 33) (by decide +kernel) rfl (lv' := [(0, sv_r a), (1, sv_i v1), (2, sv_i y), (3, sv_i d)]) (st' := [sv_i v1, sv_r q11]) rfl ?_
      refine sv_aa C (N := "SaintsRoad$Place") (by decide) (n := 4) (by decide +kernel) (by rw [kq11]; rfl) (by decide) (by omega) (by omega) ?_
      rw [t19]
      refine sv_go C.1 C.2.1 [(.iload_n 3, 1)] (pc' := 35) (by decide +kernel) rfl (lv' := [(0, sv_r a), (1, sv_i v1), (2, sv_i y), (3, sv_i d)]) (st' := [sv_i d, sv_r q12]) rfl ?_
      refine sv_cv C (index := 121) (k := 1) (rest := []) (ci := 3) (r := (RX4, TX4, 11)) (by decide +kernel) (ct_X4_officeOf l g A ty σ15 hok16 hIu17 q12 kq12 (y) ⟨by omega, by omega⟩ xu17 (d) ⟨by omega, by omega⟩) ⟨co_X4_officeOf, in_X4, ⟨by decide, by decide, by decide +kernel⟩, Nat.le_of_ble_eq_true rfl, Nat.le_of_ble_eq_true rfl⟩ ml_X9_121 im_X4_officeOf se_X4_officeOf (by rw [kq12]; rfl) rfl rfl rfl (Nat.le_of_ble_eq_true rfl) ⟨Nat.zero_le _, Nat.zero_le _⟩ (fun r21 σ22 hpo20 hok23 => ?_)
      obtain ⟨rfl, rfl⟩ := hpo20
      have ho24 := fx_of_in y d
      refine sv_same (st2 := [sv_i (fx_of y d)]) (lv2 := [(0, sv_r a), (1, sv_i v1), (2, sv_i y), (3, sv_i d)]) rfl rfl ?_
      exact sv_iret C hr (by decide +kernel) hok23 (⟨congrArg (fun q => [sv_i q]) (by first | omega | (unfold fx_office; omega)), hGu17⟩)
    · refine sv_same (st2 := [sv_i 0]) (lv2 := [(0, sv_r a), (1, sv_i v1), (2, sv_i y), (3, sv_i d)]) rfl rfl ?_
      refine sv_if_f C.1 C.2.1 (cnd := .ne) (off := 6) (tgt := 18) (by decide +kernel) (by decide) ⟨by omega, by omega⟩ (show ¬ (0 ≠ 0) by omega) ?_
      refine sv_go C.1 C.2.1 [(.bipush (-2), 2)] (pc' := 17) (by decide +kernel) rfl (lv' := [(0, sv_r a), (1, sv_i v1), (2, sv_i y), (3, sv_i d)]) (st' := [sv_i ((-2))]) rfl ?_
      exact sv_iret C hr (by decide +kernel) hok9 (⟨congrArg (fun q => [sv_i q]) (by first | omega | (unfold fx_office; omega)), hF⟩)
  · refine sv_same (st2 := [sv_i 0]) (lv2 := [(0, sv_r a), (1, sv_i v1), (2, sv_i y), (3, sv_i d)]) rfl rfl ?_
    refine sv_if_t C.1 C.2.1 (cnd := .eq) (off := 11) (tgt := 15) (by decide +kernel) (by decide) ⟨by omega, by omega⟩ (show 0 = 0 by omega) ?_
    refine sv_go C.1 C.2.1 [(.bipush (-2), 2)] (pc' := 17) (by decide +kernel) rfl (lv' := [(0, sv_r a), (1, sv_i v1), (2, sv_i y), (3, sv_i d)]) (st' := [sv_i ((-2))]) rfl ?_
    exact sv_iret C hr (by decide +kernel) hok4 (⟨congrArg (fun q => [sv_i q]) (by first | omega | (unfold fx_office; omega)), hF⟩)

theorem ml_X9_131 : Cond.methodLink RX9 131 yX4_isFast ∈ lw_good := sv_mem 760 (by decide +kernel) rfl
theorem co_X4_isFast : Cond.code yX4_isFast cX4_isFast 3 (some .boolean) ∈ lw_good := sv_mem 763 (by decide +kernel) rfl
theorem im_X4_isFast : Cond.instanceMethod yX4_isFast ∈ lw_good := sv_mem 761 (by decide +kernel) rfl
theorem se_X4_isFast : Cond.selects RX4 yX4_isFast yX4_isFast ∈ lw_good := sv_mem 762 (by decide +kernel) rfl
set_option maxHeartbeats 4000000 in
set_option maxRecDepth 100000 in
theorem ct_X9_fast (l : Launch) (g : sv_G) (A : Nat → Prop) (ty : Nat → Nat) (σ : Nat → Nat → Int) (hok : sv_ok ty σ) (hTA : ∀ q, ty q ≠ 0 → A q) (hI : sv_inv sp_1 ty σ) (hZ : sv_inv sp_0 ty σ) (a : Nat) (k_a : ty a = 1) (v1 : Int) (hv1 : sv_in v1) (y : Int) (hy : sv_in y) (d : Int) (hd : sv_in d) : sv_M l yX9_fast cX9_fast 4 (some .int) { frames := 5, cells := 0, slots := 0, locals := 106 } g A ty σ [sv_r a, sv_i v1, sv_i y, sv_i d] (fun r σ' => r = [sv_i (fx_fast v1 y d)] ∧ sv_off [4, 25] ty σ σ') := by
  refine sv_enter (by decide) (Nat.le_of_ble_eq_true rfl) ?_
  intro p e s m args below meth c C hr
  have C : sv_C g A RX9 cX9_fast 4 p s m args meth c := C
  have hr : meth.sig.returnType = (some .int) := hr
  have hF : sv_off [4, 25] ty σ σ := sv_off.rf
  have hlp := dy_lp_in y
  refine sv_same (st2 := []) (lv2 := [(0, sv_r a), (1, sv_i v1), (2, sv_i y), (3, sv_i d)]) rfl rfl ?_
  refine sv_go C.1 C.2.1 [(.iload_n 1, 1)] (pc' := 1) (by decide +kernel) rfl (lv' := [(0, sv_r a), (1, sv_i v1), (2, sv_i y), (3, sv_i d)]) (st' := [sv_i v1]) rfl ?_
  refine sv_cs C (index := 59) (k := 1) (rest := []) (by decide +kernel) (ct_X9_isPlace l g A ty σ hok (v1) ⟨by omega, by omega⟩) ⟨co_X9_isPlace, in_X9, ⟨by decide, by decide, by decide +kernel⟩, Nat.le_of_ble_eq_true rfl, Nat.le_of_ble_eq_true rfl⟩ ml_X9_59 st_X9_isPlace rfl rfl (Nat.le_of_ble_eq_true rfl) ⟨Nat.zero_le _, Nat.zero_le _⟩ (fun r2 σ3 hpo1 hok4 => ?_)
  obtain ⟨rfl, ⟨h5, rfl⟩ | ⟨h5, rfl⟩⟩ := hpo1
  · refine sv_same (st2 := [sv_i 1]) (lv2 := [(0, sv_r a), (1, sv_i v1), (2, sv_i y), (3, sv_i d)]) rfl rfl ?_
    refine sv_if_f C.1 C.2.1 (cnd := .eq) (off := 11) (tgt := 15) (by decide +kernel) (by decide) ⟨by omega, by omega⟩ (show ¬ (1 = 0) by omega) ?_
    refine sv_go C.1 C.2.1 [(.iload_n 2, 1), (.iload_n 3, 1)] (pc' := 9) (by decide +kernel) rfl (lv' := [(0, sv_r a), (1, sv_i v1), (2, sv_i y), (3, sv_i d)]) (st' := [sv_i d, sv_i y]) rfl ?_
    refine sv_cs C (index := 105) (k := 2) (rest := []) (by decide +kernel) (ct_X2_isDay l g A ty σ hok4 (y) ⟨by omega, by omega⟩ (d) ⟨by omega, by omega⟩) ⟨co_X2_isDay, in_X2, ⟨by decide, by decide, by decide +kernel⟩, Nat.le_of_ble_eq_true rfl, Nat.le_of_ble_eq_true rfl⟩ ml_X9_105 st_X2_isDay rfl rfl (Nat.le_of_ble_eq_true rfl) ⟨Nat.zero_le _, Nat.zero_le _⟩ (fun r7 σ8 hpo6 hok9 => ?_)
    obtain ⟨rfl, ⟨h10, rfl⟩ | ⟨h10, rfl⟩⟩ := hpo6
    · refine sv_same (st2 := [sv_i 1]) (lv2 := [(0, sv_r a), (1, sv_i v1), (2, sv_i y), (3, sv_i d)]) rfl rfl ?_
      refine sv_if_t C.1 C.2.1 (cnd := .ne) (off := 6) (tgt := 18) (by decide +kernel) (by decide) ⟨by omega, by omega⟩ (show 1 ≠ 0 by omega) ?_
      refine sv_go C.1 C.2.1 [(.aload_n 0, 1)] (pc' := 19) (by decide +kernel) rfl (lv' := [(0, sv_r a), (1, sv_i v1), (2, sv_i y), (3, sv_i d)]) (st' := [sv_r a]) rfl ?_
      obtain ⟨q11, eq11, kq11⟩ := hI.ref (k := 2) k_a rfl
      refine sv_gf C (index := 25) (ci := 8) (k := 2) (r := (RX9, TX9, 6)) (v := sv_r q11) (by decide +kernel) (by rw [k_a]; rfl) rfl (by decide) fl_X9_25 (congrArg sv_a eq11) ?_
      refine sv_go C.1 C.2.1 [(.iload_n 1, 1)] (pc' := 23) (by decide +kernel) rfl (lv' := [(0, sv_r a), (1, sv_i v1), (2, sv_i y), (3, sv_i d)]) (st' := [sv_i v1, sv_r q11]) rfl ?_
      refine sv_aa C (N := "SaintsRoad$Place") (by decide) (n := 4) (by decide +kernel) (by rw [kq11]; rfl) (by decide) (by omega) (by omega) ?_
      obtain ⟨q12, eq12, kq12⟩ := hI.ref (k := (v1 : Int).toNat) kq11 (by first | rfl | (show (if _ then _ else _) = _; rw [if_pos (by omega)]))
      rw [eq12]
      refine sv_go C.1 C.2.1 [(.iload_n 2, 1)] (pc' := 25) (by decide +kernel) rfl (lv' := [(0, sv_r a), (1, sv_i v1), (2, sv_i y), (3, sv_i d)]) (st' := [sv_i y, sv_r q12]) rfl ?_
      refine sv_cv C (index := 118) (k := 1) (rest := []) (ci := 3) (r := (RX4, TX4, 11)) (by decide +kernel) (ct_X4_settle l g A ty σ hok9 hTA hI q12 kq12 (y) ⟨by omega, by omega⟩ (Or.inl (by have z := hZ.num (k := 10) kq12 rfl; omega))) ⟨co_X4_settle, in_X4, ⟨by decide, by decide, by decide +kernel⟩, Nat.le_of_ble_eq_true rfl, Nat.le_of_ble_eq_true rfl⟩ ml_X9_118 im_X4_settle se_X4_settle (by rw [kq12]; rfl) rfl rfl rfl (Nat.le_of_ble_eq_true rfl) ⟨Nat.zero_le _, Nat.zero_le _⟩ (fun r14 σ15 hpo13 hok16 => ?_)
      obtain ⟨rfl, hIu17, hFu17, xu17, yu17, zu17⟩ := hpo13
      have hGu17 := hF.tr hFu17 (by decide)
      have t18 : σ15 a 2 = (q11 : Int) + 1 := (hFu17.at k_a (by decide)).trans eq11
      have t19 : σ15 q11 (v1 : Int).toNat = (q12 : Int) + 1 := (hFu17.at kq11 (by decide)).trans eq12
      refine sv_same (st2 := []) (lv2 := [(0, sv_r a), (1, sv_i v1), (2, sv_i y), (3, sv_i d)]) rfl rfl ?_
      refine sv_go C.1 C.2.1 [(.aload_n 0, 1)] (pc' := 29) (by decide +kernel) rfl (lv' := [(0, sv_r a), (1, sv_i v1), (2, sv_i y), (3, sv_i d)]) (st' := [sv_r a]) rfl ?_
      refine sv_gf C (index := 25) (ci := 8) (k := 2) (r := (RX9, TX9, 6)) (v := sv_r q11) (by decide +kernel) (by rw [k_a]; rfl) rfl (by decide) fl_X9_25 (congrArg sv_a t18) ?_
      refine sv_go C.1 C.2.1 [(.iload_n 1, 1)] (pc' := 33) (by decide +kernel) rfl (lv' := [(0, sv_r a), (1, sv_i v1), (2, sv_i y), (3, sv_i d)]) (st' := [sv_i v1, sv_r q11]) rfl ?_
      refine sv_aa C (N := "SaintsRoad$Place") (by decide) (n := 4) (by decide +kernel) (by rw [kq11]; rfl) (by decide) (by omega) (by omega) ?_
      rw [t19]
      refine sv_go C.1 C.2.1 [(.iload_n 3, 1)] (pc' := 35) (by decide +kernel) rfl (lv' := [(0, sv_r a), (1, sv_i v1), (2, sv_i y), (3, sv_i d)]) (st' := [sv_i d, sv_r q12]) rfl ?_
      refine sv_cv C (index := 131) (k := 1) (rest := []) (ci := 3) (r := (RX4, TX4, 11)) (by decide +kernel) (ct_X4_isFast l g A ty σ15 hok16 hIu17 q12 kq12 (y) ⟨by omega, by omega⟩ xu17 (d) ⟨by omega, by omega⟩) ⟨co_X4_isFast, in_X4, ⟨by decide, by decide, by decide +kernel⟩, Nat.le_of_ble_eq_true rfl, Nat.le_of_ble_eq_true rfl⟩ ml_X9_131 im_X4_isFast se_X4_isFast (by rw [kq12]; rfl) rfl rfl rfl (Nat.le_of_ble_eq_true rfl) ⟨Nat.zero_le _, Nat.zero_le _⟩ (fun r21 σ22 hpo20 hok23 => ?_)
      obtain ⟨rfl, hpo20⟩ := hpo20
      obtain rfl := sv_boF hpo20
      refine sv_same (st2 := [sv_i 0]) (lv2 := [(0, sv_r a), (1, sv_i v1), (2, sv_i y), (3, sv_i d)]) rfl rfl ?_
      refine sv_if_t C.1 C.2.1 (cnd := .eq) (off := 7) (tgt := 45) (by decide +kernel) (by decide) ⟨by omega, by omega⟩ (show 0 = 0 by omega) ?_
      refine sv_go C.1 C.2.1 [(.iconst 0, 1)] (pc' := 46) (by decide +kernel) rfl (lv' := [(0, sv_r a), (1, sv_i v1), (2, sv_i y), (3, sv_i d)]) (st' := [sv_i 0]) rfl ?_
      exact sv_iret C hr (by decide +kernel) hok23 (⟨congrArg (fun q => [sv_i q]) (by first | omega | (unfold fx_fast; omega)), hGu17⟩)
    · refine sv_same (st2 := [sv_i 0]) (lv2 := [(0, sv_r a), (1, sv_i v1), (2, sv_i y), (3, sv_i d)]) rfl rfl ?_
      refine sv_if_f C.1 C.2.1 (cnd := .ne) (off := 6) (tgt := 18) (by decide +kernel) (by decide) ⟨by omega, by omega⟩ (show ¬ (0 ≠ 0) by omega) ?_
      refine sv_go C.1 C.2.1 [(.bipush (-2), 2)] (pc' := 17) (by decide +kernel) rfl (lv' := [(0, sv_r a), (1, sv_i v1), (2, sv_i y), (3, sv_i d)]) (st' := [sv_i ((-2))]) rfl ?_
      exact sv_iret C hr (by decide +kernel) hok9 (⟨congrArg (fun q => [sv_i q]) (by first | omega | (unfold fx_fast; omega)), hF⟩)
  · refine sv_same (st2 := [sv_i 0]) (lv2 := [(0, sv_r a), (1, sv_i v1), (2, sv_i y), (3, sv_i d)]) rfl rfl ?_
    refine sv_if_t C.1 C.2.1 (cnd := .eq) (off := 11) (tgt := 15) (by decide +kernel) (by decide) ⟨by omega, by omega⟩ (show 0 = 0 by omega) ?_
    refine sv_go C.1 C.2.1 [(.bipush (-2), 2)] (pc' := 17) (by decide +kernel) rfl (lv' := [(0, sv_r a), (1, sv_i v1), (2, sv_i y), (3, sv_i d)]) (st' := [sv_i ((-2))]) rfl ?_
    exact sv_iret C hr (by decide +kernel) hok4 (⟨congrArg (fun q => [sv_i q]) (by first | omega | (unfold fx_fast; omega)), hF⟩)

theorem ml_X9_134 : Cond.methodLink RX9 134 yX4_waxOf ∈ lw_good := sv_mem 780 (by decide +kernel) rfl
theorem co_X4_waxOf : Cond.code yX4_waxOf cX4_waxOf 5 (some .int) ∈ lw_good := sv_mem 783 (by decide +kernel) rfl
theorem im_X4_waxOf : Cond.instanceMethod yX4_waxOf ∈ lw_good := sv_mem 781 (by decide +kernel) rfl
theorem se_X4_waxOf : Cond.selects RX4 yX4_waxOf yX4_waxOf ∈ lw_good := sv_mem 782 (by decide +kernel) rfl
set_option maxHeartbeats 4000000 in
set_option maxRecDepth 100000 in
theorem ct_X9_wax (l : Launch) (g : sv_G) (A : Nat → Prop) (ty : Nat → Nat) (σ : Nat → Nat → Int) (hok : sv_ok ty σ) (hTA : ∀ q, ty q ≠ 0 → A q) (hI : sv_inv sp_1 ty σ) (hZ : sv_inv sp_0 ty σ) (a : Nat) (k_a : ty a = 1) (v1 : Int) (hv1 : sv_in v1) (y : Int) (hy : sv_in y) (f : Int) (hf : sv_in f) (t : Int) (ht : sv_in t) : sv_M l yX9_wax cX9_wax 8 (some .int) { frames := 5, cells := 0, slots := 0, locals := 109 } g A ty σ [sv_r a, sv_i v1, sv_i y, sv_i f, sv_i t] (fun r σ' => r = [sv_i (fx_wax v1 y f t)] ∧ sv_off [4, 25] ty σ σ') := by
  refine sv_enter (by decide) (Nat.le_of_ble_eq_true rfl) ?_
  intro p e s m args below meth c C hr
  have C : sv_C g A RX9 cX9_wax 8 p s m args meth c := C
  have hr : meth.sig.returnType = (some .int) := hr
  have hF : sv_off [4, 25] ty σ σ := sv_off.rf
  have hlp := dy_lp_in y
  refine sv_same (st2 := []) (lv2 := [(0, sv_r a), (1, sv_i v1), (2, sv_i y), (3, sv_i f), (4, sv_i t)]) rfl rfl ?_
  refine sv_go C.1 C.2.1 [(.iload_n 1, 1)] (pc' := 1) (by decide +kernel) rfl (lv' := [(0, sv_r a), (1, sv_i v1), (2, sv_i y), (3, sv_i f), (4, sv_i t)]) (st' := [sv_i v1]) rfl ?_
  refine sv_cs C (index := 59) (k := 1) (rest := []) (by decide +kernel) (ct_X9_isPlace l g A ty σ hok (v1) ⟨by omega, by omega⟩) ⟨co_X9_isPlace, in_X9, ⟨by decide, by decide, by decide +kernel⟩, Nat.le_of_ble_eq_true rfl, Nat.le_of_ble_eq_true rfl⟩ ml_X9_59 st_X9_isPlace rfl rfl (Nat.le_of_ble_eq_true rfl) ⟨Nat.zero_le _, Nat.zero_le _⟩ (fun r2 σ3 hpo1 hok4 => ?_)
  obtain ⟨rfl, ⟨h5, rfl⟩ | ⟨h5, rfl⟩⟩ := hpo1
  · refine sv_same (st2 := [sv_i 1]) (lv2 := [(0, sv_r a), (1, sv_i v1), (2, sv_i y), (3, sv_i f), (4, sv_i t)]) rfl rfl ?_
    refine sv_if_f C.1 C.2.1 (cnd := .eq) (off := 26) (tgt := 30) (by decide +kernel) (by decide) ⟨by omega, by omega⟩ (show ¬ (1 = 0) by omega) ?_
    refine sv_go C.1 C.2.1 [(.iload_n 2, 1), (.iload_n 3, 1)] (pc' := 9) (by decide +kernel) rfl (lv' := [(0, sv_r a), (1, sv_i v1), (2, sv_i y), (3, sv_i f), (4, sv_i t)]) (st' := [sv_i f, sv_i y]) rfl ?_
    refine sv_cs C (index := 105) (k := 2) (rest := []) (by decide +kernel) (ct_X2_isDay l g A ty σ hok4 (y) ⟨by omega, by omega⟩ (f) ⟨by omega, by omega⟩) ⟨co_X2_isDay, in_X2, ⟨by decide, by decide, by decide +kernel⟩, Nat.le_of_ble_eq_true rfl, Nat.le_of_ble_eq_true rfl⟩ ml_X9_105 st_X2_isDay rfl rfl (Nat.le_of_ble_eq_true rfl) ⟨Nat.zero_le _, Nat.zero_le _⟩ (fun r7 σ8 hpo6 hok9 => ?_)
    obtain ⟨rfl, ⟨h10, rfl⟩ | ⟨h10, rfl⟩⟩ := hpo6
    · refine sv_same (st2 := [sv_i 1]) (lv2 := [(0, sv_r a), (1, sv_i v1), (2, sv_i y), (3, sv_i f), (4, sv_i t)]) rfl rfl ?_
      refine sv_if_f C.1 C.2.1 (cnd := .eq) (off := 18) (tgt := 30) (by decide +kernel) (by decide) ⟨by omega, by omega⟩ (show ¬ (1 = 0) by omega) ?_
      refine sv_go C.1 C.2.1 [(.iload_n 2, 1), (.iload 4, 2)] (pc' := 18) (by decide +kernel) rfl (lv' := [(0, sv_r a), (1, sv_i v1), (2, sv_i y), (3, sv_i f), (4, sv_i t)]) (st' := [sv_i t, sv_i y]) rfl ?_
      refine sv_cs C (index := 105) (k := 2) (rest := []) (by decide +kernel) (ct_X2_isDay l g A ty σ hok9 (y) ⟨by omega, by omega⟩ (t) ⟨by omega, by omega⟩) ⟨co_X2_isDay, in_X2, ⟨by decide, by decide, by decide +kernel⟩, Nat.le_of_ble_eq_true rfl, Nat.le_of_ble_eq_true rfl⟩ ml_X9_105 st_X2_isDay rfl rfl (Nat.le_of_ble_eq_true rfl) ⟨Nat.zero_le _, Nat.zero_le _⟩ (fun r12 σ13 hpo11 hok14 => ?_)
      obtain ⟨rfl, ⟨h15, rfl⟩ | ⟨h15, rfl⟩⟩ := hpo11
      · refine sv_same (st2 := [sv_i 1]) (lv2 := [(0, sv_r a), (1, sv_i v1), (2, sv_i y), (3, sv_i f), (4, sv_i t)]) rfl rfl ?_
        refine sv_if_f C.1 C.2.1 (cnd := .eq) (off := 9) (tgt := 30) (by decide +kernel) (by decide) ⟨by omega, by omega⟩ (show ¬ (1 = 0) by omega) ?_
        refine sv_go C.1 C.2.1 [(.iload_n 3, 1), (.iload 4, 2)] (pc' := 27) (by decide +kernel) rfl (lv' := [(0, sv_r a), (1, sv_i v1), (2, sv_i y), (3, sv_i f), (4, sv_i t)]) (st' := [sv_i t, sv_i f]) rfl ?_
        refine sv_icmp C.1 C.2.1 (cnd := .le) (off := 6) (tgt := 33) (by decide +kernel) (by decide) ⟨by omega, by omega⟩ ⟨by omega, by omega⟩ (fun (h16 : f ≤ t) => ?_) (fun (h16 : ¬ (f ≤ t)) => ?_)
        · refine sv_go C.1 C.2.1 [(.aload_n 0, 1)] (pc' := 34) (by decide +kernel) rfl (lv' := [(0, sv_r a), (1, sv_i v1), (2, sv_i y), (3, sv_i f), (4, sv_i t)]) (st' := [sv_r a]) rfl ?_
          obtain ⟨q17, eq17, kq17⟩ := hI.ref (k := 2) k_a rfl
          refine sv_gf C (index := 25) (ci := 8) (k := 2) (r := (RX9, TX9, 6)) (v := sv_r q17) (by decide +kernel) (by rw [k_a]; rfl) rfl (by decide) fl_X9_25 (congrArg sv_a eq17) ?_
          refine sv_go C.1 C.2.1 [(.iload_n 1, 1)] (pc' := 38) (by decide +kernel) rfl (lv' := [(0, sv_r a), (1, sv_i v1), (2, sv_i y), (3, sv_i f), (4, sv_i t)]) (st' := [sv_i v1, sv_r q17]) rfl ?_
          refine sv_aa C (N := "SaintsRoad$Place") (by decide) (n := 4) (by decide +kernel) (by rw [kq17]; rfl) (by decide) (by omega) (by omega) ?_
          obtain ⟨q18, eq18, kq18⟩ := hI.ref (k := (v1 : Int).toNat) kq17 (by first | rfl | (show (if _ then _ else _) = _; rw [if_pos (by omega)]))
          rw [eq18]
          refine sv_go C.1 C.2.1 [(.astore 5, 2), (.aload 5, 2), (.iload_n 2, 1)] (pc' := 44) (by decide +kernel) rfl (lv' := [(0, sv_r a), (1, sv_i v1), (2, sv_i y), (3, sv_i f), (4, sv_i t), (5, sv_r q18)]) (st' := [sv_i y, sv_r q18]) rfl ?_
          refine sv_cv C (index := 118) (k := 1) (rest := []) (ci := 3) (r := (RX4, TX4, 11)) (by decide +kernel) (ct_X4_settle l g A ty σ hok14 hTA hI q18 kq18 (y) ⟨by omega, by omega⟩ (Or.inl (by have z := hZ.num (k := 10) kq18 rfl; omega))) ⟨co_X4_settle, in_X4, ⟨by decide, by decide, by decide +kernel⟩, Nat.le_of_ble_eq_true rfl, Nat.le_of_ble_eq_true rfl⟩ ml_X9_118 im_X4_settle se_X4_settle (by rw [kq18]; rfl) rfl rfl rfl (Nat.le_of_ble_eq_true rfl) ⟨Nat.zero_le _, Nat.zero_le _⟩ (fun r20 σ21 hpo19 hok22 => ?_)
          obtain ⟨rfl, hIu23, hFu23, xu23, yu23, zu23⟩ := hpo19
          have hGu23 := hF.tr hFu23 (by decide)
          have t24 : σ21 a 2 = (q17 : Int) + 1 := (hFu23.at k_a (by decide)).trans eq17
          have t25 : σ21 q17 (v1 : Int).toNat = (q18 : Int) + 1 := (hFu23.at kq17 (by decide)).trans eq18
          refine sv_same (st2 := []) (lv2 := [(0, sv_r a), (1, sv_i v1), (2, sv_i y), (3, sv_i f), (4, sv_i t), (5, sv_r q18)]) rfl rfl ?_
          refine sv_go C.1 C.2.1 [(.iconst 0, 1), (.istore 6, 2), (.iload_n 3, 1), (.istore 7, 2)] (pc' := 53) (by decide +kernel) rfl (lv' := [(0, sv_r a), (1, sv_i v1), (2, sv_i y), (3, sv_i f), (4, sv_i t), (5, sv_r q18), (6, sv_i 0), (7, sv_i f)]) (st' := []) rfl ?_
          have L26 : ∀ (n : Nat) (N : Int) (X : Int) , (N = 0) → (f ≤ X ∧ X ≤ t + 1) → (t + 1 - X) < (n : Int) → sv_E p l e { frames := 5, cells := 0, slots := 0, locals := 109 } s m args below meth c 8 g A ty (fun r σ' => r = [sv_i (fx_wax v1 y f t)] ∧ sv_off [4, 25] ty σ σ') σ21 53 [(0, sv_r a), (1, sv_i v1), (2, sv_i y), (3, sv_i f), (4, sv_i t), (5, sv_r q18), (6, sv_i N), (7, sv_i X)] [] := by
            intro n
            induction n with
            | zero => intro N X  hN hX hmu; exact absurd hmu (by omega)
            | succ n ih27 =>
              intro N X  hN hX hmu
              refine sv_go C.1 C.2.1 [(.iload 7, 2), (.iload 4, 2)] (pc' := 57) (by decide +kernel) rfl (lv' := [(0, sv_r a), (1, sv_i v1), (2, sv_i y), (3, sv_i f), (4, sv_i t), (5, sv_r q18), (6, sv_i N), (7, sv_i X)]) (st' := [sv_i t, sv_i X]) rfl ?_
              refine sv_icmp C.1 C.2.1 (cnd := .gt) (off := 21) (tgt := 78) (by decide +kernel) (by decide) ⟨by omega, by omega⟩ ⟨by omega, by omega⟩ (fun (h28 : t < X) => ?_) (fun (h28 : ¬ (t < X)) => ?_)
              · refine sv_go C.1 C.2.1 [(.iload 6, 2)] (pc' := 80) (by decide +kernel) rfl (lv' := [(0, sv_r a), (1, sv_i v1), (2, sv_i y), (3, sv_i f), (4, sv_i t), (5, sv_r q18), (6, sv_i N), (7, sv_i X)]) (st' := [sv_i N]) rfl ?_
                exact sv_iret C hr (by decide +kernel) hok22 (⟨congrArg (fun q => [sv_i q]) (by first | omega | (unfold fx_wax; omega)), hGu23⟩)
              · refine sv_go C.1 C.2.1 [(.iload 6, 2), (.aload 5, 2), (.iload 7, 2)] (pc' := 66) (by decide +kernel) rfl (lv' := [(0, sv_r a), (1, sv_i v1), (2, sv_i y), (3, sv_i f), (4, sv_i t), (5, sv_r q18), (6, sv_i N), (7, sv_i X)]) (st' := [sv_i X, sv_r q18, sv_i N]) rfl ?_
                refine sv_cv C (index := 134) (k := 1) (rest := [sv_i N]) (ci := 3) (r := (RX4, TX4, 11)) (by decide +kernel) (ct_X4_waxOf l g A ty σ21 hok22 hIu23 q18 kq18 (y) ⟨by omega, by omega⟩ xu23 (X) ⟨by omega, by omega⟩) ⟨co_X4_waxOf, in_X4, ⟨by decide, by decide, by decide +kernel⟩, Nat.le_of_ble_eq_true rfl, Nat.le_of_ble_eq_true rfl⟩ ml_X9_134 im_X4_waxOf se_X4_waxOf (by rw [kq18]; rfl) rfl rfl rfl (Nat.le_of_ble_eq_true rfl) ⟨Nat.zero_le _, Nat.zero_le _⟩ (fun r30 σ31 hpo29 hok32 => ?_)
                obtain ⟨rfl, rfl⟩ := hpo29
                refine sv_same (st2 := [sv_i 0, sv_i N]) (lv2 := [(0, sv_r a), (1, sv_i v1), (2, sv_i y), (3, sv_i f), (4, sv_i t), (5, sv_r q18), (6, sv_i N), (7, sv_i X)]) rfl rfl ?_
                refine sv_go C.1 C.2.1 [(.iadd, 1), (.istore 6, 2), (.iinc 7 1, 3)] (pc' := 75) (by decide +kernel) rfl (lv' := [(0, sv_r a), (1, sv_i v1), (2, sv_i y), (3, sv_i f), (4, sv_i t), (5, sv_r q18), (6, sv_i (N + 0)), (7, sv_i (X + 1))]) (st' := []) rfl ?_
                refine sv_goto C.1 C.2.1 (off := (-22)) (tgt := 53) (by decide +kernel) (by decide) ?_
                exact ih27 (N + 0) (X + 1)  (by omega) (by omega) (by omega)
          exact L26 (((t + 1 - f : Int)).toNat + 1) 0 f  (by omega) (by omega) (by omega)
        · refine sv_go C.1 C.2.1 [(.bipush (-2), 2)] (pc' := 32) (by decide +kernel) rfl (lv' := [(0, sv_r a), (1, sv_i v1), (2, sv_i y), (3, sv_i f), (4, sv_i t)]) (st' := [sv_i ((-2))]) rfl ?_
          exact sv_iret C hr (by decide +kernel) hok14 (⟨congrArg (fun q => [sv_i q]) (by first | omega | (unfold fx_wax; omega)), hF⟩)
      · refine sv_same (st2 := [sv_i 0]) (lv2 := [(0, sv_r a), (1, sv_i v1), (2, sv_i y), (3, sv_i f), (4, sv_i t)]) rfl rfl ?_
        refine sv_if_t C.1 C.2.1 (cnd := .eq) (off := 9) (tgt := 30) (by decide +kernel) (by decide) ⟨by omega, by omega⟩ (show 0 = 0 by omega) ?_
        refine sv_go C.1 C.2.1 [(.bipush (-2), 2)] (pc' := 32) (by decide +kernel) rfl (lv' := [(0, sv_r a), (1, sv_i v1), (2, sv_i y), (3, sv_i f), (4, sv_i t)]) (st' := [sv_i ((-2))]) rfl ?_
        exact sv_iret C hr (by decide +kernel) hok14 (⟨congrArg (fun q => [sv_i q]) (by first | omega | (unfold fx_wax; omega)), hF⟩)
    · refine sv_same (st2 := [sv_i 0]) (lv2 := [(0, sv_r a), (1, sv_i v1), (2, sv_i y), (3, sv_i f), (4, sv_i t)]) rfl rfl ?_
      refine sv_if_t C.1 C.2.1 (cnd := .eq) (off := 18) (tgt := 30) (by decide +kernel) (by decide) ⟨by omega, by omega⟩ (show 0 = 0 by omega) ?_
      refine sv_go C.1 C.2.1 [(.bipush (-2), 2)] (pc' := 32) (by decide +kernel) rfl (lv' := [(0, sv_r a), (1, sv_i v1), (2, sv_i y), (3, sv_i f), (4, sv_i t)]) (st' := [sv_i ((-2))]) rfl ?_
      exact sv_iret C hr (by decide +kernel) hok9 (⟨congrArg (fun q => [sv_i q]) (by first | omega | (unfold fx_wax; omega)), hF⟩)
  · refine sv_same (st2 := [sv_i 0]) (lv2 := [(0, sv_r a), (1, sv_i v1), (2, sv_i y), (3, sv_i f), (4, sv_i t)]) rfl rfl ?_
    refine sv_if_t C.1 C.2.1 (cnd := .eq) (off := 26) (tgt := 30) (by decide +kernel) (by decide) ⟨by omega, by omega⟩ (show 0 = 0 by omega) ?_
    refine sv_go C.1 C.2.1 [(.bipush (-2), 2)] (pc' := 32) (by decide +kernel) rfl (lv' := [(0, sv_r a), (1, sv_i v1), (2, sv_i y), (3, sv_i f), (4, sv_i t)]) (st' := [sv_i ((-2))]) rfl ?_
    exact sv_iret C hr (by decide +kernel) hok4 (⟨congrArg (fun q => [sv_i q]) (by first | omega | (unfold fx_wax; omega)), hF⟩)

theorem ml_X9_148 : Cond.methodLink RX9 148 yX2_length ∈ lw_good := sv_mem 815 (by decide +kernel) rfl
theorem ml_X9_150 : Cond.methodLink RX9 150 yX4_isAlike ∈ lw_good := sv_mem 816 (by decide +kernel) rfl
theorem co_X4_isAlike : Cond.code yX4_isAlike cX4_isAlike 7 (some .boolean) ∈ lw_good := sv_mem 819 (by decide +kernel) rfl
theorem im_X4_isAlike : Cond.instanceMethod yX4_isAlike ∈ lw_good := sv_mem 817 (by decide +kernel) rfl
theorem se_X4_isAlike : Cond.selects RX4 yX4_isAlike yX4_isAlike ∈ lw_good := sv_mem 818 (by decide +kernel) rfl
set_option maxHeartbeats 4000000 in
set_option maxRecDepth 100000 in
theorem ct_X9_unlike (l : Launch) (g : sv_G) (A : Nat → Prop) (ty : Nat → Nat) (σ : Nat → Nat → Int) (hok : sv_ok ty σ) (hTA : ∀ q, ty q ≠ 0 → A q) (hI : sv_inv sp_1 ty σ) (hZ : sv_inv sp_0 ty σ) (a : Nat) (k_a : ty a = 1) (v1 : Int) (hv1 : sv_in v1) (v2 : Int) (hv2 : sv_in v2) (y : Int) (hy : sv_in y) : sv_M l yX9_unlike cX9_unlike 7 (some .int) { frames := 5, cells := 0, slots := 0, locals := 111 } g A ty σ [sv_r a, sv_i v1, sv_i v2, sv_i y] (fun r σ' => r = [sv_i (fx_unlike v1 v2 y)] ∧ sv_off [4, 25] ty σ σ') := by
  refine sv_enter (by decide) (Nat.le_of_ble_eq_true rfl) ?_
  intro p e s m args below meth c C hr
  have C : sv_C g A RX9 cX9_unlike 7 p s m args meth c := C
  have hr : meth.sig.returnType = (some .int) := hr
  have hF : sv_off [4, 25] ty σ σ := sv_off.rf
  have hlp := dy_lp_in y
  refine sv_same (st2 := []) (lv2 := [(0, sv_r a), (1, sv_i v1), (2, sv_i v2), (3, sv_i y)]) rfl rfl ?_
  refine sv_go C.1 C.2.1 [(.iload_n 1, 1)] (pc' := 1) (by decide +kernel) rfl (lv' := [(0, sv_r a), (1, sv_i v1), (2, sv_i v2), (3, sv_i y)]) (st' := [sv_i v1]) rfl ?_
  refine sv_cs C (index := 59) (k := 1) (rest := []) (by decide +kernel) (ct_X9_isPlace l g A ty σ hok (v1) ⟨by omega, by omega⟩) ⟨co_X9_isPlace, in_X9, ⟨by decide, by decide, by decide +kernel⟩, Nat.le_of_ble_eq_true rfl, Nat.le_of_ble_eq_true rfl⟩ ml_X9_59 st_X9_isPlace rfl rfl (Nat.le_of_ble_eq_true rfl) ⟨Nat.zero_le _, Nat.zero_le _⟩ (fun r2 σ3 hpo1 hok4 => ?_)
  obtain ⟨rfl, ⟨h5, rfl⟩ | ⟨h5, rfl⟩⟩ := hpo1
  · refine sv_same (st2 := [sv_i 1]) (lv2 := [(0, sv_r a), (1, sv_i v1), (2, sv_i v2), (3, sv_i y)]) rfl rfl ?_
    refine sv_if_f C.1 C.2.1 (cnd := .eq) (off := 17) (tgt := 21) (by decide +kernel) (by decide) ⟨by omega, by omega⟩ (show ¬ (1 = 0) by omega) ?_
    refine sv_go C.1 C.2.1 [(.iload_n 2, 1)] (pc' := 8) (by decide +kernel) rfl (lv' := [(0, sv_r a), (1, sv_i v1), (2, sv_i v2), (3, sv_i y)]) (st' := [sv_i v2]) rfl ?_
    refine sv_cs C (index := 59) (k := 1) (rest := []) (by decide +kernel) (ct_X9_isPlace l g A ty σ hok4 (v2) ⟨by omega, by omega⟩) ⟨co_X9_isPlace, in_X9, ⟨by decide, by decide, by decide +kernel⟩, Nat.le_of_ble_eq_true rfl, Nat.le_of_ble_eq_true rfl⟩ ml_X9_59 st_X9_isPlace rfl rfl (Nat.le_of_ble_eq_true rfl) ⟨Nat.zero_le _, Nat.zero_le _⟩ (fun r7 σ8 hpo6 hok9 => ?_)
    obtain ⟨rfl, ⟨h10, rfl⟩ | ⟨h10, rfl⟩⟩ := hpo6
    · refine sv_same (st2 := [sv_i 1]) (lv2 := [(0, sv_r a), (1, sv_i v1), (2, sv_i v2), (3, sv_i y)]) rfl rfl ?_
      refine sv_if_f C.1 C.2.1 (cnd := .eq) (off := 10) (tgt := 21) (by decide +kernel) (by decide) ⟨by omega, by omega⟩ (show ¬ (1 = 0) by omega) ?_
      refine sv_go C.1 C.2.1 [(.iload_n 3, 1)] (pc' := 15) (by decide +kernel) rfl (lv' := [(0, sv_r a), (1, sv_i v1), (2, sv_i v2), (3, sv_i y)]) (st' := [sv_i y]) rfl ?_
      refine sv_cs C (index := 97) (k := 1) (rest := []) (by decide +kernel) (ct_X2_isYear l g A ty σ hok9 (y) ⟨by omega, by omega⟩) ⟨co_X2_isYear, in_X2, ⟨by decide, by decide, by decide +kernel⟩, Nat.le_of_ble_eq_true rfl, Nat.le_of_ble_eq_true rfl⟩ ml_X9_97 st_X2_isYear rfl rfl (Nat.le_of_ble_eq_true rfl) ⟨Nat.zero_le _, Nat.zero_le _⟩ (fun r12 σ13 hpo11 hok14 => ?_)
      obtain ⟨rfl, ⟨h15, rfl⟩ | ⟨h15, rfl⟩⟩ := hpo11
      · refine sv_same (st2 := [sv_i 1]) (lv2 := [(0, sv_r a), (1, sv_i v1), (2, sv_i v2), (3, sv_i y)]) rfl rfl ?_
        refine sv_if_t C.1 C.2.1 (cnd := .ne) (off := 6) (tgt := 24) (by decide +kernel) (by decide) ⟨by omega, by omega⟩ (show 1 ≠ 0 by omega) ?_
        refine sv_go C.1 C.2.1 [(.aload_n 0, 1)] (pc' := 25) (by decide +kernel) rfl (lv' := [(0, sv_r a), (1, sv_i v1), (2, sv_i v2), (3, sv_i y)]) (st' := [sv_r a]) rfl ?_
        obtain ⟨q16, eq16, kq16⟩ := hI.ref (k := 2) k_a rfl
        refine sv_gf C (index := 25) (ci := 8) (k := 2) (r := (RX9, TX9, 6)) (v := sv_r q16) (by decide +kernel) (by rw [k_a]; rfl) rfl (by decide) fl_X9_25 (congrArg sv_a eq16) ?_
        refine sv_go C.1 C.2.1 [(.iload_n 1, 1)] (pc' := 29) (by decide +kernel) rfl (lv' := [(0, sv_r a), (1, sv_i v1), (2, sv_i v2), (3, sv_i y)]) (st' := [sv_i v1, sv_r q16]) rfl ?_
        refine sv_aa C (N := "SaintsRoad$Place") (by decide) (n := 4) (by decide +kernel) (by rw [kq16]; rfl) (by decide) (by omega) (by omega) ?_
        obtain ⟨q17, eq17, kq17⟩ := hI.ref (k := (v1 : Int).toNat) kq16 (by first | rfl | (show (if _ then _ else _) = _; rw [if_pos (by omega)]))
        rw [eq17]
        refine sv_go C.1 C.2.1 [(.iload_n 3, 1)] (pc' := 31) (by decide +kernel) rfl (lv' := [(0, sv_r a), (1, sv_i v1), (2, sv_i v2), (3, sv_i y)]) (st' := [sv_i y, sv_r q17]) rfl ?_
        refine sv_cv C (index := 118) (k := 1) (rest := []) (ci := 3) (r := (RX4, TX4, 11)) (by decide +kernel) (ct_X4_settle l g A ty σ hok14 hTA hI q17 kq17 (y) ⟨by omega, by omega⟩ (Or.inl (by have z := hZ.num (k := 10) kq17 rfl; omega))) ⟨co_X4_settle, in_X4, ⟨by decide, by decide, by decide +kernel⟩, Nat.le_of_ble_eq_true rfl, Nat.le_of_ble_eq_true rfl⟩ ml_X9_118 im_X4_settle se_X4_settle (by rw [kq17]; rfl) rfl rfl rfl (Nat.le_of_ble_eq_true rfl) ⟨Nat.zero_le _, Nat.zero_le _⟩ (fun r19 σ20 hpo18 hok21 => ?_)
        obtain ⟨rfl, hIu22, hFu22, xu22, yu22, zu22⟩ := hpo18
        have hGu22 := hF.tr hFu22 (by decide)
        have t23 : σ20 a 2 = (q16 : Int) + 1 := (hFu22.at k_a (by decide)).trans eq16
        have t24 : σ20 q16 (v1 : Int).toNat = (q17 : Int) + 1 := (hFu22.at kq16 (by decide)).trans eq17
        refine sv_same (st2 := []) (lv2 := [(0, sv_r a), (1, sv_i v1), (2, sv_i v2), (3, sv_i y)]) rfl rfl ?_
        refine sv_go C.1 C.2.1 [(.aload_n 0, 1)] (pc' := 35) (by decide +kernel) rfl (lv' := [(0, sv_r a), (1, sv_i v1), (2, sv_i v2), (3, sv_i y)]) (st' := [sv_r a]) rfl ?_
        refine sv_gf C (index := 25) (ci := 8) (k := 2) (r := (RX9, TX9, 6)) (v := sv_r q16) (by decide +kernel) (by rw [k_a]; rfl) rfl (by decide) fl_X9_25 (congrArg sv_a t23) ?_
        refine sv_go C.1 C.2.1 [(.iload_n 2, 1)] (pc' := 39) (by decide +kernel) rfl (lv' := [(0, sv_r a), (1, sv_i v1), (2, sv_i v2), (3, sv_i y)]) (st' := [sv_i v2, sv_r q16]) rfl ?_
        refine sv_aa C (N := "SaintsRoad$Place") (by decide) (n := 4) (by decide +kernel) (by rw [kq16]; rfl) (by decide) (by omega) (by omega) ?_
        obtain ⟨q25, eq25, kq25⟩ := hIu22.ref (k := (v2 : Int).toNat) kq16 (by first | rfl | (show (if _ then _ else _) = _; rw [if_pos (by omega)]))
        rw [eq25]
        refine sv_go C.1 C.2.1 [(.iload_n 3, 1)] (pc' := 41) (by decide +kernel) rfl (lv' := [(0, sv_r a), (1, sv_i v1), (2, sv_i v2), (3, sv_i y)]) (st' := [sv_i y, sv_r q25]) rfl ?_
        refine sv_cv C (index := 118) (k := 1) (rest := []) (ci := 3) (r := (RX4, TX4, 11)) (by decide +kernel) (ct_X4_settle l g A ty σ20 hok21 hTA hIu22 q25 kq25 (y) ⟨by omega, by omega⟩ (if e9 : q25 = q17 then (by rw [e9]; exact Or.inr (by rw [xu22.1]; exact xu22)) else Or.inl (by rw [zu22 _ e9 kq25]; have z := hZ.num (k := 10) kq25 rfl; omega))) ⟨co_X4_settle, in_X4, ⟨by decide, by decide, by decide +kernel⟩, Nat.le_of_ble_eq_true rfl, Nat.le_of_ble_eq_true rfl⟩ ml_X9_118 im_X4_settle se_X4_settle (by rw [kq25]; rfl) rfl rfl rfl (Nat.le_of_ble_eq_true rfl) ⟨Nat.zero_le _, Nat.zero_le _⟩ (fun r27 σ28 hpo26 hok29 => ?_)
        obtain ⟨rfl, hIu30, hFu30, xu30, yu30, zu30⟩ := hpo26
        have hGu30 := hGu22.tr hFu30 (by decide)
        have t31 : σ28 a 2 = (q16 : Int) + 1 := (hFu30.at k_a (by decide)).trans t23
        have t32 : σ28 q16 (v1 : Int).toNat = (q17 : Int) + 1 := (hFu30.at kq16 (by decide)).trans t24
        have t33 : σ28 q16 (v2 : Int).toNat = (q25 : Int) + 1 := (hFu30.at kq16 (by decide)).trans eq25
        have pk34 := pl_keep xu22 kq17 hIu22 xu30 yu30 zu30
        refine sv_same (st2 := []) (lv2 := [(0, sv_r a), (1, sv_i v1), (2, sv_i v2), (3, sv_i y)]) rfl rfl ?_
        refine sv_go C.1 C.2.1 [(.iload_n 3, 1)] (pc' := 45) (by decide +kernel) rfl (lv' := [(0, sv_r a), (1, sv_i v1), (2, sv_i v2), (3, sv_i y)]) (st' := [sv_i y]) rfl ?_
        refine sv_cs C (index := 148) (k := 1) (rest := []) (by decide +kernel) (ct_X2_length l g A ty σ28 hok29 (y) ⟨by omega, by omega⟩) ⟨co_X2_length, in_X2, ⟨by decide, by decide, by decide +kernel⟩, Nat.le_of_ble_eq_true rfl, Nat.le_of_ble_eq_true rfl⟩ ml_X9_148 st_X2_length rfl rfl (Nat.le_of_ble_eq_true rfl) ⟨Nat.zero_le _, Nat.zero_le _⟩ (fun r36 σ37 hpo35 hok38 => ?_)
        obtain ⟨rfl, rfl⟩ := hpo35
        refine sv_same (st2 := [sv_i (365 + dy_lp y)]) (lv2 := [(0, sv_r a), (1, sv_i v1), (2, sv_i v2), (3, sv_i y)]) rfl rfl ?_
        refine sv_go C.1 C.2.1 [(.istore 4, 2), (.iconst 0, 1), (.istore 5, 2), (.iconst 0, 1), (.istore 6, 2)] (pc' := 56) (by decide +kernel) rfl (lv' := [(0, sv_r a), (1, sv_i v1), (2, sv_i v2), (3, sv_i y), (4, sv_i (365 + dy_lp y)), (5, sv_i 0), (6, sv_i 0)]) (st' := []) rfl ?_
        have L39 : ∀ (n : Nat) (X : Int) , (0 ≤ X ∧ X ≤ 365 + dy_lp y) → (365 + dy_lp y - X) < (n : Int) → sv_E p l e { frames := 5, cells := 0, slots := 0, locals := 111 } s m args below meth c 7 g A ty (fun r σ' => r = [sv_i (fx_unlike v1 v2 y)] ∧ sv_off [4, 25] ty σ σ') σ28 56 [(0, sv_r a), (1, sv_i v1), (2, sv_i v2), (3, sv_i y), (4, sv_i (365 + dy_lp y)), (5, sv_i 0), (6, sv_i X)] [] := by
          intro n
          induction n with
          | zero => intro X  hX hmu; exact absurd hmu (by omega)
          | succ n ih40 =>
            intro X  hX hmu
            refine sv_go C.1 C.2.1 [(.iload 6, 2), (.iload 4, 2)] (pc' := 60) (by decide +kernel) rfl (lv' := [(0, sv_r a), (1, sv_i v1), (2, sv_i v2), (3, sv_i y), (4, sv_i (365 + dy_lp y)), (5, sv_i 0), (6, sv_i X)]) (st' := [sv_i (365 + dy_lp y), sv_i X]) rfl ?_
            refine sv_icmp C.1 C.2.1 (cnd := .ge) (off := 32) (tgt := 92) (by decide +kernel) (by decide) ⟨by omega, by omega⟩ ⟨by omega, by omega⟩ (fun (h41 : (365 + dy_lp y) ≤ X) => ?_) (fun (h41 : ¬ ((365 + dy_lp y) ≤ X)) => ?_)
            · refine sv_go C.1 C.2.1 [(.iload 5, 2)] (pc' := 94) (by decide +kernel) rfl (lv' := [(0, sv_r a), (1, sv_i v1), (2, sv_i v2), (3, sv_i y), (4, sv_i (365 + dy_lp y)), (5, sv_i 0), (6, sv_i X)]) (st' := [sv_i 0]) rfl ?_
              exact sv_iret C hr (by decide +kernel) hok38 (⟨congrArg (fun q => [sv_i q]) (by first | omega | (unfold fx_unlike; omega)), hGu30⟩)
            · refine sv_go C.1 C.2.1 [(.aload_n 0, 1)] (pc' := 64) (by decide +kernel) rfl (lv' := [(0, sv_r a), (1, sv_i v1), (2, sv_i v2), (3, sv_i y), (4, sv_i (365 + dy_lp y)), (5, sv_i 0), (6, sv_i X)]) (st' := [sv_r a]) rfl ?_
              refine sv_gf C (index := 25) (ci := 8) (k := 2) (r := (RX9, TX9, 6)) (v := sv_r q16) (by decide +kernel) (by rw [k_a]; rfl) rfl (by decide) fl_X9_25 (congrArg sv_a t31) ?_
              refine sv_go C.1 C.2.1 [(.iload_n 1, 1)] (pc' := 68) (by decide +kernel) rfl (lv' := [(0, sv_r a), (1, sv_i v1), (2, sv_i v2), (3, sv_i y), (4, sv_i (365 + dy_lp y)), (5, sv_i 0), (6, sv_i X)]) (st' := [sv_i v1, sv_r q16]) rfl ?_
              refine sv_aa C (N := "SaintsRoad$Place") (by decide) (n := 4) (by decide +kernel) (by rw [kq16]; rfl) (by decide) (by omega) (by omega) ?_
              rw [t32]
              refine sv_go C.1 C.2.1 [(.aload_n 0, 1)] (pc' := 70) (by decide +kernel) rfl (lv' := [(0, sv_r a), (1, sv_i v1), (2, sv_i v2), (3, sv_i y), (4, sv_i (365 + dy_lp y)), (5, sv_i 0), (6, sv_i X)]) (st' := [sv_r a, sv_r q17]) rfl ?_
              refine sv_gf C (index := 25) (ci := 8) (k := 2) (r := (RX9, TX9, 6)) (v := sv_r q16) (by decide +kernel) (by rw [k_a]; rfl) rfl (by decide) fl_X9_25 (congrArg sv_a t31) ?_
              refine sv_go C.1 C.2.1 [(.iload_n 2, 1)] (pc' := 74) (by decide +kernel) rfl (lv' := [(0, sv_r a), (1, sv_i v1), (2, sv_i v2), (3, sv_i y), (4, sv_i (365 + dy_lp y)), (5, sv_i 0), (6, sv_i X)]) (st' := [sv_i v2, sv_r q16, sv_r q17]) rfl ?_
              refine sv_aa C (N := "SaintsRoad$Place") (by decide) (n := 4) (by decide +kernel) (by rw [kq16]; rfl) (by decide) (by omega) (by omega) ?_
              rw [t33]
              refine sv_go C.1 C.2.1 [(.iload 6, 2)] (pc' := 77) (by decide +kernel) rfl (lv' := [(0, sv_r a), (1, sv_i v1), (2, sv_i v2), (3, sv_i y), (4, sv_i (365 + dy_lp y)), (5, sv_i 0), (6, sv_i X)]) (st' := [sv_i X, sv_r q25, sv_r q17]) rfl ?_
              refine sv_cv C (index := 150) (k := 2) (rest := []) (ci := 3) (r := (RX4, TX4, 11)) (by decide +kernel) (ct_X4_isAlike l g A ty σ28 hok38 hIu30 q17 kq17 (y) ⟨by omega, by omega⟩ pk34 q25 kq25 xu30 (X) ⟨by omega, by omega⟩) ⟨co_X4_isAlike, in_X4, ⟨by decide, by decide, by decide +kernel⟩, Nat.le_of_ble_eq_true rfl, Nat.le_of_ble_eq_true rfl⟩ ml_X9_150 im_X4_isAlike se_X4_isAlike (by rw [kq17]; rfl) rfl rfl rfl (Nat.le_of_ble_eq_true rfl) ⟨Nat.zero_le _, Nat.zero_le _⟩ (fun r43 σ44 hpo42 hok45 => ?_)
              obtain ⟨rfl, rfl⟩ := hpo42
              refine sv_same (st2 := [sv_i 1]) (lv2 := [(0, sv_r a), (1, sv_i v1), (2, sv_i v2), (3, sv_i y), (4, sv_i (365 + dy_lp y)), (5, sv_i 0), (6, sv_i X)]) rfl rfl ?_
              refine sv_if_t C.1 C.2.1 (cnd := .ne) (off := 6) (tgt := 86) (by decide +kernel) (by decide) ⟨by omega, by omega⟩ (show 1 ≠ 0 by omega) ?_
              refine sv_go C.1 C.2.1 [(.iinc 6 1, 3)] (pc' := 89) (by decide +kernel) rfl (lv' := [(0, sv_r a), (1, sv_i v1), (2, sv_i v2), (3, sv_i y), (4, sv_i (365 + dy_lp y)), (5, sv_i 0), (6, sv_i (X + 1))]) (st' := []) rfl ?_
              refine sv_goto C.1 C.2.1 (off := (-33)) (tgt := 56) (by decide +kernel) (by decide) ?_
              exact ih40 (X + 1)  (by omega) (by omega)
        exact L39 (((365 + dy_lp y - 0 : Int)).toNat + 1) 0  (by omega) (by omega)
      · refine sv_same (st2 := [sv_i 0]) (lv2 := [(0, sv_r a), (1, sv_i v1), (2, sv_i v2), (3, sv_i y)]) rfl rfl ?_
        refine sv_if_f C.1 C.2.1 (cnd := .ne) (off := 6) (tgt := 24) (by decide +kernel) (by decide) ⟨by omega, by omega⟩ (show ¬ (0 ≠ 0) by omega) ?_
        refine sv_go C.1 C.2.1 [(.bipush (-2), 2)] (pc' := 23) (by decide +kernel) rfl (lv' := [(0, sv_r a), (1, sv_i v1), (2, sv_i v2), (3, sv_i y)]) (st' := [sv_i ((-2))]) rfl ?_
        exact sv_iret C hr (by decide +kernel) hok14 (⟨congrArg (fun q => [sv_i q]) (by first | omega | (unfold fx_unlike; omega)), hF⟩)
    · refine sv_same (st2 := [sv_i 0]) (lv2 := [(0, sv_r a), (1, sv_i v1), (2, sv_i v2), (3, sv_i y)]) rfl rfl ?_
      refine sv_if_t C.1 C.2.1 (cnd := .eq) (off := 10) (tgt := 21) (by decide +kernel) (by decide) ⟨by omega, by omega⟩ (show 0 = 0 by omega) ?_
      refine sv_go C.1 C.2.1 [(.bipush (-2), 2)] (pc' := 23) (by decide +kernel) rfl (lv' := [(0, sv_r a), (1, sv_i v1), (2, sv_i v2), (3, sv_i y)]) (st' := [sv_i ((-2))]) rfl ?_
      exact sv_iret C hr (by decide +kernel) hok9 (⟨congrArg (fun q => [sv_i q]) (by first | omega | (unfold fx_unlike; omega)), hF⟩)
  · refine sv_same (st2 := [sv_i 0]) (lv2 := [(0, sv_r a), (1, sv_i v1), (2, sv_i v2), (3, sv_i y)]) rfl rfl ?_
    refine sv_if_t C.1 C.2.1 (cnd := .eq) (off := 17) (tgt := 21) (by decide +kernel) (by decide) ⟨by omega, by omega⟩ (show 0 = 0 by omega) ?_
    refine sv_go C.1 C.2.1 [(.bipush (-2), 2)] (pc' := 23) (by decide +kernel) rfl (lv' := [(0, sv_r a), (1, sv_i v1), (2, sv_i v2), (3, sv_i y)]) (st' := [sv_i ((-2))]) rfl ?_
    exact sv_iret C hr (by decide +kernel) hok4 (⟨congrArg (fun q => [sv_i q]) (by first | omega | (unfold fx_unlike; omega)), hF⟩)

theorem ml_X9_137 : Cond.methodLink RX9 137 yX9_isRank ∈ lw_good := sv_mem 803 (by decide +kernel) rfl
theorem co_X9_isRank : Cond.code yX9_isRank cX9_isRank 1 (some .boolean) ∈ lw_good := sv_mem 795 (by decide +kernel) rfl
theorem st_X9_isRank : Cond.static yX9_isRank ∈ lw_good := sv_mem 794 (by decide +kernel) rfl
theorem ml_X9_140 : Cond.methodLink RX9 140 yJ9_min_7cf53 ∈ lw_good := sv_mem 804 (by decide +kernel) rfl
theorem ml_X9_145 : Cond.methodLink RX9 145 yX4_firstHeld ∈ lw_good := sv_mem 807 (by decide +kernel) rfl
theorem co_X4_firstHeld : Cond.code yX4_firstHeld cX4_firstHeld 6 (some .int) ∈ lw_good := sv_mem 810 (by decide +kernel) rfl
theorem im_X4_firstHeld : Cond.instanceMethod yX4_firstHeld ∈ lw_good := sv_mem 808 (by decide +kernel) rfl
theorem se_X4_firstHeld : Cond.selects RX4 yX4_firstHeld yX4_firstHeld ∈ lw_good := sv_mem 809 (by decide +kernel) rfl
set_option maxHeartbeats 4000000 in
set_option maxRecDepth 100000 in
theorem ct_X9_next (l : Launch) (g : sv_G) (A : Nat → Prop) (ty : Nat → Nat) (σ : Nat → Nat → Int) (hok : sv_ok ty σ) (hTA : ∀ q, ty q ≠ 0 → A q) (hI : sv_inv sp_1 ty σ) (hZ : sv_inv sp_0 ty σ) (a : Nat) (k_a : ty a = 1) (v1 : Int) (hv1 : sv_in v1) (y : Int) (hy : sv_in y) (d : Int) (hd : sv_in d) (w1 : Int) (hw1 : sv_in w1) : sv_M l yX9_next cX9_next 9 (some .int) { frames := 4, cells := 0, slots := 0, locals := 87 } g A ty σ [sv_r a, sv_i v1, sv_i y, sv_i d, sv_i w1] (fun r σ' => r = [sv_i (fx_next v1 y d w1)] ∧ sv_off [4, 25] ty σ σ') := by
  refine sv_enter (by decide) (Nat.le_of_ble_eq_true rfl) ?_
  intro p e s m args below meth c C hr
  have C : sv_C g A RX9 cX9_next 9 p s m args meth c := C
  have hr : meth.sig.returnType = (some .int) := hr
  have hF : sv_off [4, 25] ty σ σ := sv_off.rf
  have hlp := dy_lp_in y
  refine sv_same (st2 := []) (lv2 := [(0, sv_r a), (1, sv_i v1), (2, sv_i y), (3, sv_i d), (4, sv_i w1)]) rfl rfl ?_
  refine sv_go C.1 C.2.1 [(.iload_n 1, 1)] (pc' := 1) (by decide +kernel) rfl (lv' := [(0, sv_r a), (1, sv_i v1), (2, sv_i y), (3, sv_i d), (4, sv_i w1)]) (st' := [sv_i v1]) rfl ?_
  refine sv_cs C (index := 59) (k := 1) (rest := []) (by decide +kernel) (ct_X9_isPlace l g A ty σ hok (v1) ⟨by omega, by omega⟩) ⟨co_X9_isPlace, in_X9, ⟨by decide, by decide, by decide +kernel⟩, Nat.le_of_ble_eq_true rfl, Nat.le_of_ble_eq_true rfl⟩ ml_X9_59 st_X9_isPlace rfl rfl (Nat.le_of_ble_eq_true rfl) ⟨Nat.zero_le _, Nat.zero_le _⟩ (fun r2 σ3 hpo1 hok4 => ?_)
  obtain ⟨rfl, ⟨h5, rfl⟩ | ⟨h5, rfl⟩⟩ := hpo1
  · refine sv_same (st2 := [sv_i 1]) (lv2 := [(0, sv_r a), (1, sv_i v1), (2, sv_i y), (3, sv_i d), (4, sv_i w1)]) rfl rfl ?_
    refine sv_if_f C.1 C.2.1 (cnd := .eq) (off := 19) (tgt := 23) (by decide +kernel) (by decide) ⟨by omega, by omega⟩ (show ¬ (1 = 0) by omega) ?_
    refine sv_go C.1 C.2.1 [(.iload_n 2, 1), (.iload_n 3, 1)] (pc' := 9) (by decide +kernel) rfl (lv' := [(0, sv_r a), (1, sv_i v1), (2, sv_i y), (3, sv_i d), (4, sv_i w1)]) (st' := [sv_i d, sv_i y]) rfl ?_
    refine sv_cs C (index := 105) (k := 2) (rest := []) (by decide +kernel) (ct_X2_isDay l g A ty σ hok4 (y) ⟨by omega, by omega⟩ (d) ⟨by omega, by omega⟩) ⟨co_X2_isDay, in_X2, ⟨by decide, by decide, by decide +kernel⟩, Nat.le_of_ble_eq_true rfl, Nat.le_of_ble_eq_true rfl⟩ ml_X9_105 st_X2_isDay rfl rfl (Nat.le_of_ble_eq_true rfl) ⟨Nat.zero_le _, Nat.zero_le _⟩ (fun r7 σ8 hpo6 hok9 => ?_)
    obtain ⟨rfl, ⟨h10, rfl⟩ | ⟨h10, rfl⟩⟩ := hpo6
    · refine sv_same (st2 := [sv_i 1]) (lv2 := [(0, sv_r a), (1, sv_i v1), (2, sv_i y), (3, sv_i d), (4, sv_i w1)]) rfl rfl ?_
      refine sv_if_f C.1 C.2.1 (cnd := .eq) (off := 11) (tgt := 23) (by decide +kernel) (by decide) ⟨by omega, by omega⟩ (show ¬ (1 = 0) by omega) ?_
      refine sv_go C.1 C.2.1 [(.iload 4, 2)] (pc' := 17) (by decide +kernel) rfl (lv' := [(0, sv_r a), (1, sv_i v1), (2, sv_i y), (3, sv_i d), (4, sv_i w1)]) (st' := [sv_i w1]) rfl ?_
      refine sv_cs C (index := 137) (k := 1) (rest := []) (by decide +kernel) (ct_X9_isRank l g A ty σ hok9 (w1) ⟨by omega, by omega⟩) ⟨co_X9_isRank, in_X9, ⟨by decide, by decide, by decide +kernel⟩, Nat.le_of_ble_eq_true rfl, Nat.le_of_ble_eq_true rfl⟩ ml_X9_137 st_X9_isRank rfl rfl (Nat.le_of_ble_eq_true rfl) ⟨Nat.zero_le _, Nat.zero_le _⟩ (fun r12 σ13 hpo11 hok14 => ?_)
      obtain ⟨rfl, ⟨h15, rfl⟩ | ⟨h15, rfl⟩⟩ := hpo11
      · refine sv_same (st2 := [sv_i 1]) (lv2 := [(0, sv_r a), (1, sv_i v1), (2, sv_i y), (3, sv_i d), (4, sv_i w1)]) rfl rfl ?_
        refine sv_if_t C.1 C.2.1 (cnd := .ne) (off := 6) (tgt := 26) (by decide +kernel) (by decide) ⟨by omega, by omega⟩ (show 1 ≠ 0 by omega) ?_
        refine sv_go C.1 C.2.1 [(.aload_n 0, 1)] (pc' := 27) (by decide +kernel) rfl (lv' := [(0, sv_r a), (1, sv_i v1), (2, sv_i y), (3, sv_i d), (4, sv_i w1)]) (st' := [sv_r a]) rfl ?_
        obtain ⟨q16, eq16, kq16⟩ := hI.ref (k := 2) k_a rfl
        refine sv_gf C (index := 25) (ci := 8) (k := 2) (r := (RX9, TX9, 6)) (v := sv_r q16) (by decide +kernel) (by rw [k_a]; rfl) rfl (by decide) fl_X9_25 (congrArg sv_a eq16) ?_
        refine sv_go C.1 C.2.1 [(.iload_n 1, 1)] (pc' := 31) (by decide +kernel) rfl (lv' := [(0, sv_r a), (1, sv_i v1), (2, sv_i y), (3, sv_i d), (4, sv_i w1)]) (st' := [sv_i v1, sv_r q16]) rfl ?_
        refine sv_aa C (N := "SaintsRoad$Place") (by decide) (n := 4) (by decide +kernel) (by rw [kq16]; rfl) (by decide) (by omega) (by omega) ?_
        obtain ⟨q17, eq17, kq17⟩ := hI.ref (k := (v1 : Int).toNat) kq16 (by first | rfl | (show (if _ then _ else _) = _; rw [if_pos (by omega)]))
        rw [eq17]
        refine sv_go C.1 C.2.1 [(.astore 5, 2), (.sipush 2000, 3), (.iload_n 2, 1), (.bipush 30, 2), (.iadd, 1), (.iconst 1, 1), (.isub, 1)] (pc' := 43) (by decide +kernel) rfl (lv' := [(0, sv_r a), (1, sv_i v1), (2, sv_i y), (3, sv_i d), (4, sv_i w1), (5, sv_r q17)]) (st' := [sv_i ((y + 30) - 1), sv_i 2000]) rfl ?_
        refine sv_min C (index := 140) (by decide +kernel) ml_X9_140 ⟨by omega, by omega⟩ ⟨by omega, by omega⟩ (Nat.le_of_ble_eq_true rfl) (Nat.le_of_ble_eq_true rfl) ⟨Nat.zero_le _, Nat.zero_le _⟩ ?_
        obtain ⟨mm18, hmm18⟩ : ∃ q : Int, q = (if ((y + 30) - 1 : Int) < 2000 then (y + 30) - 1 else 2000) := ⟨_, rfl⟩
        refine sv_same (st2 := [sv_i mm18]) (lv2 := [(0, sv_r a), (1, sv_i v1), (2, sv_i y), (3, sv_i d), (4, sv_i w1), (5, sv_r q17)]) (by rw [hmm18]) rfl ?_
        refine sv_go C.1 C.2.1 [(.istore 6, 2), (.iload_n 2, 1), (.istore 7, 2)] (pc' := 51) (by decide +kernel) rfl (lv' := [(0, sv_r a), (1, sv_i v1), (2, sv_i y), (3, sv_i d), (4, sv_i w1), (5, sv_r q17), (6, sv_i mm18), (7, sv_i y)]) (st' := []) rfl ?_
        have L21 : ∀ (n : Nat) (X : Int) (σ19 : Nat → Nat → Int), (sv_ok ty σ19) → (sv_inv sp_1 ty σ19) → (sv_off [4, 25] ty σ σ19) → (σ19 a 2 = (q16 : Int) + 1) → (σ19 q16 (v1 : Int).toNat = (q17 : Int) + 1) → (y ≤ X ∧ X ≤ 2001) → (pl_0 ty σ19 q17) → (2001 - X) < (n : Int) → sv_E p l e { frames := 4, cells := 0, slots := 0, locals := 87 } s m args below meth c 9 g A ty (fun r σ' => r = [sv_i (fx_next v1 y d w1)] ∧ sv_off [4, 25] ty σ σ') σ19 51 [(0, sv_r a), (1, sv_i v1), (2, sv_i y), (3, sv_i d), (4, sv_i w1), (5, sv_r q17), (6, sv_i mm18), (7, sv_i X)] [] := by
          intro n
          induction n with
          | zero => intro X σ19 hokc20 hIc20 hFc20 kc20_0 kc20_1 hX h0p hmu; exact absurd hmu (by omega)
          | succ n ih22 =>
            intro X σ19 hokc20 hIc20 hFc20 kc20_0 kc20_1 hX h0p hmu
            refine sv_go C.1 C.2.1 [(.iload 7, 2), (.iload 6, 2)] (pc' := 55) (by decide +kernel) rfl (lv' := [(0, sv_r a), (1, sv_i v1), (2, sv_i y), (3, sv_i d), (4, sv_i w1), (5, sv_r q17), (6, sv_i mm18), (7, sv_i X)]) (st' := [sv_i mm18, sv_i X]) rfl ?_
            refine sv_icmp C.1 C.2.1 (cnd := .gt) (off := 51) (tgt := 106) (by decide +kernel) (by decide) ⟨by omega, by omega⟩ ⟨by omega, by omega⟩ (fun (h23 : mm18 < X) => ?_) (fun (h23 : ¬ (mm18 < X)) => ?_)
            · refine sv_go C.1 C.2.1 [(.iconst (-1), 1)] (pc' := 107) (by decide +kernel) rfl (lv' := [(0, sv_r a), (1, sv_i v1), (2, sv_i y), (3, sv_i d), (4, sv_i w1), (5, sv_r q17), (6, sv_i mm18), (7, sv_i X)]) (st' := [sv_i ((-1))]) rfl ?_
              exact sv_iret C hr (by decide +kernel) hokc20 (⟨congrArg (fun q => [sv_i q]) (by first | omega | (unfold fx_next; omega)), hFc20⟩)
            · refine sv_go C.1 C.2.1 [(.aload 5, 2), (.iload 7, 2)] (pc' := 62) (by decide +kernel) rfl (lv' := [(0, sv_r a), (1, sv_i v1), (2, sv_i y), (3, sv_i d), (4, sv_i w1), (5, sv_r q17), (6, sv_i mm18), (7, sv_i X)]) (st' := [sv_i X, sv_r q17]) rfl ?_
              refine sv_cv C (index := 118) (k := 1) (rest := []) (ci := 3) (r := (RX4, TX4, 11)) (by decide +kernel) (ct_X4_settle l g A ty σ19 hokc20 hTA hIc20 q17 kq17 (X) ⟨by omega, by omega⟩ h0p) ⟨co_X4_settle, in_X4, ⟨by decide, by decide, by decide +kernel⟩, Nat.le_of_ble_eq_true rfl, Nat.le_of_ble_eq_true rfl⟩ ml_X9_118 im_X4_settle se_X4_settle (by rw [kq17]; rfl) rfl rfl rfl (Nat.le_of_ble_eq_true rfl) ⟨Nat.zero_le _, Nat.zero_le _⟩ (fun r25 σ26 hpo24 hok27 => ?_)
              obtain ⟨rfl, hIu28, hFu28, xu28, yu28, zu28⟩ := hpo24
              have hGu28 := hFc20.tr hFu28 (by decide)
              have t29 : σ26 a 2 = (q16 : Int) + 1 := (hFu28.at k_a (by decide)).trans kc20_0
              have t30 : σ26 q16 (v1 : Int).toNat = (q17 : Int) + 1 := (hFu28.at kq16 (by decide)).trans kc20_1
              refine sv_same (st2 := []) (lv2 := [(0, sv_r a), (1, sv_i v1), (2, sv_i y), (3, sv_i d), (4, sv_i w1), (5, sv_r q17), (6, sv_i mm18), (7, sv_i X)]) rfl rfl ?_
              refine sv_go C.1 C.2.1 [(.aload 5, 2), (.iload 7, 2), (.iload_n 2, 1)] (pc' := 70) (by decide +kernel) rfl (lv' := [(0, sv_r a), (1, sv_i v1), (2, sv_i y), (3, sv_i d), (4, sv_i w1), (5, sv_r q17), (6, sv_i mm18), (7, sv_i X)]) (st' := [sv_i y, sv_i X, sv_r q17]) rfl ?_
              refine sv_icmp C.1 C.2.1 (cnd := .ne) (off := 7) (tgt := 77) (by decide +kernel) (by decide) ⟨by omega, by omega⟩ ⟨by omega, by omega⟩ (fun (h31 : X ≠ y) => ?_) (fun (h31 : ¬ (X ≠ y)) => ?_)
              · refine sv_go C.1 C.2.1 [(.iconst 0, 1), (.iload 4, 2)] (pc' := 80) (by decide +kernel) rfl (lv' := [(0, sv_r a), (1, sv_i v1), (2, sv_i y), (3, sv_i d), (4, sv_i w1), (5, sv_r q17), (6, sv_i mm18), (7, sv_i X)]) (st' := [sv_i w1, sv_i 0, sv_r q17]) rfl ?_
                refine sv_cv C (index := 145) (k := 2) (rest := []) (ci := 3) (r := (RX4, TX4, 11)) (by decide +kernel) (ct_X4_firstHeld l g A ty σ26 hok27 hIu28 q17 kq17 (X) ⟨by omega, by omega⟩ xu28 (0) ⟨by omega, by omega⟩ (w1) ⟨by omega, by omega⟩) ⟨co_X4_firstHeld, in_X4, ⟨by decide, by decide, by decide +kernel⟩, Nat.le_of_ble_eq_true rfl, Nat.le_of_ble_eq_true rfl⟩ ml_X9_145 im_X4_firstHeld se_X4_firstHeld (by rw [kq17]; rfl) rfl rfl rfl (Nat.le_of_ble_eq_true rfl) ⟨Nat.zero_le _, Nat.zero_le _⟩ (fun r33 σ34 hpo32 hok35 => ?_)
                obtain ⟨rfl, rfl⟩ := hpo32
                refine sv_same (st2 := [sv_i ((-1))]) (lv2 := [(0, sv_r a), (1, sv_i v1), (2, sv_i y), (3, sv_i d), (4, sv_i w1), (5, sv_r q17), (6, sv_i mm18), (7, sv_i X)]) rfl rfl ?_
                refine sv_go C.1 C.2.1 [(.istore 8, 2), (.iload 8, 2)] (pc' := 87) (by decide +kernel) rfl (lv' := [(0, sv_r a), (1, sv_i v1), (2, sv_i y), (3, sv_i d), (4, sv_i w1), (5, sv_r q17), (6, sv_i mm18), (7, sv_i X), (8, sv_i ((-1)))]) (st' := [sv_i ((-1))]) rfl ?_
                refine sv_if_t C.1 C.2.1 (cnd := .lt) (off := 13) (tgt := 100) (by decide +kernel) (by decide) ⟨by omega, by omega⟩ (show ((-1)) < 0 by omega) ?_
                refine sv_go C.1 C.2.1 [(.iinc 7 1, 3)] (pc' := 103) (by decide +kernel) rfl (lv' := [(0, sv_r a), (1, sv_i v1), (2, sv_i y), (3, sv_i d), (4, sv_i w1), (5, sv_r q17), (6, sv_i mm18), (7, sv_i (X + 1)), (8, sv_i ((-1)))]) (st' := []) rfl ?_
                refine sv_goto C.1 C.2.1 (off := (-52)) (tgt := 51) (by decide +kernel) (by decide) ?_
                refine sv_pick [0, 1, 2, 3, 4, 5, 6, 7] (lv2 := [(0, sv_r a), (1, sv_i v1), (2, sv_i y), (3, sv_i d), (4, sv_i w1), (5, sv_r q17), (6, sv_i mm18), (7, sv_i (X + 1))]) rfl ?_
                exact ih22 (X + 1) σ26 hok35 hIu28 hGu28 t29 t30 (by omega) (Or.inr (by rw [xu28.1]; exact xu28)) (by omega)
              · refine sv_go C.1 C.2.1 [(.iload_n 3, 1)] (pc' := 74) (by decide +kernel) rfl (lv' := [(0, sv_r a), (1, sv_i v1), (2, sv_i y), (3, sv_i d), (4, sv_i w1), (5, sv_r q17), (6, sv_i mm18), (7, sv_i X)]) (st' := [sv_i d, sv_r q17]) rfl ?_
                refine sv_goto C.1 C.2.1 (off := 4) (tgt := 78) (by decide +kernel) (by decide) ?_
                refine sv_go C.1 C.2.1 [(.iload 4, 2)] (pc' := 80) (by decide +kernel) rfl (lv' := [(0, sv_r a), (1, sv_i v1), (2, sv_i y), (3, sv_i d), (4, sv_i w1), (5, sv_r q17), (6, sv_i mm18), (7, sv_i X)]) (st' := [sv_i w1, sv_i d, sv_r q17]) rfl ?_
                refine sv_cv C (index := 145) (k := 2) (rest := []) (ci := 3) (r := (RX4, TX4, 11)) (by decide +kernel) (ct_X4_firstHeld l g A ty σ26 hok27 hIu28 q17 kq17 (X) ⟨by omega, by omega⟩ xu28 (d) ⟨by omega, by omega⟩ (w1) ⟨by omega, by omega⟩) ⟨co_X4_firstHeld, in_X4, ⟨by decide, by decide, by decide +kernel⟩, Nat.le_of_ble_eq_true rfl, Nat.le_of_ble_eq_true rfl⟩ ml_X9_145 im_X4_firstHeld se_X4_firstHeld (by rw [kq17]; rfl) rfl rfl rfl (Nat.le_of_ble_eq_true rfl) ⟨Nat.zero_le _, Nat.zero_le _⟩ (fun r37 σ38 hpo36 hok39 => ?_)
                obtain ⟨rfl, rfl⟩ := hpo36
                refine sv_same (st2 := [sv_i ((-1))]) (lv2 := [(0, sv_r a), (1, sv_i v1), (2, sv_i y), (3, sv_i d), (4, sv_i w1), (5, sv_r q17), (6, sv_i mm18), (7, sv_i X)]) rfl rfl ?_
                refine sv_go C.1 C.2.1 [(.istore 8, 2), (.iload 8, 2)] (pc' := 87) (by decide +kernel) rfl (lv' := [(0, sv_r a), (1, sv_i v1), (2, sv_i y), (3, sv_i d), (4, sv_i w1), (5, sv_r q17), (6, sv_i mm18), (7, sv_i X), (8, sv_i ((-1)))]) (st' := [sv_i ((-1))]) rfl ?_
                refine sv_if_t C.1 C.2.1 (cnd := .lt) (off := 13) (tgt := 100) (by decide +kernel) (by decide) ⟨by omega, by omega⟩ (show ((-1)) < 0 by omega) ?_
                refine sv_go C.1 C.2.1 [(.iinc 7 1, 3)] (pc' := 103) (by decide +kernel) rfl (lv' := [(0, sv_r a), (1, sv_i v1), (2, sv_i y), (3, sv_i d), (4, sv_i w1), (5, sv_r q17), (6, sv_i mm18), (7, sv_i (X + 1)), (8, sv_i ((-1)))]) (st' := []) rfl ?_
                refine sv_goto C.1 C.2.1 (off := (-52)) (tgt := 51) (by decide +kernel) (by decide) ?_
                refine sv_pick [0, 1, 2, 3, 4, 5, 6, 7] (lv2 := [(0, sv_r a), (1, sv_i v1), (2, sv_i y), (3, sv_i d), (4, sv_i w1), (5, sv_r q17), (6, sv_i mm18), (7, sv_i (X + 1))]) rfl ?_
                exact ih22 (X + 1) σ26 hok39 hIu28 hGu28 t29 t30 (by omega) (Or.inr (by rw [xu28.1]; exact xu28)) (by omega)
        exact L21 (((2001 - y : Int)).toNat + 1) y σ hok14 hI hF eq16 eq17 (by omega) (Or.inl (by have z := hZ.num (k := 10) kq17 rfl; omega)) (by omega)
      · refine sv_same (st2 := [sv_i 0]) (lv2 := [(0, sv_r a), (1, sv_i v1), (2, sv_i y), (3, sv_i d), (4, sv_i w1)]) rfl rfl ?_
        refine sv_if_f C.1 C.2.1 (cnd := .ne) (off := 6) (tgt := 26) (by decide +kernel) (by decide) ⟨by omega, by omega⟩ (show ¬ (0 ≠ 0) by omega) ?_
        refine sv_go C.1 C.2.1 [(.bipush (-2), 2)] (pc' := 25) (by decide +kernel) rfl (lv' := [(0, sv_r a), (1, sv_i v1), (2, sv_i y), (3, sv_i d), (4, sv_i w1)]) (st' := [sv_i ((-2))]) rfl ?_
        exact sv_iret C hr (by decide +kernel) hok14 (⟨congrArg (fun q => [sv_i q]) (by first | omega | (unfold fx_next; omega)), hF⟩)
    · refine sv_same (st2 := [sv_i 0]) (lv2 := [(0, sv_r a), (1, sv_i v1), (2, sv_i y), (3, sv_i d), (4, sv_i w1)]) rfl rfl ?_
      refine sv_if_t C.1 C.2.1 (cnd := .eq) (off := 11) (tgt := 23) (by decide +kernel) (by decide) ⟨by omega, by omega⟩ (show 0 = 0 by omega) ?_
      refine sv_go C.1 C.2.1 [(.bipush (-2), 2)] (pc' := 25) (by decide +kernel) rfl (lv' := [(0, sv_r a), (1, sv_i v1), (2, sv_i y), (3, sv_i d), (4, sv_i w1)]) (st' := [sv_i ((-2))]) rfl ?_
      exact sv_iret C hr (by decide +kernel) hok9 (⟨congrArg (fun q => [sv_i q]) (by first | omega | (unfold fx_next; omega)), hF⟩)
  · refine sv_same (st2 := [sv_i 0]) (lv2 := [(0, sv_r a), (1, sv_i v1), (2, sv_i y), (3, sv_i d), (4, sv_i w1)]) rfl rfl ?_
    refine sv_if_t C.1 C.2.1 (cnd := .eq) (off := 19) (tgt := 23) (by decide +kernel) (by decide) ⟨by omega, by omega⟩ (show 0 = 0 by omega) ?_
    refine sv_go C.1 C.2.1 [(.bipush (-2), 2)] (pc' := 25) (by decide +kernel) rfl (lv' := [(0, sv_r a), (1, sv_i v1), (2, sv_i y), (3, sv_i d), (4, sv_i w1)]) (st' := [sv_i ((-2))]) rfl ?_
    exact sv_iret C hr (by decide +kernel) hok4 (⟨congrArg (fun q => [sv_i q]) (by first | omega | (unfold fx_next; omega)), hF⟩)

set_option maxHeartbeats 4000000 in
set_option maxRecDepth 100000 in
theorem ct_X7_byteAt (l : Launch) (g : sv_G) (A : Nat → Prop) (ty : Nat → Nat) (σ : Nat → Nat → Int) (hok : sv_ok ty σ) (hI : sv_inv sp_1 ty σ) (a : Nat) (k_a : ty a = 2) (hL0 : σ a 1 = 0) (v : Int) (hv : sv_in v) : sv_M l yX7_byteAt cX7_byteAt 2 (some .int) { frames := 0, cells := 0, slots := 0, locals := 0 } g A ty σ [sv_r a, sv_i v] (fun r σ' => σ = σ' ∧ r = [sv_i (-1)]) := by
  refine sv_enter (by decide) (Nat.le_of_ble_eq_true rfl) ?_
  intro p e s m args below meth c C hr
  have C : sv_C g A RX7 cX7_byteAt 2 p s m args meth c := C
  have hr : meth.sig.returnType = (some .int) := hr
  refine sv_same (st2 := []) (lv2 := [(0, sv_r a), (1, sv_i v)]) rfl rfl ?_
  refine sv_go C.1 C.2.1 [(.iload_n 1, 1)] (pc' := 1) (by decide +kernel) rfl (lv' := [(0, sv_r a), (1, sv_i v)]) (st' := [sv_i v]) rfl ?_
  refine sv_if C.1 C.2.1 (cnd := .lt) (off := 24) (tgt := 25) (by decide +kernel) (by decide) ⟨by omega, by omega⟩ (fun (h1 : v < 0) => ?_) (fun (h1 : ¬ (v < 0)) => ?_)
  · refine sv_go C.1 C.2.1 [(.iconst (-1), 1)] (pc' := 26) (by decide +kernel) rfl (lv' := [(0, sv_r a), (1, sv_i v)]) (st' := [sv_i ((-1))]) rfl ?_
    exact sv_iret C hr (by decide +kernel) hok (⟨rfl, rfl⟩)
  · refine sv_go C.1 C.2.1 [(.iload_n 1, 1), (.aload_n 0, 1)] (pc' := 6) (by decide +kernel) rfl (lv' := [(0, sv_r a), (1, sv_i v)]) (st' := [sv_r a, sv_i v]) rfl ?_
    refine sv_gf C (index := 15) (ci := 6) (k := 1) (r := (RX7, TX7, 2)) (v := sv_i 0) (by decide +kernel) (by rw [k_a]; rfl) rfl (by decide) fl_X7_15 (congrArg sv_i hL0) ?_
    refine sv_icmp_t C.1 C.2.1 (cnd := .ge) (off := 16) (tgt := 25) (by decide +kernel) (by decide) ⟨by omega, by omega⟩ ⟨by omega, by omega⟩ (show 0 ≤ v by omega) ?_
    refine sv_go C.1 C.2.1 [(.iconst (-1), 1)] (pc' := 26) (by decide +kernel) rfl (lv' := [(0, sv_r a), (1, sv_i v)]) (st' := [sv_i ((-1))]) rfl ?_
    exact sv_iret C hr (by decide +kernel) hok (⟨rfl, rfl⟩)

theorem fl_X6_39 : Cond.fieldLink RX6 39 "SaintsRoad$Reader" "at" "I" ∈ lw_good := sv_mem 131 (by decide +kernel) rfl
theorem fl_X6_15 : Cond.fieldLink RX6 15 "SaintsRoad$Reader" "tape" "LSaintsRoad$Tape;" ∈ lw_good := sv_mem 127 (by decide +kernel) rfl
theorem fl_X6_58 : Cond.fieldLink RX6 58 "SaintsRoad$Tape" "length" "I" ∈ lw_good := sv_mem 110 (by decide +kernel) rfl
theorem fl_X6_55 : Cond.fieldLink RX6 55 "SaintsRoad$Reader" "start" "I" ∈ lw_good := sv_mem 133 (by decide +kernel) rfl
theorem ml_X6_63 : Cond.methodLink RX6 63 yX7_byteAt ∈ lw_good := sv_mem 456 (by decide +kernel) rfl
theorem co_X7_byteAt : Cond.code yX7_byteAt cX7_byteAt 2 (some .int) ∈ lw_good := sv_mem 459 (by decide +kernel) rfl
theorem im_X7_byteAt : Cond.instanceMethod yX7_byteAt ∈ lw_good := sv_mem 457 (by decide +kernel) rfl
theorem se_X7_byteAt : Cond.selects RX7 yX7_byteAt yX7_byteAt ∈ lw_good := sv_mem 458 (by decide +kernel) rfl
theorem fl_X6_48 : Cond.fieldLink RX6 48 "SaintsRoad$Reader" "token" "I" ∈ lw_good := sv_mem 132 (by decide +kernel) rfl
set_option maxHeartbeats 4000000 in
set_option maxRecDepth 100000 in
theorem ct_X6_readToken (l : Launch) (g : sv_G) (A : Nat → Prop) (ty : Nat → Nat) (σ : Nat → Nat → Int) (hok : sv_ok ty σ) (hTA : ∀ q, ty q ≠ 0 → A q) (hI : sv_inv sp_1 ty σ) (a : Nat) (k_a : ty a = 3) (t : Nat) (k_t : ty t = 2) (ht : σ a 2 = (t : Int) + 1) (hl : σ t 1 = 0) (hat : σ a 6 = 0) (hst : σ a 5 = 0) (hfk : σ a 0 = 0) : sv_M l yX6_readToken cX6_readToken 2 none { frames := 1, cells := 0, slots := 0, locals := 21 } g A ty σ [sv_r a] (fun r σ' => r = [] ∧ sv_inv sp_1 ty σ' ∧ sv_off [3] ty σ σ' ∧ σ' a 7 = 0 ∧ σ' a 5 = 0 ∧ σ' a 0 = 0) := by
  refine sv_enter (by decide) (Nat.le_of_ble_eq_true rfl) ?_
  intro p e s m args below meth c C hr
  have C : sv_C g A RX6 cX6_readToken 2 p s m args meth c := C
  have hr : meth.sig.returnType = none := hr
  have hF : sv_off [3] ty σ σ := sv_off.rf
  refine sv_same (st2 := []) (lv2 := [(0, sv_r a)]) rfl rfl ?_
  refine sv_go C.1 C.2.1 [(.aload_n 0, 1)] (pc' := 1) (by decide +kernel) rfl (lv' := [(0, sv_r a)]) (st' := [sv_r a]) rfl ?_
  refine sv_gf C (index := 39) (ci := 5) (k := 6) (r := (RX6, TX6, 13)) (v := sv_i 0) (by decide +kernel) (by rw [k_a]; rfl) rfl (by decide) fl_X6_39 (congrArg sv_i hat) ?_
  refine sv_go C.1 C.2.1 [(.aload_n 0, 1)] (pc' := 5) (by decide +kernel) rfl (lv' := [(0, sv_r a)]) (st' := [sv_r a, sv_i 0]) rfl ?_
  refine sv_gf C (index := 15) (ci := 5) (k := 2) (r := (RX6, TX6, 13)) (v := sv_r t) (by decide +kernel) (by rw [k_a]; rfl) rfl (by decide) fl_X6_15 (congrArg sv_a ht) ?_
  refine sv_gf C (index := 58) (ci := 6) (k := 1) (r := (RX7, TX7, 2)) (v := sv_i 0) (by decide +kernel) (by rw [k_t]; rfl) rfl (by decide) fl_X6_58 (congrArg sv_i hl) ?_
  refine sv_icmp_t C.1 C.2.1 (cnd := .ge) (off := 33) (tgt := 44) (by decide +kernel) (by decide) ⟨by omega, by omega⟩ ⟨by omega, by omega⟩ (show 0 ≤ 0 by omega) ?_
  refine sv_go C.1 C.2.1 [(.aload_n 0, 1), (.aload_n 0, 1)] (pc' := 46) (by decide +kernel) rfl (lv' := [(0, sv_r a)]) (st' := [sv_r a, sv_r a]) rfl ?_
  refine sv_gf C (index := 39) (ci := 5) (k := 6) (r := (RX6, TX6, 13)) (v := sv_i 0) (by decide +kernel) (by rw [k_a]; rfl) rfl (by decide) fl_X6_39 (congrArg sv_i hat) ?_
  refine sv_pf C (index := 55) (ci := 5) (k := 8) (r := (RX6, TX6, 13)) (z := 0) (by decide +kernel) (by rw [k_a]; rfl) rfl (by decide) rfl fl_X6_55 rfl (Or.inl rfl) ⟨by omega, by omega⟩ (hTA _ (by rw [k_a]; decide)) hok (fun hok1 => ?_)
  have hI3 := hI.up (a := a) (k := 8) (z := 0) (by rw [k_a]; exact trivial)
  have hF4 := hF.up (a := a) (k := 8) (z := 0) (by rw [k_a]; decide)
  generalize eσ2 : sv_up σ a 8 0 = σ2 at hok1 hI3 hF4 ⊢
  have t5 : σ2 a 2 = (t : Int) + 1 := by rw [← eσ2, sv_up_k (by decide)]; exact ht
  have t6 : σ2 t 1 = 0 := by rw [← eσ2, sv_up_a (sv_ne k_t k_a (by decide))]; exact hl
  have t7 : σ2 a 6 = 0 := by rw [← eσ2, sv_up_k (by decide)]; exact hat
  have t8 : σ2 a 5 = 0 := by rw [← eσ2, sv_up_k (by decide)]; exact hst
  have t9 : σ2 a 0 = 0 := by rw [← eσ2, sv_up_k (by decide)]; exact hfk
  have t10 : σ2 a 8 = 0 := by rw [← eσ2]; exact sv_up_s _ _ _ _
  refine sv_go C.1 C.2.1 [(.aload_n 0, 1)] (pc' := 53) (by decide +kernel) rfl (lv' := [(0, sv_r a)]) (st' := [sv_r a]) rfl ?_
  refine sv_gf C (index := 15) (ci := 5) (k := 2) (r := (RX6, TX6, 13)) (v := sv_r t) (by decide +kernel) (by rw [k_a]; rfl) rfl (by decide) fl_X6_15 (congrArg sv_a t5) ?_
  refine sv_go C.1 C.2.1 [(.aload_n 0, 1)] (pc' := 57) (by decide +kernel) rfl (lv' := [(0, sv_r a)]) (st' := [sv_r a, sv_r t]) rfl ?_
  refine sv_gf C (index := 39) (ci := 5) (k := 6) (r := (RX6, TX6, 13)) (v := sv_i 0) (by decide +kernel) (by rw [k_a]; rfl) rfl (by decide) fl_X6_39 (congrArg sv_i t7) ?_
  refine sv_cv C (index := 63) (k := 1) (rest := []) (ci := 6) (r := (RX7, TX7, 2)) (by decide +kernel) (ct_X7_byteAt l g A ty σ2 hok1 hI3 t k_t t6 (0) ⟨by omega, by omega⟩) ⟨co_X7_byteAt, in_X7, ⟨by decide, by decide, by decide +kernel⟩, Nat.le_of_ble_eq_true rfl, Nat.le_of_ble_eq_true rfl⟩ ml_X6_63 im_X7_byteAt se_X7_byteAt (by rw [k_t]; rfl) rfl rfl rfl (Nat.le_of_ble_eq_true rfl) ⟨Nat.zero_le _, Nat.zero_le _⟩ (fun r12 σ13 hpo11 hok14 => ?_)
  obtain ⟨rfl, rfl⟩ := hpo11
  refine sv_same (st2 := [sv_i ((-1))]) (lv2 := [(0, sv_r a)]) rfl rfl ?_
  refine sv_go C.1 C.2.1 [(.istore_n 1, 1), (.iload_n 1, 1), (.iconst (-1), 1)] (pc' := 66) (by decide +kernel) rfl (lv' := [(0, sv_r a), (1, sv_i ((-1)))]) (st' := [sv_i ((-1)), sv_i ((-1))]) rfl ?_
  refine sv_icmp_f C.1 C.2.1 (cnd := .ne) (off := 11) (tgt := 77) (by decide +kernel) (by decide) ⟨by omega, by omega⟩ ⟨by omega, by omega⟩ (show ¬ (((-1)) ≠ ((-1))) by omega) ?_
  refine sv_go C.1 C.2.1 [(.aload_n 0, 1), (.iconst 0, 1)] (pc' := 71) (by decide +kernel) rfl (lv' := [(0, sv_r a), (1, sv_i ((-1)))]) (st' := [sv_i 0, sv_r a]) rfl ?_
  refine sv_pf C (index := 48) (ci := 5) (k := 7) (r := (RX6, TX6, 13)) (z := 0) (by decide +kernel) (by rw [k_a]; rfl) rfl (by decide) rfl fl_X6_48 rfl (Or.inl rfl) ⟨by omega, by omega⟩ (hTA _ (by rw [k_a]; decide)) hok14 (fun hok15 => ?_)
  have hI17 := hI3.up (a := a) (k := 7) (z := 0) (by rw [k_a]; exact trivial)
  have hF18 := hF4.up (a := a) (k := 7) (z := 0) (by rw [k_a]; decide)
  generalize eσ16 : sv_up σ2 a 7 0 = σ16 at hok15 hI17 hF18 ⊢
  have t19 : σ16 a 2 = (t : Int) + 1 := by rw [← eσ16, sv_up_k (by decide)]; exact t5
  have t20 : σ16 t 1 = 0 := by rw [← eσ16, sv_up_a (sv_ne k_t k_a (by decide))]; exact t6
  have t21 : σ16 a 6 = 0 := by rw [← eσ16, sv_up_k (by decide)]; exact t7
  have t22 : σ16 a 5 = 0 := by rw [← eσ16, sv_up_k (by decide)]; exact t8
  have t23 : σ16 a 0 = 0 := by rw [← eσ16, sv_up_k (by decide)]; exact t9
  have t24 : σ16 a 8 = 0 := by rw [← eσ16, sv_up_k (by decide)]; exact t10
  have t25 : σ16 a 7 = 0 := by rw [← eσ16]; exact sv_up_s _ _ _ _
  refine sv_goto C.1 C.2.1 (off := 66) (tgt := 140) (by decide +kernel) (by decide) ?_
  exact sv_vret C hr (by decide +kernel) hok15 (⟨rfl, hI17, hF18, t25, t22, t23⟩)

theorem fl_X1_32 : Cond.fieldLink RX1 32 "SaintsRoad$Calendar" "size" "I" ∈ lw_good := sv_mem 248 (by decide +kernel) rfl
theorem fl_X1_35 : Cond.fieldLink RX1 35 "SaintsRoad$Calendar" "yieldRank" "I" ∈ lw_good := sv_mem 252 (by decide +kernel) rfl
theorem fl_X1_38 : Cond.fieldLink RX1 38 "SaintsRoad$Calendar" "yieldTimes" "I" ∈ lw_good := sv_mem 255 (by decide +kernel) rfl
theorem fl_X1_22 : Cond.fieldLink RX1 22 "SaintsRoad$Calendar" "lent" "I" ∈ lw_good := sv_mem 258 (by decide +kernel) rfl
theorem fl_X1_17 : Cond.fieldLink RX1 17 "SaintsRoad$Calendar" "waxByRank" "[I" ∈ lw_good := sv_mem 246 (by decide +kernel) rfl
theorem ml_X1_26 : Cond.methodLink RX1 26 yJ7_fill_53178 ∈ lw_good := sv_mem 239 (by decide +kernel) rfl
set_option maxHeartbeats 4000000 in
set_option maxRecDepth 100000 in
theorem ct_X1_clear (l : Launch) (g : sv_G) (A : Nat → Prop) (ty : Nat → Nat) (σ : Nat → Nat → Int) (hok : sv_ok ty σ) (hTA : ∀ q, ty q ≠ 0 → A q) (hI : sv_inv sp_1 ty σ) (a : Nat) (k_a : ty a = 7)  : sv_M l yX1_clear cX1_clear 1 none { frames := 1, cells := 0, slots := 0, locals := 23 } g A ty σ [sv_r a] (fun r σ' => r = [] ∧ sv_inv sp_1 ty σ' ∧ sv_off [7, 23] ty σ σ') := by
  refine sv_enter (by decide) (Nat.le_of_ble_eq_true rfl) ?_
  intro p e s m args below meth c C hr
  have C : sv_C g A RX1 cX1_clear 1 p s m args meth c := C
  have hr : meth.sig.returnType = none := hr
  have hF : sv_off [7, 23] ty σ σ := sv_off.rf
  refine sv_same (st2 := []) (lv2 := [(0, sv_r a)]) rfl rfl ?_
  refine sv_go C.1 C.2.1 [(.aload_n 0, 1), (.iconst 0, 1)] (pc' := 2) (by decide +kernel) rfl (lv' := [(0, sv_r a)]) (st' := [sv_i 0, sv_r a]) rfl ?_
  refine sv_pf C (index := 32) (ci := 1) (k := 2) (r := (RX1, TX1, 6)) (z := 0) (by decide +kernel) (by rw [k_a]; rfl) rfl (by decide) rfl fl_X1_32 rfl (Or.inl rfl) ⟨by omega, by omega⟩ (hTA _ (by rw [k_a]; decide)) hok (fun hok1 => ?_)
  have hI3 := hI.up (a := a) (k := 2) (z := 0) (by rw [k_a]; exact ⟨by omega, by omega⟩)
  have hF4 := hF.up (a := a) (k := 2) (z := 0) (by rw [k_a]; decide)
  generalize eσ2 : sv_up σ a 2 0 = σ2 at hok1 hI3 hF4 ⊢
  have t5 : σ2 a 2 = 0 := by rw [← eσ2]; exact sv_up_s _ _ _ _
  refine sv_go C.1 C.2.1 [(.aload_n 0, 1), (.iconst 0, 1)] (pc' := 7) (by decide +kernel) rfl (lv' := [(0, sv_r a)]) (st' := [sv_i 0, sv_r a]) rfl ?_
  refine sv_pf C (index := 35) (ci := 1) (k := 3) (r := (RX1, TX1, 6)) (z := 0) (by decide +kernel) (by rw [k_a]; rfl) rfl (by decide) rfl fl_X1_35 rfl (Or.inl rfl) ⟨by omega, by omega⟩ (hTA _ (by rw [k_a]; decide)) hok1 (fun hok6 => ?_)
  have hI8 := hI3.up (a := a) (k := 3) (z := 0) (by rw [k_a]; exact trivial)
  have hF9 := hF4.up (a := a) (k := 3) (z := 0) (by rw [k_a]; decide)
  generalize eσ7 : sv_up σ2 a 3 0 = σ7 at hok6 hI8 hF9 ⊢
  have t10 : σ7 a 2 = 0 := by rw [← eσ7, sv_up_k (by decide)]; exact t5
  have t11 : σ7 a 3 = 0 := by rw [← eσ7]; exact sv_up_s _ _ _ _
  refine sv_go C.1 C.2.1 [(.aload_n 0, 1), (.iconst 0, 1)] (pc' := 12) (by decide +kernel) rfl (lv' := [(0, sv_r a)]) (st' := [sv_i 0, sv_r a]) rfl ?_
  refine sv_pf C (index := 38) (ci := 1) (k := 4) (r := (RX1, TX1, 6)) (z := 0) (by decide +kernel) (by rw [k_a]; rfl) rfl (by decide) rfl fl_X1_38 rfl (Or.inl rfl) ⟨by omega, by omega⟩ (hTA _ (by rw [k_a]; decide)) hok6 (fun hok12 => ?_)
  have hI14 := hI8.up (a := a) (k := 4) (z := 0) (by rw [k_a]; exact trivial)
  have hF15 := hF9.up (a := a) (k := 4) (z := 0) (by rw [k_a]; decide)
  generalize eσ13 : sv_up σ7 a 4 0 = σ13 at hok12 hI14 hF15 ⊢
  have t16 : σ13 a 2 = 0 := by rw [← eσ13, sv_up_k (by decide)]; exact t10
  have t17 : σ13 a 3 = 0 := by rw [← eσ13, sv_up_k (by decide)]; exact t11
  have t18 : σ13 a 4 = 0 := by rw [← eσ13]; exact sv_up_s _ _ _ _
  refine sv_go C.1 C.2.1 [(.aload_n 0, 1), (.iconst (-1), 1)] (pc' := 17) (by decide +kernel) rfl (lv' := [(0, sv_r a)]) (st' := [sv_i ((-1)), sv_r a]) rfl ?_
  refine sv_pf C (index := 22) (ci := 1) (k := 5) (r := (RX1, TX1, 6)) (z := (-1)) (by decide +kernel) (by rw [k_a]; rfl) rfl (by decide) rfl fl_X1_22 rfl (Or.inl rfl) ⟨by omega, by omega⟩ (hTA _ (by rw [k_a]; decide)) hok12 (fun hok19 => ?_)
  have hI21 := hI14.up (a := a) (k := 5) (z := (-1)) (by rw [k_a]; exact ⟨by omega, by omega⟩)
  have hF22 := hF15.up (a := a) (k := 5) (z := (-1)) (by rw [k_a]; decide)
  generalize eσ20 : sv_up σ13 a 5 ((-1)) = σ20 at hok19 hI21 hF22 ⊢
  have t23 : σ20 a 2 = 0 := by rw [← eσ20, sv_up_k (by decide)]; exact t16
  have t24 : σ20 a 3 = 0 := by rw [← eσ20, sv_up_k (by decide)]; exact t17
  have t25 : σ20 a 4 = 0 := by rw [← eσ20, sv_up_k (by decide)]; exact t18
  have t26 : σ20 a 5 = (-1) := by rw [← eσ20]; exact sv_up_s _ _ _ _
  refine sv_go C.1 C.2.1 [(.aload_n 0, 1)] (pc' := 21) (by decide +kernel) rfl (lv' := [(0, sv_r a)]) (st' := [sv_r a]) rfl ?_
  obtain ⟨q27, eq27, kq27⟩ := hI21.ref (k := 1) k_a rfl
  refine sv_gf C (index := 17) (ci := 1) (k := 1) (r := (RX1, TX1, 6)) (v := sv_r q27) (by decide +kernel) (by rw [k_a]; rfl) rfl (by decide) fl_X1_17 (congrArg sv_a eq27) ?_
  refine sv_go C.1 C.2.1 [(.iconst (-1), 1)] (pc' := 25) (by decide +kernel) rfl (lv' := [(0, sv_r a)]) (st' := [sv_i ((-1)), sv_r q27]) rfl ?_
  refine sv_cs C (index := 26) (k := 2) (rest := []) (by decide +kernel) (ct_fill l g A ty σ20 hok19 q27 9 (by rw [kq27]; rfl) (by decide) (hTA _ (by rw [kq27]; decide)) ((-1)) ⟨by omega, by omega⟩) ⟨co_J7_fill_53178, in_J7, ⟨by decide, by decide, by decide +kernel⟩, Nat.le_of_ble_eq_true rfl, Nat.le_of_ble_eq_true rfl⟩ ml_X1_26 st_J7_fill_53178 rfl rfl (Nat.le_of_ble_eq_true rfl) ⟨Nat.zero_le _, Nat.zero_le _⟩ (fun r29 σ30 hpo28 hok31 => ?_)
  obtain ⟨rfl, hOu32, hEu32, hRu32⟩ := hpo28
  have hIu32 := sv_fill_inv hI21 hOu32 kq27 (fun _ => rfl)
  have hFu32 := sv_fill_off hF22 hOu32 kq27 (by decide)
  have t33 : σ30 a 2 = 0 := (hOu32 _ (sv_ne k_a kq27 (by decide)) _).trans t23
  have t34 : σ30 a 3 = 0 := (hOu32 _ (sv_ne k_a kq27 (by decide)) _).trans t24
  have t35 : σ30 a 4 = 0 := (hOu32 _ (sv_ne k_a kq27 (by decide)) _).trans t25
  have t36 : σ30 a 5 = (-1) := (hOu32 _ (sv_ne k_a kq27 (by decide)) _).trans t26
  have t37 : σ30 a 1 = (q27 : Int) + 1 := (hOu32 _ (sv_ne k_a kq27 (by decide)) _).trans eq27
  refine sv_same (st2 := []) (lv2 := [(0, sv_r a)]) rfl rfl ?_
  exact sv_vret C hr (by decide +kernel) hok31 (⟨rfl, hIu32, hFu32⟩)

theorem fl_X6_19 : Cond.fieldLink RX6 19 "SaintsRoad$Reader" "calendar" "LSaintsRoad$Calendar;" ∈ lw_good := sv_mem 128 (by decide +kernel) rfl
theorem ml_X6_23 : Cond.methodLink RX6 23 yX1_clear ∈ lw_good := sv_mem 448 (by decide +kernel) rfl
theorem co_X1_clear : Cond.code yX1_clear cX1_clear 1 none ∈ lw_good := sv_mem 451 (by decide +kernel) rfl
theorem in_X1 : Cond.initialized RX1 ∈ lw_good := sv_mem 76 (by decide +kernel) rfl
theorem im_X1_clear : Cond.instanceMethod yX1_clear ∈ lw_good := sv_mem 449 (by decide +kernel) rfl
theorem se_X1_clear : Cond.selects RX1 yX1_clear yX1_clear ∈ lw_good := sv_mem 450 (by decide +kernel) rfl
theorem fl_X6_28 : Cond.fieldLink RX6 28 "SaintsRoad$Calendar" "feasts" "[LSaintsRoad$Feast;" ∈ lw_good := sv_mem 243 (by decide +kernel) rfl
theorem fl_X6_32 : Cond.fieldLink RX6 32 "SaintsRoad$Reader" "feast" "LSaintsRoad$Feast;" ∈ lw_good := sv_mem 129 (by decide +kernel) rfl
theorem fl_X6_36 : Cond.fieldLink RX6 36 "SaintsRoad$Reader" "state" "I" ∈ lw_good := sv_mem 130 (by decide +kernel) rfl
theorem fl_X6_42 : Cond.fieldLink RX6 42 "SaintsRoad$Reader" "faultKind" "I" ∈ lw_good := sv_mem 123 (by decide +kernel) rfl
theorem fl_X6_9 : Cond.fieldLink RX6 9 "SaintsRoad$Reader" "faultPlace" "I" ∈ lw_good := sv_mem 125 (by decide +kernel) rfl
theorem ml_X6_45 : Cond.methodLink RX6 45 yX6_readToken ∈ lw_good := sv_mem 452 (by decide +kernel) rfl
theorem co_X6_readToken : Cond.code yX6_readToken cX6_readToken 2 none ∈ lw_good := sv_mem 455 (by decide +kernel) rfl
theorem in_X6 : Cond.initialized RX6 ∈ lw_good := sv_mem 74 (by decide +kernel) rfl
theorem im_X6_readToken : Cond.instanceMethod yX6_readToken ∈ lw_good := sv_mem 454 (by decide +kernel) rfl
theorem se_X6_readToken : Cond.selects RX6 yX6_readToken yX6_readToken ∈ lw_good := sv_mem 0 (by decide +kernel) rfl
set_option maxHeartbeats 4000000 in
set_option maxRecDepth 100000 in
theorem ct_X6_readText (l : Launch) (g : sv_G) (A : Nat → Prop) (ty : Nat → Nat) (σ : Nat → Nat → Int) (hok : sv_ok ty σ) (hTA : ∀ q, ty q ≠ 0 → A q) (hI : sv_inv sp_1 ty σ) (a : Nat) (k_a : ty a = 3) (t : Nat) (k_t : ty t = 2) (b : Nat) (k_b : ty b = 7) (hl : σ t 1 = 0) : sv_M l yX6_readText cX6_readText 5 (some .boolean) { frames := 2, cells := 0, slots := 0, locals := 43 } g A ty σ [sv_r a, sv_r t, sv_r b] (fun r σ' => r = [sv_i 1] ∧ sv_inv sp_1 ty σ' ∧ sv_off [3, 7, 23] ty σ σ') := by
  refine sv_enter (by decide) (Nat.le_of_ble_eq_true rfl) ?_
  intro p e s m args below meth c C hr
  have C : sv_C g A RX6 cX6_readText 5 p s m args meth c := C
  have hr : meth.sig.returnType = (some .boolean) := hr
  have hF : sv_off [3, 7, 23] ty σ σ := sv_off.rf
  refine sv_same (st2 := []) (lv2 := [(0, sv_r a), (1, sv_r t), (2, sv_r b)]) rfl rfl ?_
  refine sv_go C.1 C.2.1 [(.aload_n 0, 1), (.aload_n 1, 1)] (pc' := 2) (by decide +kernel) rfl (lv' := [(0, sv_r a), (1, sv_r t), (2, sv_r b)]) (st' := [sv_r t, sv_r a]) rfl ?_
  refine sv_pf C (index := 15) (ci := 5) (k := 2) (r := (RX6, TX6, 13)) (z := (t : Int) + 1) (by decide +kernel) (by rw [k_a]; rfl) rfl (by decide) rfl fl_X6_15 rfl (Or.inr (Or.inr (Or.inr (Or.inr (Or.inl ⟨_, rfl⟩))))) (show (0 : Int) ≤ _ by omega) (hTA _ (by rw [k_a]; decide)) hok (fun hok1 => ?_)
  have hI3 := hI.up (a := a) (k := 2) (z := (t : Int) + 1) (by rw [k_a]; exact Or.inr ⟨_, rfl, k_t⟩)
  have hF4 := hF.up (a := a) (k := 2) (z := (t : Int) + 1) (by rw [k_a]; decide)
  generalize eσ2 : sv_up σ a 2 ((t : Int) + 1) = σ2 at hok1 hI3 hF4 ⊢
  have t5 : σ2 t 1 = 0 := by rw [← eσ2, sv_up_a (sv_ne k_t k_a (by decide))]; exact hl
  have t6 : σ2 a 2 = (t : Int) + 1 := by rw [← eσ2]; exact sv_up_s _ _ _ _
  refine sv_go C.1 C.2.1 [(.aload_n 0, 1), (.aload_n 2, 1)] (pc' := 7) (by decide +kernel) rfl (lv' := [(0, sv_r a), (1, sv_r t), (2, sv_r b)]) (st' := [sv_r b, sv_r a]) rfl ?_
  refine sv_pf C (index := 19) (ci := 5) (k := 3) (r := (RX6, TX6, 13)) (z := (b : Int) + 1) (by decide +kernel) (by rw [k_a]; rfl) rfl (by decide) rfl fl_X6_19 rfl (Or.inr (Or.inr (Or.inr (Or.inr (Or.inl ⟨_, rfl⟩))))) (show (0 : Int) ≤ _ by omega) (hTA _ (by rw [k_a]; decide)) hok1 (fun hok7 => ?_)
  have hI9 := hI3.up (a := a) (k := 3) (z := (b : Int) + 1) (by rw [k_a]; exact Or.inr ⟨_, rfl, k_b⟩)
  have hF10 := hF4.up (a := a) (k := 3) (z := (b : Int) + 1) (by rw [k_a]; decide)
  generalize eσ8 : sv_up σ2 a 3 ((b : Int) + 1) = σ8 at hok7 hI9 hF10 ⊢
  have t11 : σ8 t 1 = 0 := by rw [← eσ8, sv_up_a (sv_ne k_t k_a (by decide))]; exact t5
  have t12 : σ8 a 2 = (t : Int) + 1 := by rw [← eσ8, sv_up_k (by decide)]; exact t6
  have t13 : σ8 a 3 = (b : Int) + 1 := by rw [← eσ8]; exact sv_up_s _ _ _ _
  refine sv_go C.1 C.2.1 [(.aload_n 0, 1)] (pc' := 11) (by decide +kernel) rfl (lv' := [(0, sv_r a), (1, sv_r t), (2, sv_r b)]) (st' := [sv_r a]) rfl ?_
  refine sv_gf C (index := 19) (ci := 5) (k := 3) (r := (RX6, TX6, 13)) (v := sv_r b) (by decide +kernel) (by rw [k_a]; rfl) rfl (by decide) fl_X6_19 (congrArg sv_a t13) ?_
  refine sv_cv C (index := 23) (k := 0) (rest := []) (ci := 1) (r := (RX1, TX1, 6)) (by decide +kernel) (ct_X1_clear l g A ty σ8 hok7 hTA hI9 b k_b ) ⟨co_X1_clear, in_X1, ⟨by decide, by decide, by decide +kernel⟩, Nat.le_of_ble_eq_true rfl, Nat.le_of_ble_eq_true rfl⟩ ml_X6_23 im_X1_clear se_X1_clear (by rw [k_b]; rfl) rfl rfl rfl (Nat.le_of_ble_eq_true rfl) ⟨Nat.zero_le _, Nat.zero_le _⟩ (fun r15 σ16 hpo14 hok17 => ?_)
  obtain ⟨rfl, hIu18, hFu18⟩ := hpo14
  have hGu18 := hF10.tr hFu18 (by decide)
  have t19 : σ16 t 1 = 0 := (hFu18.at k_t (by decide)).trans t11
  have t20 : σ16 a 2 = (t : Int) + 1 := (hFu18.at k_a (by decide)).trans t12
  have t21 : σ16 a 3 = (b : Int) + 1 := (hFu18.at k_a (by decide)).trans t13
  refine sv_same (st2 := []) (lv2 := [(0, sv_r a), (1, sv_r t), (2, sv_r b)]) rfl rfl ?_
  refine sv_go C.1 C.2.1 [(.aload_n 0, 1), (.aload_n 0, 1)] (pc' := 19) (by decide +kernel) rfl (lv' := [(0, sv_r a), (1, sv_r t), (2, sv_r b)]) (st' := [sv_r a, sv_r a]) rfl ?_
  refine sv_gf C (index := 19) (ci := 5) (k := 3) (r := (RX6, TX6, 13)) (v := sv_r b) (by decide +kernel) (by rw [k_a]; rfl) rfl (by decide) fl_X6_19 (congrArg sv_a t21) ?_
  obtain ⟨q22, eq22, kq22⟩ := hIu18.ref (k := 0) k_b rfl
  refine sv_gf C (index := 28) (ci := 1) (k := 0) (r := (RX1, TX1, 6)) (v := sv_r q22) (by decide +kernel) (by rw [k_b]; rfl) rfl (by decide) fl_X6_28 (congrArg sv_a eq22) ?_
  refine sv_go C.1 C.2.1 [(.iconst 0, 1)] (pc' := 26) (by decide +kernel) rfl (lv' := [(0, sv_r a), (1, sv_r t), (2, sv_r b)]) (st' := [sv_i 0, sv_r q22, sv_r a]) rfl ?_
  refine sv_aa C (N := "SaintsRoad$Feast") (by decide) (n := 60) (by decide +kernel) (by rw [kq22]; rfl) (by decide) (by omega) (by omega) ?_
  obtain ⟨q23, eq23, kq23⟩ := hIu18.ref (k := (0 : Int).toNat) kq22 (by first | rfl | (show (if _ then _ else _) = _; rw [if_pos (by omega)]))
  rw [eq23]
  refine sv_pf C (index := 32) (ci := 5) (k := 4) (r := (RX6, TX6, 13)) (z := (q23 : Int) + 1) (by decide +kernel) (by rw [k_a]; rfl) rfl (by decide) rfl fl_X6_32 rfl (Or.inr (Or.inr (Or.inr (Or.inr (Or.inl ⟨_, rfl⟩))))) (show (0 : Int) ≤ _ by omega) (hTA _ (by rw [k_a]; decide)) hok17 (fun hok24 => ?_)
  have hI26 := hIu18.up (a := a) (k := 4) (z := (q23 : Int) + 1) (by rw [k_a]; exact Or.inr ⟨_, rfl, kq23⟩)
  have hF27 := hGu18.up (a := a) (k := 4) (z := (q23 : Int) + 1) (by rw [k_a]; decide)
  generalize eσ25 : sv_up σ16 a 4 ((q23 : Int) + 1) = σ25 at hok24 hI26 hF27 ⊢
  have t28 : σ25 t 1 = 0 := by rw [← eσ25, sv_up_a (sv_ne k_t k_a (by decide))]; exact t19
  have t29 : σ25 a 2 = (t : Int) + 1 := by rw [← eσ25, sv_up_k (by decide)]; exact t20
  have t30 : σ25 a 3 = (b : Int) + 1 := by rw [← eσ25, sv_up_k (by decide)]; exact t21
  have t31 : σ25 b 0 = (q22 : Int) + 1 := by rw [← eσ25, sv_up_a (sv_ne k_b k_a (by decide))]; exact eq22
  have t32 : σ25 q22 (0 : Int).toNat = (q23 : Int) + 1 := by rw [← eσ25, sv_up_a (sv_ne kq22 k_a (by decide))]; exact eq23
  have t33 : σ25 a 4 = (q23 : Int) + 1 := by rw [← eσ25]; exact sv_up_s _ _ _ _
  refine sv_go C.1 C.2.1 [(.aload_n 0, 1), (.iconst 0, 1)] (pc' := 32) (by decide +kernel) rfl (lv' := [(0, sv_r a), (1, sv_r t), (2, sv_r b)]) (st' := [sv_i 0, sv_r a]) rfl ?_
  refine sv_pf C (index := 36) (ci := 5) (k := 5) (r := (RX6, TX6, 13)) (z := 0) (by decide +kernel) (by rw [k_a]; rfl) rfl (by decide) rfl fl_X6_36 rfl (Or.inl rfl) ⟨by omega, by omega⟩ (hTA _ (by rw [k_a]; decide)) hok24 (fun hok34 => ?_)
  have hI36 := hI26.up (a := a) (k := 5) (z := 0) (by rw [k_a]; exact trivial)
  have hF37 := hF27.up (a := a) (k := 5) (z := 0) (by rw [k_a]; decide)
  generalize eσ35 : sv_up σ25 a 5 0 = σ35 at hok34 hI36 hF37 ⊢
  have t38 : σ35 t 1 = 0 := by rw [← eσ35, sv_up_a (sv_ne k_t k_a (by decide))]; exact t28
  have t39 : σ35 a 2 = (t : Int) + 1 := by rw [← eσ35, sv_up_k (by decide)]; exact t29
  have t40 : σ35 a 3 = (b : Int) + 1 := by rw [← eσ35, sv_up_k (by decide)]; exact t30
  have t41 : σ35 b 0 = (q22 : Int) + 1 := by rw [← eσ35, sv_up_a (sv_ne k_b k_a (by decide))]; exact t31
  have t42 : σ35 q22 (0 : Int).toNat = (q23 : Int) + 1 := by rw [← eσ35, sv_up_a (sv_ne kq22 k_a (by decide))]; exact t32
  have t43 : σ35 a 4 = (q23 : Int) + 1 := by rw [← eσ35, sv_up_k (by decide)]; exact t33
  have t44 : σ35 a 5 = 0 := by rw [← eσ35]; exact sv_up_s _ _ _ _
  refine sv_go C.1 C.2.1 [(.aload_n 0, 1), (.iconst 0, 1)] (pc' := 37) (by decide +kernel) rfl (lv' := [(0, sv_r a), (1, sv_r t), (2, sv_r b)]) (st' := [sv_i 0, sv_r a]) rfl ?_
  refine sv_pf C (index := 39) (ci := 5) (k := 6) (r := (RX6, TX6, 13)) (z := 0) (by decide +kernel) (by rw [k_a]; rfl) rfl (by decide) rfl fl_X6_39 rfl (Or.inl rfl) ⟨by omega, by omega⟩ (hTA _ (by rw [k_a]; decide)) hok34 (fun hok45 => ?_)
  have hI47 := hI36.up (a := a) (k := 6) (z := 0) (by rw [k_a]; exact trivial)
  have hF48 := hF37.up (a := a) (k := 6) (z := 0) (by rw [k_a]; decide)
  generalize eσ46 : sv_up σ35 a 6 0 = σ46 at hok45 hI47 hF48 ⊢
  have t49 : σ46 t 1 = 0 := by rw [← eσ46, sv_up_a (sv_ne k_t k_a (by decide))]; exact t38
  have t50 : σ46 a 2 = (t : Int) + 1 := by rw [← eσ46, sv_up_k (by decide)]; exact t39
  have t51 : σ46 a 3 = (b : Int) + 1 := by rw [← eσ46, sv_up_k (by decide)]; exact t40
  have t52 : σ46 b 0 = (q22 : Int) + 1 := by rw [← eσ46, sv_up_a (sv_ne k_b k_a (by decide))]; exact t41
  have t53 : σ46 q22 (0 : Int).toNat = (q23 : Int) + 1 := by rw [← eσ46, sv_up_a (sv_ne kq22 k_a (by decide))]; exact t42
  have t54 : σ46 a 4 = (q23 : Int) + 1 := by rw [← eσ46, sv_up_k (by decide)]; exact t43
  have t55 : σ46 a 5 = 0 := by rw [← eσ46, sv_up_k (by decide)]; exact t44
  have t56 : σ46 a 6 = 0 := by rw [← eσ46]; exact sv_up_s _ _ _ _
  refine sv_go C.1 C.2.1 [(.aload_n 0, 1), (.iconst 0, 1)] (pc' := 42) (by decide +kernel) rfl (lv' := [(0, sv_r a), (1, sv_r t), (2, sv_r b)]) (st' := [sv_i 0, sv_r a]) rfl ?_
  refine sv_pf C (index := 42) (ci := 5) (k := 0) (r := (RX6, TX6, 13)) (z := 0) (by decide +kernel) (by rw [k_a]; rfl) rfl (by decide) rfl fl_X6_42 rfl (Or.inl rfl) ⟨by omega, by omega⟩ (hTA _ (by rw [k_a]; decide)) hok45 (fun hok57 => ?_)
  have hI59 := hI47.up (a := a) (k := 0) (z := 0) (by rw [k_a]; exact trivial)
  have hF60 := hF48.up (a := a) (k := 0) (z := 0) (by rw [k_a]; decide)
  generalize eσ58 : sv_up σ46 a 0 0 = σ58 at hok57 hI59 hF60 ⊢
  have t61 : σ58 t 1 = 0 := by rw [← eσ58, sv_up_a (sv_ne k_t k_a (by decide))]; exact t49
  have t62 : σ58 a 2 = (t : Int) + 1 := by rw [← eσ58, sv_up_k (by decide)]; exact t50
  have t63 : σ58 a 3 = (b : Int) + 1 := by rw [← eσ58, sv_up_k (by decide)]; exact t51
  have t64 : σ58 b 0 = (q22 : Int) + 1 := by rw [← eσ58, sv_up_a (sv_ne k_b k_a (by decide))]; exact t52
  have t65 : σ58 q22 (0 : Int).toNat = (q23 : Int) + 1 := by rw [← eσ58, sv_up_a (sv_ne kq22 k_a (by decide))]; exact t53
  have t66 : σ58 a 4 = (q23 : Int) + 1 := by rw [← eσ58, sv_up_k (by decide)]; exact t54
  have t67 : σ58 a 5 = 0 := by rw [← eσ58, sv_up_k (by decide)]; exact t55
  have t68 : σ58 a 6 = 0 := by rw [← eσ58, sv_up_k (by decide)]; exact t56
  have t69 : σ58 a 0 = 0 := by rw [← eσ58]; exact sv_up_s _ _ _ _
  refine sv_go C.1 C.2.1 [(.aload_n 0, 1), (.iconst (-1), 1)] (pc' := 47) (by decide +kernel) rfl (lv' := [(0, sv_r a), (1, sv_r t), (2, sv_r b)]) (st' := [sv_i ((-1)), sv_r a]) rfl ?_
  refine sv_pf C (index := 9) (ci := 5) (k := 1) (r := (RX6, TX6, 13)) (z := (-1)) (by decide +kernel) (by rw [k_a]; rfl) rfl (by decide) rfl fl_X6_9 rfl (Or.inl rfl) ⟨by omega, by omega⟩ (hTA _ (by rw [k_a]; decide)) hok57 (fun hok70 => ?_)
  have hI72 := hI59.up (a := a) (k := 1) (z := (-1)) (by rw [k_a]; exact trivial)
  have hF73 := hF60.up (a := a) (k := 1) (z := (-1)) (by rw [k_a]; decide)
  generalize eσ71 : sv_up σ58 a 1 ((-1)) = σ71 at hok70 hI72 hF73 ⊢
  have t74 : σ71 t 1 = 0 := by rw [← eσ71, sv_up_a (sv_ne k_t k_a (by decide))]; exact t61
  have t75 : σ71 a 2 = (t : Int) + 1 := by rw [← eσ71, sv_up_k (by decide)]; exact t62
  have t76 : σ71 a 3 = (b : Int) + 1 := by rw [← eσ71, sv_up_k (by decide)]; exact t63
  have t77 : σ71 b 0 = (q22 : Int) + 1 := by rw [← eσ71, sv_up_a (sv_ne k_b k_a (by decide))]; exact t64
  have t78 : σ71 q22 (0 : Int).toNat = (q23 : Int) + 1 := by rw [← eσ71, sv_up_a (sv_ne kq22 k_a (by decide))]; exact t65
  have t79 : σ71 a 4 = (q23 : Int) + 1 := by rw [← eσ71, sv_up_k (by decide)]; exact t66
  have t80 : σ71 a 5 = 0 := by rw [← eσ71, sv_up_k (by decide)]; exact t67
  have t81 : σ71 a 6 = 0 := by rw [← eσ71, sv_up_k (by decide)]; exact t68
  have t82 : σ71 a 0 = 0 := by rw [← eσ71, sv_up_k (by decide)]; exact t69
  have t83 : σ71 a 1 = (-1) := by rw [← eσ71]; exact sv_up_s _ _ _ _
  refine sv_go C.1 C.2.1 [(.iconst 1, 1), (.istore_n 3, 1), (.iconst 0, 1), (.istore 4, 2), (.iload_n 3, 1)] (pc' := 56) (by decide +kernel) rfl (lv' := [(0, sv_r a), (1, sv_r t), (2, sv_r b), (3, sv_i 1), (4, sv_i 0)]) (st' := [sv_i 1]) rfl ?_
  refine sv_if_f C.1 C.2.1 (cnd := .eq) (off := 66) (tgt := 122) (by decide +kernel) (by decide) ⟨by omega, by omega⟩ (show ¬ (1 = 0) by omega) ?_
  refine sv_go C.1 C.2.1 [(.iload 4, 2), (.sipush 4000, 3)] (pc' := 64) (by decide +kernel) rfl (lv' := [(0, sv_r a), (1, sv_r t), (2, sv_r b), (3, sv_i 1), (4, sv_i 0)]) (st' := [sv_i 4000, sv_i 0]) rfl ?_
  refine sv_icmp_f C.1 C.2.1 (cnd := .gt) (off := 58) (tgt := 122) (by decide +kernel) (by decide) ⟨by omega, by omega⟩ ⟨by omega, by omega⟩ (show ¬ (4000 < 0) by omega) ?_
  refine sv_go C.1 C.2.1 [(.aload_n 0, 1)] (pc' := 68) (by decide +kernel) rfl (lv' := [(0, sv_r a), (1, sv_r t), (2, sv_r b), (3, sv_i 1), (4, sv_i 0)]) (st' := [sv_r a]) rfl ?_
  refine sv_cv C (index := 45) (k := 0) (rest := []) (ci := 5) (r := (RX6, TX6, 13)) (by decide +kernel) (ct_X6_readToken l g A ty σ71 hok70 hTA hI72 a k_a t k_t t75 t74 t81 t80 t82) ⟨co_X6_readToken, in_X6, ⟨by decide, by decide, by decide +kernel⟩, Nat.le_of_ble_eq_true rfl, Nat.le_of_ble_eq_true rfl⟩ ml_X6_45 im_X6_readToken se_X6_readToken (by rw [k_a]; rfl) rfl rfl rfl (Nat.le_of_ble_eq_true rfl) ⟨Nat.zero_le _, Nat.zero_le _⟩ (fun r85 σ86 hpo84 hok87 => ?_)
  obtain ⟨rfl, hIu88, hFu88, xu88, yu88, zu88⟩ := hpo84
  have hGu88 := hF73.tr hFu88 (by decide)
  have t89 : σ86 t 1 = 0 := (hFu88.at k_t (by decide)).trans t74
  have t90 : σ86 b 0 = (q22 : Int) + 1 := (hFu88.at k_b (by decide)).trans t77
  have t91 : σ86 q22 (0 : Int).toNat = (q23 : Int) + 1 := (hFu88.at kq22 (by decide)).trans t78
  refine sv_same (st2 := []) (lv2 := [(0, sv_r a), (1, sv_r t), (2, sv_r b), (3, sv_i 1), (4, sv_i 0)]) rfl rfl ?_
  refine sv_go C.1 C.2.1 [(.aload_n 0, 1)] (pc' := 72) (by decide +kernel) rfl (lv' := [(0, sv_r a), (1, sv_r t), (2, sv_r b), (3, sv_i 1), (4, sv_i 0)]) (st' := [sv_r a]) rfl ?_
  refine sv_gf C (index := 48) (ci := 5) (k := 7) (r := (RX6, TX6, 13)) (v := sv_i 0) (by decide +kernel) (by rw [k_a]; rfl) rfl (by decide) fl_X6_48 (congrArg sv_i xu88) ?_
  refine sv_if_f C.1 C.2.1 (cnd := .ne) (off := 10) (tgt := 85) (by decide +kernel) (by decide) ⟨by omega, by omega⟩ (show ¬ (0 ≠ 0) by omega) ?_
  refine sv_go C.1 C.2.1 [(.aload_n 0, 1)] (pc' := 79) (by decide +kernel) rfl (lv' := [(0, sv_r a), (1, sv_r t), (2, sv_r b), (3, sv_i 1), (4, sv_i 0)]) (st' := [sv_r a]) rfl ?_
  refine sv_gf C (index := 36) (ci := 5) (k := 5) (r := (RX6, TX6, 13)) (v := sv_i 0) (by decide +kernel) (by rw [k_a]; rfl) rfl (by decide) fl_X6_36 (congrArg sv_i yu88) ?_
  refine sv_if_t C.1 C.2.1 (cnd := .eq) (off := 7) (tgt := 89) (by decide +kernel) (by decide) ⟨by omega, by omega⟩ (show 0 = 0 by omega) ?_
  refine sv_go C.1 C.2.1 [(.iconst 0, 1), (.istore_n 3, 1), (.iload_n 3, 1)] (pc' := 92) (by decide +kernel) rfl (lv' := [(0, sv_r a), (1, sv_r t), (2, sv_r b), (3, sv_i 0), (4, sv_i 0)]) (st' := [sv_i 0]) rfl ?_
  refine sv_if_t C.1 C.2.1 (cnd := .eq) (off := 24) (tgt := 116) (by decide +kernel) (by decide) ⟨by omega, by omega⟩ (show 0 = 0 by omega) ?_
  refine sv_go C.1 C.2.1 [(.iinc 4 1, 3)] (pc' := 119) (by decide +kernel) rfl (lv' := [(0, sv_r a), (1, sv_r t), (2, sv_r b), (3, sv_i 0), (4, sv_i (0 + 1))]) (st' := []) rfl ?_
  refine sv_goto C.1 C.2.1 (off := (-64)) (tgt := 55) (by decide +kernel) (by decide) ?_
  refine sv_go C.1 C.2.1 [(.iload_n 3, 1)] (pc' := 56) (by decide +kernel) rfl (lv' := [(0, sv_r a), (1, sv_r t), (2, sv_r b), (3, sv_i 0), (4, sv_i (0 + 1))]) (st' := [sv_i 0]) rfl ?_
  refine sv_if_t C.1 C.2.1 (cnd := .eq) (off := 66) (tgt := 122) (by decide +kernel) (by decide) ⟨by omega, by omega⟩ (show 0 = 0 by omega) ?_
  refine sv_go C.1 C.2.1 [(.aload_n 0, 1)] (pc' := 123) (by decide +kernel) rfl (lv' := [(0, sv_r a), (1, sv_r t), (2, sv_r b), (3, sv_i 0), (4, sv_i (0 + 1))]) (st' := [sv_r a]) rfl ?_
  refine sv_gf C (index := 42) (ci := 5) (k := 0) (r := (RX6, TX6, 13)) (v := sv_i 0) (by decide +kernel) (by rw [k_a]; rfl) rfl (by decide) fl_X6_42 (congrArg sv_i zu88) ?_
  refine sv_if_t C.1 C.2.1 (cnd := .eq) (off := 11) (tgt := 137) (by decide +kernel) (by decide) ⟨by omega, by omega⟩ (show 0 = 0 by omega) ?_
  refine sv_go C.1 C.2.1 [(.aload_n 0, 1)] (pc' := 138) (by decide +kernel) rfl (lv' := [(0, sv_r a), (1, sv_r t), (2, sv_r b), (3, sv_i 0), (4, sv_i (0 + 1))]) (st' := [sv_r a]) rfl ?_
  refine sv_gf C (index := 42) (ci := 5) (k := 0) (r := (RX6, TX6, 13)) (v := sv_i 0) (by decide +kernel) (by rw [k_a]; rfl) rfl (by decide) fl_X6_42 (congrArg sv_i zu88) ?_
  refine sv_if_f C.1 C.2.1 (cnd := .ne) (off := 7) (tgt := 148) (by decide +kernel) (by decide) ⟨by omega, by omega⟩ (show ¬ (0 ≠ 0) by omega) ?_
  refine sv_go C.1 C.2.1 [(.iconst 1, 1)] (pc' := 145) (by decide +kernel) rfl (lv' := [(0, sv_r a), (1, sv_r t), (2, sv_r b), (3, sv_i 0), (4, sv_i (0 + 1))]) (st' := [sv_i 1]) rfl ?_
  refine sv_goto C.1 C.2.1 (off := 4) (tgt := 149) (by decide +kernel) (by decide) ?_
  exact sv_zret C hr (by first | exact Or.inl rfl | exact Or.inr rfl | omega) (by decide +kernel) hok87 (⟨rfl, hIu88, hGu88⟩)

set_option maxHeartbeats 4000000 in
set_option maxRecDepth 100000 in
theorem ct_X4_exchange (l : Launch) (g : sv_G) (A : Nat → Prop) (ty : Nat → Nat) (σ : Nat → Nat → Int) (hok : sv_ok ty σ) (hTA : ∀ q, ty q ≠ 0 → A q) (hI : sv_inv sp_1 ty σ) (a : Nat) (k_a : ty a = 4) (b : Nat) (k_b : ty b = 7) : sv_M l yX4_exchange cX4_exchange 3 (some (.object "SaintsRoad$Calendar")) { frames := 0, cells := 0, slots := 0, locals := 0 } g A ty σ [sv_r a, sv_r b] (fun r σ' => (∃ q : Nat, r = [sv_r q] ∧ ty q = 7) ∧ sv_inv sp_1 ty σ' ∧ sv_off [4] ty σ σ') := by
  refine sv_enter (by decide) (Nat.le_of_ble_eq_true rfl) ?_
  intro p e s m args below meth c C hr
  have C : sv_C g A RX4 cX4_exchange 3 p s m args meth c := C
  have hr : meth.sig.returnType = (some (.object "SaintsRoad$Calendar")) := hr
  have hF : sv_off [4] ty σ σ := sv_off.rf
  refine sv_same (st2 := []) (lv2 := [(0, sv_r a), (1, sv_r b)]) rfl rfl ?_
  refine sv_go C.1 C.2.1 [(.aload_n 0, 1)] (pc' := 1) (by decide +kernel) rfl (lv' := [(0, sv_r a), (1, sv_r b)]) (st' := [sv_r a]) rfl ?_
  obtain ⟨q1, eq1, kq1⟩ := hI.ref (k := 2) k_a rfl
  refine sv_gf C (index := 21) (ci := 3) (k := 2) (r := (RX4, TX4, 11)) (v := sv_r q1) (by decide +kernel) (by rw [k_a]; rfl) rfl (by decide) fl_X4_21 (congrArg sv_a eq1) ?_
  refine sv_go C.1 C.2.1 [(.astore_n 2, 1), (.aload_n 0, 1), (.aload_n 1, 1)] (pc' := 7) (by decide +kernel) rfl (lv' := [(0, sv_r a), (1, sv_r b), (2, sv_r q1)]) (st' := [sv_r b, sv_r a]) rfl ?_
  refine sv_pf C (index := 21) (ci := 3) (k := 2) (r := (RX4, TX4, 11)) (z := (b : Int) + 1) (by decide +kernel) (by rw [k_a]; rfl) rfl (by decide) rfl fl_X4_21 rfl (Or.inr (Or.inr (Or.inr (Or.inr (Or.inl ⟨_, rfl⟩))))) (show (0 : Int) ≤ _ by omega) (hTA _ (by rw [k_a]; decide)) hok (fun hok2 => ?_)
  have hI4 := hI.up (a := a) (k := 2) (z := (b : Int) + 1) (by rw [k_a]; exact Or.inr ⟨_, rfl, k_b⟩)
  have hF5 := hF.up (a := a) (k := 2) (z := (b : Int) + 1) (by rw [k_a]; decide)
  generalize eσ3 : sv_up σ a 2 ((b : Int) + 1) = σ3 at hok2 hI4 hF5 ⊢
  have t6 : σ3 a 2 = (b : Int) + 1 := by rw [← eσ3]; exact sv_up_s _ _ _ _
  refine sv_go C.1 C.2.1 [(.aload_n 0, 1), (.iconst 0, 1)] (pc' := 12) (by decide +kernel) rfl (lv' := [(0, sv_r a), (1, sv_r b), (2, sv_r q1)]) (st' := [sv_i 0, sv_r a]) rfl ?_
  refine sv_pf C (index := 37) (ci := 3) (k := 10) (r := (RX4, TX4, 11)) (z := 0) (by decide +kernel) (by rw [k_a]; rfl) rfl (by decide) rfl fl_X4_37 rfl (Or.inl rfl) ⟨by omega, by omega⟩ (hTA _ (by rw [k_a]; decide)) hok2 (fun hok7 => ?_)
  have hI9 := hI4.up (a := a) (k := 10) (z := 0) (by rw [k_a]; exact trivial)
  have hF10 := hF5.up (a := a) (k := 10) (z := 0) (by rw [k_a]; decide)
  generalize eσ8 : sv_up σ3 a 10 0 = σ8 at hok7 hI9 hF10 ⊢
  have t11 : σ8 a 2 = (b : Int) + 1 := by rw [← eσ8, sv_up_k (by decide)]; exact t6
  have t12 : σ8 a 10 = 0 := by rw [← eσ8]; exact sv_up_s _ _ _ _
  refine sv_go C.1 C.2.1 [(.aload_n 2, 1)] (pc' := 16) (by decide +kernel) rfl (lv' := [(0, sv_r a), (1, sv_r b), (2, sv_r q1)]) (st' := [sv_r q1]) rfl ?_
  exact sv_aret C hr (Or.inl ⟨_, rfl⟩) (by decide +kernel) hok7 (⟨⟨_, rfl, kq1⟩, hI9, hF10⟩)

theorem fl_X9_47 : Cond.fieldLink RX9 47 "SaintsRoad" "spare" "LSaintsRoad$Calendar;" ∈ lw_good := sv_mem 411 (by decide +kernel) rfl
theorem ml_X9_63 : Cond.methodLink RX9 63 yX6_readText ∈ lw_good := sv_mem 444 (by decide +kernel) rfl
theorem co_X6_readText : Cond.code yX6_readText cX6_readText 5 (some .boolean) ∈ lw_good := sv_mem 447 (by decide +kernel) rfl
theorem im_X6_readText : Cond.instanceMethod yX6_readText ∈ lw_good := sv_mem 445 (by decide +kernel) rfl
theorem se_X6_readText : Cond.selects RX6 yX6_readText yX6_readText ∈ lw_good := sv_mem 446 (by decide +kernel) rfl
theorem ml_X9_67 : Cond.methodLink RX9 67 yX4_exchange ∈ lw_good := sv_mem 618 (by decide +kernel) rfl
theorem co_X4_exchange : Cond.code yX4_exchange cX4_exchange 3 (some (.object "SaintsRoad$Calendar")) ∈ lw_good := sv_mem 621 (by decide +kernel) rfl
theorem im_X4_exchange : Cond.instanceMethod yX4_exchange ∈ lw_good := sv_mem 619 (by decide +kernel) rfl
theorem se_X4_exchange : Cond.selects RX4 yX4_exchange yX4_exchange ∈ lw_good := sv_mem 620 (by decide +kernel) rfl
set_option maxHeartbeats 4000000 in
set_option maxRecDepth 100000 in
theorem ct_X9_calendar (l : Launch) (g : sv_G) (A : Nat → Prop) (ty : Nat → Nat) (σ : Nat → Nat → Int) (hok : sv_ok ty σ) (hTA : ∀ q, ty q ≠ 0 → A q) (hI : sv_inv sp_1 ty σ) (hZ : sv_inv sp_0 ty σ) (a : Nat) (k_a : ty a = 1) (v1 : Int) (hv1 : sv_in v1) : sv_M l yX9_calendar cX9_calendar 3 (some .int) { frames := 3, cells := 0, slots := 0, locals := 67 } g A ty σ [sv_r a, sv_i v1] (fun r σ' => r = [sv_i (fx_cal v1)] ∧ sv_off [1, 2, 3, 4, 7, 23] ty σ σ') := by
  refine sv_enter (by decide) (Nat.le_of_ble_eq_true rfl) ?_
  intro p e s m args below meth c C hr
  have C : sv_C g A RX9 cX9_calendar 3 p s m args meth c := C
  have hr : meth.sig.returnType = (some .int) := hr
  have hF : sv_off [1, 2, 3, 4, 7, 23] ty σ σ := sv_off.rf
  refine sv_same (st2 := []) (lv2 := [(0, sv_r a), (1, sv_i v1)]) rfl rfl ?_
  refine sv_go C.1 C.2.1 [(.iload_n 1, 1)] (pc' := 1) (by decide +kernel) rfl (lv' := [(0, sv_r a), (1, sv_i v1)]) (st' := [sv_i v1]) rfl ?_
  refine sv_cs C (index := 59) (k := 1) (rest := []) (by decide +kernel) (ct_X9_isPlace l g A ty σ hok (v1) ⟨by omega, by omega⟩) ⟨co_X9_isPlace, in_X9, ⟨by decide, by decide, by decide +kernel⟩, Nat.le_of_ble_eq_true rfl, Nat.le_of_ble_eq_true rfl⟩ ml_X9_59 st_X9_isPlace rfl rfl (Nat.le_of_ble_eq_true rfl) ⟨Nat.zero_le _, Nat.zero_le _⟩ (fun r2 σ3 hpo1 hok4 => ?_)
  obtain ⟨rfl, ⟨h5, rfl⟩ | ⟨h5, rfl⟩⟩ := hpo1
  · refine sv_same (st2 := [sv_i 1]) (lv2 := [(0, sv_r a), (1, sv_i v1)]) rfl rfl ?_
    refine sv_if_t C.1 C.2.1 (cnd := .ne) (off := 6) (tgt := 10) (by decide +kernel) (by decide) ⟨by omega, by omega⟩ (show 1 ≠ 0 by omega) ?_
    refine sv_go C.1 C.2.1 [(.aload_n 0, 1)] (pc' := 11) (by decide +kernel) rfl (lv' := [(0, sv_r a), (1, sv_i v1)]) (st' := [sv_r a]) rfl ?_
    obtain ⟨q6, eq6, kq6⟩ := hI.ref (k := 1) k_a rfl
    refine sv_gf C (index := 19) (ci := 8) (k := 1) (r := (RX9, TX9, 6)) (v := sv_r q6) (by decide +kernel) (by rw [k_a]; rfl) rfl (by decide) fl_X9_19 (congrArg sv_a eq6) ?_
    refine sv_go C.1 C.2.1 [(.aload_n 0, 1)] (pc' := 15) (by decide +kernel) rfl (lv' := [(0, sv_r a), (1, sv_i v1)]) (st' := [sv_r a, sv_r q6]) rfl ?_
    obtain ⟨q7, eq7, kq7⟩ := hI.ref (k := 0) k_a rfl
    refine sv_gf C (index := 10) (ci := 8) (k := 0) (r := (RX9, TX9, 6)) (v := sv_r q7) (by decide +kernel) (by rw [k_a]; rfl) rfl (by decide) fl_X9_10 (congrArg sv_a eq7) ?_
    refine sv_go C.1 C.2.1 [(.aload_n 0, 1)] (pc' := 19) (by decide +kernel) rfl (lv' := [(0, sv_r a), (1, sv_i v1)]) (st' := [sv_r a, sv_r q7, sv_r q6]) rfl ?_
    obtain ⟨q8, eq8, kq8⟩ := hI.ref (k := 5) k_a rfl
    refine sv_gf C (index := 47) (ci := 8) (k := 5) (r := (RX9, TX9, 6)) (v := sv_r q8) (by decide +kernel) (by rw [k_a]; rfl) rfl (by decide) fl_X9_47 (congrArg sv_a eq8) ?_
    refine sv_cv C (index := 63) (k := 2) (rest := []) (ci := 5) (r := (RX6, TX6, 13)) (by decide +kernel) (ct_X6_readText l g A ty σ hok4 hTA hI q6 kq6 q7 kq7 q8 kq8 (by have z := hZ.num (k := 1) kq7 rfl; omega)) ⟨co_X6_readText, in_X6, ⟨by decide, by decide, by decide +kernel⟩, Nat.le_of_ble_eq_true rfl, Nat.le_of_ble_eq_true rfl⟩ ml_X9_63 im_X6_readText se_X6_readText (by rw [kq6]; rfl) rfl rfl rfl (Nat.le_of_ble_eq_true rfl) ⟨Nat.zero_le _, Nat.zero_le _⟩ (fun r10 σ11 hpo9 hok12 => ?_)
    obtain ⟨rfl, hIu13, hFu13⟩ := hpo9
    have hGu13 := hF.tr hFu13 (by decide)
    have t14 : σ11 a 1 = (q6 : Int) + 1 := (hFu13.at k_a (by decide)).trans eq6
    have t15 : σ11 a 0 = (q7 : Int) + 1 := (hFu13.at k_a (by decide)).trans eq7
    have t16 : σ11 a 5 = (q8 : Int) + 1 := (hFu13.at k_a (by decide)).trans eq8
    refine sv_same (st2 := [sv_i 1]) (lv2 := [(0, sv_r a), (1, sv_i v1)]) rfl rfl ?_
    refine sv_go C.1 C.2.1 [(.istore_n 2, 1), (.aload_n 0, 1)] (pc' := 27) (by decide +kernel) rfl (lv' := [(0, sv_r a), (1, sv_i v1), (2, sv_i 1)]) (st' := [sv_r a]) rfl ?_
    refine sv_gf C (index := 10) (ci := 8) (k := 0) (r := (RX9, TX9, 6)) (v := sv_r q7) (by decide +kernel) (by rw [k_a]; rfl) rfl (by decide) fl_X9_10 (congrArg sv_a t15) ?_
    refine sv_go C.1 C.2.1 [(.iconst 0, 1)] (pc' := 31) (by decide +kernel) rfl (lv' := [(0, sv_r a), (1, sv_i v1), (2, sv_i 1)]) (st' := [sv_i 0, sv_r q7]) rfl ?_
    refine sv_pf C (index := 51) (ci := 6) (k := 1) (r := (RX7, TX7, 2)) (z := 0) (by decide +kernel) (by rw [kq7]; rfl) rfl (by decide) rfl fl_X9_51 rfl (Or.inl rfl) ⟨by omega, by omega⟩ (hTA _ (by rw [kq7]; decide)) hok12 (fun hok17 => ?_)
    have hI19 := hIu13.up (a := q7) (k := 1) (z := 0) (by rw [kq7]; exact trivial)
    have hF20 := hGu13.up (a := q7) (k := 1) (z := 0) (by rw [kq7]; decide)
    generalize eσ18 : sv_up σ11 q7 1 0 = σ18 at hok17 hI19 hF20 ⊢
    have t21 : σ18 a 1 = (q6 : Int) + 1 := by rw [← eσ18, sv_up_a (sv_ne k_a kq7 (by decide))]; exact t14
    have t22 : σ18 a 0 = (q7 : Int) + 1 := by rw [← eσ18, sv_up_a (sv_ne k_a kq7 (by decide))]; exact t15
    have t23 : σ18 a 5 = (q8 : Int) + 1 := by rw [← eσ18, sv_up_a (sv_ne k_a kq7 (by decide))]; exact t16
    have t24 : σ18 q7 1 = 0 := by rw [← eσ18]; exact sv_up_s _ _ _ _
    refine sv_go C.1 C.2.1 [(.iload_n 2, 1)] (pc' := 35) (by decide +kernel) rfl (lv' := [(0, sv_r a), (1, sv_i v1), (2, sv_i 1)]) (st' := [sv_i 1]) rfl ?_
    refine sv_if_t C.1 C.2.1 (cnd := .ne) (off := 5) (tgt := 40) (by decide +kernel) (by decide) ⟨by omega, by omega⟩ (show 1 ≠ 0 by omega) ?_
    refine sv_go C.1 C.2.1 [(.aload_n 0, 1), (.aload_n 0, 1)] (pc' := 42) (by decide +kernel) rfl (lv' := [(0, sv_r a), (1, sv_i v1), (2, sv_i 1)]) (st' := [sv_r a, sv_r a]) rfl ?_
    obtain ⟨q25, eq25, kq25⟩ := hI19.ref (k := 2) k_a rfl
    refine sv_gf C (index := 25) (ci := 8) (k := 2) (r := (RX9, TX9, 6)) (v := sv_r q25) (by decide +kernel) (by rw [k_a]; rfl) rfl (by decide) fl_X9_25 (congrArg sv_a eq25) ?_
    refine sv_go C.1 C.2.1 [(.iload_n 1, 1)] (pc' := 46) (by decide +kernel) rfl (lv' := [(0, sv_r a), (1, sv_i v1), (2, sv_i 1)]) (st' := [sv_i v1, sv_r q25, sv_r a]) rfl ?_
    refine sv_aa C (N := "SaintsRoad$Place") (by decide) (n := 4) (by decide +kernel) (by rw [kq25]; rfl) (by decide) (by omega) (by omega) ?_
    obtain ⟨q26, eq26, kq26⟩ := hI19.ref (k := (v1 : Int).toNat) kq25 (by first | rfl | (show (if _ then _ else _) = _; rw [if_pos (by omega)]))
    rw [eq26]
    refine sv_go C.1 C.2.1 [(.aload_n 0, 1)] (pc' := 48) (by decide +kernel) rfl (lv' := [(0, sv_r a), (1, sv_i v1), (2, sv_i 1)]) (st' := [sv_r a, sv_r q26, sv_r a]) rfl ?_
    refine sv_gf C (index := 47) (ci := 8) (k := 5) (r := (RX9, TX9, 6)) (v := sv_r q8) (by decide +kernel) (by rw [k_a]; rfl) rfl (by decide) fl_X9_47 (congrArg sv_a t23) ?_
    refine sv_cv C (index := 67) (k := 1) (rest := [sv_r a]) (ci := 3) (r := (RX4, TX4, 11)) (by decide +kernel) (ct_X4_exchange l g A ty σ18 hok17 hTA hI19 q26 kq26 q8 kq8) ⟨co_X4_exchange, in_X4, ⟨by decide, by decide, by decide +kernel⟩, Nat.le_of_ble_eq_true rfl, Nat.le_of_ble_eq_true rfl⟩ ml_X9_67 im_X4_exchange se_X4_exchange (by rw [kq26]; rfl) rfl rfl rfl (Nat.le_of_ble_eq_true rfl) ⟨Nat.zero_le _, Nat.zero_le _⟩ (fun r28 σ29 hpo27 hok30 => ?_)
    obtain ⟨xu31, hIu31, hFu31⟩ := hpo27
    obtain ⟨qx38, rfl, kqx38⟩ := xu31
    have hGu31 := hF20.tr hFu31 (by decide)
    have t32 : σ29 a 1 = (q6 : Int) + 1 := (hFu31.at k_a (by decide)).trans t21
    have t33 : σ29 a 0 = (q7 : Int) + 1 := (hFu31.at k_a (by decide)).trans t22
    have t34 : σ29 a 5 = (q8 : Int) + 1 := (hFu31.at k_a (by decide)).trans t23
    have t35 : σ29 q7 1 = 0 := (hFu31.at kq7 (by decide)).trans t24
    have t36 : σ29 a 2 = (q25 : Int) + 1 := (hFu31.at k_a (by decide)).trans eq25
    have t37 : σ29 q25 (v1 : Int).toNat = (q26 : Int) + 1 := (hFu31.at kq25 (by decide)).trans eq26
    refine sv_same (st2 := [sv_r qx38, sv_r a]) (lv2 := [(0, sv_r a), (1, sv_i v1), (2, sv_i 1)]) rfl rfl ?_
    refine sv_pf C (index := 47) (ci := 8) (k := 5) (r := (RX9, TX9, 6)) (z := (qx38 : Int) + 1) (by decide +kernel) (by rw [k_a]; rfl) rfl (by decide) rfl fl_X9_47 rfl (Or.inr (Or.inr (Or.inr (Or.inr (Or.inl ⟨_, rfl⟩))))) (show (0 : Int) ≤ _ by omega) (hTA _ (by rw [k_a]; decide)) hok30 (fun hok39 => ?_)
    have hI41 := hIu31.up (a := a) (k := 5) (z := (qx38 : Int) + 1) (by rw [k_a]; exact Or.inr ⟨_, rfl, kqx38⟩)
    have hF42 := hGu31.up (a := a) (k := 5) (z := (qx38 : Int) + 1) (by rw [k_a]; decide)
    generalize eσ40 : sv_up σ29 a 5 ((qx38 : Int) + 1) = σ40 at hok39 hI41 hF42 ⊢
    have t43 : σ40 a 1 = (q6 : Int) + 1 := by rw [← eσ40, sv_up_k (by decide)]; exact t32
    have t44 : σ40 a 0 = (q7 : Int) + 1 := by rw [← eσ40, sv_up_k (by decide)]; exact t33
    have t45 : σ40 q7 1 = 0 := by rw [← eσ40, sv_up_a (sv_ne kq7 k_a (by decide))]; exact t35
    have t46 : σ40 a 2 = (q25 : Int) + 1 := by rw [← eσ40, sv_up_k (by decide)]; exact t36
    have t47 : σ40 q25 (v1 : Int).toNat = (q26 : Int) + 1 := by rw [← eσ40, sv_up_a (sv_ne kq25 k_a (by decide))]; exact t37
    have t48 : σ40 a 5 = (qx38 : Int) + 1 := by rw [← eσ40]; exact sv_up_s _ _ _ _
    refine sv_go C.1 C.2.1 [(.aload_n 0, 1)] (pc' := 58) (by decide +kernel) rfl (lv' := [(0, sv_r a), (1, sv_i v1), (2, sv_i 1)]) (st' := [sv_r a]) rfl ?_
    refine sv_gf C (index := 25) (ci := 8) (k := 2) (r := (RX9, TX9, 6)) (v := sv_r q25) (by decide +kernel) (by rw [k_a]; rfl) rfl (by decide) fl_X9_25 (congrArg sv_a t46) ?_
    refine sv_go C.1 C.2.1 [(.iload_n 1, 1)] (pc' := 62) (by decide +kernel) rfl (lv' := [(0, sv_r a), (1, sv_i v1), (2, sv_i 1)]) (st' := [sv_i v1, sv_r q25]) rfl ?_
    refine sv_aa C (N := "SaintsRoad$Place") (by decide) (n := 4) (by decide +kernel) (by rw [kq25]; rfl) (by decide) (by omega) (by omega) ?_
    rw [t47]
    obtain ⟨q49, eq49, kq49⟩ := hI41.ref (k := 2) kq26 rfl
    refine sv_gf C (index := 71) (ci := 3) (k := 2) (r := (RX4, TX4, 11)) (v := sv_r q49) (by decide +kernel) (by rw [kq26]; rfl) rfl (by decide) fl_X9_71 (congrArg sv_a eq49) ?_
    have t50 : σ40 q49 2 = 0 := by have q := hI41.num (k := 2) kq49 rfl; omega
    refine sv_gf C (index := 74) (ci := 1) (k := 2) (r := (RX1, TX1, 6)) (v := sv_i 0) (by decide +kernel) (by rw [kq49]; rfl) rfl (by decide) fl_X9_74 (congrArg sv_i t50) ?_
    exact sv_iret C hr (by decide +kernel) hok39 (⟨congrArg (fun q => [sv_i q]) (by first | omega | (unfold fx_cal; omega)), hF42⟩)
  · refine sv_same (st2 := [sv_i 0]) (lv2 := [(0, sv_r a), (1, sv_i v1)]) rfl rfl ?_
    refine sv_if_f C.1 C.2.1 (cnd := .ne) (off := 6) (tgt := 10) (by decide +kernel) (by decide) ⟨by omega, by omega⟩ (show ¬ (0 ≠ 0) by omega) ?_
    refine sv_go C.1 C.2.1 [(.bipush (-2), 2)] (pc' := 9) (by decide +kernel) rfl (lv' := [(0, sv_r a), (1, sv_i v1)]) (st' := [sv_i ((-2))]) rfl ?_
    exact sv_iret C hr (by decide +kernel) hok4 (⟨congrArg (fun q => [sv_i q]) (by first | omega | (unfold fx_cal; omega)), hF⟩)

theorem fl_X0_37 : Cond.fieldLink RX0 37 "SaintsRoad$Brotherhoods" "set" "I" ∈ lw_good := sv_mem 329 (by decide +kernel) rfl
theorem fl_X0_43 : Cond.fieldLink RX0 43 "SaintsRoad$Brotherhoods" "latestCarrier" "I" ∈ lw_good := sv_mem 330 (by decide +kernel) rfl
theorem fl_X0_9 : Cond.fieldLink RX0 9 "SaintsRoad$Brotherhoods" "carriedBy" "[I" ∈ lw_good := sv_mem 317 (by decide +kernel) rfl
theorem ml_X0_46 : Cond.methodLink RX0 46 yJ7_fill_53178 ∈ lw_good := sv_mem 839 (by decide +kernel) rfl
theorem fl_X0_18 : Cond.fieldLink RX0 18 "SaintsRoad$Brotherhoods" "latestTurn" "[I" ∈ lw_good := sv_mem 324 (by decide +kernel) rfl
set_option maxHeartbeats 4000000 in
set_option maxRecDepth 100000 in
theorem ct_X0_startTurns (l : Launch) (g : sv_G) (A : Nat → Prop) (ty : Nat → Nat) (σ : Nat → Nat → Int) (hok : sv_ok ty σ) (hTA : ∀ q, ty q ≠ 0 → A q) (hI : sv_inv sp_1 ty σ) (a : Nat) (k_a : ty a = 5) (v1 : Int) (hv1 : 1 ≤ v1 ∧ v1 ≤ 1023) : sv_M l yX0_startTurns cX0_startTurns 2 none { frames := 1, cells := 0, slots := 0, locals := 23 } g A ty σ [sv_r a, sv_i v1] (fun r σ' => r = [] ∧ sv_inv sp_1 ty σ' ∧ sv_off [5, 30, 32] ty σ σ' ∧ σ' a 2 = 0) := by
  refine sv_enter (by decide) (Nat.le_of_ble_eq_true rfl) ?_
  intro p e s m args below meth c C hr
  have C : sv_C g A RX0 cX0_startTurns 2 p s m args meth c := C
  have hr : meth.sig.returnType = none := hr
  have hF : sv_off [5, 30, 32] ty σ σ := sv_off.rf
  refine sv_same (st2 := []) (lv2 := [(0, sv_r a), (1, sv_i v1)]) rfl rfl ?_
  refine sv_go C.1 C.2.1 [(.aload_n 0, 1), (.iload_n 1, 1)] (pc' := 2) (by decide +kernel) rfl (lv' := [(0, sv_r a), (1, sv_i v1)]) (st' := [sv_i v1, sv_r a]) rfl ?_
  refine sv_pf C (index := 37) (ci := 0) (k := 9) (r := (RX0, TX0, 12)) (z := v1) (by decide +kernel) (by rw [k_a]; rfl) rfl (by decide) rfl fl_X0_37 rfl (Or.inl rfl) ⟨by omega, by omega⟩ (hTA _ (by rw [k_a]; decide)) hok (fun hok1 => ?_)
  have hI3 := hI.up (a := a) (k := 9) (z := v1) (by rw [k_a]; exact trivial)
  have hF4 := hF.up (a := a) (k := 9) (z := v1) (by rw [k_a]; decide)
  generalize eσ2 : sv_up σ a 9 v1 = σ2 at hok1 hI3 hF4 ⊢
  have t5 : σ2 a 9 = v1 := by rw [← eσ2]; exact sv_up_s _ _ _ _
  refine sv_go C.1 C.2.1 [(.aload_n 0, 1), (.iconst 0, 1)] (pc' := 7) (by decide +kernel) rfl (lv' := [(0, sv_r a), (1, sv_i v1)]) (st' := [sv_i 0, sv_r a]) rfl ?_
  refine sv_pf C (index := 40) (ci := 0) (k := 2) (r := (RX0, TX0, 12)) (z := 0) (by decide +kernel) (by rw [k_a]; rfl) rfl (by decide) rfl fl_X0_40 rfl (Or.inl rfl) ⟨by omega, by omega⟩ (hTA _ (by rw [k_a]; decide)) hok1 (fun hok6 => ?_)
  have hI8 := hI3.up (a := a) (k := 2) (z := 0) (by rw [k_a]; exact trivial)
  have hF9 := hF4.up (a := a) (k := 2) (z := 0) (by rw [k_a]; decide)
  generalize eσ7 : sv_up σ2 a 2 0 = σ7 at hok6 hI8 hF9 ⊢
  have t10 : σ7 a 9 = v1 := by rw [← eσ7, sv_up_k (by decide)]; exact t5
  have t11 : σ7 a 2 = 0 := by rw [← eσ7]; exact sv_up_s _ _ _ _
  refine sv_go C.1 C.2.1 [(.aload_n 0, 1), (.iconst (-1), 1)] (pc' := 12) (by decide +kernel) rfl (lv' := [(0, sv_r a), (1, sv_i v1)]) (st' := [sv_i ((-1)), sv_r a]) rfl ?_
  refine sv_pf C (index := 43) (ci := 0) (k := 10) (r := (RX0, TX0, 12)) (z := (-1)) (by decide +kernel) (by rw [k_a]; rfl) rfl (by decide) rfl fl_X0_43 rfl (Or.inl rfl) ⟨by omega, by omega⟩ (hTA _ (by rw [k_a]; decide)) hok6 (fun hok12 => ?_)
  have hI14 := hI8.up (a := a) (k := 10) (z := (-1)) (by rw [k_a]; exact trivial)
  have hF15 := hF9.up (a := a) (k := 10) (z := (-1)) (by rw [k_a]; decide)
  generalize eσ13 : sv_up σ7 a 10 ((-1)) = σ13 at hok12 hI14 hF15 ⊢
  have t16 : σ13 a 9 = v1 := by rw [← eσ13, sv_up_k (by decide)]; exact t10
  have t17 : σ13 a 2 = 0 := by rw [← eσ13, sv_up_k (by decide)]; exact t11
  have t18 : σ13 a 10 = (-1) := by rw [← eσ13]; exact sv_up_s _ _ _ _
  refine sv_go C.1 C.2.1 [(.aload_n 0, 1)] (pc' := 16) (by decide +kernel) rfl (lv' := [(0, sv_r a), (1, sv_i v1)]) (st' := [sv_r a]) rfl ?_
  obtain ⟨q19, eq19, kq19⟩ := hI14.ref (k := 0) k_a rfl
  refine sv_gf C (index := 9) (ci := 0) (k := 0) (r := (RX0, TX0, 12)) (v := sv_r q19) (by decide +kernel) (by rw [k_a]; rfl) rfl (by decide) fl_X0_9 (congrArg sv_a eq19) ?_
  refine sv_go C.1 C.2.1 [(.iconst 0, 1)] (pc' := 20) (by decide +kernel) rfl (lv' := [(0, sv_r a), (1, sv_i v1)]) (st' := [sv_i 0, sv_r q19]) rfl ?_
  refine sv_cs C (index := 46) (k := 2) (rest := []) (by decide +kernel) (ct_fill l g A ty σ13 hok12 q19 10 (by rw [kq19]; rfl) (by decide) (hTA _ (by rw [kq19]; decide)) (0) ⟨by omega, by omega⟩) ⟨co_J7_fill_53178, in_J7, ⟨by decide, by decide, by decide +kernel⟩, Nat.le_of_ble_eq_true rfl, Nat.le_of_ble_eq_true rfl⟩ ml_X0_46 st_J7_fill_53178 rfl rfl (Nat.le_of_ble_eq_true rfl) ⟨Nat.zero_le _, Nat.zero_le _⟩ (fun r21 σ22 hpo20 hok23 => ?_)
  obtain ⟨rfl, hOu24, hEu24, hRu24⟩ := hpo20
  have hIu24 := sv_fill_inv hI14 hOu24 kq19 (fun _ => rfl)
  have hFu24 := sv_fill_off hF15 hOu24 kq19 (by decide)
  have t25 : σ22 a 9 = v1 := (hOu24 _ (sv_ne k_a kq19 (by decide)) _).trans t16
  have t26 : σ22 a 2 = 0 := (hOu24 _ (sv_ne k_a kq19 (by decide)) _).trans t17
  have t27 : σ22 a 10 = (-1) := (hOu24 _ (sv_ne k_a kq19 (by decide)) _).trans t18
  have t28 : σ22 a 0 = (q19 : Int) + 1 := (hOu24 _ (sv_ne k_a kq19 (by decide)) _).trans eq19
  refine sv_same (st2 := []) (lv2 := [(0, sv_r a), (1, sv_i v1)]) rfl rfl ?_
  refine sv_go C.1 C.2.1 [(.aload_n 0, 1)] (pc' := 24) (by decide +kernel) rfl (lv' := [(0, sv_r a), (1, sv_i v1)]) (st' := [sv_r a]) rfl ?_
  obtain ⟨q29, eq29, kq29⟩ := hIu24.ref (k := 4) k_a rfl
  refine sv_gf C (index := 18) (ci := 0) (k := 4) (r := (RX0, TX0, 12)) (v := sv_r q29) (by decide +kernel) (by rw [k_a]; rfl) rfl (by decide) fl_X0_18 (congrArg sv_a eq29) ?_
  refine sv_go C.1 C.2.1 [(.iconst (-1), 1)] (pc' := 28) (by decide +kernel) rfl (lv' := [(0, sv_r a), (1, sv_i v1)]) (st' := [sv_i ((-1)), sv_r q29]) rfl ?_
  refine sv_cs C (index := 46) (k := 2) (rest := []) (by decide +kernel) (ct_fill l g A ty σ22 hok23 q29 10 (by rw [kq29]; rfl) (by decide) (hTA _ (by rw [kq29]; decide)) ((-1)) ⟨by omega, by omega⟩) ⟨co_J7_fill_53178, in_J7, ⟨by decide, by decide, by decide +kernel⟩, Nat.le_of_ble_eq_true rfl, Nat.le_of_ble_eq_true rfl⟩ ml_X0_46 st_J7_fill_53178 rfl rfl (Nat.le_of_ble_eq_true rfl) ⟨Nat.zero_le _, Nat.zero_le _⟩ (fun r31 σ32 hpo30 hok33 => ?_)
  obtain ⟨rfl, hOu34, hEu34, hRu34⟩ := hpo30
  have hIu34 := sv_fill_inv hIu24 hOu34 kq29 (fun _ => rfl)
  have hFu34 := sv_fill_off hFu24 hOu34 kq29 (by decide)
  have t35 : σ32 a 9 = v1 := (hOu34 _ (sv_ne k_a kq29 (by decide)) _).trans t25
  have t36 : σ32 a 2 = 0 := (hOu34 _ (sv_ne k_a kq29 (by decide)) _).trans t26
  have t37 : σ32 a 10 = (-1) := (hOu34 _ (sv_ne k_a kq29 (by decide)) _).trans t27
  have t38 : σ32 a 0 = (q19 : Int) + 1 := (hOu34 _ (sv_ne k_a kq29 (by decide)) _).trans t28
  have t39 : σ32 a 4 = (q29 : Int) + 1 := (hOu34 _ (sv_ne k_a kq29 (by decide)) _).trans eq29
  refine sv_same (st2 := []) (lv2 := [(0, sv_r a), (1, sv_i v1)]) rfl rfl ?_
  exact sv_vret C hr (by decide +kernel) hok33 (⟨rfl, hIu34, hFu34, t36⟩)

theorem ml_X9_237 : Cond.methodLink RX9 237 yX4_feastHeldOn ∈ lw_good := sv_mem 844 (by decide +kernel) rfl
set_option maxHeartbeats 4000000 in
set_option maxRecDepth 100000 in
theorem ct_X9_carryAll (l : Launch) (g : sv_G) (A : Nat → Prop) (ty : Nat → Nat) (σ : Nat → Nat → Int) (hok : sv_ok ty σ) (hI : sv_inv sp_1 ty σ) (a : Nat) (b : Nat) (k_b : ty b = 4) (y : Int) (hy : 1 ≤ y ∧ y ≤ 2000) (hP : pl_st σ b y) (v : Int) (hv : sv_in v) : sv_M l yX9_carryAll cX9_carryAll 7 none { frames := 2, cells := 0, slots := 0, locals := 40 } g A ty σ [sv_r a, sv_r b, sv_i y, sv_i v] (fun r σ' => σ = σ' ∧ r = []) := by
  refine sv_enter (by decide) (Nat.le_of_ble_eq_true rfl) ?_
  intro p e s m args below meth c C hr
  have C : sv_C g A RX9 cX9_carryAll 7 p s m args meth c := C
  have hr : meth.sig.returnType = none := hr
  have hlp := dy_lp_in y
  refine sv_same (st2 := []) (lv2 := [(0, sv_r a), (1, sv_r b), (2, sv_i y), (3, sv_i v)]) rfl rfl ?_
  refine sv_go C.1 C.2.1 [(.iload_n 2, 1)] (pc' := 1) (by decide +kernel) rfl (lv' := [(0, sv_r a), (1, sv_r b), (2, sv_i y), (3, sv_i v)]) (st' := [sv_i y]) rfl ?_
  refine sv_cs C (index := 148) (k := 1) (rest := []) (by decide +kernel) (ct_X2_length l g A ty σ hok (y) ⟨by omega, by omega⟩) ⟨co_X2_length, in_X2, ⟨by decide, by decide, by decide +kernel⟩, Nat.le_of_ble_eq_true rfl, Nat.le_of_ble_eq_true rfl⟩ ml_X9_148 st_X2_length rfl rfl (Nat.le_of_ble_eq_true rfl) ⟨Nat.zero_le _, Nat.zero_le _⟩ (fun r2 σ3 hpo1 hok4 => ?_)
  obtain ⟨rfl, rfl⟩ := hpo1
  refine sv_same (st2 := [sv_i (365 + dy_lp y)]) (lv2 := [(0, sv_r a), (1, sv_r b), (2, sv_i y), (3, sv_i v)]) rfl rfl ?_
  refine sv_go C.1 C.2.1 [(.istore 4, 2), (.iconst 0, 1), (.istore 5, 2)] (pc' := 9) (by decide +kernel) rfl (lv' := [(0, sv_r a), (1, sv_r b), (2, sv_i y), (3, sv_i v), (4, sv_i (365 + dy_lp y)), (5, sv_i 0)]) (st' := []) rfl ?_
  have L5 : ∀ (n : Nat) (X : Int) , (0 ≤ X ∧ X ≤ 365 + dy_lp y) → (365 + dy_lp y - X) < (n : Int) → sv_E p l e { frames := 2, cells := 0, slots := 0, locals := 40 } s m args below meth c 7 g A ty (fun r σ' => σ = σ' ∧ r = []) σ 9 [(0, sv_r a), (1, sv_r b), (2, sv_i y), (3, sv_i v), (4, sv_i (365 + dy_lp y)), (5, sv_i X)] [] := by
    intro n
    induction n with
    | zero => intro X  hX hmu; exact absurd hmu (by omega)
    | succ n ih6 =>
      intro X  hX hmu
      refine sv_go C.1 C.2.1 [(.iload 5, 2), (.iload 4, 2)] (pc' := 13) (by decide +kernel) rfl (lv' := [(0, sv_r a), (1, sv_r b), (2, sv_i y), (3, sv_i v), (4, sv_i (365 + dy_lp y)), (5, sv_i X)]) (st' := [sv_i (365 + dy_lp y), sv_i X]) rfl ?_
      refine sv_icmp C.1 C.2.1 (cnd := .ge) (off := 48) (tgt := 61) (by decide +kernel) (by decide) ⟨by omega, by omega⟩ ⟨by omega, by omega⟩ (fun (h7 : (365 + dy_lp y) ≤ X) => ?_) (fun (h7 : ¬ ((365 + dy_lp y) ≤ X)) => ?_)
      · exact sv_vret C hr (by decide +kernel) hok4 (⟨rfl, rfl⟩)
      · refine sv_go C.1 C.2.1 [(.aload_n 1, 1), (.iload 5, 2)] (pc' := 19) (by decide +kernel) rfl (lv' := [(0, sv_r a), (1, sv_r b), (2, sv_i y), (3, sv_i v), (4, sv_i (365 + dy_lp y)), (5, sv_i X)]) (st' := [sv_i X, sv_r b]) rfl ?_
        refine sv_cv C (index := 237) (k := 1) (rest := []) (ci := 3) (r := (RX4, TX4, 11)) (by decide +kernel) (ct_X4_feastHeldOn l g A ty σ hok4 hI b k_b (y) ⟨by omega, by omega⟩ hP (X) ⟨by omega, by omega⟩) ⟨co_X4_feastHeldOn, in_X4, ⟨by decide, by decide, by decide +kernel⟩, Nat.le_of_ble_eq_true rfl, Nat.le_of_ble_eq_true rfl⟩ ml_X9_237 im_X4_feastHeldOn se_X4_feastHeldOn (by rw [k_b]; rfl) rfl rfl rfl (Nat.le_of_ble_eq_true rfl) ⟨Nat.zero_le _, Nat.zero_le _⟩ (fun r9 σ10 hpo8 hok11 => ?_)
        obtain ⟨rfl, rfl⟩ := hpo8
        refine sv_same (st2 := [sv_a 0]) (lv2 := [(0, sv_r a), (1, sv_r b), (2, sv_i y), (3, sv_i v), (4, sv_i (365 + dy_lp y)), (5, sv_i X)]) rfl rfl ?_
        refine sv_go C.1 C.2.1 [(.astore 6, 2), (.aload 6, 2)] (pc' := 26) (by decide +kernel) rfl (lv' := [(0, sv_r a), (1, sv_r b), (2, sv_i y), (3, sv_i v), (4, sv_i (365 + dy_lp y)), (5, sv_i X), (6, sv_a 0)]) (st' := [sv_a 0]) rfl ?_
        refine sv_ifnull C.1 C.2.1 (off := 29) (tgt := 55) (by decide +kernel) (by decide) (by omega) (fun _ => ?_) (fun (h12 : 0 < 0) => absurd h12 (by omega))
        refine sv_go C.1 C.2.1 [(.iinc 5 1, 3)] (pc' := 58) (by decide +kernel) rfl (lv' := [(0, sv_r a), (1, sv_r b), (2, sv_i y), (3, sv_i v), (4, sv_i (365 + dy_lp y)), (5, sv_i (X + 1)), (6, sv_a 0)]) (st' := []) rfl ?_
        refine sv_goto C.1 C.2.1 (off := (-49)) (tgt := 9) (by decide +kernel) (by decide) ?_
        refine sv_pick [0, 1, 2, 3, 4, 5] (lv2 := [(0, sv_r a), (1, sv_r b), (2, sv_i y), (3, sv_i v), (4, sv_i (365 + dy_lp y)), (5, sv_i (X + 1))]) rfl ?_
        exact ih6 (X + 1)  (by omega) (by omega)
  exact L5 (((365 + dy_lp y - 0 : Int)).toNat + 1) 0  (by omega) (by omega)

theorem ml_X9_161 : Cond.methodLink RX9 161 yX0_startTurns ∈ lw_good := sv_mem 835 (by decide +kernel) rfl
theorem co_X0_startTurns : Cond.code yX0_startTurns cX0_startTurns 2 none ∈ lw_good := sv_mem 838 (by decide +kernel) rfl
theorem im_X0_startTurns : Cond.instanceMethod yX0_startTurns ∈ lw_good := sv_mem 836 (by decide +kernel) rfl
theorem se_X0_startTurns : Cond.selects RX0 yX0_startTurns yX0_startTurns ∈ lw_good := sv_mem 837 (by decide +kernel) rfl
theorem fl_X9_168 : Cond.fieldLink RX9 168 "SaintsRoad$Brotherhoods" "turns" "I" ∈ lw_good := sv_mem 322 (by decide +kernel) rfl
theorem ml_X9_164 : Cond.methodLink RX9 164 yX9_carryAll ∈ lw_good := sv_mem 840 (by decide +kernel) rfl
theorem co_X9_carryAll : Cond.code yX9_carryAll cX9_carryAll 7 none ∈ lw_good := sv_mem 843 (by decide +kernel) rfl
theorem im_X9_carryAll : Cond.instanceMethod yX9_carryAll ∈ lw_good := sv_mem 842 (by decide +kernel) rfl
theorem se_X9_carryAll : Cond.selects RX9 yX9_carryAll yX9_carryAll ∈ lw_good := sv_mem 31 (by decide +kernel) rfl
set_option maxHeartbeats 4000000 in
set_option maxRecDepth 100000 in
theorem ct_X9_rota (l : Launch) (g : sv_G) (A : Nat → Prop) (ty : Nat → Nat) (σ : Nat → Nat → Int) (hok : sv_ok ty σ) (hTA : ∀ q, ty q ≠ 0 → A q) (hI : sv_inv sp_1 ty σ) (hZ : sv_inv sp_0 ty σ) (a : Nat) (k_a : ty a = 1) (v1 : Int) (hv1 : sv_in v1) (f : Int) (hf : sv_in f) (t : Int) (ht : sv_in t) (v4 : Int) (hv4 : sv_in v4) (v5 : Int) (hv5 : sv_in v5) : sv_M l yX9_rota cX9_rota 7 (some .int) { frames := 4, cells := 0, slots := 0, locals := 87 } g A ty σ [sv_r a, sv_i v1, sv_i f, sv_i t, sv_i v4, sv_i v5] (fun r σ' => r = [sv_i (fx_rota v1 f t v4 v5)] ∧ sv_off [4, 25, 5, 30, 32] ty σ σ') := by
  refine sv_enter (by decide) (Nat.le_of_ble_eq_true rfl) ?_
  intro p e s m args below meth c C hr
  have C : sv_C g A RX9 cX9_rota 7 p s m args meth c := C
  have hr : meth.sig.returnType = (some .int) := hr
  have hF : sv_off [4, 25, 5, 30, 32] ty σ σ := sv_off.rf
  refine sv_same (st2 := []) (lv2 := [(0, sv_r a), (1, sv_i v1), (2, sv_i f), (3, sv_i t), (4, sv_i v4), (5, sv_i v5)]) rfl rfl ?_
  refine sv_go C.1 C.2.1 [(.iload_n 1, 1)] (pc' := 1) (by decide +kernel) rfl (lv' := [(0, sv_r a), (1, sv_i v1), (2, sv_i f), (3, sv_i t), (4, sv_i v4), (5, sv_i v5)]) (st' := [sv_i v1]) rfl ?_
  refine sv_cs C (index := 59) (k := 1) (rest := []) (by decide +kernel) (ct_X9_isPlace l g A ty σ hok (v1) ⟨by omega, by omega⟩) ⟨co_X9_isPlace, in_X9, ⟨by decide, by decide, by decide +kernel⟩, Nat.le_of_ble_eq_true rfl, Nat.le_of_ble_eq_true rfl⟩ ml_X9_59 st_X9_isPlace rfl rfl (Nat.le_of_ble_eq_true rfl) ⟨Nat.zero_le _, Nat.zero_le _⟩ (fun r2 σ3 hpo1 hok4 => ?_)
  obtain ⟨rfl, ⟨h5, rfl⟩ | ⟨h5, rfl⟩⟩ := hpo1
  · refine sv_same (st2 := [sv_i 1]) (lv2 := [(0, sv_r a), (1, sv_i v1), (2, sv_i f), (3, sv_i t), (4, sv_i v4), (5, sv_i v5)]) rfl rfl ?_
    refine sv_if_f C.1 C.2.1 (cnd := .eq) (off := 25) (tgt := 29) (by decide +kernel) (by decide) ⟨by omega, by omega⟩ (show ¬ (1 = 0) by omega) ?_
    refine sv_go C.1 C.2.1 [(.iload 4, 2)] (pc' := 9) (by decide +kernel) rfl (lv' := [(0, sv_r a), (1, sv_i v1), (2, sv_i f), (3, sv_i t), (4, sv_i v4), (5, sv_i v5)]) (st' := [sv_i v4]) rfl ?_
    refine sv_cs C (index := 137) (k := 1) (rest := []) (by decide +kernel) (ct_X9_isRank l g A ty σ hok4 (v4) ⟨by omega, by omega⟩) ⟨co_X9_isRank, in_X9, ⟨by decide, by decide, by decide +kernel⟩, Nat.le_of_ble_eq_true rfl, Nat.le_of_ble_eq_true rfl⟩ ml_X9_137 st_X9_isRank rfl rfl (Nat.le_of_ble_eq_true rfl) ⟨Nat.zero_le _, Nat.zero_le _⟩ (fun r7 σ8 hpo6 hok9 => ?_)
    obtain ⟨rfl, ⟨h10, rfl⟩ | ⟨h10, rfl⟩⟩ := hpo6
    · refine sv_same (st2 := [sv_i 1]) (lv2 := [(0, sv_r a), (1, sv_i v1), (2, sv_i f), (3, sv_i t), (4, sv_i v4), (5, sv_i v5)]) rfl rfl ?_
      refine sv_if_f C.1 C.2.1 (cnd := .eq) (off := 17) (tgt := 29) (by decide +kernel) (by decide) ⟨by omega, by omega⟩ (show ¬ (1 = 0) by omega) ?_
      refine sv_go C.1 C.2.1 [(.iload 5, 2), (.iconst 1, 1)] (pc' := 18) (by decide +kernel) rfl (lv' := [(0, sv_r a), (1, sv_i v1), (2, sv_i f), (3, sv_i t), (4, sv_i v4), (5, sv_i v5)]) (st' := [sv_i 1, sv_i v5]) rfl ?_
      refine sv_icmp C.1 C.2.1 (cnd := .lt) (off := 11) (tgt := 29) (by decide +kernel) (by decide) ⟨by omega, by omega⟩ ⟨by omega, by omega⟩ (fun (h11 : v5 < 1) => ?_) (fun (h11 : ¬ (v5 < 1)) => ?_)
      · refine sv_go C.1 C.2.1 [(.bipush (-2), 2)] (pc' := 31) (by decide +kernel) rfl (lv' := [(0, sv_r a), (1, sv_i v1), (2, sv_i f), (3, sv_i t), (4, sv_i v4), (5, sv_i v5)]) (st' := [sv_i ((-2))]) rfl ?_
        exact sv_iret C hr (by decide +kernel) hok9 (⟨congrArg (fun q => [sv_i q]) (by first | omega | (unfold fx_rota; omega)), hF⟩)
      · refine sv_go C.1 C.2.1 [(.iload 5, 2), (.sipush 1023, 3)] (pc' := 26) (by decide +kernel) rfl (lv' := [(0, sv_r a), (1, sv_i v1), (2, sv_i f), (3, sv_i t), (4, sv_i v4), (5, sv_i v5)]) (st' := [sv_i 1023, sv_i v5]) rfl ?_
        refine sv_icmp C.1 C.2.1 (cnd := .le) (off := 6) (tgt := 32) (by decide +kernel) (by decide) ⟨by omega, by omega⟩ ⟨by omega, by omega⟩ (fun (h12 : v5 ≤ 1023) => ?_) (fun (h12 : ¬ (v5 ≤ 1023)) => ?_)
        · refine sv_go C.1 C.2.1 [(.iload_n 2, 1)] (pc' := 33) (by decide +kernel) rfl (lv' := [(0, sv_r a), (1, sv_i v1), (2, sv_i f), (3, sv_i t), (4, sv_i v4), (5, sv_i v5)]) (st' := [sv_i f]) rfl ?_
          refine sv_cs C (index := 97) (k := 1) (rest := []) (by decide +kernel) (ct_X2_isYear l g A ty σ hok9 (f) ⟨by omega, by omega⟩) ⟨co_X2_isYear, in_X2, ⟨by decide, by decide, by decide +kernel⟩, Nat.le_of_ble_eq_true rfl, Nat.le_of_ble_eq_true rfl⟩ ml_X9_97 st_X2_isYear rfl rfl (Nat.le_of_ble_eq_true rfl) ⟨Nat.zero_le _, Nat.zero_le _⟩ (fun r14 σ15 hpo13 hok16 => ?_)
          obtain ⟨rfl, ⟨h17, rfl⟩ | ⟨h17, rfl⟩⟩ := hpo13
          · refine sv_same (st2 := [sv_i 1]) (lv2 := [(0, sv_r a), (1, sv_i v1), (2, sv_i f), (3, sv_i t), (4, sv_i v4), (5, sv_i v5)]) rfl rfl ?_
            refine sv_if_f C.1 C.2.1 (cnd := .eq) (off := 23) (tgt := 59) (by decide +kernel) (by decide) ⟨by omega, by omega⟩ (show ¬ (1 = 0) by omega) ?_
            refine sv_go C.1 C.2.1 [(.iload_n 3, 1)] (pc' := 40) (by decide +kernel) rfl (lv' := [(0, sv_r a), (1, sv_i v1), (2, sv_i f), (3, sv_i t), (4, sv_i v4), (5, sv_i v5)]) (st' := [sv_i t]) rfl ?_
            refine sv_cs C (index := 97) (k := 1) (rest := []) (by decide +kernel) (ct_X2_isYear l g A ty σ hok16 (t) ⟨by omega, by omega⟩) ⟨co_X2_isYear, in_X2, ⟨by decide, by decide, by decide +kernel⟩, Nat.le_of_ble_eq_true rfl, Nat.le_of_ble_eq_true rfl⟩ ml_X9_97 st_X2_isYear rfl rfl (Nat.le_of_ble_eq_true rfl) ⟨Nat.zero_le _, Nat.zero_le _⟩ (fun r19 σ20 hpo18 hok21 => ?_)
            obtain ⟨rfl, ⟨h22, rfl⟩ | ⟨h22, rfl⟩⟩ := hpo18
            · refine sv_same (st2 := [sv_i 1]) (lv2 := [(0, sv_r a), (1, sv_i v1), (2, sv_i f), (3, sv_i t), (4, sv_i v4), (5, sv_i v5)]) rfl rfl ?_
              refine sv_if_f C.1 C.2.1 (cnd := .eq) (off := 16) (tgt := 59) (by decide +kernel) (by decide) ⟨by omega, by omega⟩ (show ¬ (1 = 0) by omega) ?_
              refine sv_go C.1 C.2.1 [(.iload_n 2, 1), (.iload_n 3, 1)] (pc' := 48) (by decide +kernel) rfl (lv' := [(0, sv_r a), (1, sv_i v1), (2, sv_i f), (3, sv_i t), (4, sv_i v4), (5, sv_i v5)]) (st' := [sv_i t, sv_i f]) rfl ?_
              refine sv_icmp C.1 C.2.1 (cnd := .gt) (off := 11) (tgt := 59) (by decide +kernel) (by decide) ⟨by omega, by omega⟩ ⟨by omega, by omega⟩ (fun (h23 : t < f) => ?_) (fun (h23 : ¬ (t < f)) => ?_)
              · refine sv_go C.1 C.2.1 [(.bipush (-2), 2)] (pc' := 61) (by decide +kernel) rfl (lv' := [(0, sv_r a), (1, sv_i v1), (2, sv_i f), (3, sv_i t), (4, sv_i v4), (5, sv_i v5)]) (st' := [sv_i ((-2))]) rfl ?_
                exact sv_iret C hr (by decide +kernel) hok21 (⟨congrArg (fun q => [sv_i q]) (by first | omega | (unfold fx_rota; omega)), hF⟩)
              · refine sv_go C.1 C.2.1 [(.iload_n 3, 1), (.iload_n 2, 1), (.isub, 1), (.bipush 20, 2)] (pc' := 56) (by decide +kernel) rfl (lv' := [(0, sv_r a), (1, sv_i v1), (2, sv_i f), (3, sv_i t), (4, sv_i v4), (5, sv_i v5)]) (st' := [sv_i 20, sv_i (t - f)]) rfl ?_
                refine sv_icmp C.1 C.2.1 (cnd := .lt) (off := 6) (tgt := 62) (by decide +kernel) (by decide) ⟨by omega, by omega⟩ ⟨by omega, by omega⟩ (fun (h24 : (t - f) < 20) => ?_) (fun (h24 : ¬ ((t - f) < 20)) => ?_)
                · refine sv_go C.1 C.2.1 [(.aload_n 0, 1)] (pc' := 63) (by decide +kernel) rfl (lv' := [(0, sv_r a), (1, sv_i v1), (2, sv_i f), (3, sv_i t), (4, sv_i v4), (5, sv_i v5)]) (st' := [sv_r a]) rfl ?_
                  obtain ⟨q25, eq25, kq25⟩ := hI.ref (k := 3) k_a rfl
                  refine sv_gf C (index := 33) (ci := 8) (k := 3) (r := (RX9, TX9, 6)) (v := sv_r q25) (by decide +kernel) (by rw [k_a]; rfl) rfl (by decide) fl_X9_33 (congrArg sv_a eq25) ?_
                  refine sv_go C.1 C.2.1 [(.iload 5, 2)] (pc' := 68) (by decide +kernel) rfl (lv' := [(0, sv_r a), (1, sv_i v1), (2, sv_i f), (3, sv_i t), (4, sv_i v4), (5, sv_i v5)]) (st' := [sv_i v5, sv_r q25]) rfl ?_
                  refine sv_cv C (index := 161) (k := 1) (rest := []) (ci := 0) (r := (RX0, TX0, 12)) (by decide +kernel) (ct_X0_startTurns l g A ty σ hok21 hTA hI q25 kq25 (v5) ⟨by omega, by omega⟩) ⟨co_X0_startTurns, in_X0, ⟨by decide, by decide, by decide +kernel⟩, Nat.le_of_ble_eq_true rfl, Nat.le_of_ble_eq_true rfl⟩ ml_X9_161 im_X0_startTurns se_X0_startTurns (by rw [kq25]; rfl) rfl rfl rfl (Nat.le_of_ble_eq_true rfl) ⟨Nat.zero_le _, Nat.zero_le _⟩ (fun r27 σ28 hpo26 hok29 => ?_)
                  obtain ⟨rfl, hIu30, hFu30, xu30⟩ := hpo26
                  have hGu30 := hF.tr hFu30 (by decide)
                  have t31 : σ28 a 3 = (q25 : Int) + 1 := (hFu30.at k_a (by decide)).trans eq25
                  refine sv_same (st2 := []) (lv2 := [(0, sv_r a), (1, sv_i v1), (2, sv_i f), (3, sv_i t), (4, sv_i v4), (5, sv_i v5)]) rfl rfl ?_
                  refine sv_go C.1 C.2.1 [(.iload_n 2, 1), (.istore 6, 2)] (pc' := 74) (by decide +kernel) rfl (lv' := [(0, sv_r a), (1, sv_i v1), (2, sv_i f), (3, sv_i t), (4, sv_i v4), (5, sv_i v5), (6, sv_i f)]) (st' := []) rfl ?_
                  obtain ⟨qa, eqa, kqa⟩ := hIu30.ref (k := 2) k_a rfl
                  obtain ⟨qp, eqp, kqp⟩ := hIu30.ref (k := (v1 : Int).toNat) kqa (by show (if _ then _ else _) = _; rw [if_pos (by omega)])
                  have L34 : ∀ (n : Nat) (X : Int) (σ32 : Nat → Nat → Int), (sv_ok ty σ32) → (sv_inv sp_1 ty σ32) → (sv_off [4, 25, 5, 30, 32] ty σ σ32) → (σ32 a 3 = (q25 : Int) + 1) → (σ32 q25 2 = 0) → (σ32 a 2 = (qa : Int) + 1) → (σ32 qa (v1 : Int).toNat = (qp : Int) + 1) → (f ≤ X ∧ X ≤ t + 1) → (pl_0 ty σ32 qp) → (t + 1 - X) < (n : Int) → sv_E p l e { frames := 4, cells := 0, slots := 0, locals := 87 } s m args below meth c 7 g A ty (fun r σ' => r = [sv_i (fx_rota v1 f t v4 v5)] ∧ sv_off [4, 25, 5, 30, 32] ty σ σ') σ32 74 [(0, sv_r a), (1, sv_i v1), (2, sv_i f), (3, sv_i t), (4, sv_i v4), (5, sv_i v5), (6, sv_i X)] [] := by
                    intro n
                    induction n with
                    | zero => intro X σ32 hokc33 hIc33 hFc33 kc33_0 kc33_1 kc33_2 kc33_3 hX h0p hmu; exact absurd hmu (by omega)
                    | succ n ih35 =>
                      intro X σ32 hokc33 hIc33 hFc33 kc33_0 kc33_1 kc33_2 kc33_3 hX h0p hmu
                      refine sv_go C.1 C.2.1 [(.iload 6, 2), (.iload_n 3, 1)] (pc' := 77) (by decide +kernel) rfl (lv' := [(0, sv_r a), (1, sv_i v1), (2, sv_i f), (3, sv_i t), (4, sv_i v4), (5, sv_i v5), (6, sv_i X)]) (st' := [sv_i t, sv_i X]) rfl ?_
                      refine sv_icmp C.1 C.2.1 (cnd := .gt) (off := 34) (tgt := 111) (by decide +kernel) (by decide) ⟨by omega, by omega⟩ ⟨by omega, by omega⟩ (fun (h36 : t < X) => ?_) (fun (h36 : ¬ (t < X)) => ?_)
                      · refine sv_go C.1 C.2.1 [(.aload_n 0, 1)] (pc' := 112) (by decide +kernel) rfl (lv' := [(0, sv_r a), (1, sv_i v1), (2, sv_i f), (3, sv_i t), (4, sv_i v4), (5, sv_i v5), (6, sv_i X)]) (st' := [sv_r a]) rfl ?_
                        refine sv_gf C (index := 33) (ci := 8) (k := 3) (r := (RX9, TX9, 6)) (v := sv_r q25) (by decide +kernel) (by rw [k_a]; rfl) rfl (by decide) fl_X9_33 (congrArg sv_a kc33_0) ?_
                        refine sv_gf C (index := 168) (ci := 0) (k := 2) (r := (RX0, TX0, 12)) (v := sv_i 0) (by decide +kernel) (by rw [kq25]; rfl) rfl (by decide) fl_X9_168 (congrArg sv_i kc33_1) ?_
                        exact sv_iret C hr (by decide +kernel) hokc33 (⟨congrArg (fun q => [sv_i q]) (by first | omega | (unfold fx_rota; omega)), hFc33⟩)
                      · refine sv_go C.1 C.2.1 [(.aload_n 0, 1)] (pc' := 81) (by decide +kernel) rfl (lv' := [(0, sv_r a), (1, sv_i v1), (2, sv_i f), (3, sv_i t), (4, sv_i v4), (5, sv_i v5), (6, sv_i X)]) (st' := [sv_r a]) rfl ?_
                        refine sv_gf C (index := 25) (ci := 8) (k := 2) (r := (RX9, TX9, 6)) (v := sv_r qa) (by decide +kernel) (by rw [k_a]; rfl) rfl (by decide) fl_X9_25 (congrArg sv_a kc33_2) ?_
                        refine sv_go C.1 C.2.1 [(.iload_n 1, 1)] (pc' := 85) (by decide +kernel) rfl (lv' := [(0, sv_r a), (1, sv_i v1), (2, sv_i f), (3, sv_i t), (4, sv_i v4), (5, sv_i v5), (6, sv_i X)]) (st' := [sv_i v1, sv_r qa]) rfl ?_
                        refine sv_aa C (N := "SaintsRoad$Place") (by decide) (n := 4) (by decide +kernel) (by rw [kqa]; rfl) (by decide) (by omega) (by omega) ?_
                        rw [kc33_3]
                        refine sv_go C.1 C.2.1 [(.iload 6, 2)] (pc' := 88) (by decide +kernel) rfl (lv' := [(0, sv_r a), (1, sv_i v1), (2, sv_i f), (3, sv_i t), (4, sv_i v4), (5, sv_i v5), (6, sv_i X)]) (st' := [sv_i X, sv_r qp]) rfl ?_
                        refine sv_cv C (index := 118) (k := 1) (rest := []) (ci := 3) (r := (RX4, TX4, 11)) (by decide +kernel) (ct_X4_settle l g A ty σ32 hokc33 hTA hIc33 qp kqp (X) ⟨by omega, by omega⟩ h0p) ⟨co_X4_settle, in_X4, ⟨by decide, by decide, by decide +kernel⟩, Nat.le_of_ble_eq_true rfl, Nat.le_of_ble_eq_true rfl⟩ ml_X9_118 im_X4_settle se_X4_settle (by rw [kqp]; rfl) rfl rfl rfl (Nat.le_of_ble_eq_true rfl) ⟨Nat.zero_le _, Nat.zero_le _⟩ (fun r38 σ39 hpo37 hok40 => ?_)
                        obtain ⟨rfl, hIu41, hFu41, xu41, yu41, zu41⟩ := hpo37
                        have hGu41 := hFc33.tr hFu41 (by decide)
                        have t42 : σ39 a 3 = (q25 : Int) + 1 := (hFu41.at k_a (by decide)).trans kc33_0
                        have t43 : σ39 q25 2 = 0 := (hFu41.at kq25 (by decide)).trans kc33_1
                        have t44 : σ39 a 2 = (qa : Int) + 1 := (hFu41.at k_a (by decide)).trans kc33_2
                        have t45 : σ39 qa (v1 : Int).toNat = (qp : Int) + 1 := (hFu41.at kqa (by decide)).trans kc33_3
                        refine sv_same (st2 := []) (lv2 := [(0, sv_r a), (1, sv_i v1), (2, sv_i f), (3, sv_i t), (4, sv_i v4), (5, sv_i v5), (6, sv_i X)]) rfl rfl ?_
                        refine sv_go C.1 C.2.1 [(.aload_n 0, 1), (.aload_n 0, 1)] (pc' := 93) (by decide +kernel) rfl (lv' := [(0, sv_r a), (1, sv_i v1), (2, sv_i f), (3, sv_i t), (4, sv_i v4), (5, sv_i v5), (6, sv_i X)]) (st' := [sv_r a, sv_r a]) rfl ?_
                        refine sv_gf C (index := 25) (ci := 8) (k := 2) (r := (RX9, TX9, 6)) (v := sv_r qa) (by decide +kernel) (by rw [k_a]; rfl) rfl (by decide) fl_X9_25 (congrArg sv_a t44) ?_
                        refine sv_go C.1 C.2.1 [(.iload_n 1, 1)] (pc' := 97) (by decide +kernel) rfl (lv' := [(0, sv_r a), (1, sv_i v1), (2, sv_i f), (3, sv_i t), (4, sv_i v4), (5, sv_i v5), (6, sv_i X)]) (st' := [sv_i v1, sv_r qa, sv_r a]) rfl ?_
                        refine sv_aa C (N := "SaintsRoad$Place") (by decide) (n := 4) (by decide +kernel) (by rw [kqa]; rfl) (by decide) (by omega) (by omega) ?_
                        rw [t45]
                        refine sv_go C.1 C.2.1 [(.iload 6, 2), (.iload 4, 2)] (pc' := 102) (by decide +kernel) rfl (lv' := [(0, sv_r a), (1, sv_i v1), (2, sv_i f), (3, sv_i t), (4, sv_i v4), (5, sv_i v5), (6, sv_i X)]) (st' := [sv_i v4, sv_i X, sv_r qp, sv_r a]) rfl ?_
                        refine sv_cv C (index := 164) (k := 3) (rest := []) (ci := 8) (r := (RX9, TX9, 6)) (by decide +kernel) (ct_X9_carryAll l g A ty σ39 hok40 hIu41 a qp kqp (X) ⟨by omega, by omega⟩ xu41 (v4) ⟨by omega, by omega⟩) ⟨co_X9_carryAll, in_X9, ⟨by decide, by decide, by decide +kernel⟩, Nat.le_of_ble_eq_true rfl, Nat.le_of_ble_eq_true rfl⟩ ml_X9_164 im_X9_carryAll se_X9_carryAll (by rw [k_a]; rfl) rfl rfl rfl (Nat.le_of_ble_eq_true rfl) ⟨Nat.zero_le _, Nat.zero_le _⟩ (fun r47 σ48 hpo46 hok49 => ?_)
                        obtain ⟨rfl, rfl⟩ := hpo46
                        refine sv_same (st2 := []) (lv2 := [(0, sv_r a), (1, sv_i v1), (2, sv_i f), (3, sv_i t), (4, sv_i v4), (5, sv_i v5), (6, sv_i X)]) rfl rfl ?_
                        refine sv_go C.1 C.2.1 [(.iinc 6 1, 3)] (pc' := 108) (by decide +kernel) rfl (lv' := [(0, sv_r a), (1, sv_i v1), (2, sv_i f), (3, sv_i t), (4, sv_i v4), (5, sv_i v5), (6, sv_i (X + 1))]) (st' := []) rfl ?_
                        refine sv_goto C.1 C.2.1 (off := (-34)) (tgt := 74) (by decide +kernel) (by decide) ?_
                        exact ih35 (X + 1) σ39 hok49 hIu41 hGu41 t42 t43 t44 t45 (by omega) (Or.inr (by rw [xu41.1]; exact xu41)) (by omega)
                  exact L34 (((t + 1 - f : Int)).toNat + 1) f σ28 hok29 hIu30 hGu30 t31 xu30 eqa eqp (by omega) (Or.inl (by have z := hZ.num (k := 10) kqp rfl; rw [hFu30.at kqp (by decide)]; omega)) (by omega)
                · refine sv_go C.1 C.2.1 [(.bipush (-2), 2)] (pc' := 61) (by decide +kernel) rfl (lv' := [(0, sv_r a), (1, sv_i v1), (2, sv_i f), (3, sv_i t), (4, sv_i v4), (5, sv_i v5)]) (st' := [sv_i ((-2))]) rfl ?_
                  exact sv_iret C hr (by decide +kernel) hok21 (⟨congrArg (fun q => [sv_i q]) (by first | omega | (unfold fx_rota; omega)), hF⟩)
            · refine sv_same (st2 := [sv_i 0]) (lv2 := [(0, sv_r a), (1, sv_i v1), (2, sv_i f), (3, sv_i t), (4, sv_i v4), (5, sv_i v5)]) rfl rfl ?_
              refine sv_if_t C.1 C.2.1 (cnd := .eq) (off := 16) (tgt := 59) (by decide +kernel) (by decide) ⟨by omega, by omega⟩ (show 0 = 0 by omega) ?_
              refine sv_go C.1 C.2.1 [(.bipush (-2), 2)] (pc' := 61) (by decide +kernel) rfl (lv' := [(0, sv_r a), (1, sv_i v1), (2, sv_i f), (3, sv_i t), (4, sv_i v4), (5, sv_i v5)]) (st' := [sv_i ((-2))]) rfl ?_
              exact sv_iret C hr (by decide +kernel) hok21 (⟨congrArg (fun q => [sv_i q]) (by first | omega | (unfold fx_rota; omega)), hF⟩)
          · refine sv_same (st2 := [sv_i 0]) (lv2 := [(0, sv_r a), (1, sv_i v1), (2, sv_i f), (3, sv_i t), (4, sv_i v4), (5, sv_i v5)]) rfl rfl ?_
            refine sv_if_t C.1 C.2.1 (cnd := .eq) (off := 23) (tgt := 59) (by decide +kernel) (by decide) ⟨by omega, by omega⟩ (show 0 = 0 by omega) ?_
            refine sv_go C.1 C.2.1 [(.bipush (-2), 2)] (pc' := 61) (by decide +kernel) rfl (lv' := [(0, sv_r a), (1, sv_i v1), (2, sv_i f), (3, sv_i t), (4, sv_i v4), (5, sv_i v5)]) (st' := [sv_i ((-2))]) rfl ?_
            exact sv_iret C hr (by decide +kernel) hok16 (⟨congrArg (fun q => [sv_i q]) (by first | omega | (unfold fx_rota; omega)), hF⟩)
        · refine sv_go C.1 C.2.1 [(.bipush (-2), 2)] (pc' := 31) (by decide +kernel) rfl (lv' := [(0, sv_r a), (1, sv_i v1), (2, sv_i f), (3, sv_i t), (4, sv_i v4), (5, sv_i v5)]) (st' := [sv_i ((-2))]) rfl ?_
          exact sv_iret C hr (by decide +kernel) hok9 (⟨congrArg (fun q => [sv_i q]) (by first | omega | (unfold fx_rota; omega)), hF⟩)
    · refine sv_same (st2 := [sv_i 0]) (lv2 := [(0, sv_r a), (1, sv_i v1), (2, sv_i f), (3, sv_i t), (4, sv_i v4), (5, sv_i v5)]) rfl rfl ?_
      refine sv_if_t C.1 C.2.1 (cnd := .eq) (off := 17) (tgt := 29) (by decide +kernel) (by decide) ⟨by omega, by omega⟩ (show 0 = 0 by omega) ?_
      refine sv_go C.1 C.2.1 [(.bipush (-2), 2)] (pc' := 31) (by decide +kernel) rfl (lv' := [(0, sv_r a), (1, sv_i v1), (2, sv_i f), (3, sv_i t), (4, sv_i v4), (5, sv_i v5)]) (st' := [sv_i ((-2))]) rfl ?_
      exact sv_iret C hr (by decide +kernel) hok9 (⟨congrArg (fun q => [sv_i q]) (by first | omega | (unfold fx_rota; omega)), hF⟩)
  · refine sv_same (st2 := [sv_i 0]) (lv2 := [(0, sv_r a), (1, sv_i v1), (2, sv_i f), (3, sv_i t), (4, sv_i v4), (5, sv_i v5)]) rfl rfl ?_
    refine sv_if_t C.1 C.2.1 (cnd := .eq) (off := 25) (tgt := 29) (by decide +kernel) (by decide) ⟨by omega, by omega⟩ (show 0 = 0 by omega) ?_
    refine sv_go C.1 C.2.1 [(.bipush (-2), 2)] (pc' := 31) (by decide +kernel) rfl (lv' := [(0, sv_r a), (1, sv_i v1), (2, sv_i f), (3, sv_i t), (4, sv_i v4), (5, sv_i v5)]) (st' := [sv_i ((-2))]) rfl ?_
    exact sv_iret C hr (by decide +kernel) hok4 (⟨congrArg (fun q => [sv_i q]) (by first | omega | (unfold fx_rota; omega)), hF⟩)
end
section
/-! the reference's offices of a year, with an empty calendar -/
def md_of (σ : Nat → Nat → Int) (a k : Nat) (y : Int) : Prop := ∀ h : Nat, σ a k = (h : Int) + 1 → ∀ i : Int, 0 ≤ i → i < 365 + dy_lp y → σ h i.toNat = fx_of y i
theorem md_step {σ : Nat → Nat → Int} {q : Nat} {X v : Int} {f : Int → Int} (hO : ∀ i : Int, 0 ≤ i → i < X → σ q i.toNat = f i) (hv : v = f X) (hX : 0 ≤ X) : ∀ i : Int, 0 ≤ i → i < X + 1 → sv_up σ q X.toNat v q i.toNat = f i := by
  intro i h1 h2
  by_cases e : i = X
  · subst e; rw [sv_up_s]; exact hv
  · rw [sv_up_k (by omega)]; exact hO i h1 (by omega)
theorem dy_last {y d M : Int} (h1 : 1 ≤ M ∧ M ≤ 12) (h2 : dy_ms y (M + 1) ≤ d) (h3 : d < 365 + dy_lp y) : M + 1 ≤ 12 := by
  by_cases q : M = 12
  · subst q
    have e : dy_ms y (12 + 1) = 365 + dy_lp y := dy_ms13 y
    omega
  · omega
end
section
theorem cl_X11_275 : Cond.constantLong RX11 275 (3) ∈ lw_good := sv_mem 1265 (by decide +kernel) rfl
set_option maxHeartbeats 4000000 in
set_option maxRecDepth 100000 in
theorem ct_X11_isPlace (l : Launch) (g : sv_G) (A : Nat → Prop) (ty : Nat → Nat) (σ : Nat → Nat → Int) (hok : sv_ok ty σ) (v : Int) (hv : sv_in v) : sv_M l yX11_isPlace cX11_isPlace 1 (some .boolean) { frames := 1, cells := 0, slots := 0, locals := 25 } g A ty σ [sv_i v] (fun r σ' => σ = σ' ∧ sv_bo (0 ≤ v ∧ v ≤ 3) r) := by
  refine sv_enter (by decide) (Nat.le_of_ble_eq_true rfl) ?_
  intro p e s m args below meth c C hr
  have C : sv_C g A RX11 cX11_isPlace 1 p s m args meth c := C
  have hr : meth.sig.returnType = (some .boolean) := hr
  refine sv_same (st2 := []) (lv2 := [(0, sv_i v)]) rfl rfl ?_
  refine sv_go C.1 C.2.1 [(.iload_n 0, 1)] (pc' := 1) (by decide +kernel) rfl (lv' := [(0, sv_i v)]) (st' := [sv_i v]) rfl ?_
  refine sv_i2l C.1 C.2.1 (by decide +kernel) ⟨by omega, by omega⟩ ?_
  refine sv_go C.1 C.2.1 [(.lconst 0, 1)] (pc' := 3) (by decide +kernel) rfl (lv' := [(0, sv_i v)]) (st' := [sv_l 0, sv_l v]) rfl ?_
  refine sv_ldc2 C (index := 275) (z := 3) (by decide +kernel) cl_X11_275 (by decide) ?_
  refine sv_cs C (index := 9) (k := 3) (rest := []) (by decide +kernel) (ct_X11_in l g A ty σ hok (v) ⟨by omega, by omega⟩ (0) ⟨by omega, by omega⟩ (3) ⟨by omega, by omega⟩) ⟨co_X11_in, in_X11, ⟨by decide, by decide, by decide +kernel⟩, Nat.le_of_ble_eq_true rfl, Nat.le_of_ble_eq_true rfl⟩ ml_X11_9 st_X11_in rfl rfl (Nat.le_of_ble_eq_true rfl) ⟨Nat.zero_le _, Nat.zero_le _⟩ (fun r2 σ3 hpo1 hok4 => ?_)
  obtain ⟨rfl, ⟨h5, rfl⟩ | ⟨h5, rfl⟩⟩ := hpo1
  · refine sv_same (st2 := [sv_i 1]) (lv2 := [(0, sv_i v)]) rfl rfl ?_
    exact sv_zret C hr (by first | exact Or.inl rfl | exact Or.inr rfl | omega) (by decide +kernel) hok4 (by first | exact ⟨rfl, Or.inl ⟨by omega, rfl⟩⟩ | exact ⟨rfl, Or.inr ⟨by omega, rfl⟩⟩)
  · refine sv_same (st2 := [sv_i 0]) (lv2 := [(0, sv_i v)]) rfl rfl ?_
    exact sv_zret C hr (by first | exact Or.inl rfl | exact Or.inr rfl | omega) (by decide +kernel) hok4 (by first | exact ⟨rfl, Or.inl ⟨by omega, rfl⟩⟩ | exact ⟨rfl, Or.inr ⟨by omega, rfl⟩⟩)

theorem cl_X11_292 : Cond.constantLong RX11 292 (9) ∈ lw_good := sv_mem 1361 (by decide +kernel) rfl
set_option maxHeartbeats 4000000 in
set_option maxRecDepth 100000 in
theorem ct_X11_isBrotherhood (l : Launch) (g : sv_G) (A : Nat → Prop) (ty : Nat → Nat) (σ : Nat → Nat → Int) (hok : sv_ok ty σ) (v : Int) (hv : sv_in v) : sv_M l yX11_isBrotherhood cX11_isBrotherhood 1 (some .boolean) { frames := 1, cells := 0, slots := 0, locals := 25 } g A ty σ [sv_i v] (fun r σ' => σ = σ' ∧ sv_bo (0 ≤ v ∧ v ≤ 9) r) := by
  refine sv_enter (by decide) (Nat.le_of_ble_eq_true rfl) ?_
  intro p e s m args below meth c C hr
  have C : sv_C g A RX11 cX11_isBrotherhood 1 p s m args meth c := C
  have hr : meth.sig.returnType = (some .boolean) := hr
  refine sv_same (st2 := []) (lv2 := [(0, sv_i v)]) rfl rfl ?_
  refine sv_go C.1 C.2.1 [(.iload_n 0, 1)] (pc' := 1) (by decide +kernel) rfl (lv' := [(0, sv_i v)]) (st' := [sv_i v]) rfl ?_
  refine sv_i2l C.1 C.2.1 (by decide +kernel) ⟨by omega, by omega⟩ ?_
  refine sv_go C.1 C.2.1 [(.lconst 0, 1)] (pc' := 3) (by decide +kernel) rfl (lv' := [(0, sv_i v)]) (st' := [sv_l 0, sv_l v]) rfl ?_
  refine sv_ldc2 C (index := 292) (z := 9) (by decide +kernel) cl_X11_292 (by decide) ?_
  refine sv_cs C (index := 9) (k := 3) (rest := []) (by decide +kernel) (ct_X11_in l g A ty σ hok (v) ⟨by omega, by omega⟩ (0) ⟨by omega, by omega⟩ (9) ⟨by omega, by omega⟩) ⟨co_X11_in, in_X11, ⟨by decide, by decide, by decide +kernel⟩, Nat.le_of_ble_eq_true rfl, Nat.le_of_ble_eq_true rfl⟩ ml_X11_9 st_X11_in rfl rfl (Nat.le_of_ble_eq_true rfl) ⟨Nat.zero_le _, Nat.zero_le _⟩ (fun r2 σ3 hpo1 hok4 => ?_)
  obtain ⟨rfl, ⟨h5, rfl⟩ | ⟨h5, rfl⟩⟩ := hpo1
  · refine sv_same (st2 := [sv_i 1]) (lv2 := [(0, sv_i v)]) rfl rfl ?_
    exact sv_zret C hr (by first | exact Or.inl rfl | exact Or.inr rfl | omega) (by decide +kernel) hok4 (by first | exact ⟨rfl, Or.inl ⟨by omega, rfl⟩⟩ | exact ⟨rfl, Or.inr ⟨by omega, rfl⟩⟩)
  · refine sv_same (st2 := [sv_i 0]) (lv2 := [(0, sv_i v)]) rfl rfl ?_
    exact sv_zret C hr (by first | exact Or.inl rfl | exact Or.inr rfl | omega) (by decide +kernel) hok4 (by first | exact ⟨rfl, Or.inl ⟨by omega, rfl⟩⟩ | exact ⟨rfl, Or.inr ⟨by omega, rfl⟩⟩)

theorem cl_X11_336 : Cond.constantLong RX11 336 (19) ∈ lw_good := sv_mem 1452 (by decide +kernel) rfl
set_option maxHeartbeats 4000000 in
set_option maxRecDepth 100000 in
theorem ct_X11_isCorner (l : Launch) (g : sv_G) (A : Nat → Prop) (ty : Nat → Nat) (σ : Nat → Nat → Int) (hok : sv_ok ty σ) (v : Int) (hv : sv_in v) : sv_M l yX11_isCorner cX11_isCorner 1 (some .boolean) { frames := 1, cells := 0, slots := 0, locals := 25 } g A ty σ [sv_i v] (fun r σ' => σ = σ' ∧ sv_bo (0 ≤ v ∧ v ≤ 19) r) := by
  refine sv_enter (by decide) (Nat.le_of_ble_eq_true rfl) ?_
  intro p e s m args below meth c C hr
  have C : sv_C g A RX11 cX11_isCorner 1 p s m args meth c := C
  have hr : meth.sig.returnType = (some .boolean) := hr
  refine sv_same (st2 := []) (lv2 := [(0, sv_i v)]) rfl rfl ?_
  refine sv_go C.1 C.2.1 [(.iload_n 0, 1)] (pc' := 1) (by decide +kernel) rfl (lv' := [(0, sv_i v)]) (st' := [sv_i v]) rfl ?_
  refine sv_i2l C.1 C.2.1 (by decide +kernel) ⟨by omega, by omega⟩ ?_
  refine sv_go C.1 C.2.1 [(.lconst 0, 1)] (pc' := 3) (by decide +kernel) rfl (lv' := [(0, sv_i v)]) (st' := [sv_l 0, sv_l v]) rfl ?_
  refine sv_ldc2 C (index := 336) (z := 19) (by decide +kernel) cl_X11_336 (by decide) ?_
  refine sv_cs C (index := 9) (k := 3) (rest := []) (by decide +kernel) (ct_X11_in l g A ty σ hok (v) ⟨by omega, by omega⟩ (0) ⟨by omega, by omega⟩ (19) ⟨by omega, by omega⟩) ⟨co_X11_in, in_X11, ⟨by decide, by decide, by decide +kernel⟩, Nat.le_of_ble_eq_true rfl, Nat.le_of_ble_eq_true rfl⟩ ml_X11_9 st_X11_in rfl rfl (Nat.le_of_ble_eq_true rfl) ⟨Nat.zero_le _, Nat.zero_le _⟩ (fun r2 σ3 hpo1 hok4 => ?_)
  obtain ⟨rfl, ⟨h5, rfl⟩ | ⟨h5, rfl⟩⟩ := hpo1
  · refine sv_same (st2 := [sv_i 1]) (lv2 := [(0, sv_i v)]) rfl rfl ?_
    exact sv_zret C hr (by first | exact Or.inl rfl | exact Or.inr rfl | omega) (by decide +kernel) hok4 (by first | exact ⟨rfl, Or.inl ⟨by omega, rfl⟩⟩ | exact ⟨rfl, Or.inr ⟨by omega, rfl⟩⟩)
  · refine sv_same (st2 := [sv_i 0]) (lv2 := [(0, sv_i v)]) rfl rfl ?_
    exact sv_zret C hr (by first | exact Or.inl rfl | exact Or.inr rfl | omega) (by decide +kernel) hok4 (by first | exact ⟨rfl, Or.inl ⟨by omega, rfl⟩⟩ | exact ⟨rfl, Or.inr ⟨by omega, rfl⟩⟩)

theorem cl_X11_343 : Cond.constantLong RX11 343 (11) ∈ lw_good := sv_mem 1461 (by decide +kernel) rfl
set_option maxHeartbeats 4000000 in
set_option maxRecDepth 100000 in
theorem ct_X11_isWalk (l : Launch) (g : sv_G) (A : Nat → Prop) (ty : Nat → Nat) (σ : Nat → Nat → Int) (hok : sv_ok ty σ) (v : Int) (hv : sv_in v) : sv_M l yX11_isWalk cX11_isWalk 1 (some .boolean) { frames := 1, cells := 0, slots := 0, locals := 25 } g A ty σ [sv_i v] (fun r σ' => σ = σ' ∧ sv_bo (0 ≤ v ∧ v ≤ 11) r) := by
  refine sv_enter (by decide) (Nat.le_of_ble_eq_true rfl) ?_
  intro p e s m args below meth c C hr
  have C : sv_C g A RX11 cX11_isWalk 1 p s m args meth c := C
  have hr : meth.sig.returnType = (some .boolean) := hr
  refine sv_same (st2 := []) (lv2 := [(0, sv_i v)]) rfl rfl ?_
  refine sv_go C.1 C.2.1 [(.iload_n 0, 1)] (pc' := 1) (by decide +kernel) rfl (lv' := [(0, sv_i v)]) (st' := [sv_i v]) rfl ?_
  refine sv_i2l C.1 C.2.1 (by decide +kernel) ⟨by omega, by omega⟩ ?_
  refine sv_go C.1 C.2.1 [(.lconst 0, 1)] (pc' := 3) (by decide +kernel) rfl (lv' := [(0, sv_i v)]) (st' := [sv_l 0, sv_l v]) rfl ?_
  refine sv_ldc2 C (index := 343) (z := 11) (by decide +kernel) cl_X11_343 (by decide) ?_
  refine sv_cs C (index := 9) (k := 3) (rest := []) (by decide +kernel) (ct_X11_in l g A ty σ hok (v) ⟨by omega, by omega⟩ (0) ⟨by omega, by omega⟩ (11) ⟨by omega, by omega⟩) ⟨co_X11_in, in_X11, ⟨by decide, by decide, by decide +kernel⟩, Nat.le_of_ble_eq_true rfl, Nat.le_of_ble_eq_true rfl⟩ ml_X11_9 st_X11_in rfl rfl (Nat.le_of_ble_eq_true rfl) ⟨Nat.zero_le _, Nat.zero_le _⟩ (fun r2 σ3 hpo1 hok4 => ?_)
  obtain ⟨rfl, ⟨h5, rfl⟩ | ⟨h5, rfl⟩⟩ := hpo1
  · refine sv_same (st2 := [sv_i 1]) (lv2 := [(0, sv_i v)]) rfl rfl ?_
    exact sv_zret C hr (by first | exact Or.inl rfl | exact Or.inr rfl | omega) (by decide +kernel) hok4 (by first | exact ⟨rfl, Or.inl ⟨by omega, rfl⟩⟩ | exact ⟨rfl, Or.inr ⟨by omega, rfl⟩⟩)
  · refine sv_same (st2 := [sv_i 0]) (lv2 := [(0, sv_i v)]) rfl rfl ?_
    exact sv_zret C hr (by first | exact Or.inl rfl | exact Or.inr rfl | omega) (by decide +kernel) hok4 (by first | exact ⟨rfl, Or.inl ⟨by omega, rfl⟩⟩ | exact ⟨rfl, Or.inr ⟨by omega, rfl⟩⟩)

theorem ml_X11_277 : Cond.methodLink RX11 277 yX11_isPlace ∈ lw_good := sv_mem 1262 (by decide +kernel) rfl
theorem co_X11_isPlace : Cond.code yX11_isPlace cX11_isPlace 1 (some .boolean) ∈ lw_good := sv_mem 1264 (by decide +kernel) rfl
theorem st_X11_isPlace : Cond.static yX11_isPlace ∈ lw_good := sv_mem 1263 (by decide +kernel) rfl
theorem fl_X11_47 : Cond.fieldLink RX11 47 "SaintsRoadModel" "feasts" "[I" ∈ lw_good := sv_mem 1104 (by decide +kernel) rfl
set_option maxHeartbeats 4000000 in
set_option maxRecDepth 100000 in
theorem ct_X11_isFeast (l : Launch) (g : sv_G) (A : Nat → Prop) (ty : Nat → Nat) (σ : Nat → Nat → Int) (hok : sv_ok ty σ) (hI : sv_inv sp_1 ty σ) (a : Nat) (k_a : ty a = 10) (v1 : Int) (hv1 : sv_in v1) (v2 : Int) (hv2 : sv_in v2) : sv_M l yX11_isFeast cX11_isFeast 3 (some .boolean) { frames := 2, cells := 0, slots := 0, locals := 45 } g A ty σ [sv_r a, sv_i v1, sv_i v2] (fun r σ' => σ = σ' ∧ sv_bo False r) := by
  refine sv_enter (by decide) (Nat.le_of_ble_eq_true rfl) ?_
  intro p e s m args below meth c C hr
  have C : sv_C g A RX11 cX11_isFeast 3 p s m args meth c := C
  have hr : meth.sig.returnType = (some .boolean) := hr
  refine sv_same (st2 := []) (lv2 := [(0, sv_r a), (1, sv_i v1), (2, sv_i v2)]) rfl rfl ?_
  refine sv_go C.1 C.2.1 [(.iload_n 1, 1)] (pc' := 1) (by decide +kernel) rfl (lv' := [(0, sv_r a), (1, sv_i v1), (2, sv_i v2)]) (st' := [sv_i v1]) rfl ?_
  refine sv_cs C (index := 277) (k := 1) (rest := []) (by decide +kernel) (ct_X11_isPlace l g A ty σ hok (v1) ⟨by omega, by omega⟩) ⟨co_X11_isPlace, in_X11, ⟨by decide, by decide, by decide +kernel⟩, Nat.le_of_ble_eq_true rfl, Nat.le_of_ble_eq_true rfl⟩ ml_X11_277 st_X11_isPlace rfl rfl (Nat.le_of_ble_eq_true rfl) ⟨Nat.zero_le _, Nat.zero_le _⟩ (fun r2 σ3 hpo1 hok4 => ?_)
  obtain ⟨rfl, ⟨h5, rfl⟩ | ⟨h5, rfl⟩⟩ := hpo1
  · refine sv_same (st2 := [sv_i 1]) (lv2 := [(0, sv_r a), (1, sv_i v1), (2, sv_i v2)]) rfl rfl ?_
    refine sv_if_f C.1 C.2.1 (cnd := .eq) (off := 25) (tgt := 29) (by decide +kernel) (by decide) ⟨by omega, by omega⟩ (show ¬ (1 = 0) by omega) ?_
    refine sv_go C.1 C.2.1 [(.iload_n 2, 1)] (pc' := 8) (by decide +kernel) rfl (lv' := [(0, sv_r a), (1, sv_i v1), (2, sv_i v2)]) (st' := [sv_i v2]) rfl ?_
    refine sv_i2l C.1 C.2.1 (by decide +kernel) ⟨by omega, by omega⟩ ?_
    refine sv_go C.1 C.2.1 [(.lconst 0, 1), (.aload_n 0, 1)] (pc' := 11) (by decide +kernel) rfl (lv' := [(0, sv_r a), (1, sv_i v1), (2, sv_i v2)]) (st' := [sv_r a, sv_l 0, sv_l v2]) rfl ?_
    obtain ⟨q6, eq6, kq6⟩ := hI.ref (k := 0) k_a rfl
    refine sv_gf C (index := 47) (ci := 10) (k := 0) (r := (RX11, TX11, 47)) (v := sv_r q6) (by decide +kernel) (by rw [k_a]; rfl) rfl (by decide) fl_X11_47 (congrArg sv_a eq6) ?_
    refine sv_go C.1 C.2.1 [(.iload_n 1, 1)] (pc' := 15) (by decide +kernel) rfl (lv' := [(0, sv_r a), (1, sv_i v1), (2, sv_i v2)]) (st' := [sv_i v1, sv_r q6, sv_l 0, sv_l v2]) rfl ?_
    refine sv_ia C (n := 5) (by decide +kernel) (by rw [kq6]; rfl) (by decide) (by omega) (by omega) ?_
    have w7 : σ q6 v1.toNat = 0 := by have q := hI.num (k := (v1 : Int).toNat) kq6 rfl; omega
    rw [w7]
    refine sv_i2l C.1 C.2.1 (by decide +kernel) ⟨by omega, by omega⟩ ?_
    refine sv_go C.1 C.2.1 [(.lconst 1, 1), (.lsub, 1)] (pc' := 19) (by decide +kernel) rfl (lv' := [(0, sv_r a), (1, sv_i v1), (2, sv_i v2)]) (st' := [sv_l (0 - 1), sv_l 0, sv_l v2]) rfl ?_
    refine sv_cs C (index := 9) (k := 3) (rest := []) (by decide +kernel) (ct_X11_in l g A ty σ hok4 (v2) ⟨by omega, by omega⟩ (0) ⟨by omega, by omega⟩ (0 - 1) ⟨by omega, by omega⟩) ⟨co_X11_in, in_X11, ⟨by decide, by decide, by decide +kernel⟩, Nat.le_of_ble_eq_true rfl, Nat.le_of_ble_eq_true rfl⟩ ml_X11_9 st_X11_in rfl rfl (Nat.le_of_ble_eq_true rfl) ⟨Nat.zero_le _, Nat.zero_le _⟩ (fun r9 σ10 hpo8 hok11 => ?_)
    obtain ⟨rfl, ⟨h12, rfl⟩ | ⟨h12, rfl⟩⟩ := hpo8
    · refine sv_same (st2 := [sv_i 1]) (lv2 := [(0, sv_r a), (1, sv_i v1), (2, sv_i v2)]) rfl rfl ?_
      refine sv_if_f C.1 C.2.1 (cnd := .eq) (off := 7) (tgt := 29) (by decide +kernel) (by decide) ⟨by omega, by omega⟩ (show ¬ (1 = 0) by omega) ?_
      refine sv_go C.1 C.2.1 [(.iconst 1, 1)] (pc' := 26) (by decide +kernel) rfl (lv' := [(0, sv_r a), (1, sv_i v1), (2, sv_i v2)]) (st' := [sv_i 1]) rfl ?_
      refine sv_goto C.1 C.2.1 (off := 4) (tgt := 30) (by decide +kernel) (by decide) ?_
      exact sv_zret C hr (by first | exact Or.inl rfl | exact Or.inr rfl | omega) (by decide +kernel) hok11 (⟨rfl, Or.inl ⟨by omega, rfl⟩⟩)
    · refine sv_same (st2 := [sv_i 0]) (lv2 := [(0, sv_r a), (1, sv_i v1), (2, sv_i v2)]) rfl rfl ?_
      refine sv_if_t C.1 C.2.1 (cnd := .eq) (off := 7) (tgt := 29) (by decide +kernel) (by decide) ⟨by omega, by omega⟩ (show 0 = 0 by omega) ?_
      refine sv_go C.1 C.2.1 [(.iconst 0, 1)] (pc' := 30) (by decide +kernel) rfl (lv' := [(0, sv_r a), (1, sv_i v1), (2, sv_i v2)]) (st' := [sv_i 0]) rfl ?_
      exact sv_zret C hr (by first | exact Or.inl rfl | exact Or.inr rfl | omega) (by decide +kernel) hok11 (⟨rfl, Or.inr ⟨id, rfl⟩⟩)
  · refine sv_same (st2 := [sv_i 0]) (lv2 := [(0, sv_r a), (1, sv_i v1), (2, sv_i v2)]) rfl rfl ?_
    refine sv_if_t C.1 C.2.1 (cnd := .eq) (off := 25) (tgt := 29) (by decide +kernel) (by decide) ⟨by omega, by omega⟩ (show 0 = 0 by omega) ?_
    refine sv_go C.1 C.2.1 [(.iconst 0, 1)] (pc' := 30) (by decide +kernel) rfl (lv' := [(0, sv_r a), (1, sv_i v1), (2, sv_i v2)]) (st' := [sv_i 0]) rfl ?_
    exact sv_zret C hr (by first | exact Or.inl rfl | exact Or.inr rfl | omega) (by decide +kernel) hok4 (⟨rfl, Or.inr ⟨id, rfl⟩⟩)

theorem ml_X11_37 : Cond.methodLink RX11 37 yX11_isDay ∈ lw_good := sv_mem 1032 (by decide +kernel) rfl
theorem co_X11_isDay : Cond.code yX11_isDay cX11_isDay 2 (some .boolean) ∈ lw_good := sv_mem 1034 (by decide +kernel) rfl
theorem st_X11_isDay : Cond.static yX11_isDay ∈ lw_good := sv_mem 1033 (by decide +kernel) rfl
set_option maxHeartbeats 4000000 in
set_option maxRecDepth 100000 in
theorem ct_X11_isPlaced (l : Launch) (g : sv_G) (A : Nat → Prop) (ty : Nat → Nat) (σ : Nat → Nat → Int) (hok : sv_ok ty σ) (v1 : Int) (hv1 : sv_in v1) (y : Int) (hy : sv_in y) (d : Int) (hd : sv_in d) (a : Nat) : sv_M l yX11_isPlaced cX11_isPlaced 4 (some .boolean) { frames := 3, cells := 0, slots := 0, locals := 66 } g A ty σ [sv_r a, sv_i v1, sv_i y, sv_i d] (fun r σ' => σ = σ' ∧ sv_bo ((0 ≤ v1 ∧ v1 ≤ 3) ∧ (1 ≤ y ∧ y ≤ 2000) ∧ 0 ≤ d ∧ d < 365 + dy_lp y) r) := by
  refine sv_enter (by decide) (Nat.le_of_ble_eq_true rfl) ?_
  intro p e s m args below meth c C hr
  have C : sv_C g A RX11 cX11_isPlaced 4 p s m args meth c := C
  have hr : meth.sig.returnType = (some .boolean) := hr
  refine sv_same (st2 := []) (lv2 := [(0, sv_r a), (1, sv_i v1), (2, sv_i y), (3, sv_i d)]) rfl rfl ?_
  refine sv_go C.1 C.2.1 [(.iload_n 1, 1)] (pc' := 1) (by decide +kernel) rfl (lv' := [(0, sv_r a), (1, sv_i v1), (2, sv_i y), (3, sv_i d)]) (st' := [sv_i v1]) rfl ?_
  refine sv_cs C (index := 277) (k := 1) (rest := []) (by decide +kernel) (ct_X11_isPlace l g A ty σ hok (v1) ⟨by omega, by omega⟩) ⟨co_X11_isPlace, in_X11, ⟨by decide, by decide, by decide +kernel⟩, Nat.le_of_ble_eq_true rfl, Nat.le_of_ble_eq_true rfl⟩ ml_X11_277 st_X11_isPlace rfl rfl (Nat.le_of_ble_eq_true rfl) ⟨Nat.zero_le _, Nat.zero_le _⟩ (fun r2 σ3 hpo1 hok4 => ?_)
  obtain ⟨rfl, ⟨h5, rfl⟩ | ⟨h5, rfl⟩⟩ := hpo1
  · refine sv_same (st2 := [sv_i 1]) (lv2 := [(0, sv_r a), (1, sv_i v1), (2, sv_i y), (3, sv_i d)]) rfl rfl ?_
    refine sv_if_f C.1 C.2.1 (cnd := .eq) (off := 15) (tgt := 19) (by decide +kernel) (by decide) ⟨by omega, by omega⟩ (show ¬ (1 = 0) by omega) ?_
    refine sv_go C.1 C.2.1 [(.iload_n 2, 1), (.iload_n 3, 1)] (pc' := 9) (by decide +kernel) rfl (lv' := [(0, sv_r a), (1, sv_i v1), (2, sv_i y), (3, sv_i d)]) (st' := [sv_i d, sv_i y]) rfl ?_
    refine sv_cs C (index := 37) (k := 2) (rest := []) (by decide +kernel) (ct_X11_isDay l g A ty σ hok4 (y) ⟨by omega, by omega⟩ (d) ⟨by omega, by omega⟩) ⟨co_X11_isDay, in_X11, ⟨by decide, by decide, by decide +kernel⟩, Nat.le_of_ble_eq_true rfl, Nat.le_of_ble_eq_true rfl⟩ ml_X11_37 st_X11_isDay rfl rfl (Nat.le_of_ble_eq_true rfl) ⟨Nat.zero_le _, Nat.zero_le _⟩ (fun r7 σ8 hpo6 hok9 => ?_)
    obtain ⟨rfl, ⟨h10, rfl⟩ | ⟨h10, rfl⟩⟩ := hpo6
    · refine sv_same (st2 := [sv_i 1]) (lv2 := [(0, sv_r a), (1, sv_i v1), (2, sv_i y), (3, sv_i d)]) rfl rfl ?_
      refine sv_if_f C.1 C.2.1 (cnd := .eq) (off := 7) (tgt := 19) (by decide +kernel) (by decide) ⟨by omega, by omega⟩ (show ¬ (1 = 0) by omega) ?_
      refine sv_go C.1 C.2.1 [(.iconst 1, 1)] (pc' := 16) (by decide +kernel) rfl (lv' := [(0, sv_r a), (1, sv_i v1), (2, sv_i y), (3, sv_i d)]) (st' := [sv_i 1]) rfl ?_
      refine sv_goto C.1 C.2.1 (off := 4) (tgt := 20) (by decide +kernel) (by decide) ?_
      exact sv_zret C hr (by first | exact Or.inl rfl | exact Or.inr rfl | omega) (by decide +kernel) hok9 (by first | exact ⟨rfl, Or.inl ⟨by omega, rfl⟩⟩ | exact ⟨rfl, Or.inr ⟨by omega, rfl⟩⟩)
    · refine sv_same (st2 := [sv_i 0]) (lv2 := [(0, sv_r a), (1, sv_i v1), (2, sv_i y), (3, sv_i d)]) rfl rfl ?_
      refine sv_if_t C.1 C.2.1 (cnd := .eq) (off := 7) (tgt := 19) (by decide +kernel) (by decide) ⟨by omega, by omega⟩ (show 0 = 0 by omega) ?_
      refine sv_go C.1 C.2.1 [(.iconst 0, 1)] (pc' := 20) (by decide +kernel) rfl (lv' := [(0, sv_r a), (1, sv_i v1), (2, sv_i y), (3, sv_i d)]) (st' := [sv_i 0]) rfl ?_
      exact sv_zret C hr (by first | exact Or.inl rfl | exact Or.inr rfl | omega) (by decide +kernel) hok9 (by first | exact ⟨rfl, Or.inl ⟨by omega, rfl⟩⟩ | exact ⟨rfl, Or.inr ⟨by omega, rfl⟩⟩)
  · refine sv_same (st2 := [sv_i 0]) (lv2 := [(0, sv_r a), (1, sv_i v1), (2, sv_i y), (3, sv_i d)]) rfl rfl ?_
    refine sv_if_t C.1 C.2.1 (cnd := .eq) (off := 15) (tgt := 19) (by decide +kernel) (by decide) ⟨by omega, by omega⟩ (show 0 = 0 by omega) ?_
    refine sv_go C.1 C.2.1 [(.iconst 0, 1)] (pc' := 20) (by decide +kernel) rfl (lv' := [(0, sv_r a), (1, sv_i v1), (2, sv_i y), (3, sv_i d)]) (st' := [sv_i 0]) rfl ?_
    exact sv_zret C hr (by first | exact Or.inl rfl | exact Or.inr rfl | omega) (by decide +kernel) hok4 (by first | exact ⟨rfl, Or.inl ⟨by omega, rfl⟩⟩ | exact ⟨rfl, Or.inr ⟨by omega, rfl⟩⟩)

theorem fl_X11_102 : Cond.fieldLink RX11 102 "SaintsRoadModel" "tape" "[B" ∈ lw_good := sv_mem 1120 (by decide +kernel) rfl
theorem fl_X11_269 : Cond.fieldLink RX11 269 "SaintsRoadModel" "taped" "I" ∈ lw_good := sv_mem 1121 (by decide +kernel) rfl
set_option maxHeartbeats 4000000 in
set_option maxRecDepth 100000 in
theorem ct_X11_lay (l : Launch) (g : sv_G) (A : Nat → Prop) (ty : Nat → Nat) (σ : Nat → Nat → Int) (hok : sv_ok ty σ) (hTA : ∀ q, ty q ≠ 0 → A q) (hI : sv_inv sp_1 ty σ) (a : Nat) (k_a : ty a = 10) (four : Int) (h4 : sv_in four) (hL : 0 ≤ σ a 17 ∧ σ a 17 + 4 ≤ 4000) : sv_M l yX11_lay cX11_lay 3 none { frames := 0, cells := 0, slots := 0, locals := 0 } g A ty σ [sv_r a, sv_i four] (fun r σ' => r = [] ∧ sv_inv sp_1 ty σ' ∧ sv_off [10, 76] ty σ σ' ∧ σ' a 17 = σ a 17 + 4) := by
  refine sv_enter (by decide) (Nat.le_of_ble_eq_true rfl) ?_
  intro p e s m args below meth c C hr
  have C : sv_C g A RX11 cX11_lay 3 p s m args meth c := C
  have hr : meth.sig.returnType = none := hr
  have hF : sv_off [10, 76] ty σ σ := sv_off.rf
  refine sv_same (st2 := []) (lv2 := [(0, sv_r a), (1, sv_i four)]) rfl rfl ?_
  refine sv_go C.1 C.2.1 [(.bipush 24, 2), (.istore_n 2, 1)] (pc' := 3) (by decide +kernel) rfl (lv' := [(0, sv_r a), (1, sv_i four), (2, sv_i 24)]) (st' := []) rfl ?_
  have L1 : ∀ (n : Nat) (X : Int) (σ1 : Nat → Nat → Int), (sv_ok ty σ1) → (sv_inv sp_1 ty σ1) → (sv_off [10, 76] ty σ σ1) → (-8 ≤ X ∧ X ≤ 24 ∧ X % 8 = 0) → (σ1 a 17 = σ a 17 + (24 - X) / 8) → (X + 8) < (n : Int) → sv_E p l e { frames := 0, cells := 0, slots := 0, locals := 0 } s m args below meth c 3 g A ty (fun r σ' => r = [] ∧ sv_inv sp_1 ty σ' ∧ sv_off [10, 76] ty σ σ' ∧ σ' a 17 = σ a 17 + 4) σ1 3 [(0, sv_r a), (1, sv_i four), (2, sv_i X)] [] := by
    intro n
    induction n with
    | zero => intro X σ1 hok1 hI1 hF1 hX hT hmu; exact absurd hmu (by omega)
    | succ n ih2 =>
      intro X σ1 hok1 hI1 hF1 hX hT hmu
      refine sv_go C.1 C.2.1 [(.iload_n 2, 1)] (pc' := 4) (by decide +kernel) rfl (lv' := [(0, sv_r a), (1, sv_i four), (2, sv_i X)]) (st' := [sv_i X]) rfl ?_
      refine sv_if C.1 C.2.1 (cnd := .lt) (off := 32) (tgt := 36) (by decide +kernel) (by decide) ⟨by omega, by omega⟩ (fun (h3 : X < 0) => ?_) (fun (h3 : ¬ (X < 0)) => ?_)
      · exact sv_vret C hr (by decide +kernel) hok1 (⟨rfl, hI1, hF1, by rw [hT]; omega⟩)
      · refine sv_go C.1 C.2.1 [(.aload_n 0, 1)] (pc' := 8) (by decide +kernel) rfl (lv' := [(0, sv_r a), (1, sv_i four), (2, sv_i X)]) (st' := [sv_r a]) rfl ?_
        obtain ⟨q4, eq4, kq4⟩ := hI1.ref (k := 16) k_a rfl
        refine sv_gf C (index := 102) (ci := 10) (k := 16) (r := (RX11, TX11, 47)) (v := sv_r q4) (by decide +kernel) (by rw [k_a]; rfl) rfl (by decide) fl_X11_102 (congrArg sv_a eq4) ?_
        refine sv_go C.1 C.2.1 [(.aload_n 0, 1)] (pc' := 12) (by decide +kernel) rfl (lv' := [(0, sv_r a), (1, sv_i four), (2, sv_i X)]) (st' := [sv_r a, sv_r q4]) rfl ?_
        refine sv_gf C (index := 269) (ci := 10) (k := 17) (r := (RX11, TX11, 47)) (v := sv_i (σ a 17 + (24 - X) / 8)) (by decide +kernel) (by rw [k_a]; rfl) rfl (by decide) fl_X11_269 (congrArg sv_i hT) ?_
        refine sv_go C.1 C.2.1 [(.iload_n 1, 1), (.iload_n 2, 1), (.ishr, 1), (.i2b, 1)] (pc' := 19) (by decide +kernel) rfl (lv' := [(0, sv_r a), (1, sv_i four), (2, sv_i X)]) (st' := [sv_i ((Int32.ofInt ((Int32.ofInt four >>> (Int32.ofInt X &&& 31)).toInt)).toInt8.toInt32.toInt), sv_i (σ a 17 + (24 - X) / 8), sv_r q4]) rfl ?_
        have hby := sv_by (Int32.ofInt ((Int32.ofInt four >>> (Int32.ofInt X &&& 31)).toInt))
        refine sv_bs C (n := 4000) (by decide +kernel) (by rw [kq4]; rfl) (by decide) (by omega) (by omega) ⟨by omega, by omega⟩ (hTA _ (by rw [kq4]; decide)) hok1 (fun hok5 => ?_)
        have hI7 := hI1.up (a := q4) (k := (σ a 17 + (24 - X) / 8 : Int).toNat) (z := (Int32.ofInt ((Int32.ofInt four >>> (Int32.ofInt X &&& 31)).toInt)).toInt8.toInt32.toInt) (by rw [kq4]; exact trivial)
        have hF8 := hF1.up (a := q4) (k := (σ a 17 + (24 - X) / 8 : Int).toNat) (z := (Int32.ofInt ((Int32.ofInt four >>> (Int32.ofInt X &&& 31)).toInt)).toInt8.toInt32.toInt) (by rw [kq4]; decide)
        generalize eσ6 : sv_up σ1 q4 (σ a 17 + (24 - X) / 8 : Int).toNat ((Int32.ofInt ((Int32.ofInt four >>> (Int32.ofInt X &&& 31)).toInt)).toInt8.toInt32.toInt) = σ6 at hok5 hI7 hF8 ⊢
        have t9 : σ6 a 17 = σ a 17 + (24 - X) / 8 := by rw [← eσ6, sv_up_a (sv_ne k_a kq4 (by decide))]; exact hT
        have t10 : σ6 a 16 = (q4 : Int) + 1 := by rw [← eσ6, sv_up_a (sv_ne k_a kq4 (by decide))]; exact eq4
        refine sv_go C.1 C.2.1 [(.aload_n 0, 1), (.dup, 1)] (pc' := 22) (by decide +kernel) rfl (lv' := [(0, sv_r a), (1, sv_i four), (2, sv_i X)]) (st' := [sv_r a, sv_r a]) rfl ?_
        refine sv_gf C (index := 269) (ci := 10) (k := 17) (r := (RX11, TX11, 47)) (v := sv_i (σ a 17 + (24 - X) / 8)) (by decide +kernel) (by rw [k_a]; rfl) rfl (by decide) fl_X11_269 (congrArg sv_i t9) ?_
        refine sv_go C.1 C.2.1 [(.iconst 1, 1), (.iadd, 1)] (pc' := 27) (by decide +kernel) rfl (lv' := [(0, sv_r a), (1, sv_i four), (2, sv_i X)]) (st' := [sv_i ((σ a 17 + (24 - X) / 8) + 1), sv_r a]) rfl ?_
        refine sv_pf C (index := 269) (ci := 10) (k := 17) (r := (RX11, TX11, 47)) (z := (σ a 17 + (24 - X) / 8) + 1) (by decide +kernel) (by rw [k_a]; rfl) rfl (by decide) rfl fl_X11_269 rfl (Or.inl rfl) ⟨by omega, by omega⟩ (hTA _ (by rw [k_a]; decide)) hok5 (fun hok11 => ?_)
        have hI13 := hI7.up (a := a) (k := 17) (z := (σ a 17 + (24 - X) / 8) + 1) (by rw [k_a]; exact trivial)
        have hF14 := hF8.up (a := a) (k := 17) (z := (σ a 17 + (24 - X) / 8) + 1) (by rw [k_a]; decide)
        generalize eσ12 : sv_up σ6 a 17 ((σ a 17 + (24 - X) / 8) + 1) = σ12 at hok11 hI13 hF14 ⊢
        have t15 : σ12 a 16 = (q4 : Int) + 1 := by rw [← eσ12, sv_up_k (by decide)]; exact t10
        have t16 : σ12 a 17 = (σ a 17 + (24 - X) / 8) + 1 := by rw [← eσ12]; exact sv_up_s _ _ _ _
        refine sv_go C.1 C.2.1 [(.iinc 2 (-8), 3)] (pc' := 33) (by decide +kernel) rfl (lv' := [(0, sv_r a), (1, sv_i four), (2, sv_i (X + (-8)))]) (st' := []) rfl ?_
        refine sv_goto C.1 C.2.1 (off := (-30)) (tgt := 3) (by decide +kernel) (by decide) ?_
        exact ih2 (X + (-8)) σ12 hok11 hI13 hF14 (by omega) (by rw [t16]; omega) (by omega)
  exact L1 (((24 + 8 : Int)).toNat + 1) 24 σ hok hI hF (by omega) (by omega) (by omega)

theorem ml_X11_272 : Cond.methodLink RX11 272 yX11_lay ∈ lw_good := sv_mem 1250 (by decide +kernel) rfl
theorem co_X11_lay : Cond.code yX11_lay cX11_lay 3 none ∈ lw_good := sv_mem 1253 (by decide +kernel) rfl
theorem im_X11_lay : Cond.instanceMethod yX11_lay ∈ lw_good := sv_mem 1252 (by decide +kernel) rfl
theorem se_X11_lay : Cond.selects RX11 yX11_lay yX11_lay ∈ lw_good := sv_mem 43 (by decide +kernel) rfl
set_option maxHeartbeats 4000000 in
set_option maxRecDepth 100000 in
theorem ct_X11_feed (l : Launch) (g : sv_G) (A : Nat → Prop) (ty : Nat → Nat) (σ : Nat → Nat → Int) (hok : sv_ok ty σ) (hTA : ∀ q, ty q ≠ 0 → A q) (hI : sv_inv sp_1 ty σ) (hZ : sv_inv sp_0 ty σ) (a : Nat) (k_a : ty a = 10) (a1 : Int) (ha1 : sv_in a1) (a2 : Int) (ha2 : sv_in a2) (a3 : Int) (ha3 : sv_in a3) (a4 : Int) (ha4 : sv_in a4) (a5 : Int) (ha5 : sv_in a5) : sv_M l yX11_feed cX11_feed 6 (some .int) { frames := 1, cells := 0, slots := 0, locals := 22 } g A ty σ [sv_r a, sv_i a1, sv_i a2, sv_i a3, sv_i a4, sv_i a5] (fun r σ' => r = [sv_i (20)] ∧ sv_off [10, 76] ty σ σ') := by
  refine sv_enter (by decide) (Nat.le_of_ble_eq_true rfl) ?_
  intro p e s m args below meth c C hr
  have C : sv_C g A RX11 cX11_feed 6 p s m args meth c := C
  have hr : meth.sig.returnType = (some .int) := hr
  have hF : sv_off [10, 76] ty σ σ := sv_off.rf
  refine sv_same (st2 := []) (lv2 := [(0, sv_r a), (1, sv_i a1), (2, sv_i a2), (3, sv_i a3), (4, sv_i a4), (5, sv_i a5)]) rfl rfl ?_
  refine sv_go C.1 C.2.1 [(.aload_n 0, 1)] (pc' := 1) (by decide +kernel) rfl (lv' := [(0, sv_r a), (1, sv_i a1), (2, sv_i a2), (3, sv_i a3), (4, sv_i a4), (5, sv_i a5)]) (st' := [sv_r a]) rfl ?_
  have t1 : σ a 17 = 0 := by have q := hZ.num (k := 17) k_a rfl; omega
  refine sv_gf C (index := 269) (ci := 10) (k := 17) (r := (RX11, TX11, 47)) (v := sv_i 0) (by decide +kernel) (by rw [k_a]; rfl) rfl (by decide) fl_X11_269 (congrArg sv_i t1) ?_
  refine sv_go C.1 C.2.1 [(.bipush 20, 2), (.iadd, 1), (.sipush 4000, 3)] (pc' := 10) (by decide +kernel) rfl (lv' := [(0, sv_r a), (1, sv_i a1), (2, sv_i a2), (3, sv_i a3), (4, sv_i a4), (5, sv_i a5)]) (st' := [sv_i 4000, sv_i (0 + 20)]) rfl ?_
  refine sv_icmp_t C.1 C.2.1 (cnd := .le) (off := 6) (tgt := 16) (by decide +kernel) (by decide) ⟨by omega, by omega⟩ ⟨by omega, by omega⟩ (show (0 + 20) ≤ 4000 by omega) ?_
  refine sv_go C.1 C.2.1 [(.aload_n 0, 1), (.iload_n 1, 1)] (pc' := 18) (by decide +kernel) rfl (lv' := [(0, sv_r a), (1, sv_i a1), (2, sv_i a2), (3, sv_i a3), (4, sv_i a4), (5, sv_i a5)]) (st' := [sv_i a1, sv_r a]) rfl ?_
  refine sv_cv C (index := 272) (k := 1) (rest := []) (ci := 10) (r := (RX11, TX11, 47)) (by decide +kernel) (ct_X11_lay l g A ty σ hok hTA hI a k_a (a1) ⟨by omega, by omega⟩ (by rw [t1]; omega)) ⟨co_X11_lay, in_X11, ⟨by decide, by decide, by decide +kernel⟩, Nat.le_of_ble_eq_true rfl, Nat.le_of_ble_eq_true rfl⟩ ml_X11_272 im_X11_lay se_X11_lay (by rw [k_a]; rfl) rfl rfl rfl (Nat.le_of_ble_eq_true rfl) ⟨Nat.zero_le _, Nat.zero_le _⟩ (fun r3 σ4 hpo2 hok5 => ?_)
  obtain ⟨rfl, hIu6, hFu6, xu6⟩ := hpo2
  have hGu6 := hF.tr hFu6 (by decide)
  have t7 : σ4 a 17 = 0 + 4 := by rw [xu6, t1]
  refine sv_same (st2 := []) (lv2 := [(0, sv_r a), (1, sv_i a1), (2, sv_i a2), (3, sv_i a3), (4, sv_i a4), (5, sv_i a5)]) rfl rfl ?_
  refine sv_go C.1 C.2.1 [(.aload_n 0, 1), (.iload_n 2, 1)] (pc' := 23) (by decide +kernel) rfl (lv' := [(0, sv_r a), (1, sv_i a1), (2, sv_i a2), (3, sv_i a3), (4, sv_i a4), (5, sv_i a5)]) (st' := [sv_i a2, sv_r a]) rfl ?_
  refine sv_cv C (index := 272) (k := 1) (rest := []) (ci := 10) (r := (RX11, TX11, 47)) (by decide +kernel) (ct_X11_lay l g A ty σ4 hok5 hTA hIu6 a k_a (a2) ⟨by omega, by omega⟩ (by rw [t7]; omega)) ⟨co_X11_lay, in_X11, ⟨by decide, by decide, by decide +kernel⟩, Nat.le_of_ble_eq_true rfl, Nat.le_of_ble_eq_true rfl⟩ ml_X11_272 im_X11_lay se_X11_lay (by rw [k_a]; rfl) rfl rfl rfl (Nat.le_of_ble_eq_true rfl) ⟨Nat.zero_le _, Nat.zero_le _⟩ (fun r9 σ10 hpo8 hok11 => ?_)
  obtain ⟨rfl, hIu12, hFu12, xu12⟩ := hpo8
  have hGu12 := hGu6.tr hFu12 (by decide)
  have t13 : σ10 a 17 = 0 + 4 + 4 := by rw [xu12, t7]
  refine sv_same (st2 := []) (lv2 := [(0, sv_r a), (1, sv_i a1), (2, sv_i a2), (3, sv_i a3), (4, sv_i a4), (5, sv_i a5)]) rfl rfl ?_
  refine sv_go C.1 C.2.1 [(.aload_n 0, 1), (.iload_n 3, 1)] (pc' := 28) (by decide +kernel) rfl (lv' := [(0, sv_r a), (1, sv_i a1), (2, sv_i a2), (3, sv_i a3), (4, sv_i a4), (5, sv_i a5)]) (st' := [sv_i a3, sv_r a]) rfl ?_
  refine sv_cv C (index := 272) (k := 1) (rest := []) (ci := 10) (r := (RX11, TX11, 47)) (by decide +kernel) (ct_X11_lay l g A ty σ10 hok11 hTA hIu12 a k_a (a3) ⟨by omega, by omega⟩ (by rw [t13]; omega)) ⟨co_X11_lay, in_X11, ⟨by decide, by decide, by decide +kernel⟩, Nat.le_of_ble_eq_true rfl, Nat.le_of_ble_eq_true rfl⟩ ml_X11_272 im_X11_lay se_X11_lay (by rw [k_a]; rfl) rfl rfl rfl (Nat.le_of_ble_eq_true rfl) ⟨Nat.zero_le _, Nat.zero_le _⟩ (fun r15 σ16 hpo14 hok17 => ?_)
  obtain ⟨rfl, hIu18, hFu18, xu18⟩ := hpo14
  have hGu18 := hGu12.tr hFu18 (by decide)
  have t19 : σ16 a 17 = 0 + 4 + 4 + 4 := by rw [xu18, t13]
  refine sv_same (st2 := []) (lv2 := [(0, sv_r a), (1, sv_i a1), (2, sv_i a2), (3, sv_i a3), (4, sv_i a4), (5, sv_i a5)]) rfl rfl ?_
  refine sv_go C.1 C.2.1 [(.aload_n 0, 1), (.iload 4, 2)] (pc' := 34) (by decide +kernel) rfl (lv' := [(0, sv_r a), (1, sv_i a1), (2, sv_i a2), (3, sv_i a3), (4, sv_i a4), (5, sv_i a5)]) (st' := [sv_i a4, sv_r a]) rfl ?_
  refine sv_cv C (index := 272) (k := 1) (rest := []) (ci := 10) (r := (RX11, TX11, 47)) (by decide +kernel) (ct_X11_lay l g A ty σ16 hok17 hTA hIu18 a k_a (a4) ⟨by omega, by omega⟩ (by rw [t19]; omega)) ⟨co_X11_lay, in_X11, ⟨by decide, by decide, by decide +kernel⟩, Nat.le_of_ble_eq_true rfl, Nat.le_of_ble_eq_true rfl⟩ ml_X11_272 im_X11_lay se_X11_lay (by rw [k_a]; rfl) rfl rfl rfl (Nat.le_of_ble_eq_true rfl) ⟨Nat.zero_le _, Nat.zero_le _⟩ (fun r21 σ22 hpo20 hok23 => ?_)
  obtain ⟨rfl, hIu24, hFu24, xu24⟩ := hpo20
  have hGu24 := hGu18.tr hFu24 (by decide)
  have t25 : σ22 a 17 = 0 + 4 + 4 + 4 + 4 := by rw [xu24, t19]
  refine sv_same (st2 := []) (lv2 := [(0, sv_r a), (1, sv_i a1), (2, sv_i a2), (3, sv_i a3), (4, sv_i a4), (5, sv_i a5)]) rfl rfl ?_
  refine sv_go C.1 C.2.1 [(.aload_n 0, 1), (.iload 5, 2)] (pc' := 40) (by decide +kernel) rfl (lv' := [(0, sv_r a), (1, sv_i a1), (2, sv_i a2), (3, sv_i a3), (4, sv_i a4), (5, sv_i a5)]) (st' := [sv_i a5, sv_r a]) rfl ?_
  refine sv_cv C (index := 272) (k := 1) (rest := []) (ci := 10) (r := (RX11, TX11, 47)) (by decide +kernel) (ct_X11_lay l g A ty σ22 hok23 hTA hIu24 a k_a (a5) ⟨by omega, by omega⟩ (by rw [t25]; omega)) ⟨co_X11_lay, in_X11, ⟨by decide, by decide, by decide +kernel⟩, Nat.le_of_ble_eq_true rfl, Nat.le_of_ble_eq_true rfl⟩ ml_X11_272 im_X11_lay se_X11_lay (by rw [k_a]; rfl) rfl rfl rfl (Nat.le_of_ble_eq_true rfl) ⟨Nat.zero_le _, Nat.zero_le _⟩ (fun r27 σ28 hpo26 hok29 => ?_)
  obtain ⟨rfl, hIu30, hFu30, xu30⟩ := hpo26
  have hGu30 := hGu24.tr hFu30 (by decide)
  have t31 : σ28 a 17 = 0 + 4 + 4 + 4 + 4 + 4 := by rw [xu30, t25]
  refine sv_same (st2 := []) (lv2 := [(0, sv_r a), (1, sv_i a1), (2, sv_i a2), (3, sv_i a3), (4, sv_i a4), (5, sv_i a5)]) rfl rfl ?_
  refine sv_go C.1 C.2.1 [(.aload_n 0, 1)] (pc' := 44) (by decide +kernel) rfl (lv' := [(0, sv_r a), (1, sv_i a1), (2, sv_i a2), (3, sv_i a3), (4, sv_i a4), (5, sv_i a5)]) (st' := [sv_r a]) rfl ?_
  refine sv_gf C (index := 269) (ci := 10) (k := 17) (r := (RX11, TX11, 47)) (v := sv_i (0 + 4 + 4 + 4 + 4 + 4)) (by decide +kernel) (by rw [k_a]; rfl) rfl (by decide) fl_X11_269 (congrArg sv_i t31) ?_
  exact sv_iret C hr (by decide +kernel) hok29 (⟨congrArg (fun q => [sv_i q]) (by first | omega | (unfold fx_20; omega)), hGu30⟩)

set_option maxHeartbeats 4000000 in
set_option maxRecDepth 100000 in
theorem ct_X11_end (l : Launch) (g : sv_G) (A : Nat → Prop) (ty : Nat → Nat) (σ : Nat → Nat → Int) (hok : sv_ok ty σ) (hTA : ∀ q, ty q ≠ 0 → A q) (hI : sv_inv sp_1 ty σ) (hZ : sv_inv sp_0 ty σ) (a : Nat) (k_a : ty a = 10) (n1 : Int) (hn1 : sv_in n1) : sv_M l yX11_end cX11_end 2 (some .int) { frames := 1, cells := 0, slots := 0, locals := 25 } g A ty σ [sv_r a, sv_i n1] (fun r σ' => r = [sv_i (fx_end n1)] ∧ sv_off [10] ty σ σ') := by
  refine sv_enter (by decide) (Nat.le_of_ble_eq_true rfl) ?_
  intro p e s m args below meth c C hr
  have C : sv_C g A RX11 cX11_end 2 p s m args meth c := C
  have hr : meth.sig.returnType = (some .int) := hr
  have hF : sv_off [10] ty σ σ := sv_off.rf
  refine sv_same (st2 := []) (lv2 := [(0, sv_r a), (1, sv_i n1)]) rfl rfl ?_
  refine sv_go C.1 C.2.1 [(.iload_n 1, 1)] (pc' := 1) (by decide +kernel) rfl (lv' := [(0, sv_r a), (1, sv_i n1)]) (st' := [sv_i n1]) rfl ?_
  refine sv_i2l C.1 C.2.1 (by decide +kernel) ⟨by omega, by omega⟩ ?_
  refine sv_go C.1 C.2.1 [(.lconst 0, 1), (.aload_n 0, 1)] (pc' := 4) (by decide +kernel) rfl (lv' := [(0, sv_r a), (1, sv_i n1)]) (st' := [sv_r a, sv_l 0, sv_l n1]) rfl ?_
  have t1 : σ a 17 = 0 := by have q := hZ.num (k := 17) k_a rfl; omega
  refine sv_gf C (index := 269) (ci := 10) (k := 17) (r := (RX11, TX11, 47)) (v := sv_i 0) (by decide +kernel) (by rw [k_a]; rfl) rfl (by decide) fl_X11_269 (congrArg sv_i t1) ?_
  refine sv_i2l C.1 C.2.1 (by decide +kernel) ⟨by omega, by omega⟩ ?_
  refine sv_cs C (index := 9) (k := 3) (rest := []) (by decide +kernel) (ct_X11_in l g A ty σ hok (n1) ⟨by omega, by omega⟩ (0) ⟨by omega, by omega⟩ (0) ⟨by omega, by omega⟩) ⟨co_X11_in, in_X11, ⟨by decide, by decide, by decide +kernel⟩, Nat.le_of_ble_eq_true rfl, Nat.le_of_ble_eq_true rfl⟩ ml_X11_9 st_X11_in rfl rfl (Nat.le_of_ble_eq_true rfl) ⟨Nat.zero_le _, Nat.zero_le _⟩ (fun r3 σ4 hpo2 hok5 => ?_)
  obtain ⟨rfl, ⟨h6, rfl⟩ | ⟨h6, rfl⟩⟩ := hpo2
  · refine sv_same (st2 := [sv_i 1]) (lv2 := [(0, sv_r a), (1, sv_i n1)]) rfl rfl ?_
    refine sv_if_t C.1 C.2.1 (cnd := .ne) (off := 5) (tgt := 16) (by decide +kernel) (by decide) ⟨by omega, by omega⟩ (show 1 ≠ 0 by omega) ?_
    refine sv_go C.1 C.2.1 [(.aload_n 0, 1), (.iload_n 1, 1)] (pc' := 18) (by decide +kernel) rfl (lv' := [(0, sv_r a), (1, sv_i n1)]) (st' := [sv_i n1, sv_r a]) rfl ?_
    refine sv_pf C (index := 269) (ci := 10) (k := 17) (r := (RX11, TX11, 47)) (z := n1) (by decide +kernel) (by rw [k_a]; rfl) rfl (by decide) rfl fl_X11_269 rfl (Or.inl rfl) ⟨by omega, by omega⟩ (hTA _ (by rw [k_a]; decide)) hok5 (fun hok7 => ?_)
    have hI9 := hI.up (a := a) (k := 17) (z := n1) (by rw [k_a]; exact trivial)
    have hF10 := hF.up (a := a) (k := 17) (z := n1) (by rw [k_a]; decide)
    generalize eσ8 : sv_up σ a 17 n1 = σ8 at hok7 hI9 hF10 ⊢
    have t11 : σ8 a 17 = n1 := by rw [← eσ8]; exact sv_up_s _ _ _ _
    refine sv_go C.1 C.2.1 [(.iload_n 1, 1)] (pc' := 22) (by decide +kernel) rfl (lv' := [(0, sv_r a), (1, sv_i n1)]) (st' := [sv_i n1]) rfl ?_
    exact sv_iret C hr (by decide +kernel) hok7 (⟨congrArg (fun q => [sv_i q]) (by first | omega | (unfold fx_end; omega)), hF10⟩)
  · refine sv_same (st2 := [sv_i 0]) (lv2 := [(0, sv_r a), (1, sv_i n1)]) rfl rfl ?_
    refine sv_if_f C.1 C.2.1 (cnd := .ne) (off := 5) (tgt := 16) (by decide +kernel) (by decide) ⟨by omega, by omega⟩ (show ¬ (0 ≠ 0) by omega) ?_
    refine sv_go C.1 C.2.1 [(.iconst (-1), 1)] (pc' := 15) (by decide +kernel) rfl (lv' := [(0, sv_r a), (1, sv_i n1)]) (st' := [sv_i ((-1))]) rfl ?_
    exact sv_iret C hr (by decide +kernel) hok5 (⟨congrArg (fun q => [sv_i q]) (by first | omega | (unfold fx_end; omega)), hF⟩)

theorem fl_X11_105 : Cond.fieldLink RX11 105 "SaintsRoadModel" "faultAt" "I" ∈ lw_good := sv_mem 1128 (by decide +kernel) rfl
theorem fl_X11_169 : Cond.fieldLink RX11 169 "SaintsRoadModel" "fault" "I" ∈ lw_good := sv_mem 1127 (by decide +kernel) rfl
set_option maxHeartbeats 4000000 in
set_option maxRecDepth 100000 in
theorem ct_X11_fault (l : Launch) (g : sv_G) (A : Nat → Prop) (ty : Nat → Nat) (σ : Nat → Nat → Int) (hok : sv_ok ty σ) (hTA : ∀ q, ty q ≠ 0 → A q) (hI : sv_inv sp_1 ty σ) (hZ : sv_inv sp_0 ty σ) (a : Nat) (k_a : ty a = 10) (w1 : Int) (hw1 : sv_in w1) : sv_M l yX11_fault cX11_fault 2 (some .int) { frames := 0, cells := 0, slots := 0, locals := 0 } g A ty σ [sv_r a, sv_i w1] (fun r σ' => r = [sv_i (fx_fault w1)] ∧ sv_off [] ty σ σ') := by
  refine sv_enter (by decide) (Nat.le_of_ble_eq_true rfl) ?_
  intro p e s m args below meth c C hr
  have C : sv_C g A RX11 cX11_fault 2 p s m args meth c := C
  have hr : meth.sig.returnType = (some .int) := hr
  have hF : sv_off [] ty σ σ := sv_off.rf
  refine sv_same (st2 := []) (lv2 := [(0, sv_r a), (1, sv_i w1)]) rfl rfl ?_
  refine sv_go C.1 C.2.1 [(.iload_n 1, 1)] (pc' := 1) (by decide +kernel) rfl (lv' := [(0, sv_r a), (1, sv_i w1)]) (st' := [sv_i w1]) rfl ?_
  refine sv_if C.1 C.2.1 (cnd := .ne) (off := 10) (tgt := 11) (by decide +kernel) (by decide) ⟨by omega, by omega⟩ (fun (h1 : w1 ≠ 0) => ?_) (fun (h1 : ¬ (w1 ≠ 0)) => ?_)
  · refine sv_go C.1 C.2.1 [(.iload_n 1, 1), (.iconst 1, 1)] (pc' := 13) (by decide +kernel) rfl (lv' := [(0, sv_r a), (1, sv_i w1)]) (st' := [sv_i 1, sv_i w1]) rfl ?_
    refine sv_icmp C.1 C.2.1 (cnd := .ne) (off := 10) (tgt := 23) (by decide +kernel) (by decide) ⟨by omega, by omega⟩ ⟨by omega, by omega⟩ (fun (h2 : w1 ≠ 1) => ?_) (fun (h2 : ¬ (w1 ≠ 1)) => ?_)
    · refine sv_go C.1 C.2.1 [(.iconst (-1), 1)] (pc' := 24) (by decide +kernel) rfl (lv' := [(0, sv_r a), (1, sv_i w1)]) (st' := [sv_i ((-1))]) rfl ?_
      exact sv_iret C hr (by decide +kernel) hok (⟨congrArg (fun q => [sv_i q]) (by first | omega | (unfold fx_fault; omega)), hF⟩)
    · refine sv_go C.1 C.2.1 [(.aload_n 0, 1)] (pc' := 17) (by decide +kernel) rfl (lv' := [(0, sv_r a), (1, sv_i w1)]) (st' := [sv_r a]) rfl ?_
      have t3 : σ a 24 = (-1) := by have q := hZ.num (k := 24) k_a rfl; omega
      refine sv_gf C (index := 105) (ci := 10) (k := 24) (r := (RX11, TX11, 47)) (v := sv_i ((-1))) (by decide +kernel) (by rw [k_a]; rfl) rfl (by decide) fl_X11_105 (congrArg sv_i t3) ?_
      refine sv_goto C.1 C.2.1 (off := 4) (tgt := 24) (by decide +kernel) (by decide) ?_
      exact sv_iret C hr (by decide +kernel) hok (⟨congrArg (fun q => [sv_i q]) (by first | omega | (unfold fx_fault; omega)), hF⟩)
  · refine sv_go C.1 C.2.1 [(.aload_n 0, 1)] (pc' := 5) (by decide +kernel) rfl (lv' := [(0, sv_r a), (1, sv_i w1)]) (st' := [sv_r a]) rfl ?_
    have t4 : σ a 23 = 0 := by have q := hZ.num (k := 23) k_a rfl; omega
    refine sv_gf C (index := 169) (ci := 10) (k := 23) (r := (RX11, TX11, 47)) (v := sv_i 0) (by decide +kernel) (by rw [k_a]; rfl) rfl (by decide) fl_X11_169 (congrArg sv_i t4) ?_
    refine sv_goto C.1 C.2.1 (off := 16) (tgt := 24) (by decide +kernel) (by decide) ?_
    exact sv_iret C hr (by decide +kernel) hok (⟨congrArg (fun q => [sv_i q]) (by first | omega | (unfold fx_fault; omega)), hF⟩)

theorem ml_X11_287 : Cond.methodLink RX11 287 yX11_isFeast ∈ lw_good := sv_mem 1356 (by decide +kernel) rfl
theorem co_X11_isFeast : Cond.code yX11_isFeast cX11_isFeast 3 (some .boolean) ∈ lw_good := sv_mem 1359 (by decide +kernel) rfl
theorem im_X11_isFeast : Cond.instanceMethod yX11_isFeast ∈ lw_good := sv_mem 1358 (by decide +kernel) rfl
theorem se_X11_isFeast : Cond.selects RX11 yX11_isFeast yX11_isFeast ∈ lw_good := sv_mem 59 (by decide +kernel) rfl
set_option maxHeartbeats 4000000 in
set_option maxRecDepth 100000 in
theorem ct_X11_feast (l : Launch) (g : sv_G) (A : Nat → Prop) (ty : Nat → Nat) (σ : Nat → Nat → Int) (hok : sv_ok ty σ) (hTA : ∀ q, ty q ≠ 0 → A q) (hI : sv_inv sp_1 ty σ) (hZ : sv_inv sp_0 ty σ) (a : Nat) (k_a : ty a = 10) (v1 : Int) (hv1 : sv_in v1) (v2 : Int) (hv2 : sv_in v2) (v3 : Int) (hv3 : sv_in v3) : sv_M l yX11_feast cX11_feast 5 (some .int) { frames := 3, cells := 0, slots := 0, locals := 67 } g A ty σ [sv_r a, sv_i v1, sv_i v2, sv_i v3] (fun r σ' => r = [sv_i (-1)] ∧ sv_off [] ty σ σ') := by
  refine sv_enter (by decide) (Nat.le_of_ble_eq_true rfl) ?_
  intro p e s m args below meth c C hr
  have C : sv_C g A RX11 cX11_feast 5 p s m args meth c := C
  have hr : meth.sig.returnType = (some .int) := hr
  have hF : sv_off [] ty σ σ := sv_off.rf
  refine sv_same (st2 := []) (lv2 := [(0, sv_r a), (1, sv_i v1), (2, sv_i v2), (3, sv_i v3)]) rfl rfl ?_
  refine sv_go C.1 C.2.1 [(.aload_n 0, 1), (.iload_n 1, 1), (.iload_n 2, 1)] (pc' := 3) (by decide +kernel) rfl (lv' := [(0, sv_r a), (1, sv_i v1), (2, sv_i v2), (3, sv_i v3)]) (st' := [sv_i v2, sv_i v1, sv_r a]) rfl ?_
  refine sv_cv C (index := 287) (k := 2) (rest := []) (ci := 10) (r := (RX11, TX11, 47)) (by decide +kernel) (ct_X11_isFeast l g A ty σ hok hI a k_a (v1) ⟨by omega, by omega⟩ (v2) ⟨by omega, by omega⟩) ⟨co_X11_isFeast, in_X11, ⟨by decide, by decide, by decide +kernel⟩, Nat.le_of_ble_eq_true rfl, Nat.le_of_ble_eq_true rfl⟩ ml_X11_287 im_X11_isFeast se_X11_isFeast (by rw [k_a]; rfl) rfl rfl rfl (Nat.le_of_ble_eq_true rfl) ⟨Nat.zero_le _, Nat.zero_le _⟩ (fun r2 σ3 hpo1 hok4 => ?_)
  obtain ⟨rfl, hpo1⟩ := hpo1
  obtain rfl := sv_boF hpo1
  refine sv_same (st2 := [sv_i 0]) (lv2 := [(0, sv_r a), (1, sv_i v1), (2, sv_i v2), (3, sv_i v3)]) rfl rfl ?_
  refine sv_if_f C.1 C.2.1 (cnd := .ne) (off := 5) (tgt := 11) (by decide +kernel) (by decide) ⟨by omega, by omega⟩ (show ¬ (0 ≠ 0) by omega) ?_
  refine sv_go C.1 C.2.1 [(.iconst (-1), 1)] (pc' := 10) (by decide +kernel) rfl (lv' := [(0, sv_r a), (1, sv_i v1), (2, sv_i v2), (3, sv_i v3)]) (st' := [sv_i ((-1))]) rfl ?_
  exact sv_iret C hr (by decide +kernel) hok4 (⟨congrArg (fun q => [sv_i q]) (by first | omega | (unfold x; omega)), hF⟩)

theorem ml_X11_34 : Cond.methodLink RX11 34 yX11_easterOf ∈ lw_good := sv_mem 1010 (by decide +kernel) rfl
theorem co_X11_easterOf : Cond.code yX11_easterOf cX11_easterOf 2 (some .int) ∈ lw_good := sv_mem 1012 (by decide +kernel) rfl
theorem st_X11_easterOf : Cond.static yX11_easterOf ∈ lw_good := sv_mem 1011 (by decide +kernel) rfl
set_option maxHeartbeats 4000000 in
set_option maxRecDepth 100000 in
theorem ct_X11_easter (l : Launch) (g : sv_G) (A : Nat → Prop) (ty : Nat → Nat) (σ : Nat → Nat → Int) (hok : sv_ok ty σ) (hTA : ∀ q, ty q ≠ 0 → A q) (hI : sv_inv sp_1 ty σ) (hZ : sv_inv sp_0 ty σ) (a : Nat) (k_a : ty a = 10) (y : Int) (hy : sv_in y) : sv_M l yX11_easter cX11_easter 2 (some .int) { frames := 4, cells := 0, slots := 0, locals := 86 } g A ty σ [sv_r a, sv_i y] (fun r σ' => r = [sv_i (fx_easter y)] ∧ sv_off [] ty σ σ') := by
  refine sv_enter (by decide) (Nat.le_of_ble_eq_true rfl) ?_
  intro p e s m args below meth c C hr
  have C : sv_C g A RX11 cX11_easter 2 p s m args meth c := C
  have hr : meth.sig.returnType = (some .int) := hr
  have hF : sv_off [] ty σ σ := sv_off.rf
  refine sv_same (st2 := []) (lv2 := [(0, sv_r a), (1, sv_i y)]) rfl rfl ?_
  refine sv_go C.1 C.2.1 [(.iload_n 1, 1)] (pc' := 1) (by decide +kernel) rfl (lv' := [(0, sv_r a), (1, sv_i y)]) (st' := [sv_i y]) rfl ?_
  refine sv_cs C (index := 13) (k := 1) (rest := []) (by decide +kernel) (ct_X11_isYear l g A ty σ hok (y) ⟨by omega, by omega⟩) ⟨co_X11_isYear, in_X11, ⟨by decide, by decide, by decide +kernel⟩, Nat.le_of_ble_eq_true rfl, Nat.le_of_ble_eq_true rfl⟩ ml_X11_13 st_X11_isYear rfl rfl (Nat.le_of_ble_eq_true rfl) ⟨Nat.zero_le _, Nat.zero_le _⟩ (fun r2 σ3 hpo1 hok4 => ?_)
  obtain ⟨rfl, ⟨h5, rfl⟩ | ⟨h5, rfl⟩⟩ := hpo1
  · refine sv_same (st2 := [sv_i 1]) (lv2 := [(0, sv_r a), (1, sv_i y)]) rfl rfl ?_
    refine sv_if_f C.1 C.2.1 (cnd := .eq) (off := 10) (tgt := 14) (by decide +kernel) (by decide) ⟨by omega, by omega⟩ (show ¬ (1 = 0) by omega) ?_
    refine sv_go C.1 C.2.1 [(.iload_n 1, 1)] (pc' := 8) (by decide +kernel) rfl (lv' := [(0, sv_r a), (1, sv_i y)]) (st' := [sv_i y]) rfl ?_
    refine sv_cs C (index := 34) (k := 1) (rest := []) (by decide +kernel) (ct_X11_easterOf l g A ty σ hok4 (y) ⟨by omega, by omega⟩) ⟨co_X11_easterOf, in_X11, ⟨by decide, by decide, by decide +kernel⟩, Nat.le_of_ble_eq_true rfl, Nat.le_of_ble_eq_true rfl⟩ ml_X11_34 st_X11_easterOf rfl rfl (Nat.le_of_ble_eq_true rfl) ⟨Nat.zero_le _, Nat.zero_le _⟩ (fun r7 σ8 hpo6 hok9 => ?_)
    obtain ⟨rfl, rfl⟩ := hpo6
    have hn10 := dy_ea_in y
    refine sv_same (st2 := [sv_i (dy_ea y)]) (lv2 := [(0, sv_r a), (1, sv_i y)]) rfl rfl ?_
    refine sv_goto C.1 C.2.1 (off := 5) (tgt := 16) (by decide +kernel) (by decide) ?_
    exact sv_iret C hr (by decide +kernel) hok9 (⟨congrArg (fun q => [sv_i q]) (by first | omega | (unfold fx_easter; omega)), hF⟩)
  · refine sv_same (st2 := [sv_i 0]) (lv2 := [(0, sv_r a), (1, sv_i y)]) rfl rfl ?_
    refine sv_if_t C.1 C.2.1 (cnd := .eq) (off := 10) (tgt := 14) (by decide +kernel) (by decide) ⟨by omega, by omega⟩ (show 0 = 0 by omega) ?_
    refine sv_go C.1 C.2.1 [(.bipush (-2), 2)] (pc' := 16) (by decide +kernel) rfl (lv' := [(0, sv_r a), (1, sv_i y)]) (st' := [sv_i ((-2))]) rfl ?_
    exact sv_iret C hr (by decide +kernel) hok4 (⟨congrArg (fun q => [sv_i q]) (by first | omega | (unfold fx_easter; omega)), hF⟩)

set_option maxHeartbeats 4000000 in
set_option maxRecDepth 100000 in
theorem ct_X11_date (l : Launch) (g : sv_G) (A : Nat → Prop) (ty : Nat → Nat) (σ : Nat → Nat → Int) (hok : sv_ok ty σ) (hTA : ∀ q, ty q ≠ 0 → A q) (hI : sv_inv sp_1 ty σ) (hZ : sv_inv sp_0 ty σ) (a : Nat) (k_a : ty a = 10) (y : Int) (hy : sv_in y) (d : Int) (hd : sv_in d) (w1 : Int) (hw1 : sv_in w1) : sv_M l yX11_date cX11_date 6 (some .int) { frames := 3, cells := 0, slots := 0, locals := 66 } g A ty σ [sv_r a, sv_i y, sv_i d, sv_i w1] (fun r σ' => r = [sv_i (fx_date y d w1)] ∧ sv_off [] ty σ σ') := by
  refine sv_enter (by decide) (Nat.le_of_ble_eq_true rfl) ?_
  intro p e s m args below meth c C hr
  have C : sv_C g A RX11 cX11_date 6 p s m args meth c := C
  have hr : meth.sig.returnType = (some .int) := hr
  have hF : sv_off [] ty σ σ := sv_off.rf
  have hlp := dy_lp_in y
  refine sv_same (st2 := []) (lv2 := [(0, sv_r a), (1, sv_i y), (2, sv_i d), (3, sv_i w1)]) rfl rfl ?_
  refine sv_go C.1 C.2.1 [(.iload_n 1, 1), (.iload_n 2, 1)] (pc' := 2) (by decide +kernel) rfl (lv' := [(0, sv_r a), (1, sv_i y), (2, sv_i d), (3, sv_i w1)]) (st' := [sv_i d, sv_i y]) rfl ?_
  refine sv_cs C (index := 37) (k := 2) (rest := []) (by decide +kernel) (ct_X11_isDay l g A ty σ hok (y) ⟨by omega, by omega⟩ (d) ⟨by omega, by omega⟩) ⟨co_X11_isDay, in_X11, ⟨by decide, by decide, by decide +kernel⟩, Nat.le_of_ble_eq_true rfl, Nat.le_of_ble_eq_true rfl⟩ ml_X11_37 st_X11_isDay rfl rfl (Nat.le_of_ble_eq_true rfl) ⟨Nat.zero_le _, Nat.zero_le _⟩ (fun r2 σ3 hpo1 hok4 => ?_)
  obtain ⟨rfl, ⟨h5, rfl⟩ | ⟨h5, rfl⟩⟩ := hpo1
  · refine sv_same (st2 := [sv_i 1]) (lv2 := [(0, sv_r a), (1, sv_i y), (2, sv_i d), (3, sv_i w1)]) rfl rfl ?_
    refine sv_if_t C.1 C.2.1 (cnd := .ne) (off := 5) (tgt := 10) (by decide +kernel) (by decide) ⟨by omega, by omega⟩ (show 1 ≠ 0 by omega) ?_
    refine sv_go C.1 C.2.1 [(.iconst 1, 1), (.istore 4, 2), (.iload_n 2, 1), (.istore 5, 2)] (pc' := 16) (by decide +kernel) rfl (lv' := [(0, sv_r a), (1, sv_i y), (2, sv_i d), (3, sv_i w1), (4, sv_i 1), (5, sv_i d)]) (st' := []) rfl ?_
    have L6 : ∀ (n : Nat) (M : Int) (N : Int) , (1 ≤ M ∧ M ≤ 12) → (N = d - dy_ms y M) → (0 ≤ N ∧ N ≤ 366) → (12 - M) < (n : Int) → sv_E p l e { frames := 3, cells := 0, slots := 0, locals := 66 } s m args below meth c 6 g A ty (fun r σ' => r = [sv_i (fx_date y d w1)] ∧ sv_off [] ty σ σ') σ 16 [(0, sv_r a), (1, sv_i y), (2, sv_i d), (3, sv_i w1), (4, sv_i M), (5, sv_i N)] [] := by
      intro n
      induction n with
      | zero => intro M N  hM hN hN0 hmu; exact absurd hmu (by omega)
      | succ n ih7 =>
        intro M N  hM hN hN0 hmu
        refine sv_go C.1 C.2.1 [(.iload 5, 2), (.iload_n 1, 1), (.iload 4, 2)] (pc' := 21) (by decide +kernel) rfl (lv' := [(0, sv_r a), (1, sv_i y), (2, sv_i d), (3, sv_i w1), (4, sv_i M), (5, sv_i N)]) (st' := [sv_i M, sv_i y, sv_i N]) rfl ?_
        refine sv_cs C (index := 24) (k := 2) (rest := [sv_i N]) (by decide +kernel) (ct_X11_monthDays l g A ty σ hok4 (y) ⟨by omega, by omega⟩ (M) ⟨by omega, by omega⟩) ⟨co_X11_monthDays, in_X11, ⟨by decide, by decide, by decide +kernel⟩, Nat.le_of_ble_eq_true rfl, Nat.le_of_ble_eq_true rfl⟩ ml_X11_24 st_X11_monthDays rfl rfl (Nat.le_of_ble_eq_true rfl) ⟨Nat.zero_le _, Nat.zero_le _⟩ (fun r9 σ10 hpo8 hok11 => ?_)
        obtain ⟨rfl, rfl⟩ := hpo8
        have hn12 := dy_md_in y M
        refine sv_same (st2 := [sv_i (dy_md y M), sv_i N]) (lv2 := [(0, sv_r a), (1, sv_i y), (2, sv_i d), (3, sv_i w1), (4, sv_i M), (5, sv_i N)]) rfl rfl ?_
        refine sv_icmp C.1 C.2.1 (cnd := .lt) (off := 20) (tgt := 44) (by decide +kernel) (by decide) ⟨by omega, by omega⟩ ⟨by omega, by omega⟩ (fun (h13 : N < (dy_md y M)) => ?_) (fun (h13 : ¬ (N < (dy_md y M))) => ?_)
        · have hmo := dy_mo_of (y := y) (d := d) (M := M) (by omega) (by omega) (by omega) (by omega) (by right; rw [dy_ms_s (by omega) (by omega)]; omega)
          refine sv_go C.1 C.2.1 [(.iload_n 3, 1)] (pc' := 45) (by decide +kernel) rfl (lv' := [(0, sv_r a), (1, sv_i y), (2, sv_i d), (3, sv_i w1), (4, sv_i M), (5, sv_i N)]) (st' := [sv_i w1]) rfl ?_
          refine sv_if C.1 C.2.1 (cnd := .ne) (off := 8) (tgt := 53) (by decide +kernel) (by decide) ⟨by omega, by omega⟩ (fun (h14 : w1 ≠ 0) => ?_) (fun (h14 : ¬ (w1 ≠ 0)) => ?_)
          · refine sv_go C.1 C.2.1 [(.iload_n 3, 1), (.iconst 1, 1)] (pc' := 55) (by decide +kernel) rfl (lv' := [(0, sv_r a), (1, sv_i y), (2, sv_i d), (3, sv_i w1), (4, sv_i M), (5, sv_i N)]) (st' := [sv_i 1, sv_i w1]) rfl ?_
            refine sv_icmp C.1 C.2.1 (cnd := .ne) (off := 10) (tgt := 65) (by decide +kernel) (by decide) ⟨by omega, by omega⟩ ⟨by omega, by omega⟩ (fun (h15 : w1 ≠ 1) => ?_) (fun (h15 : ¬ (w1 ≠ 1)) => ?_)
            · refine sv_go C.1 C.2.1 [(.iload_n 3, 1), (.iconst 2, 1)] (pc' := 67) (by decide +kernel) rfl (lv' := [(0, sv_r a), (1, sv_i y), (2, sv_i d), (3, sv_i w1), (4, sv_i M), (5, sv_i N)]) (st' := [sv_i 2, sv_i w1]) rfl ?_
              refine sv_icmp C.1 C.2.1 (cnd := .ne) (off := 11) (tgt := 78) (by decide +kernel) (by decide) ⟨by omega, by omega⟩ ⟨by omega, by omega⟩ (fun (h16 : w1 ≠ 2) => ?_) (fun (h16 : ¬ (w1 ≠ 2)) => ?_)
              · refine sv_go C.1 C.2.1 [(.iconst (-1), 1)] (pc' := 79) (by decide +kernel) rfl (lv' := [(0, sv_r a), (1, sv_i y), (2, sv_i d), (3, sv_i w1), (4, sv_i M), (5, sv_i N)]) (st' := [sv_i ((-1))]) rfl ?_
                exact sv_iret C hr (by decide +kernel) hok11 (⟨congrArg (fun q => [sv_i q]) (by first | (unfold fx_date; omega) | (unfold fx_date; rw [← hmo]; omega)), hF⟩)
              · refine sv_go C.1 C.2.1 [(.iload_n 1, 1), (.iload_n 2, 1)] (pc' := 72) (by decide +kernel) rfl (lv' := [(0, sv_r a), (1, sv_i y), (2, sv_i d), (3, sv_i w1), (4, sv_i M), (5, sv_i N)]) (st' := [sv_i d, sv_i y]) rfl ?_
                refine sv_cs C (index := 31) (k := 2) (rest := []) (by decide +kernel) (ct_X11_weekday l g A ty σ hok11 (y) ⟨by omega, by omega⟩ (d) ⟨by omega, by omega⟩) ⟨co_X11_weekday, in_X11, ⟨by decide, by decide, by decide +kernel⟩, Nat.le_of_ble_eq_true rfl, Nat.le_of_ble_eq_true rfl⟩ ml_X11_31 st_X11_weekday rfl rfl (Nat.le_of_ble_eq_true rfl) ⟨Nat.zero_le _, Nat.zero_le _⟩ (fun r18 σ19 hpo17 hok20 => ?_)
                obtain ⟨rfl, rfl⟩ := hpo17
                have hn21 := dy_wd_in y d
                refine sv_same (st2 := [sv_i (dy_wd y d)]) (lv2 := [(0, sv_r a), (1, sv_i y), (2, sv_i d), (3, sv_i w1), (4, sv_i M), (5, sv_i N)]) rfl rfl ?_
                refine sv_goto C.1 C.2.1 (off := 4) (tgt := 79) (by decide +kernel) (by decide) ?_
                exact sv_iret C hr (by decide +kernel) hok20 (⟨congrArg (fun q => [sv_i q]) (by first | (unfold fx_date; omega) | (unfold fx_date; rw [← hmo]; omega)), hF⟩)
            · refine sv_go C.1 C.2.1 [(.iload 5, 2), (.iconst 1, 1), (.iadd, 1)] (pc' := 62) (by decide +kernel) rfl (lv' := [(0, sv_r a), (1, sv_i y), (2, sv_i d), (3, sv_i w1), (4, sv_i M), (5, sv_i N)]) (st' := [sv_i (N + 1)]) rfl ?_
              refine sv_goto C.1 C.2.1 (off := 17) (tgt := 79) (by decide +kernel) (by decide) ?_
              exact sv_iret C hr (by decide +kernel) hok11 (⟨congrArg (fun q => [sv_i q]) (by first | (unfold fx_date; omega) | (unfold fx_date; rw [← hmo]; omega)), hF⟩)
          · refine sv_go C.1 C.2.1 [(.iload 4, 2)] (pc' := 50) (by decide +kernel) rfl (lv' := [(0, sv_r a), (1, sv_i y), (2, sv_i d), (3, sv_i w1), (4, sv_i M), (5, sv_i N)]) (st' := [sv_i M]) rfl ?_
            refine sv_goto C.1 C.2.1 (off := 29) (tgt := 79) (by decide +kernel) (by decide) ?_
            exact sv_iret C hr (by decide +kernel) hok11 (⟨congrArg (fun q => [sv_i q]) (by first | (unfold fx_date; omega) | (unfold fx_date; rw [← hmo]; omega)), hF⟩)
        · refine sv_go C.1 C.2.1 [(.iload 5, 2), (.iload_n 1, 1), (.iload 4, 2)] (pc' := 32) (by decide +kernel) rfl (lv' := [(0, sv_r a), (1, sv_i y), (2, sv_i d), (3, sv_i w1), (4, sv_i M), (5, sv_i N)]) (st' := [sv_i M, sv_i y, sv_i N]) rfl ?_
          refine sv_cs C (index := 24) (k := 2) (rest := [sv_i N]) (by decide +kernel) (ct_X11_monthDays l g A ty σ hok11 (y) ⟨by omega, by omega⟩ (M) ⟨by omega, by omega⟩) ⟨co_X11_monthDays, in_X11, ⟨by decide, by decide, by decide +kernel⟩, Nat.le_of_ble_eq_true rfl, Nat.le_of_ble_eq_true rfl⟩ ml_X11_24 st_X11_monthDays rfl rfl (Nat.le_of_ble_eq_true rfl) ⟨Nat.zero_le _, Nat.zero_le _⟩ (fun r23 σ24 hpo22 hok25 => ?_)
          obtain ⟨rfl, rfl⟩ := hpo22
          have hn26 := dy_md_in y M
          refine sv_same (st2 := [sv_i (dy_md y M), sv_i N]) (lv2 := [(0, sv_r a), (1, sv_i y), (2, sv_i d), (3, sv_i w1), (4, sv_i M), (5, sv_i N)]) rfl rfl ?_
          refine sv_go C.1 C.2.1 [(.isub, 1), (.istore 5, 2), (.iinc 4 1, 3)] (pc' := 41) (by decide +kernel) rfl (lv' := [(0, sv_r a), (1, sv_i y), (2, sv_i d), (3, sv_i w1), (4, sv_i (M + 1)), (5, sv_i (N - (dy_md y M)))]) (st' := []) rfl ?_
          refine sv_goto C.1 C.2.1 (off := (-25)) (tgt := 16) (by decide +kernel) (by decide) ?_
          exact ih7 (M + 1) (N - (dy_md y M))  ⟨by omega, dy_last (y := y) (d := d) hM (by rw [dy_ms_s (by omega) (by omega)]; omega) (by omega)⟩ (by rw [dy_ms_s (by omega) (by omega)]; omega) (by omega) (by omega)
    exact L6 (((12 - 1 : Int)).toNat + 1) 1 d  (by omega) (by rw [dy_ms1]; omega) (by omega) (by omega)
  · refine sv_same (st2 := [sv_i 0]) (lv2 := [(0, sv_r a), (1, sv_i y), (2, sv_i d), (3, sv_i w1)]) rfl rfl ?_
    refine sv_if_f C.1 C.2.1 (cnd := .ne) (off := 5) (tgt := 10) (by decide +kernel) (by decide) ⟨by omega, by omega⟩ (show ¬ (0 ≠ 0) by omega) ?_
    refine sv_go C.1 C.2.1 [(.iconst (-1), 1)] (pc' := 9) (by decide +kernel) rfl (lv' := [(0, sv_r a), (1, sv_i y), (2, sv_i d), (3, sv_i w1)]) (st' := [sv_i ((-1))]) rfl ?_
    exact sv_iret C hr (by decide +kernel) hok4 (⟨congrArg (fun q => [sv_i q]) (by first | (unfold fx_date; omega) | (unfold fx_date; rw [← hmo]; omega)), hF⟩)

set_option maxHeartbeats 4000000 in
set_option maxRecDepth 100000 in
theorem ct_X11_held (l : Launch) (g : sv_G) (A : Nat → Prop) (ty : Nat → Nat) (σ : Nat → Nat → Int) (hok : sv_ok ty σ) (hTA : ∀ q, ty q ≠ 0 → A q) (hI : sv_inv sp_1 ty σ) (hZ : sv_inv sp_0 ty σ) (a : Nat) (k_a : ty a = 10) (v1 : Int) (hv1 : sv_in v1) (v2 : Int) (hv2 : sv_in v2) (v3 : Int) (hv3 : sv_in v3) : sv_M l yX11_held cX11_held 4 (some .int) { frames := 3, cells := 0, slots := 0, locals := 67 } g A ty σ [sv_r a, sv_i v1, sv_i v2, sv_i v3] (fun r σ' => r = [sv_i (-2)] ∧ sv_off [] ty σ σ') := by
  refine sv_enter (by decide) (Nat.le_of_ble_eq_true rfl) ?_
  intro p e s m args below meth c C hr
  have C : sv_C g A RX11 cX11_held 4 p s m args meth c := C
  have hr : meth.sig.returnType = (some .int) := hr
  have hF : sv_off [] ty σ σ := sv_off.rf
  refine sv_same (st2 := []) (lv2 := [(0, sv_r a), (1, sv_i v1), (2, sv_i v2), (3, sv_i v3)]) rfl rfl ?_
  refine sv_go C.1 C.2.1 [(.aload_n 0, 1), (.iload_n 1, 1), (.iload_n 3, 1)] (pc' := 3) (by decide +kernel) rfl (lv' := [(0, sv_r a), (1, sv_i v1), (2, sv_i v2), (3, sv_i v3)]) (st' := [sv_i v3, sv_i v1, sv_r a]) rfl ?_
  refine sv_cv C (index := 287) (k := 2) (rest := []) (ci := 10) (r := (RX11, TX11, 47)) (by decide +kernel) (ct_X11_isFeast l g A ty σ hok hI a k_a (v1) ⟨by omega, by omega⟩ (v3) ⟨by omega, by omega⟩) ⟨co_X11_isFeast, in_X11, ⟨by decide, by decide, by decide +kernel⟩, Nat.le_of_ble_eq_true rfl, Nat.le_of_ble_eq_true rfl⟩ ml_X11_287 im_X11_isFeast se_X11_isFeast (by rw [k_a]; rfl) rfl rfl rfl (Nat.le_of_ble_eq_true rfl) ⟨Nat.zero_le _, Nat.zero_le _⟩ (fun r2 σ3 hpo1 hok4 => ?_)
  obtain ⟨rfl, hpo1⟩ := hpo1
  obtain rfl := sv_boF hpo1
  refine sv_same (st2 := [sv_i 0]) (lv2 := [(0, sv_r a), (1, sv_i v1), (2, sv_i v2), (3, sv_i v3)]) rfl rfl ?_
  refine sv_if_t C.1 C.2.1 (cnd := .eq) (off := 10) (tgt := 16) (by decide +kernel) (by decide) ⟨by omega, by omega⟩ (show 0 = 0 by omega) ?_
  refine sv_go C.1 C.2.1 [(.bipush (-2), 2)] (pc' := 18) (by decide +kernel) rfl (lv' := [(0, sv_r a), (1, sv_i v1), (2, sv_i v2), (3, sv_i v3)]) (st' := [sv_i ((-2))]) rfl ?_
  exact sv_iret C hr (by decide +kernel) hok4 (⟨congrArg (fun q => [sv_i q]) (by first | omega | (unfold x; omega)), hF⟩)

set_option maxHeartbeats 4000000 in
set_option maxRecDepth 100000 in
theorem ct_X11_own (l : Launch) (g : sv_G) (A : Nat → Prop) (ty : Nat → Nat) (σ : Nat → Nat → Int) (hok : sv_ok ty σ) (hTA : ∀ q, ty q ≠ 0 → A q) (hI : sv_inv sp_1 ty σ) (hZ : sv_inv sp_0 ty σ) (a : Nat) (k_a : ty a = 10) (v1 : Int) (hv1 : sv_in v1) (v2 : Int) (hv2 : sv_in v2) (v3 : Int) (hv3 : sv_in v3) : sv_M l yX11_own cX11_own 4 (some .int) { frames := 3, cells := 0, slots := 0, locals := 67 } g A ty σ [sv_r a, sv_i v1, sv_i v2, sv_i v3] (fun r σ' => r = [sv_i (-2)] ∧ sv_off [] ty σ σ') := by
  refine sv_enter (by decide) (Nat.le_of_ble_eq_true rfl) ?_
  intro p e s m args below meth c C hr
  have C : sv_C g A RX11 cX11_own 4 p s m args meth c := C
  have hr : meth.sig.returnType = (some .int) := hr
  have hF : sv_off [] ty σ σ := sv_off.rf
  refine sv_same (st2 := []) (lv2 := [(0, sv_r a), (1, sv_i v1), (2, sv_i v2), (3, sv_i v3)]) rfl rfl ?_
  refine sv_go C.1 C.2.1 [(.aload_n 0, 1), (.iload_n 1, 1), (.iload_n 3, 1)] (pc' := 3) (by decide +kernel) rfl (lv' := [(0, sv_r a), (1, sv_i v1), (2, sv_i v2), (3, sv_i v3)]) (st' := [sv_i v3, sv_i v1, sv_r a]) rfl ?_
  refine sv_cv C (index := 287) (k := 2) (rest := []) (ci := 10) (r := (RX11, TX11, 47)) (by decide +kernel) (ct_X11_isFeast l g A ty σ hok hI a k_a (v1) ⟨by omega, by omega⟩ (v3) ⟨by omega, by omega⟩) ⟨co_X11_isFeast, in_X11, ⟨by decide, by decide, by decide +kernel⟩, Nat.le_of_ble_eq_true rfl, Nat.le_of_ble_eq_true rfl⟩ ml_X11_287 im_X11_isFeast se_X11_isFeast (by rw [k_a]; rfl) rfl rfl rfl (Nat.le_of_ble_eq_true rfl) ⟨Nat.zero_le _, Nat.zero_le _⟩ (fun r2 σ3 hpo1 hok4 => ?_)
  obtain ⟨rfl, hpo1⟩ := hpo1
  obtain rfl := sv_boF hpo1
  refine sv_same (st2 := [sv_i 0]) (lv2 := [(0, sv_r a), (1, sv_i v1), (2, sv_i v2), (3, sv_i v3)]) rfl rfl ?_
  refine sv_if_t C.1 C.2.1 (cnd := .eq) (off := 20) (tgt := 26) (by decide +kernel) (by decide) ⟨by omega, by omega⟩ (show 0 = 0 by omega) ?_
  refine sv_go C.1 C.2.1 [(.bipush (-2), 2)] (pc' := 28) (by decide +kernel) rfl (lv' := [(0, sv_r a), (1, sv_i v1), (2, sv_i v2), (3, sv_i v3)]) (st' := [sv_i ((-2))]) rfl ?_
  exact sv_iret C hr (by decide +kernel) hok4 (⟨congrArg (fun q => [sv_i q]) (by first | omega | (unfold x; omega)), hF⟩)

theorem fl_X11_321 : Cond.fieldLink RX11 321 "SaintsRoadModel" "turnsAll" "I" ∈ lw_good := sv_mem 1144 (by decide +kernel) rfl
theorem ml_X11_331 : Cond.methodLink RX11 331 yJ9_min_7cf53 ∈ lw_good := sv_mem 1440 (by decide +kernel) rfl
theorem fl_X11_130 : Cond.fieldLink RX11 130 "SaintsRoadModel" "turnYear" "[I" ∈ lw_good := sv_mem 1138 (by decide +kernel) rfl
theorem fl_X11_133 : Cond.fieldLink RX11 133 "SaintsRoadModel" "turnDay" "[I" ∈ lw_good := sv_mem 1139 (by decide +kernel) rfl
theorem fl_X11_136 : Cond.fieldLink RX11 136 "SaintsRoadModel" "turnFeast" "[I" ∈ lw_good := sv_mem 1140 (by decide +kernel) rfl
theorem fl_X11_139 : Cond.fieldLink RX11 139 "SaintsRoadModel" "turnBy" "[I" ∈ lw_good := sv_mem 1141 (by decide +kernel) rfl
set_option maxHeartbeats 4000000 in
set_option maxRecDepth 100000 in
theorem ct_X11_turn (l : Launch) (g : sv_G) (A : Nat → Prop) (ty : Nat → Nat) (σ : Nat → Nat → Int) (hok : sv_ok ty σ) (hTA : ∀ q, ty q ≠ 0 → A q) (hI : sv_inv sp_1 ty σ) (hZ : sv_inv sp_0 ty σ) (a : Nat) (k_a : ty a = 10) (v1 : Int) (hv1 : sv_in v1) (v2 : Int) (hv2 : sv_in v2) : sv_M l yX11_turn cX11_turn 3 (some .int) { frames := 1, cells := 0, slots := 0, locals := 25 } g A ty σ [sv_r a, sv_i v1, sv_i v2] (fun r σ' => r = [sv_i (-1)] ∧ sv_off [] ty σ σ') := by
  refine sv_enter (by decide) (Nat.le_of_ble_eq_true rfl) ?_
  intro p e s m args below meth c C hr
  have C : sv_C g A RX11 cX11_turn 3 p s m args meth c := C
  have hr : meth.sig.returnType = (some .int) := hr
  have hF : sv_off [] ty σ σ := sv_off.rf
  refine sv_same (st2 := []) (lv2 := [(0, sv_r a), (1, sv_i v1), (2, sv_i v2)]) rfl rfl ?_
  refine sv_go C.1 C.2.1 [(.iload_n 1, 1)] (pc' := 1) (by decide +kernel) rfl (lv' := [(0, sv_r a), (1, sv_i v1), (2, sv_i v2)]) (st' := [sv_i v1]) rfl ?_
  refine sv_i2l C.1 C.2.1 (by decide +kernel) ⟨by omega, by omega⟩ ?_
  refine sv_go C.1 C.2.1 [(.lconst 0, 1), (.aload_n 0, 1)] (pc' := 4) (by decide +kernel) rfl (lv' := [(0, sv_r a), (1, sv_i v1), (2, sv_i v2)]) (st' := [sv_r a, sv_l 0, sv_l v1]) rfl ?_
  have t1 : σ a 40 = 0 := by have q := hZ.num (k := 40) k_a rfl; omega
  refine sv_gf C (index := 321) (ci := 10) (k := 40) (r := (RX11, TX11, 47)) (v := sv_i 0) (by decide +kernel) (by rw [k_a]; rfl) rfl (by decide) fl_X11_321 (congrArg sv_i t1) ?_
  refine sv_go C.1 C.2.1 [(.sipush 600, 3)] (pc' := 10) (by decide +kernel) rfl (lv' := [(0, sv_r a), (1, sv_i v1), (2, sv_i v2)]) (st' := [sv_i 600, sv_i 0, sv_l 0, sv_l v1]) rfl ?_
  refine sv_min C (index := 331) (by decide +kernel) ml_X11_331 ⟨by omega, by omega⟩ ⟨by omega, by omega⟩ (Nat.le_of_ble_eq_true rfl) (Nat.le_of_ble_eq_true rfl) ⟨Nat.zero_le _, Nat.zero_le _⟩ ?_
  obtain ⟨mm2, hmm2⟩ : ∃ q : Int, q = (if (600 : Int) < 0 then 600 else 0) := ⟨_, rfl⟩
  refine sv_same (st2 := [sv_i mm2, sv_l 0, sv_l v1]) (lv2 := [(0, sv_r a), (1, sv_i v1), (2, sv_i v2)]) (by rw [hmm2]) rfl ?_
  refine sv_i2l C.1 C.2.1 (by decide +kernel) ⟨by omega, by omega⟩ ?_
  refine sv_go C.1 C.2.1 [(.lconst 1, 1), (.lsub, 1)] (pc' := 16) (by decide +kernel) rfl (lv' := [(0, sv_r a), (1, sv_i v1), (2, sv_i v2)]) (st' := [sv_l (mm2 - 1), sv_l 0, sv_l v1]) rfl ?_
  refine sv_cs C (index := 9) (k := 3) (rest := []) (by decide +kernel) (ct_X11_in l g A ty σ hok (v1) ⟨by omega, by omega⟩ (0) ⟨by omega, by omega⟩ (mm2 - 1) ⟨by omega, by omega⟩) ⟨co_X11_in, in_X11, ⟨by decide, by decide, by decide +kernel⟩, Nat.le_of_ble_eq_true rfl, Nat.le_of_ble_eq_true rfl⟩ ml_X11_9 st_X11_in rfl rfl (Nat.le_of_ble_eq_true rfl) ⟨Nat.zero_le _, Nat.zero_le _⟩ (fun r4 σ5 hpo3 hok6 => ?_)
  obtain ⟨rfl, ⟨h7, rfl⟩ | ⟨h7, rfl⟩⟩ := hpo3
  · refine sv_same (st2 := [sv_i 1]) (lv2 := [(0, sv_r a), (1, sv_i v1), (2, sv_i v2)]) rfl rfl ?_
    refine sv_if_t C.1 C.2.1 (cnd := .ne) (off := 5) (tgt := 24) (by decide +kernel) (by decide) ⟨by omega, by omega⟩ (show 1 ≠ 0 by omega) ?_
    refine sv_go C.1 C.2.1 [(.iload_n 2, 1)] (pc' := 25) (by decide +kernel) rfl (lv' := [(0, sv_r a), (1, sv_i v1), (2, sv_i v2)]) (st' := [sv_i v2]) rfl ?_
    rcases (show v2 = 0 ∨ v2 = 1 ∨ v2 = 2 ∨ v2 = 3 ∨ (v2 ≠ 0 ∧ v2 ≠ 1 ∧ v2 ≠ 2 ∧ v2 ≠ 3) by omega) with h8 | h8 | h8 | h8 | h8
    · refine sv_tsI C.1 C.2.1 (dflt := 59) (lo := 0) (hi := 3) (offs := #[31, 38, 45, 52]) (len := 31) (off := 31) (tgt := 56) (by decide +kernel) 0 h8 (by decide) rfl (by decide) ?_
      refine sv_go C.1 C.2.1 [(.aload_n 0, 1)] (pc' := 57) (by decide +kernel) rfl (lv' := [(0, sv_r a), (1, sv_i v1), (2, sv_i v2)]) (st' := [sv_r a]) rfl ?_
      obtain ⟨q9, eq9, kq9⟩ := hI.ref (k := 34) k_a rfl
      refine sv_gf C (index := 130) (ci := 10) (k := 34) (r := (RX11, TX11, 47)) (v := sv_r q9) (by decide +kernel) (by rw [k_a]; rfl) rfl (by decide) fl_X11_130 (congrArg sv_a eq9) ?_
      refine sv_go C.1 C.2.1 [(.iload_n 1, 1)] (pc' := 61) (by decide +kernel) rfl (lv' := [(0, sv_r a), (1, sv_i v1), (2, sv_i v2)]) (st' := [sv_i v1, sv_r q9]) rfl ?_
      refine sv_ia C (n := 600) (by decide +kernel) (by rw [kq9]; rfl) (by decide) (by omega) (by omega) ?_
      have w10 := sv_ok.el hok6 (k := (v1 : Int).toNat) (t := .int) (n := 600) (by rw [kq9]; rfl) (by omega)
      generalize hw10 : σ q9 v1.toNat = xw10 at w10 ⊢
      have w10 : sv_in xw10 := w10
      exact sv_iret C hr (by decide +kernel) hok6 (⟨congrArg (fun q => [sv_i q]) (by first | omega | (unfold x; omega)), hF⟩)
    · refine sv_tsI C.1 C.2.1 (dflt := 59) (lo := 0) (hi := 3) (offs := #[31, 38, 45, 52]) (len := 31) (off := 38) (tgt := 63) (by decide +kernel) 1 h8 (by decide) rfl (by decide) ?_
      refine sv_go C.1 C.2.1 [(.aload_n 0, 1)] (pc' := 64) (by decide +kernel) rfl (lv' := [(0, sv_r a), (1, sv_i v1), (2, sv_i v2)]) (st' := [sv_r a]) rfl ?_
      obtain ⟨q11, eq11, kq11⟩ := hI.ref (k := 35) k_a rfl
      refine sv_gf C (index := 133) (ci := 10) (k := 35) (r := (RX11, TX11, 47)) (v := sv_r q11) (by decide +kernel) (by rw [k_a]; rfl) rfl (by decide) fl_X11_133 (congrArg sv_a eq11) ?_
      refine sv_go C.1 C.2.1 [(.iload_n 1, 1)] (pc' := 68) (by decide +kernel) rfl (lv' := [(0, sv_r a), (1, sv_i v1), (2, sv_i v2)]) (st' := [sv_i v1, sv_r q11]) rfl ?_
      refine sv_ia C (n := 600) (by decide +kernel) (by rw [kq11]; rfl) (by decide) (by omega) (by omega) ?_
      have w12 := sv_ok.el hok6 (k := (v1 : Int).toNat) (t := .int) (n := 600) (by rw [kq11]; rfl) (by omega)
      generalize hw12 : σ q11 v1.toNat = xw12 at w12 ⊢
      have w12 : sv_in xw12 := w12
      exact sv_iret C hr (by decide +kernel) hok6 (⟨congrArg (fun q => [sv_i q]) (by first | omega | (unfold x; omega)), hF⟩)
    · refine sv_tsI C.1 C.2.1 (dflt := 59) (lo := 0) (hi := 3) (offs := #[31, 38, 45, 52]) (len := 31) (off := 45) (tgt := 70) (by decide +kernel) 2 h8 (by decide) rfl (by decide) ?_
      refine sv_go C.1 C.2.1 [(.aload_n 0, 1)] (pc' := 71) (by decide +kernel) rfl (lv' := [(0, sv_r a), (1, sv_i v1), (2, sv_i v2)]) (st' := [sv_r a]) rfl ?_
      obtain ⟨q13, eq13, kq13⟩ := hI.ref (k := 36) k_a rfl
      refine sv_gf C (index := 136) (ci := 10) (k := 36) (r := (RX11, TX11, 47)) (v := sv_r q13) (by decide +kernel) (by rw [k_a]; rfl) rfl (by decide) fl_X11_136 (congrArg sv_a eq13) ?_
      refine sv_go C.1 C.2.1 [(.iload_n 1, 1)] (pc' := 75) (by decide +kernel) rfl (lv' := [(0, sv_r a), (1, sv_i v1), (2, sv_i v2)]) (st' := [sv_i v1, sv_r q13]) rfl ?_
      refine sv_ia C (n := 600) (by decide +kernel) (by rw [kq13]; rfl) (by decide) (by omega) (by omega) ?_
      have w14 := sv_ok.el hok6 (k := (v1 : Int).toNat) (t := .int) (n := 600) (by rw [kq13]; rfl) (by omega)
      generalize hw14 : σ q13 v1.toNat = xw14 at w14 ⊢
      have w14 : sv_in xw14 := w14
      exact sv_iret C hr (by decide +kernel) hok6 (⟨congrArg (fun q => [sv_i q]) (by first | omega | (unfold x; omega)), hF⟩)
    · refine sv_tsI C.1 C.2.1 (dflt := 59) (lo := 0) (hi := 3) (offs := #[31, 38, 45, 52]) (len := 31) (off := 52) (tgt := 77) (by decide +kernel) 3 h8 (by decide) rfl (by decide) ?_
      refine sv_go C.1 C.2.1 [(.aload_n 0, 1)] (pc' := 78) (by decide +kernel) rfl (lv' := [(0, sv_r a), (1, sv_i v1), (2, sv_i v2)]) (st' := [sv_r a]) rfl ?_
      obtain ⟨q15, eq15, kq15⟩ := hI.ref (k := 37) k_a rfl
      refine sv_gf C (index := 139) (ci := 10) (k := 37) (r := (RX11, TX11, 47)) (v := sv_r q15) (by decide +kernel) (by rw [k_a]; rfl) rfl (by decide) fl_X11_139 (congrArg sv_a eq15) ?_
      refine sv_go C.1 C.2.1 [(.iload_n 1, 1)] (pc' := 82) (by decide +kernel) rfl (lv' := [(0, sv_r a), (1, sv_i v1), (2, sv_i v2)]) (st' := [sv_i v1, sv_r q15]) rfl ?_
      refine sv_ia C (n := 600) (by decide +kernel) (by rw [kq15]; rfl) (by decide) (by omega) (by omega) ?_
      have w16 := sv_ok.el hok6 (k := (v1 : Int).toNat) (t := .int) (n := 600) (by rw [kq15]; rfl) (by omega)
      generalize hw16 : σ q15 v1.toNat = xw16 at w16 ⊢
      have w16 : sv_in xw16 := w16
      exact sv_iret C hr (by decide +kernel) hok6 (⟨congrArg (fun q => [sv_i q]) (by first | omega | (unfold x; omega)), hF⟩)
    · refine sv_tsO C.1 C.2.1 (dflt := 59) (lo := 0) (hi := 3) (offs := #[31, 38, 45, 52]) (len := 31) (tgt := 84) (by decide +kernel) ⟨by omega, by omega⟩ (by omega) (by decide) ?_
      refine sv_go C.1 C.2.1 [(.iconst (-1), 1)] (pc' := 85) (by decide +kernel) rfl (lv' := [(0, sv_r a), (1, sv_i v1), (2, sv_i v2)]) (st' := [sv_i ((-1))]) rfl ?_
      exact sv_iret C hr (by decide +kernel) hok6 (⟨congrArg (fun q => [sv_i q]) (by first | omega | (unfold x; omega)), hF⟩)
  · refine sv_same (st2 := [sv_i 0]) (lv2 := [(0, sv_r a), (1, sv_i v1), (2, sv_i v2)]) rfl rfl ?_
    refine sv_if_f C.1 C.2.1 (cnd := .ne) (off := 5) (tgt := 24) (by decide +kernel) (by decide) ⟨by omega, by omega⟩ (show ¬ (0 ≠ 0) by omega) ?_
    refine sv_go C.1 C.2.1 [(.iconst (-1), 1)] (pc' := 23) (by decide +kernel) rfl (lv' := [(0, sv_r a), (1, sv_i v1), (2, sv_i v2)]) (st' := [sv_i ((-1))]) rfl ?_
    exact sv_iret C hr (by decide +kernel) hok6 (⟨congrArg (fun q => [sv_i q]) (by first | omega | (unfold x; omega)), hF⟩)

theorem ml_X11_316 : Cond.methodLink RX11 316 yX11_isBrotherhood ∈ lw_good := sv_mem 1419 (by decide +kernel) rfl
theorem co_X11_isBrotherhood : Cond.code yX11_isBrotherhood cX11_isBrotherhood 1 (some .boolean) ∈ lw_good := sv_mem 1421 (by decide +kernel) rfl
theorem st_X11_isBrotherhood : Cond.static yX11_isBrotherhood ∈ lw_good := sv_mem 1420 (by decide +kernel) rfl
theorem fl_X11_142 : Cond.fieldLink RX11 142 "SaintsRoadModel" "carriedBy" "[I" ∈ lw_good := sv_mem 1142 (by decide +kernel) rfl
set_option maxHeartbeats 4000000 in
set_option maxRecDepth 100000 in
theorem ct_X11_carried (l : Launch) (g : sv_G) (A : Nat → Prop) (ty : Nat → Nat) (σ : Nat → Nat → Int) (hok : sv_ok ty σ) (hTA : ∀ q, ty q ≠ 0 → A q) (hI : sv_inv sp_1 ty σ) (hZ : sv_inv sp_0 ty σ) (a : Nat) (k_a : ty a = 10) (v1 : Int) (hv1 : sv_in v1) : sv_M l yX11_carried cX11_carried 2 (some .int) { frames := 2, cells := 0, slots := 0, locals := 45 } g A ty σ [sv_r a, sv_i v1] (fun r σ' => r = [sv_i (fx_br v1)] ∧ sv_off [] ty σ σ') := by
  refine sv_enter (by decide) (Nat.le_of_ble_eq_true rfl) ?_
  intro p e s m args below meth c C hr
  have C : sv_C g A RX11 cX11_carried 2 p s m args meth c := C
  have hr : meth.sig.returnType = (some .int) := hr
  have hF : sv_off [] ty σ σ := sv_off.rf
  refine sv_same (st2 := []) (lv2 := [(0, sv_r a), (1, sv_i v1)]) rfl rfl ?_
  refine sv_go C.1 C.2.1 [(.iload_n 1, 1)] (pc' := 1) (by decide +kernel) rfl (lv' := [(0, sv_r a), (1, sv_i v1)]) (st' := [sv_i v1]) rfl ?_
  refine sv_cs C (index := 316) (k := 1) (rest := []) (by decide +kernel) (ct_X11_isBrotherhood l g A ty σ hok (v1) ⟨by omega, by omega⟩) ⟨co_X11_isBrotherhood, in_X11, ⟨by decide, by decide, by decide +kernel⟩, Nat.le_of_ble_eq_true rfl, Nat.le_of_ble_eq_true rfl⟩ ml_X11_316 st_X11_isBrotherhood rfl rfl (Nat.le_of_ble_eq_true rfl) ⟨Nat.zero_le _, Nat.zero_le _⟩ (fun r2 σ3 hpo1 hok4 => ?_)
  obtain ⟨rfl, ⟨h5, rfl⟩ | ⟨h5, rfl⟩⟩ := hpo1
  · refine sv_same (st2 := [sv_i 1]) (lv2 := [(0, sv_r a), (1, sv_i v1)]) rfl rfl ?_
    refine sv_if_f C.1 C.2.1 (cnd := .eq) (off := 12) (tgt := 16) (by decide +kernel) (by decide) ⟨by omega, by omega⟩ (show ¬ (1 = 0) by omega) ?_
    refine sv_go C.1 C.2.1 [(.aload_n 0, 1)] (pc' := 8) (by decide +kernel) rfl (lv' := [(0, sv_r a), (1, sv_i v1)]) (st' := [sv_r a]) rfl ?_
    obtain ⟨q6, eq6, kq6⟩ := hI.ref (k := 38) k_a rfl
    refine sv_gf C (index := 142) (ci := 10) (k := 38) (r := (RX11, TX11, 47)) (v := sv_r q6) (by decide +kernel) (by rw [k_a]; rfl) rfl (by decide) fl_X11_142 (congrArg sv_a eq6) ?_
    refine sv_go C.1 C.2.1 [(.iload_n 1, 1)] (pc' := 12) (by decide +kernel) rfl (lv' := [(0, sv_r a), (1, sv_i v1)]) (st' := [sv_i v1, sv_r q6]) rfl ?_
    refine sv_ia C (n := 10) (by decide +kernel) (by rw [kq6]; rfl) (by decide) (by omega) (by omega) ?_
    have w7 : σ q6 v1.toNat = 0 := by have q := hZ.num (k := (v1 : Int).toNat) kq6 rfl; omega
    rw [w7]
    refine sv_goto C.1 C.2.1 (off := 5) (tgt := 18) (by decide +kernel) (by decide) ?_
    exact sv_iret C hr (by decide +kernel) hok4 (⟨congrArg (fun q => [sv_i q]) (by first | omega | (unfold fx_br; omega)), hF⟩)
  · refine sv_same (st2 := [sv_i 0]) (lv2 := [(0, sv_r a), (1, sv_i v1)]) rfl rfl ?_
    refine sv_if_t C.1 C.2.1 (cnd := .eq) (off := 12) (tgt := 16) (by decide +kernel) (by decide) ⟨by omega, by omega⟩ (show 0 = 0 by omega) ?_
    refine sv_go C.1 C.2.1 [(.bipush (-2), 2)] (pc' := 18) (by decide +kernel) rfl (lv' := [(0, sv_r a), (1, sv_i v1)]) (st' := [sv_i ((-2))]) rfl ?_
    exact sv_iret C hr (by decide +kernel) hok4 (⟨congrArg (fun q => [sv_i q]) (by first | omega | (unfold fx_br; omega)), hF⟩)

theorem fl_X11_127 : Cond.fieldLink RX11 127 "SaintsRoadModel" "quarrels" "[Z" ∈ lw_good := sv_mem 1137 (by decide +kernel) rfl
set_option maxHeartbeats 4000000 in
set_option maxRecDepth 100000 in
theorem ct_X11_quarrel (l : Launch) (g : sv_G) (A : Nat → Prop) (ty : Nat → Nat) (σ : Nat → Nat → Int) (hok : sv_ok ty σ) (hTA : ∀ q, ty q ≠ 0 → A q) (hI : sv_inv sp_1 ty σ) (hZ : sv_inv sp_0 ty σ) (a : Nat) (k_a : ty a = 10) (v1 : Int) (hv1 : sv_in v1) (v2 : Int) (hv2 : sv_in v2) (on : Int) (hon : 0 ≤ on ∧ on ≤ 1) : sv_M l yX11_quarrel cX11_quarrel 5 (some .int) { frames := 2, cells := 0, slots := 0, locals := 45 } g A ty σ [sv_r a, sv_i v1, sv_i v2, sv_i on] (fun r σ' => r = [sv_i (fx_quarrel v1 v2 on)] ∧ sv_off [93] ty σ σ') := by
  refine sv_enter (by decide) (Nat.le_of_ble_eq_true rfl) ?_
  intro p e s m args below meth c C hr
  have C : sv_C g A RX11 cX11_quarrel 5 p s m args meth c := C
  have hr : meth.sig.returnType = (some .int) := hr
  have hF : sv_off [93] ty σ σ := sv_off.rf
  refine sv_same (st2 := []) (lv2 := [(0, sv_r a), (1, sv_i v1), (2, sv_i v2), (3, sv_i on)]) rfl rfl ?_
  refine sv_go C.1 C.2.1 [(.iload_n 1, 1)] (pc' := 1) (by decide +kernel) rfl (lv' := [(0, sv_r a), (1, sv_i v1), (2, sv_i v2), (3, sv_i on)]) (st' := [sv_i v1]) rfl ?_
  refine sv_cs C (index := 316) (k := 1) (rest := []) (by decide +kernel) (ct_X11_isBrotherhood l g A ty σ hok (v1) ⟨by omega, by omega⟩) ⟨co_X11_isBrotherhood, in_X11, ⟨by decide, by decide, by decide +kernel⟩, Nat.le_of_ble_eq_true rfl, Nat.le_of_ble_eq_true rfl⟩ ml_X11_316 st_X11_isBrotherhood rfl rfl (Nat.le_of_ble_eq_true rfl) ⟨Nat.zero_le _, Nat.zero_le _⟩ (fun r2 σ3 hpo1 hok4 => ?_)
  obtain ⟨rfl, ⟨h5, rfl⟩ | ⟨h5, rfl⟩⟩ := hpo1
  · refine sv_same (st2 := [sv_i 1]) (lv2 := [(0, sv_r a), (1, sv_i v1), (2, sv_i v2), (3, sv_i on)]) rfl rfl ?_
    refine sv_if_f C.1 C.2.1 (cnd := .eq) (off := 15) (tgt := 19) (by decide +kernel) (by decide) ⟨by omega, by omega⟩ (show ¬ (1 = 0) by omega) ?_
    refine sv_go C.1 C.2.1 [(.iload_n 2, 1)] (pc' := 8) (by decide +kernel) rfl (lv' := [(0, sv_r a), (1, sv_i v1), (2, sv_i v2), (3, sv_i on)]) (st' := [sv_i v2]) rfl ?_
    refine sv_cs C (index := 316) (k := 1) (rest := []) (by decide +kernel) (ct_X11_isBrotherhood l g A ty σ hok4 (v2) ⟨by omega, by omega⟩) ⟨co_X11_isBrotherhood, in_X11, ⟨by decide, by decide, by decide +kernel⟩, Nat.le_of_ble_eq_true rfl, Nat.le_of_ble_eq_true rfl⟩ ml_X11_316 st_X11_isBrotherhood rfl rfl (Nat.le_of_ble_eq_true rfl) ⟨Nat.zero_le _, Nat.zero_le _⟩ (fun r7 σ8 hpo6 hok9 => ?_)
    obtain ⟨rfl, ⟨h10, rfl⟩ | ⟨h10, rfl⟩⟩ := hpo6
    · refine sv_same (st2 := [sv_i 1]) (lv2 := [(0, sv_r a), (1, sv_i v1), (2, sv_i v2), (3, sv_i on)]) rfl rfl ?_
      refine sv_if_f C.1 C.2.1 (cnd := .eq) (off := 8) (tgt := 19) (by decide +kernel) (by decide) ⟨by omega, by omega⟩ (show ¬ (1 = 0) by omega) ?_
      refine sv_go C.1 C.2.1 [(.iload_n 1, 1), (.iload_n 2, 1)] (pc' := 16) (by decide +kernel) rfl (lv' := [(0, sv_r a), (1, sv_i v1), (2, sv_i v2), (3, sv_i on)]) (st' := [sv_i v2, sv_i v1]) rfl ?_
      refine sv_icmp C.1 C.2.1 (cnd := .ne) (off := 6) (tgt := 22) (by decide +kernel) (by decide) ⟨by omega, by omega⟩ ⟨by omega, by omega⟩ (fun (h11 : v1 ≠ v2) => ?_) (fun (h11 : ¬ (v1 ≠ v2)) => ?_)
      · refine sv_go C.1 C.2.1 [(.aload_n 0, 1)] (pc' := 23) (by decide +kernel) rfl (lv' := [(0, sv_r a), (1, sv_i v1), (2, sv_i v2), (3, sv_i on)]) (st' := [sv_r a]) rfl ?_
        obtain ⟨q12, eq12, kq12⟩ := hI.ref (k := 33) k_a rfl
        refine sv_gf C (index := 127) (ci := 10) (k := 33) (r := (RX11, TX11, 47)) (v := sv_r q12) (by decide +kernel) (by rw [k_a]; rfl) rfl (by decide) fl_X11_127 (congrArg sv_a eq12) ?_
        refine sv_go C.1 C.2.1 [(.bipush 10, 2), (.iload_n 1, 1), (.imul, 1), (.iload_n 2, 1), (.iadd, 1)] (pc' := 32) (by decide +kernel) rfl (lv' := [(0, sv_r a), (1, sv_i v1), (2, sv_i v2), (3, sv_i on)]) (st' := [sv_i ((10 * v1) + v2), sv_r q12]) rfl ?_
        refine sv_za C (n := 100) (by decide +kernel) (by rw [kq12]; rfl) (by decide) (by omega) (by omega) ?_
        have w13 : σ q12 ((10 * v1) + v2).toNat = 0 := by have q := hZ.num (k := ((10 * v1) + v2 : Int).toNat) kq12 rfl; omega
        rw [w13]
        refine sv_go C.1 C.2.1 [(.istore 4, 2), (.aload_n 0, 1)] (pc' := 36) (by decide +kernel) rfl (lv' := [(0, sv_r a), (1, sv_i v1), (2, sv_i v2), (3, sv_i on), (4, sv_i 0)]) (st' := [sv_r a]) rfl ?_
        refine sv_gf C (index := 127) (ci := 10) (k := 33) (r := (RX11, TX11, 47)) (v := sv_r q12) (by decide +kernel) (by rw [k_a]; rfl) rfl (by decide) fl_X11_127 (congrArg sv_a eq12) ?_
        refine sv_go C.1 C.2.1 [(.bipush 10, 2), (.iload_n 1, 1), (.imul, 1), (.iload_n 2, 1), (.iadd, 1), (.iload_n 3, 1)] (pc' := 46) (by decide +kernel) rfl (lv' := [(0, sv_r a), (1, sv_i v1), (2, sv_i v2), (3, sv_i on), (4, sv_i 0)]) (st' := [sv_i on, sv_i ((10 * v1) + v2), sv_r q12]) rfl ?_
        refine sv_zs C (n := 100) (by decide +kernel) (by rw [kq12]; rfl) (by decide) (by omega) (by omega) ⟨by omega, by omega⟩ (hTA _ (by rw [kq12]; decide)) hok9 (fun hok14 => ?_)
        have hI16 := hI.up (a := q12) (k := ((10 * v1) + v2 : Int).toNat) (z := on) (by rw [kq12]; exact trivial)
        have hF17 := hF.up (a := q12) (k := ((10 * v1) + v2 : Int).toNat) (z := on) (by rw [kq12]; decide)
        generalize eσ15 : sv_up σ q12 ((10 * v1) + v2 : Int).toNat on = σ15 at hok14 hI16 hF17 ⊢
        have t18 : σ15 a 33 = (q12 : Int) + 1 := by rw [← eσ15, sv_up_a (sv_ne k_a kq12 (by decide))]; exact eq12
        refine sv_go C.1 C.2.1 [(.aload_n 0, 1)] (pc' := 48) (by decide +kernel) rfl (lv' := [(0, sv_r a), (1, sv_i v1), (2, sv_i v2), (3, sv_i on), (4, sv_i 0)]) (st' := [sv_r a]) rfl ?_
        refine sv_gf C (index := 127) (ci := 10) (k := 33) (r := (RX11, TX11, 47)) (v := sv_r q12) (by decide +kernel) (by rw [k_a]; rfl) rfl (by decide) fl_X11_127 (congrArg sv_a t18) ?_
        refine sv_go C.1 C.2.1 [(.bipush 10, 2), (.iload_n 2, 1), (.imul, 1), (.iload_n 1, 1), (.iadd, 1), (.iload_n 3, 1)] (pc' := 58) (by decide +kernel) rfl (lv' := [(0, sv_r a), (1, sv_i v1), (2, sv_i v2), (3, sv_i on), (4, sv_i 0)]) (st' := [sv_i on, sv_i ((10 * v2) + v1), sv_r q12]) rfl ?_
        refine sv_zs C (n := 100) (by decide +kernel) (by rw [kq12]; rfl) (by decide) (by omega) (by omega) ⟨by omega, by omega⟩ (hTA _ (by rw [kq12]; decide)) hok14 (fun hok19 => ?_)
        have hI21 := hI16.up (a := q12) (k := ((10 * v2) + v1 : Int).toNat) (z := on) (by rw [kq12]; exact trivial)
        have hF22 := hF17.up (a := q12) (k := ((10 * v2) + v1 : Int).toNat) (z := on) (by rw [kq12]; decide)
        generalize eσ20 : sv_up σ15 q12 ((10 * v2) + v1 : Int).toNat on = σ20 at hok19 hI21 hF22 ⊢
        have t23 : σ20 a 33 = (q12 : Int) + 1 := by rw [← eσ20, sv_up_a (sv_ne k_a kq12 (by decide))]; exact t18
        refine sv_go C.1 C.2.1 [(.iload 4, 2), (.iload_n 3, 1)] (pc' := 62) (by decide +kernel) rfl (lv' := [(0, sv_r a), (1, sv_i v1), (2, sv_i v2), (3, sv_i on), (4, sv_i 0)]) (st' := [sv_i on, sv_i 0]) rfl ?_
        refine sv_icmp C.1 C.2.1 (cnd := .ne) (off := 7) (tgt := 69) (by decide +kernel) (by decide) ⟨by omega, by omega⟩ ⟨by omega, by omega⟩ (fun (h24 : 0 ≠ on) => ?_) (fun (h24 : ¬ (0 ≠ on)) => ?_)
        · refine sv_go C.1 C.2.1 [(.iconst 1, 1)] (pc' := 70) (by decide +kernel) rfl (lv' := [(0, sv_r a), (1, sv_i v1), (2, sv_i v2), (3, sv_i on), (4, sv_i 0)]) (st' := [sv_i 1]) rfl ?_
          exact sv_iret C hr (by decide +kernel) hok19 (⟨congrArg (fun q => [sv_i q]) (by first | omega | (unfold fx_quarrel; omega)), hF22⟩)
        · refine sv_go C.1 C.2.1 [(.iconst 0, 1)] (pc' := 66) (by decide +kernel) rfl (lv' := [(0, sv_r a), (1, sv_i v1), (2, sv_i v2), (3, sv_i on), (4, sv_i 0)]) (st' := [sv_i 0]) rfl ?_
          refine sv_goto C.1 C.2.1 (off := 4) (tgt := 70) (by decide +kernel) (by decide) ?_
          exact sv_iret C hr (by decide +kernel) hok19 (⟨congrArg (fun q => [sv_i q]) (by first | omega | (unfold fx_quarrel; omega)), hF22⟩)
      · refine sv_go C.1 C.2.1 [(.bipush (-2), 2)] (pc' := 21) (by decide +kernel) rfl (lv' := [(0, sv_r a), (1, sv_i v1), (2, sv_i v2), (3, sv_i on)]) (st' := [sv_i ((-2))]) rfl ?_
        exact sv_iret C hr (by decide +kernel) hok9 (⟨congrArg (fun q => [sv_i q]) (by first | omega | (unfold fx_quarrel; omega)), hF⟩)
    · refine sv_same (st2 := [sv_i 0]) (lv2 := [(0, sv_r a), (1, sv_i v1), (2, sv_i v2), (3, sv_i on)]) rfl rfl ?_
      refine sv_if_t C.1 C.2.1 (cnd := .eq) (off := 8) (tgt := 19) (by decide +kernel) (by decide) ⟨by omega, by omega⟩ (show 0 = 0 by omega) ?_
      refine sv_go C.1 C.2.1 [(.bipush (-2), 2)] (pc' := 21) (by decide +kernel) rfl (lv' := [(0, sv_r a), (1, sv_i v1), (2, sv_i v2), (3, sv_i on)]) (st' := [sv_i ((-2))]) rfl ?_
      exact sv_iret C hr (by decide +kernel) hok9 (⟨congrArg (fun q => [sv_i q]) (by first | omega | (unfold fx_quarrel; omega)), hF⟩)
  · refine sv_same (st2 := [sv_i 0]) (lv2 := [(0, sv_r a), (1, sv_i v1), (2, sv_i v2), (3, sv_i on)]) rfl rfl ?_
    refine sv_if_t C.1 C.2.1 (cnd := .eq) (off := 15) (tgt := 19) (by decide +kernel) (by decide) ⟨by omega, by omega⟩ (show 0 = 0 by omega) ?_
    refine sv_go C.1 C.2.1 [(.bipush (-2), 2)] (pc' := 21) (by decide +kernel) rfl (lv' := [(0, sv_r a), (1, sv_i v1), (2, sv_i v2), (3, sv_i on)]) (st' := [sv_i ((-2))]) rfl ?_
    exact sv_iret C hr (by decide +kernel) hok4 (⟨congrArg (fun q => [sv_i q]) (by first | omega | (unfold fx_quarrel; omega)), hF⟩)

theorem ml_X11_338 : Cond.methodLink RX11 338 yX11_isCorner ∈ lw_good := sv_mem 1449 (by decide +kernel) rfl
theorem co_X11_isCorner : Cond.code yX11_isCorner cX11_isCorner 1 (some .boolean) ∈ lw_good := sv_mem 1451 (by decide +kernel) rfl
theorem st_X11_isCorner : Cond.static yX11_isCorner ∈ lw_good := sv_mem 1450 (by decide +kernel) rfl
theorem cl_X11_341 : Cond.constantLong RX11 341 (60) ∈ lw_good := sv_mem 1453 (by decide +kernel) rfl
theorem fl_X11_148 : Cond.fieldLink RX11 148 "SaintsRoadModel" "streets" "[I" ∈ lw_good := sv_mem 1145 (by decide +kernel) rfl
set_option maxHeartbeats 4000000 in
set_option maxRecDepth 100000 in
theorem ct_X11_street (l : Launch) (g : sv_G) (A : Nat → Prop) (ty : Nat → Nat) (σ : Nat → Nat → Int) (hok : sv_ok ty σ) (hTA : ∀ q, ty q ≠ 0 → A q) (hI : sv_inv sp_1 ty σ) (hZ : sv_inv sp_0 ty σ) (a : Nat) (k_a : ty a = 10) (v1 : Int) (hv1 : sv_in v1) (v2 : Int) (hv2 : sv_in v2) (v3 : Int) (hv3 : sv_in v3) : sv_M l yX11_street cX11_street 5 (some .int) { frames := 2, cells := 0, slots := 0, locals := 45 } g A ty σ [sv_r a, sv_i v1, sv_i v2, sv_i v3] (fun r σ' => r = [sv_i (fx_street v1 v2 v3)] ∧ sv_off [101] ty σ σ') := by
  refine sv_enter (by decide) (Nat.le_of_ble_eq_true rfl) ?_
  intro p e s m args below meth c C hr
  have C : sv_C g A RX11 cX11_street 5 p s m args meth c := C
  have hr : meth.sig.returnType = (some .int) := hr
  have hF : sv_off [101] ty σ σ := sv_off.rf
  refine sv_same (st2 := []) (lv2 := [(0, sv_r a), (1, sv_i v1), (2, sv_i v2), (3, sv_i v3)]) rfl rfl ?_
  refine sv_go C.1 C.2.1 [(.iload_n 1, 1)] (pc' := 1) (by decide +kernel) rfl (lv' := [(0, sv_r a), (1, sv_i v1), (2, sv_i v2), (3, sv_i v3)]) (st' := [sv_i v1]) rfl ?_
  refine sv_cs C (index := 338) (k := 1) (rest := []) (by decide +kernel) (ct_X11_isCorner l g A ty σ hok (v1) ⟨by omega, by omega⟩) ⟨co_X11_isCorner, in_X11, ⟨by decide, by decide, by decide +kernel⟩, Nat.le_of_ble_eq_true rfl, Nat.le_of_ble_eq_true rfl⟩ ml_X11_338 st_X11_isCorner rfl rfl (Nat.le_of_ble_eq_true rfl) ⟨Nat.zero_le _, Nat.zero_le _⟩ (fun r2 σ3 hpo1 hok4 => ?_)
  obtain ⟨rfl, ⟨h5, rfl⟩ | ⟨h5, rfl⟩⟩ := hpo1
  · refine sv_same (st2 := [sv_i 1]) (lv2 := [(0, sv_r a), (1, sv_i v1), (2, sv_i v2), (3, sv_i v3)]) rfl rfl ?_
    refine sv_if_f C.1 C.2.1 (cnd := .eq) (off := 27) (tgt := 31) (by decide +kernel) (by decide) ⟨by omega, by omega⟩ (show ¬ (1 = 0) by omega) ?_
    refine sv_go C.1 C.2.1 [(.iload_n 2, 1)] (pc' := 8) (by decide +kernel) rfl (lv' := [(0, sv_r a), (1, sv_i v1), (2, sv_i v2), (3, sv_i v3)]) (st' := [sv_i v2]) rfl ?_
    refine sv_cs C (index := 338) (k := 1) (rest := []) (by decide +kernel) (ct_X11_isCorner l g A ty σ hok4 (v2) ⟨by omega, by omega⟩) ⟨co_X11_isCorner, in_X11, ⟨by decide, by decide, by decide +kernel⟩, Nat.le_of_ble_eq_true rfl, Nat.le_of_ble_eq_true rfl⟩ ml_X11_338 st_X11_isCorner rfl rfl (Nat.le_of_ble_eq_true rfl) ⟨Nat.zero_le _, Nat.zero_le _⟩ (fun r7 σ8 hpo6 hok9 => ?_)
    obtain ⟨rfl, ⟨h10, rfl⟩ | ⟨h10, rfl⟩⟩ := hpo6
    · refine sv_same (st2 := [sv_i 1]) (lv2 := [(0, sv_r a), (1, sv_i v1), (2, sv_i v2), (3, sv_i v3)]) rfl rfl ?_
      refine sv_if_f C.1 C.2.1 (cnd := .eq) (off := 20) (tgt := 31) (by decide +kernel) (by decide) ⟨by omega, by omega⟩ (show ¬ (1 = 0) by omega) ?_
      refine sv_go C.1 C.2.1 [(.iload_n 1, 1), (.iload_n 2, 1)] (pc' := 16) (by decide +kernel) rfl (lv' := [(0, sv_r a), (1, sv_i v1), (2, sv_i v2), (3, sv_i v3)]) (st' := [sv_i v2, sv_i v1]) rfl ?_
      refine sv_icmp C.1 C.2.1 (cnd := .eq) (off := 15) (tgt := 31) (by decide +kernel) (by decide) ⟨by omega, by omega⟩ ⟨by omega, by omega⟩ (fun (h11 : v1 = v2) => ?_) (fun (h11 : ¬ (v1 = v2)) => ?_)
      · refine sv_go C.1 C.2.1 [(.bipush (-2), 2)] (pc' := 33) (by decide +kernel) rfl (lv' := [(0, sv_r a), (1, sv_i v1), (2, sv_i v2), (3, sv_i v3)]) (st' := [sv_i ((-2))]) rfl ?_
        exact sv_iret C hr (by decide +kernel) hok9 (⟨congrArg (fun q => [sv_i q]) (by first | omega | (unfold fx_street; omega)), hF⟩)
      · refine sv_go C.1 C.2.1 [(.iload_n 3, 1)] (pc' := 20) (by decide +kernel) rfl (lv' := [(0, sv_r a), (1, sv_i v1), (2, sv_i v2), (3, sv_i v3)]) (st' := [sv_i v3]) rfl ?_
        refine sv_i2l C.1 C.2.1 (by decide +kernel) ⟨by omega, by omega⟩ ?_
        refine sv_go C.1 C.2.1 [(.lconst 0, 1)] (pc' := 22) (by decide +kernel) rfl (lv' := [(0, sv_r a), (1, sv_i v1), (2, sv_i v2), (3, sv_i v3)]) (st' := [sv_l 0, sv_l v3]) rfl ?_
        refine sv_ldc2 C (index := 341) (z := 60) (by decide +kernel) cl_X11_341 (by decide) ?_
        refine sv_cs C (index := 9) (k := 3) (rest := []) (by decide +kernel) (ct_X11_in l g A ty σ hok9 (v3) ⟨by omega, by omega⟩ (0) ⟨by omega, by omega⟩ (60) ⟨by omega, by omega⟩) ⟨co_X11_in, in_X11, ⟨by decide, by decide, by decide +kernel⟩, Nat.le_of_ble_eq_true rfl, Nat.le_of_ble_eq_true rfl⟩ ml_X11_9 st_X11_in rfl rfl (Nat.le_of_ble_eq_true rfl) ⟨Nat.zero_le _, Nat.zero_le _⟩ (fun r13 σ14 hpo12 hok15 => ?_)
        obtain ⟨rfl, ⟨h16, rfl⟩ | ⟨h16, rfl⟩⟩ := hpo12
        · refine sv_same (st2 := [sv_i 1]) (lv2 := [(0, sv_r a), (1, sv_i v1), (2, sv_i v2), (3, sv_i v3)]) rfl rfl ?_
          refine sv_if_t C.1 C.2.1 (cnd := .ne) (off := 6) (tgt := 34) (by decide +kernel) (by decide) ⟨by omega, by omega⟩ (show 1 ≠ 0 by omega) ?_
          refine sv_go C.1 C.2.1 [(.aload_n 0, 1)] (pc' := 35) (by decide +kernel) rfl (lv' := [(0, sv_r a), (1, sv_i v1), (2, sv_i v2), (3, sv_i v3)]) (st' := [sv_r a]) rfl ?_
          obtain ⟨q17, eq17, kq17⟩ := hI.ref (k := 41) k_a rfl
          refine sv_gf C (index := 148) (ci := 10) (k := 41) (r := (RX11, TX11, 47)) (v := sv_r q17) (by decide +kernel) (by rw [k_a]; rfl) rfl (by decide) fl_X11_148 (congrArg sv_a eq17) ?_
          refine sv_go C.1 C.2.1 [(.bipush 20, 2), (.iload_n 1, 1), (.imul, 1), (.iload_n 2, 1), (.iadd, 1)] (pc' := 44) (by decide +kernel) rfl (lv' := [(0, sv_r a), (1, sv_i v1), (2, sv_i v2), (3, sv_i v3)]) (st' := [sv_i ((20 * v1) + v2), sv_r q17]) rfl ?_
          refine sv_ia C (n := 400) (by decide +kernel) (by rw [kq17]; rfl) (by decide) (by omega) (by omega) ?_
          have w18 : σ q17 ((20 * v1) + v2).toNat = 0 := by have q := hZ.num (k := ((20 * v1) + v2 : Int).toNat) kq17 rfl; omega
          rw [w18]
          refine sv_go C.1 C.2.1 [(.istore 4, 2), (.aload_n 0, 1)] (pc' := 48) (by decide +kernel) rfl (lv' := [(0, sv_r a), (1, sv_i v1), (2, sv_i v2), (3, sv_i v3), (4, sv_i 0)]) (st' := [sv_r a]) rfl ?_
          refine sv_gf C (index := 148) (ci := 10) (k := 41) (r := (RX11, TX11, 47)) (v := sv_r q17) (by decide +kernel) (by rw [k_a]; rfl) rfl (by decide) fl_X11_148 (congrArg sv_a eq17) ?_
          refine sv_go C.1 C.2.1 [(.bipush 20, 2), (.iload_n 1, 1), (.imul, 1), (.iload_n 2, 1), (.iadd, 1), (.iload_n 3, 1)] (pc' := 58) (by decide +kernel) rfl (lv' := [(0, sv_r a), (1, sv_i v1), (2, sv_i v2), (3, sv_i v3), (4, sv_i 0)]) (st' := [sv_i v3, sv_i ((20 * v1) + v2), sv_r q17]) rfl ?_
          refine sv_is C (n := 400) (by decide +kernel) (by rw [kq17]; rfl) (by decide) (by omega) (by omega) ⟨by omega, by omega⟩ (hTA _ (by rw [kq17]; decide)) hok15 (fun hok19 => ?_)
          have hI21 := hI.up (a := q17) (k := ((20 * v1) + v2 : Int).toNat) (z := v3) (by rw [kq17]; exact trivial)
          have hF22 := hF.up (a := q17) (k := ((20 * v1) + v2 : Int).toNat) (z := v3) (by rw [kq17]; decide)
          generalize eσ20 : sv_up σ q17 ((20 * v1) + v2 : Int).toNat v3 = σ20 at hok19 hI21 hF22 ⊢
          have t23 : σ20 a 41 = (q17 : Int) + 1 := by rw [← eσ20, sv_up_a (sv_ne k_a kq17 (by decide))]; exact eq17
          refine sv_go C.1 C.2.1 [(.aload_n 0, 1)] (pc' := 60) (by decide +kernel) rfl (lv' := [(0, sv_r a), (1, sv_i v1), (2, sv_i v2), (3, sv_i v3), (4, sv_i 0)]) (st' := [sv_r a]) rfl ?_
          refine sv_gf C (index := 148) (ci := 10) (k := 41) (r := (RX11, TX11, 47)) (v := sv_r q17) (by decide +kernel) (by rw [k_a]; rfl) rfl (by decide) fl_X11_148 (congrArg sv_a t23) ?_
          refine sv_go C.1 C.2.1 [(.bipush 20, 2), (.iload_n 2, 1), (.imul, 1), (.iload_n 1, 1), (.iadd, 1), (.iload_n 3, 1)] (pc' := 70) (by decide +kernel) rfl (lv' := [(0, sv_r a), (1, sv_i v1), (2, sv_i v2), (3, sv_i v3), (4, sv_i 0)]) (st' := [sv_i v3, sv_i ((20 * v2) + v1), sv_r q17]) rfl ?_
          refine sv_is C (n := 400) (by decide +kernel) (by rw [kq17]; rfl) (by decide) (by omega) (by omega) ⟨by omega, by omega⟩ (hTA _ (by rw [kq17]; decide)) hok19 (fun hok24 => ?_)
          have hI26 := hI21.up (a := q17) (k := ((20 * v2) + v1 : Int).toNat) (z := v3) (by rw [kq17]; exact trivial)
          have hF27 := hF22.up (a := q17) (k := ((20 * v2) + v1 : Int).toNat) (z := v3) (by rw [kq17]; decide)
          generalize eσ25 : sv_up σ20 q17 ((20 * v2) + v1 : Int).toNat v3 = σ25 at hok24 hI26 hF27 ⊢
          have t28 : σ25 a 41 = (q17 : Int) + 1 := by rw [← eσ25, sv_up_a (sv_ne k_a kq17 (by decide))]; exact t23
          refine sv_go C.1 C.2.1 [(.iload 4, 2)] (pc' := 73) (by decide +kernel) rfl (lv' := [(0, sv_r a), (1, sv_i v1), (2, sv_i v2), (3, sv_i v3), (4, sv_i 0)]) (st' := [sv_i 0]) rfl ?_
          exact sv_iret C hr (by decide +kernel) hok24 (⟨congrArg (fun q => [sv_i q]) (by first | omega | (unfold fx_street; omega)), hF27⟩)
        · refine sv_same (st2 := [sv_i 0]) (lv2 := [(0, sv_r a), (1, sv_i v1), (2, sv_i v2), (3, sv_i v3)]) rfl rfl ?_
          refine sv_if_f C.1 C.2.1 (cnd := .ne) (off := 6) (tgt := 34) (by decide +kernel) (by decide) ⟨by omega, by omega⟩ (show ¬ (0 ≠ 0) by omega) ?_
          refine sv_go C.1 C.2.1 [(.bipush (-2), 2)] (pc' := 33) (by decide +kernel) rfl (lv' := [(0, sv_r a), (1, sv_i v1), (2, sv_i v2), (3, sv_i v3)]) (st' := [sv_i ((-2))]) rfl ?_
          exact sv_iret C hr (by decide +kernel) hok15 (⟨congrArg (fun q => [sv_i q]) (by first | omega | (unfold fx_street; omega)), hF⟩)
    · refine sv_same (st2 := [sv_i 0]) (lv2 := [(0, sv_r a), (1, sv_i v1), (2, sv_i v2), (3, sv_i v3)]) rfl rfl ?_
      refine sv_if_t C.1 C.2.1 (cnd := .eq) (off := 20) (tgt := 31) (by decide +kernel) (by decide) ⟨by omega, by omega⟩ (show 0 = 0 by omega) ?_
      refine sv_go C.1 C.2.1 [(.bipush (-2), 2)] (pc' := 33) (by decide +kernel) rfl (lv' := [(0, sv_r a), (1, sv_i v1), (2, sv_i v2), (3, sv_i v3)]) (st' := [sv_i ((-2))]) rfl ?_
      exact sv_iret C hr (by decide +kernel) hok9 (⟨congrArg (fun q => [sv_i q]) (by first | omega | (unfold fx_street; omega)), hF⟩)
  · refine sv_same (st2 := [sv_i 0]) (lv2 := [(0, sv_r a), (1, sv_i v1), (2, sv_i v2), (3, sv_i v3)]) rfl rfl ?_
    refine sv_if_t C.1 C.2.1 (cnd := .eq) (off := 27) (tgt := 31) (by decide +kernel) (by decide) ⟨by omega, by omega⟩ (show 0 = 0 by omega) ?_
    refine sv_go C.1 C.2.1 [(.bipush (-2), 2)] (pc' := 33) (by decide +kernel) rfl (lv' := [(0, sv_r a), (1, sv_i v1), (2, sv_i v2), (3, sv_i v3)]) (st' := [sv_i ((-2))]) rfl ?_
    exact sv_iret C hr (by decide +kernel) hok4 (⟨congrArg (fun q => [sv_i q]) (by first | omega | (unfold fx_street; omega)), hF⟩)

theorem ml_X11_345 : Cond.methodLink RX11 345 yX11_isWalk ∈ lw_good := sv_mem 1458 (by decide +kernel) rfl
theorem co_X11_isWalk : Cond.code yX11_isWalk cX11_isWalk 1 (some .boolean) ∈ lw_good := sv_mem 1460 (by decide +kernel) rfl
theorem st_X11_isWalk : Cond.static yX11_isWalk ∈ lw_good := sv_mem 1459 (by decide +kernel) rfl
theorem cl_X11_348 : Cond.constantLong RX11 348 (1440) ∈ lw_good := sv_mem 1462 (by decide +kernel) rfl
theorem cl_X11_350 : Cond.constantLong RX11 350 (30) ∈ lw_good := sv_mem 1463 (by decide +kernel) rfl
theorem fl_X11_151 : Cond.fieldLink RX11 151 "SaintsRoadModel" "stops" "[I" ∈ lw_good := sv_mem 1146 (by decide +kernel) rfl
theorem fl_X11_154 : Cond.fieldLink RX11 154 "SaintsRoadModel" "start" "[I" ∈ lw_good := sv_mem 1147 (by decide +kernel) rfl
theorem fl_X11_157 : Cond.fieldLink RX11 157 "SaintsRoadModel" "tail" "[I" ∈ lw_good := sv_mem 1148 (by decide +kernel) rfl
theorem fl_X11_160 : Cond.fieldLink RX11 160 "SaintsRoadModel" "corner" "[I" ∈ lw_good := sv_mem 1149 (by decide +kernel) rfl
theorem fl_X11_163 : Cond.fieldLink RX11 163 "SaintsRoadModel" "after" "[I" ∈ lw_good := sv_mem 1150 (by decide +kernel) rfl
set_option maxHeartbeats 4000000 in
set_option maxRecDepth 100000 in
theorem ct_X11_begin (l : Launch) (g : sv_G) (A : Nat → Prop) (ty : Nat → Nat) (σ : Nat → Nat → Int) (hok : sv_ok ty σ) (hTA : ∀ q, ty q ≠ 0 → A q) (hI : sv_inv sp_1 ty σ) (hZ : sv_inv sp_0 ty σ) (a : Nat) (k_a : ty a = 10) (v1 : Int) (hv1 : sv_in v1) (v2 : Int) (hv2 : sv_in v2) (v3 : Int) (hv3 : sv_in v3) (v4 : Int) (hv4 : sv_in v4) : sv_M l yX11_begin cX11_begin 5 (some .int) { frames := 2, cells := 0, slots := 0, locals := 45 } g A ty σ [sv_r a, sv_i v1, sv_i v2, sv_i v3, sv_i v4] (fun r σ' => r = [sv_i (fx_begin v1 v2 v3 v4)] ∧ sv_off [102, 103, 104, 105, 106] ty σ σ') := by
  refine sv_enter (by decide) (Nat.le_of_ble_eq_true rfl) ?_
  intro p e s m args below meth c C hr
  have C : sv_C g A RX11 cX11_begin 5 p s m args meth c := C
  have hr : meth.sig.returnType = (some .int) := hr
  have hF : sv_off [102, 103, 104, 105, 106] ty σ σ := sv_off.rf
  refine sv_same (st2 := []) (lv2 := [(0, sv_r a), (1, sv_i v1), (2, sv_i v2), (3, sv_i v3), (4, sv_i v4)]) rfl rfl ?_
  refine sv_go C.1 C.2.1 [(.iload_n 1, 1)] (pc' := 1) (by decide +kernel) rfl (lv' := [(0, sv_r a), (1, sv_i v1), (2, sv_i v2), (3, sv_i v3), (4, sv_i v4)]) (st' := [sv_i v1]) rfl ?_
  refine sv_cs C (index := 345) (k := 1) (rest := []) (by decide +kernel) (ct_X11_isWalk l g A ty σ hok (v1) ⟨by omega, by omega⟩) ⟨co_X11_isWalk, in_X11, ⟨by decide, by decide, by decide +kernel⟩, Nat.le_of_ble_eq_true rfl, Nat.le_of_ble_eq_true rfl⟩ ml_X11_345 st_X11_isWalk rfl rfl (Nat.le_of_ble_eq_true rfl) ⟨Nat.zero_le _, Nat.zero_le _⟩ (fun r2 σ3 hpo1 hok4 => ?_)
  obtain ⟨rfl, ⟨h5, rfl⟩ | ⟨h5, rfl⟩⟩ := hpo1
  · refine sv_same (st2 := [sv_i 1]) (lv2 := [(0, sv_r a), (1, sv_i v1), (2, sv_i v2), (3, sv_i v3), (4, sv_i v4)]) rfl rfl ?_
    refine sv_if_f C.1 C.2.1 (cnd := .eq) (off := 35) (tgt := 39) (by decide +kernel) (by decide) ⟨by omega, by omega⟩ (show ¬ (1 = 0) by omega) ?_
    refine sv_go C.1 C.2.1 [(.iload_n 2, 1)] (pc' := 8) (by decide +kernel) rfl (lv' := [(0, sv_r a), (1, sv_i v1), (2, sv_i v2), (3, sv_i v3), (4, sv_i v4)]) (st' := [sv_i v2]) rfl ?_
    refine sv_cs C (index := 338) (k := 1) (rest := []) (by decide +kernel) (ct_X11_isCorner l g A ty σ hok4 (v2) ⟨by omega, by omega⟩) ⟨co_X11_isCorner, in_X11, ⟨by decide, by decide, by decide +kernel⟩, Nat.le_of_ble_eq_true rfl, Nat.le_of_ble_eq_true rfl⟩ ml_X11_338 st_X11_isCorner rfl rfl (Nat.le_of_ble_eq_true rfl) ⟨Nat.zero_le _, Nat.zero_le _⟩ (fun r7 σ8 hpo6 hok9 => ?_)
    obtain ⟨rfl, ⟨h10, rfl⟩ | ⟨h10, rfl⟩⟩ := hpo6
    · refine sv_same (st2 := [sv_i 1]) (lv2 := [(0, sv_r a), (1, sv_i v1), (2, sv_i v2), (3, sv_i v3), (4, sv_i v4)]) rfl rfl ?_
      refine sv_if_f C.1 C.2.1 (cnd := .eq) (off := 28) (tgt := 39) (by decide +kernel) (by decide) ⟨by omega, by omega⟩ (show ¬ (1 = 0) by omega) ?_
      refine sv_go C.1 C.2.1 [(.iload_n 3, 1)] (pc' := 15) (by decide +kernel) rfl (lv' := [(0, sv_r a), (1, sv_i v1), (2, sv_i v2), (3, sv_i v3), (4, sv_i v4)]) (st' := [sv_i v3]) rfl ?_
      refine sv_i2l C.1 C.2.1 (by decide +kernel) ⟨by omega, by omega⟩ ?_
      refine sv_go C.1 C.2.1 [(.lconst 0, 1)] (pc' := 17) (by decide +kernel) rfl (lv' := [(0, sv_r a), (1, sv_i v1), (2, sv_i v2), (3, sv_i v3), (4, sv_i v4)]) (st' := [sv_l 0, sv_l v3]) rfl ?_
      refine sv_ldc2 C (index := 348) (z := 1440) (by decide +kernel) cl_X11_348 (by decide) ?_
      refine sv_cs C (index := 9) (k := 3) (rest := []) (by decide +kernel) (ct_X11_in l g A ty σ hok9 (v3) ⟨by omega, by omega⟩ (0) ⟨by omega, by omega⟩ (1440) ⟨by omega, by omega⟩) ⟨co_X11_in, in_X11, ⟨by decide, by decide, by decide +kernel⟩, Nat.le_of_ble_eq_true rfl, Nat.le_of_ble_eq_true rfl⟩ ml_X11_9 st_X11_in rfl rfl (Nat.le_of_ble_eq_true rfl) ⟨Nat.zero_le _, Nat.zero_le _⟩ (fun r12 σ13 hpo11 hok14 => ?_)
      obtain ⟨rfl, ⟨h15, rfl⟩ | ⟨h15, rfl⟩⟩ := hpo11
      · refine sv_same (st2 := [sv_i 1]) (lv2 := [(0, sv_r a), (1, sv_i v1), (2, sv_i v2), (3, sv_i v3), (4, sv_i v4)]) rfl rfl ?_
        refine sv_if_f C.1 C.2.1 (cnd := .eq) (off := 16) (tgt := 39) (by decide +kernel) (by decide) ⟨by omega, by omega⟩ (show ¬ (1 = 0) by omega) ?_
        refine sv_go C.1 C.2.1 [(.iload 4, 2)] (pc' := 28) (by decide +kernel) rfl (lv' := [(0, sv_r a), (1, sv_i v1), (2, sv_i v2), (3, sv_i v3), (4, sv_i v4)]) (st' := [sv_i v4]) rfl ?_
        refine sv_i2l C.1 C.2.1 (by decide +kernel) ⟨by omega, by omega⟩ ?_
        refine sv_go C.1 C.2.1 [(.lconst 0, 1)] (pc' := 30) (by decide +kernel) rfl (lv' := [(0, sv_r a), (1, sv_i v1), (2, sv_i v2), (3, sv_i v3), (4, sv_i v4)]) (st' := [sv_l 0, sv_l v4]) rfl ?_
        refine sv_ldc2 C (index := 350) (z := 30) (by decide +kernel) cl_X11_350 (by decide) ?_
        refine sv_cs C (index := 9) (k := 3) (rest := []) (by decide +kernel) (ct_X11_in l g A ty σ hok14 (v4) ⟨by omega, by omega⟩ (0) ⟨by omega, by omega⟩ (30) ⟨by omega, by omega⟩) ⟨co_X11_in, in_X11, ⟨by decide, by decide, by decide +kernel⟩, Nat.le_of_ble_eq_true rfl, Nat.le_of_ble_eq_true rfl⟩ ml_X11_9 st_X11_in rfl rfl (Nat.le_of_ble_eq_true rfl) ⟨Nat.zero_le _, Nat.zero_le _⟩ (fun r17 σ18 hpo16 hok19 => ?_)
        obtain ⟨rfl, ⟨h20, rfl⟩ | ⟨h20, rfl⟩⟩ := hpo16
        · refine sv_same (st2 := [sv_i 1]) (lv2 := [(0, sv_r a), (1, sv_i v1), (2, sv_i v2), (3, sv_i v3), (4, sv_i v4)]) rfl rfl ?_
          refine sv_if_t C.1 C.2.1 (cnd := .ne) (off := 6) (tgt := 42) (by decide +kernel) (by decide) ⟨by omega, by omega⟩ (show 1 ≠ 0 by omega) ?_
          refine sv_go C.1 C.2.1 [(.aload_n 0, 1)] (pc' := 43) (by decide +kernel) rfl (lv' := [(0, sv_r a), (1, sv_i v1), (2, sv_i v2), (3, sv_i v3), (4, sv_i v4)]) (st' := [sv_r a]) rfl ?_
          obtain ⟨q21, eq21, kq21⟩ := hI.ref (k := 42) k_a rfl
          refine sv_gf C (index := 151) (ci := 10) (k := 42) (r := (RX11, TX11, 47)) (v := sv_r q21) (by decide +kernel) (by rw [k_a]; rfl) rfl (by decide) fl_X11_151 (congrArg sv_a eq21) ?_
          refine sv_go C.1 C.2.1 [(.iload_n 1, 1), (.iconst 1, 1)] (pc' := 48) (by decide +kernel) rfl (lv' := [(0, sv_r a), (1, sv_i v1), (2, sv_i v2), (3, sv_i v3), (4, sv_i v4)]) (st' := [sv_i 1, sv_i v1, sv_r q21]) rfl ?_
          refine sv_is C (n := 12) (by decide +kernel) (by rw [kq21]; rfl) (by decide) (by omega) (by omega) ⟨by omega, by omega⟩ (hTA _ (by rw [kq21]; decide)) hok19 (fun hok22 => ?_)
          have hI24 := hI.up (a := q21) (k := (v1 : Int).toNat) (z := 1) (by rw [kq21]; exact trivial)
          have hF25 := hF.up (a := q21) (k := (v1 : Int).toNat) (z := 1) (by rw [kq21]; decide)
          generalize eσ23 : sv_up σ q21 (v1 : Int).toNat 1 = σ23 at hok22 hI24 hF25 ⊢
          have t26 : σ23 a 42 = (q21 : Int) + 1 := by rw [← eσ23, sv_up_a (sv_ne k_a kq21 (by decide))]; exact eq21
          refine sv_go C.1 C.2.1 [(.aload_n 0, 1)] (pc' := 50) (by decide +kernel) rfl (lv' := [(0, sv_r a), (1, sv_i v1), (2, sv_i v2), (3, sv_i v3), (4, sv_i v4)]) (st' := [sv_r a]) rfl ?_
          obtain ⟨q27, eq27, kq27⟩ := hI24.ref (k := 43) k_a rfl
          refine sv_gf C (index := 154) (ci := 10) (k := 43) (r := (RX11, TX11, 47)) (v := sv_r q27) (by decide +kernel) (by rw [k_a]; rfl) rfl (by decide) fl_X11_154 (congrArg sv_a eq27) ?_
          refine sv_go C.1 C.2.1 [(.iload_n 1, 1), (.iload_n 3, 1)] (pc' := 55) (by decide +kernel) rfl (lv' := [(0, sv_r a), (1, sv_i v1), (2, sv_i v2), (3, sv_i v3), (4, sv_i v4)]) (st' := [sv_i v3, sv_i v1, sv_r q27]) rfl ?_
          refine sv_is C (n := 12) (by decide +kernel) (by rw [kq27]; rfl) (by decide) (by omega) (by omega) ⟨by omega, by omega⟩ (hTA _ (by rw [kq27]; decide)) hok22 (fun hok28 => ?_)
          have hI30 := hI24.up (a := q27) (k := (v1 : Int).toNat) (z := v3) (by rw [kq27]; exact trivial)
          have hF31 := hF25.up (a := q27) (k := (v1 : Int).toNat) (z := v3) (by rw [kq27]; decide)
          generalize eσ29 : sv_up σ23 q27 (v1 : Int).toNat v3 = σ29 at hok28 hI30 hF31 ⊢
          have t32 : σ29 a 42 = (q21 : Int) + 1 := by rw [← eσ29, sv_up_a (sv_ne k_a kq27 (by decide))]; exact t26
          have t33 : σ29 a 43 = (q27 : Int) + 1 := by rw [← eσ29, sv_up_a (sv_ne k_a kq27 (by decide))]; exact eq27
          refine sv_go C.1 C.2.1 [(.aload_n 0, 1)] (pc' := 57) (by decide +kernel) rfl (lv' := [(0, sv_r a), (1, sv_i v1), (2, sv_i v2), (3, sv_i v3), (4, sv_i v4)]) (st' := [sv_r a]) rfl ?_
          obtain ⟨q34, eq34, kq34⟩ := hI30.ref (k := 44) k_a rfl
          refine sv_gf C (index := 157) (ci := 10) (k := 44) (r := (RX11, TX11, 47)) (v := sv_r q34) (by decide +kernel) (by rw [k_a]; rfl) rfl (by decide) fl_X11_157 (congrArg sv_a eq34) ?_
          refine sv_go C.1 C.2.1 [(.iload_n 1, 1), (.iload 4, 2)] (pc' := 63) (by decide +kernel) rfl (lv' := [(0, sv_r a), (1, sv_i v1), (2, sv_i v2), (3, sv_i v3), (4, sv_i v4)]) (st' := [sv_i v4, sv_i v1, sv_r q34]) rfl ?_
          refine sv_is C (n := 12) (by decide +kernel) (by rw [kq34]; rfl) (by decide) (by omega) (by omega) ⟨by omega, by omega⟩ (hTA _ (by rw [kq34]; decide)) hok28 (fun hok35 => ?_)
          have hI37 := hI30.up (a := q34) (k := (v1 : Int).toNat) (z := v4) (by rw [kq34]; exact trivial)
          have hF38 := hF31.up (a := q34) (k := (v1 : Int).toNat) (z := v4) (by rw [kq34]; decide)
          generalize eσ36 : sv_up σ29 q34 (v1 : Int).toNat v4 = σ36 at hok35 hI37 hF38 ⊢
          have t39 : σ36 a 42 = (q21 : Int) + 1 := by rw [← eσ36, sv_up_a (sv_ne k_a kq34 (by decide))]; exact t32
          have t40 : σ36 a 43 = (q27 : Int) + 1 := by rw [← eσ36, sv_up_a (sv_ne k_a kq34 (by decide))]; exact t33
          have t41 : σ36 a 44 = (q34 : Int) + 1 := by rw [← eσ36, sv_up_a (sv_ne k_a kq34 (by decide))]; exact eq34
          refine sv_go C.1 C.2.1 [(.aload_n 0, 1)] (pc' := 65) (by decide +kernel) rfl (lv' := [(0, sv_r a), (1, sv_i v1), (2, sv_i v2), (3, sv_i v3), (4, sv_i v4)]) (st' := [sv_r a]) rfl ?_
          obtain ⟨q42, eq42, kq42⟩ := hI37.ref (k := 45) k_a rfl
          refine sv_gf C (index := 160) (ci := 10) (k := 45) (r := (RX11, TX11, 47)) (v := sv_r q42) (by decide +kernel) (by rw [k_a]; rfl) rfl (by decide) fl_X11_160 (congrArg sv_a eq42) ?_
          refine sv_go C.1 C.2.1 [(.bipush 12, 2), (.iload_n 1, 1), (.imul, 1), (.iload_n 2, 1)] (pc' := 73) (by decide +kernel) rfl (lv' := [(0, sv_r a), (1, sv_i v1), (2, sv_i v2), (3, sv_i v3), (4, sv_i v4)]) (st' := [sv_i v2, sv_i (12 * v1), sv_r q42]) rfl ?_
          refine sv_is C (n := 144) (by decide +kernel) (by rw [kq42]; rfl) (by decide) (by omega) (by omega) ⟨by omega, by omega⟩ (hTA _ (by rw [kq42]; decide)) hok35 (fun hok43 => ?_)
          have hI45 := hI37.up (a := q42) (k := (12 * v1 : Int).toNat) (z := v2) (by rw [kq42]; exact trivial)
          have hF46 := hF38.up (a := q42) (k := (12 * v1 : Int).toNat) (z := v2) (by rw [kq42]; decide)
          generalize eσ44 : sv_up σ36 q42 (12 * v1 : Int).toNat v2 = σ44 at hok43 hI45 hF46 ⊢
          have t47 : σ44 a 42 = (q21 : Int) + 1 := by rw [← eσ44, sv_up_a (sv_ne k_a kq42 (by decide))]; exact t39
          have t48 : σ44 a 43 = (q27 : Int) + 1 := by rw [← eσ44, sv_up_a (sv_ne k_a kq42 (by decide))]; exact t40
          have t49 : σ44 a 44 = (q34 : Int) + 1 := by rw [← eσ44, sv_up_a (sv_ne k_a kq42 (by decide))]; exact t41
          have t50 : σ44 a 45 = (q42 : Int) + 1 := by rw [← eσ44, sv_up_a (sv_ne k_a kq42 (by decide))]; exact eq42
          refine sv_go C.1 C.2.1 [(.aload_n 0, 1)] (pc' := 75) (by decide +kernel) rfl (lv' := [(0, sv_r a), (1, sv_i v1), (2, sv_i v2), (3, sv_i v3), (4, sv_i v4)]) (st' := [sv_r a]) rfl ?_
          obtain ⟨q51, eq51, kq51⟩ := hI45.ref (k := 46) k_a rfl
          refine sv_gf C (index := 163) (ci := 10) (k := 46) (r := (RX11, TX11, 47)) (v := sv_r q51) (by decide +kernel) (by rw [k_a]; rfl) rfl (by decide) fl_X11_163 (congrArg sv_a eq51) ?_
          refine sv_go C.1 C.2.1 [(.bipush 12, 2), (.iload_n 1, 1), (.imul, 1), (.iconst 0, 1)] (pc' := 83) (by decide +kernel) rfl (lv' := [(0, sv_r a), (1, sv_i v1), (2, sv_i v2), (3, sv_i v3), (4, sv_i v4)]) (st' := [sv_i 0, sv_i (12 * v1), sv_r q51]) rfl ?_
          refine sv_is C (n := 144) (by decide +kernel) (by rw [kq51]; rfl) (by decide) (by omega) (by omega) ⟨by omega, by omega⟩ (hTA _ (by rw [kq51]; decide)) hok43 (fun hok52 => ?_)
          have hI54 := hI45.up (a := q51) (k := (12 * v1 : Int).toNat) (z := 0) (by rw [kq51]; exact trivial)
          have hF55 := hF46.up (a := q51) (k := (12 * v1 : Int).toNat) (z := 0) (by rw [kq51]; decide)
          generalize eσ53 : sv_up σ44 q51 (12 * v1 : Int).toNat 0 = σ53 at hok52 hI54 hF55 ⊢
          have t56 : σ53 a 42 = (q21 : Int) + 1 := by rw [← eσ53, sv_up_a (sv_ne k_a kq51 (by decide))]; exact t47
          have t57 : σ53 a 43 = (q27 : Int) + 1 := by rw [← eσ53, sv_up_a (sv_ne k_a kq51 (by decide))]; exact t48
          have t58 : σ53 a 44 = (q34 : Int) + 1 := by rw [← eσ53, sv_up_a (sv_ne k_a kq51 (by decide))]; exact t49
          have t59 : σ53 a 45 = (q42 : Int) + 1 := by rw [← eσ53, sv_up_a (sv_ne k_a kq51 (by decide))]; exact t50
          have t60 : σ53 a 46 = (q51 : Int) + 1 := by rw [← eσ53, sv_up_a (sv_ne k_a kq51 (by decide))]; exact eq51
          refine sv_go C.1 C.2.1 [(.iconst 1, 1)] (pc' := 85) (by decide +kernel) rfl (lv' := [(0, sv_r a), (1, sv_i v1), (2, sv_i v2), (3, sv_i v3), (4, sv_i v4)]) (st' := [sv_i 1]) rfl ?_
          exact sv_iret C hr (by decide +kernel) hok52 (⟨congrArg (fun q => [sv_i q]) (by first | omega | (unfold fx_begin; omega)), hF55⟩)
        · refine sv_same (st2 := [sv_i 0]) (lv2 := [(0, sv_r a), (1, sv_i v1), (2, sv_i v2), (3, sv_i v3), (4, sv_i v4)]) rfl rfl ?_
          refine sv_if_f C.1 C.2.1 (cnd := .ne) (off := 6) (tgt := 42) (by decide +kernel) (by decide) ⟨by omega, by omega⟩ (show ¬ (0 ≠ 0) by omega) ?_
          refine sv_go C.1 C.2.1 [(.bipush (-2), 2)] (pc' := 41) (by decide +kernel) rfl (lv' := [(0, sv_r a), (1, sv_i v1), (2, sv_i v2), (3, sv_i v3), (4, sv_i v4)]) (st' := [sv_i ((-2))]) rfl ?_
          exact sv_iret C hr (by decide +kernel) hok19 (⟨congrArg (fun q => [sv_i q]) (by first | omega | (unfold fx_begin; omega)), hF⟩)
      · refine sv_same (st2 := [sv_i 0]) (lv2 := [(0, sv_r a), (1, sv_i v1), (2, sv_i v2), (3, sv_i v3), (4, sv_i v4)]) rfl rfl ?_
        refine sv_if_t C.1 C.2.1 (cnd := .eq) (off := 16) (tgt := 39) (by decide +kernel) (by decide) ⟨by omega, by omega⟩ (show 0 = 0 by omega) ?_
        refine sv_go C.1 C.2.1 [(.bipush (-2), 2)] (pc' := 41) (by decide +kernel) rfl (lv' := [(0, sv_r a), (1, sv_i v1), (2, sv_i v2), (3, sv_i v3), (4, sv_i v4)]) (st' := [sv_i ((-2))]) rfl ?_
        exact sv_iret C hr (by decide +kernel) hok14 (⟨congrArg (fun q => [sv_i q]) (by first | omega | (unfold fx_begin; omega)), hF⟩)
    · refine sv_same (st2 := [sv_i 0]) (lv2 := [(0, sv_r a), (1, sv_i v1), (2, sv_i v2), (3, sv_i v3), (4, sv_i v4)]) rfl rfl ?_
      refine sv_if_t C.1 C.2.1 (cnd := .eq) (off := 28) (tgt := 39) (by decide +kernel) (by decide) ⟨by omega, by omega⟩ (show 0 = 0 by omega) ?_
      refine sv_go C.1 C.2.1 [(.bipush (-2), 2)] (pc' := 41) (by decide +kernel) rfl (lv' := [(0, sv_r a), (1, sv_i v1), (2, sv_i v2), (3, sv_i v3), (4, sv_i v4)]) (st' := [sv_i ((-2))]) rfl ?_
      exact sv_iret C hr (by decide +kernel) hok9 (⟨congrArg (fun q => [sv_i q]) (by first | omega | (unfold fx_begin; omega)), hF⟩)
  · refine sv_same (st2 := [sv_i 0]) (lv2 := [(0, sv_r a), (1, sv_i v1), (2, sv_i v2), (3, sv_i v3), (4, sv_i v4)]) rfl rfl ?_
    refine sv_if_t C.1 C.2.1 (cnd := .eq) (off := 35) (tgt := 39) (by decide +kernel) (by decide) ⟨by omega, by omega⟩ (show 0 = 0 by omega) ?_
    refine sv_go C.1 C.2.1 [(.bipush (-2), 2)] (pc' := 41) (by decide +kernel) rfl (lv' := [(0, sv_r a), (1, sv_i v1), (2, sv_i v2), (3, sv_i v3), (4, sv_i v4)]) (st' := [sv_i ((-2))]) rfl ?_
    exact sv_iret C hr (by decide +kernel) hok4 (⟨congrArg (fun q => [sv_i q]) (by first | omega | (unfold fx_begin; omega)), hF⟩)

set_option maxHeartbeats 4000000 in
set_option maxRecDepth 100000 in
theorem ct_X11_goes (l : Launch) (g : sv_G) (A : Nat → Prop) (ty : Nat → Nat) (σ : Nat → Nat → Int) (hok : sv_ok ty σ) (hTA : ∀ q, ty q ≠ 0 → A q) (hI : sv_inv sp_1 ty σ) (hZ : sv_inv sp_0 ty σ) (a : Nat) (k_a : ty a = 10) (v1 : Int) (hv1 : sv_in v1) (v2 : Int) (hv2 : sv_in v2) : sv_M l yX11_goes cX11_goes 5 (some .int) { frames := 2, cells := 0, slots := 0, locals := 45 } g A ty σ [sv_r a, sv_i v1, sv_i v2] (fun r σ' => r = [sv_i (-2)] ∧ sv_off [] ty σ σ') := by
  refine sv_enter (by decide) (Nat.le_of_ble_eq_true rfl) ?_
  intro p e s m args below meth c C hr
  have C : sv_C g A RX11 cX11_goes 5 p s m args meth c := C
  have hr : meth.sig.returnType = (some .int) := hr
  have hF : sv_off [] ty σ σ := sv_off.rf
  refine sv_same (st2 := []) (lv2 := [(0, sv_r a), (1, sv_i v1), (2, sv_i v2)]) rfl rfl ?_
  refine sv_go C.1 C.2.1 [(.iload_n 1, 1)] (pc' := 1) (by decide +kernel) rfl (lv' := [(0, sv_r a), (1, sv_i v1), (2, sv_i v2)]) (st' := [sv_i v1]) rfl ?_
  refine sv_cs C (index := 345) (k := 1) (rest := []) (by decide +kernel) (ct_X11_isWalk l g A ty σ hok (v1) ⟨by omega, by omega⟩) ⟨co_X11_isWalk, in_X11, ⟨by decide, by decide, by decide +kernel⟩, Nat.le_of_ble_eq_true rfl, Nat.le_of_ble_eq_true rfl⟩ ml_X11_345 st_X11_isWalk rfl rfl (Nat.le_of_ble_eq_true rfl) ⟨Nat.zero_le _, Nat.zero_le _⟩ (fun r2 σ3 hpo1 hok4 => ?_)
  obtain ⟨rfl, ⟨h5, rfl⟩ | ⟨h5, rfl⟩⟩ := hpo1
  · refine sv_same (st2 := [sv_i 1]) (lv2 := [(0, sv_r a), (1, sv_i v1), (2, sv_i v2)]) rfl rfl ?_
    refine sv_if_f C.1 C.2.1 (cnd := .eq) (off := 19) (tgt := 23) (by decide +kernel) (by decide) ⟨by omega, by omega⟩ (show ¬ (1 = 0) by omega) ?_
    refine sv_go C.1 C.2.1 [(.aload_n 0, 1)] (pc' := 8) (by decide +kernel) rfl (lv' := [(0, sv_r a), (1, sv_i v1), (2, sv_i v2)]) (st' := [sv_r a]) rfl ?_
    obtain ⟨q6, eq6, kq6⟩ := hI.ref (k := 42) k_a rfl
    refine sv_gf C (index := 151) (ci := 10) (k := 42) (r := (RX11, TX11, 47)) (v := sv_r q6) (by decide +kernel) (by rw [k_a]; rfl) rfl (by decide) fl_X11_151 (congrArg sv_a eq6) ?_
    refine sv_go C.1 C.2.1 [(.iload_n 1, 1)] (pc' := 12) (by decide +kernel) rfl (lv' := [(0, sv_r a), (1, sv_i v1), (2, sv_i v2)]) (st' := [sv_i v1, sv_r q6]) rfl ?_
    refine sv_ia C (n := 12) (by decide +kernel) (by rw [kq6]; rfl) (by decide) (by omega) (by omega) ?_
    have w7 : σ q6 v1.toNat = 0 := by have q := hZ.num (k := (v1 : Int).toNat) kq6 rfl; omega
    rw [w7]
    refine sv_if_t C.1 C.2.1 (cnd := .eq) (off := 10) (tgt := 23) (by decide +kernel) (by decide) ⟨by omega, by omega⟩ (show 0 = 0 by omega) ?_
    refine sv_go C.1 C.2.1 [(.bipush (-2), 2)] (pc' := 25) (by decide +kernel) rfl (lv' := [(0, sv_r a), (1, sv_i v1), (2, sv_i v2)]) (st' := [sv_i ((-2))]) rfl ?_
    exact sv_iret C hr (by decide +kernel) hok4 (⟨congrArg (fun q => [sv_i q]) (by first | omega | (unfold x; omega)), hF⟩)
  · refine sv_same (st2 := [sv_i 0]) (lv2 := [(0, sv_r a), (1, sv_i v1), (2, sv_i v2)]) rfl rfl ?_
    refine sv_if_t C.1 C.2.1 (cnd := .eq) (off := 19) (tgt := 23) (by decide +kernel) (by decide) ⟨by omega, by omega⟩ (show 0 = 0 by omega) ?_
    refine sv_go C.1 C.2.1 [(.bipush (-2), 2)] (pc' := 25) (by decide +kernel) rfl (lv' := [(0, sv_r a), (1, sv_i v1), (2, sv_i v2)]) (st' := [sv_i ((-2))]) rfl ?_
    exact sv_iret C hr (by decide +kernel) hok4 (⟨congrArg (fun q => [sv_i q]) (by first | omega | (unfold x; omega)), hF⟩)

set_option maxHeartbeats 4000000 in
set_option maxRecDepth 100000 in
theorem ct_X11_late (l : Launch) (g : sv_G) (A : Nat → Prop) (ty : Nat → Nat) (σ : Nat → Nat → Int) (hok : sv_ok ty σ) (hTA : ∀ q, ty q ≠ 0 → A q) (hI : sv_inv sp_1 ty σ) (hZ : sv_inv sp_0 ty σ) (a : Nat) (k_a : ty a = 10) (v1 : Int) (hv1 : sv_in v1) (v2 : Int) (hv2 : sv_in v2) : sv_M l yX11_late cX11_late 3 (some .int) { frames := 2, cells := 0, slots := 0, locals := 45 } g A ty σ [sv_r a, sv_i v1, sv_i v2] (fun r σ' => r = [sv_i (-2)] ∧ sv_off [] ty σ σ') := by
  refine sv_enter (by decide) (Nat.le_of_ble_eq_true rfl) ?_
  intro p e s m args below meth c C hr
  have C : sv_C g A RX11 cX11_late 3 p s m args meth c := C
  have hr : meth.sig.returnType = (some .int) := hr
  have hF : sv_off [] ty σ σ := sv_off.rf
  refine sv_same (st2 := []) (lv2 := [(0, sv_r a), (1, sv_i v1), (2, sv_i v2)]) rfl rfl ?_
  refine sv_go C.1 C.2.1 [(.iload_n 1, 1)] (pc' := 1) (by decide +kernel) rfl (lv' := [(0, sv_r a), (1, sv_i v1), (2, sv_i v2)]) (st' := [sv_i v1]) rfl ?_
  refine sv_cs C (index := 345) (k := 1) (rest := []) (by decide +kernel) (ct_X11_isWalk l g A ty σ hok (v1) ⟨by omega, by omega⟩) ⟨co_X11_isWalk, in_X11, ⟨by decide, by decide, by decide +kernel⟩, Nat.le_of_ble_eq_true rfl, Nat.le_of_ble_eq_true rfl⟩ ml_X11_345 st_X11_isWalk rfl rfl (Nat.le_of_ble_eq_true rfl) ⟨Nat.zero_le _, Nat.zero_le _⟩ (fun r2 σ3 hpo1 hok4 => ?_)
  obtain ⟨rfl, ⟨h5, rfl⟩ | ⟨h5, rfl⟩⟩ := hpo1
  · refine sv_same (st2 := [sv_i 1]) (lv2 := [(0, sv_r a), (1, sv_i v1), (2, sv_i v2)]) rfl rfl ?_
    refine sv_if_f C.1 C.2.1 (cnd := .eq) (off := 38) (tgt := 42) (by decide +kernel) (by decide) ⟨by omega, by omega⟩ (show ¬ (1 = 0) by omega) ?_
    refine sv_go C.1 C.2.1 [(.aload_n 0, 1)] (pc' := 8) (by decide +kernel) rfl (lv' := [(0, sv_r a), (1, sv_i v1), (2, sv_i v2)]) (st' := [sv_r a]) rfl ?_
    obtain ⟨q6, eq6, kq6⟩ := hI.ref (k := 42) k_a rfl
    refine sv_gf C (index := 151) (ci := 10) (k := 42) (r := (RX11, TX11, 47)) (v := sv_r q6) (by decide +kernel) (by rw [k_a]; rfl) rfl (by decide) fl_X11_151 (congrArg sv_a eq6) ?_
    refine sv_go C.1 C.2.1 [(.iload_n 1, 1)] (pc' := 12) (by decide +kernel) rfl (lv' := [(0, sv_r a), (1, sv_i v1), (2, sv_i v2)]) (st' := [sv_i v1, sv_r q6]) rfl ?_
    refine sv_ia C (n := 12) (by decide +kernel) (by rw [kq6]; rfl) (by decide) (by omega) (by omega) ?_
    have w7 : σ q6 v1.toNat = 0 := by have q := hZ.num (k := (v1 : Int).toNat) kq6 rfl; omega
    rw [w7]
    refine sv_if_t C.1 C.2.1 (cnd := .eq) (off := 29) (tgt := 42) (by decide +kernel) (by decide) ⟨by omega, by omega⟩ (show 0 = 0 by omega) ?_
    refine sv_go C.1 C.2.1 [(.bipush (-2), 2)] (pc' := 44) (by decide +kernel) rfl (lv' := [(0, sv_r a), (1, sv_i v1), (2, sv_i v2)]) (st' := [sv_i ((-2))]) rfl ?_
    exact sv_iret C hr (by decide +kernel) hok4 (⟨congrArg (fun q => [sv_i q]) (by first | omega | (unfold x; omega)), hF⟩)
  · refine sv_same (st2 := [sv_i 0]) (lv2 := [(0, sv_r a), (1, sv_i v1), (2, sv_i v2)]) rfl rfl ?_
    refine sv_if_t C.1 C.2.1 (cnd := .eq) (off := 38) (tgt := 42) (by decide +kernel) (by decide) ⟨by omega, by omega⟩ (show 0 = 0 by omega) ?_
    refine sv_go C.1 C.2.1 [(.bipush (-2), 2)] (pc' := 44) (by decide +kernel) rfl (lv' := [(0, sv_r a), (1, sv_i v1), (2, sv_i v2)]) (st' := [sv_i ((-2))]) rfl ?_
    exact sv_iret C hr (by decide +kernel) hok4 (⟨congrArg (fun q => [sv_i q]) (by first | omega | (unfold x; omega)), hF⟩)

set_option maxHeartbeats 4000000 in
set_option maxRecDepth 100000 in
theorem ct_X11_procession (l : Launch) (g : sv_G) (A : Nat → Prop) (ty : Nat → Nat) (σ : Nat → Nat → Int) (hok : sv_ok ty σ) (hTA : ∀ q, ty q ≠ 0 → A q) (hI : sv_inv sp_1 ty σ) (hZ : sv_inv sp_0 ty σ) (a : Nat) (k_a : ty a = 10) (v1 : Int) (hv1 : sv_in v1) (v2 : Int) (hv2 : sv_in v2) : sv_M l yX11_procession cX11_procession 3 (some .int) { frames := 2, cells := 0, slots := 0, locals := 45 } g A ty σ [sv_r a, sv_i v1, sv_i v2] (fun r σ' => r = [sv_i (-1)] ∧ sv_off [] ty σ σ') := by
  refine sv_enter (by decide) (Nat.le_of_ble_eq_true rfl) ?_
  intro p e s m args below meth c C hr
  have C : sv_C g A RX11 cX11_procession 3 p s m args meth c := C
  have hr : meth.sig.returnType = (some .int) := hr
  have hF : sv_off [] ty σ σ := sv_off.rf
  refine sv_same (st2 := []) (lv2 := [(0, sv_r a), (1, sv_i v1), (2, sv_i v2)]) rfl rfl ?_
  refine sv_go C.1 C.2.1 [(.iload_n 1, 1)] (pc' := 1) (by decide +kernel) rfl (lv' := [(0, sv_r a), (1, sv_i v1), (2, sv_i v2)]) (st' := [sv_i v1]) rfl ?_
  refine sv_cs C (index := 345) (k := 1) (rest := []) (by decide +kernel) (ct_X11_isWalk l g A ty σ hok (v1) ⟨by omega, by omega⟩) ⟨co_X11_isWalk, in_X11, ⟨by decide, by decide, by decide +kernel⟩, Nat.le_of_ble_eq_true rfl, Nat.le_of_ble_eq_true rfl⟩ ml_X11_345 st_X11_isWalk rfl rfl (Nat.le_of_ble_eq_true rfl) ⟨Nat.zero_le _, Nat.zero_le _⟩ (fun r2 σ3 hpo1 hok4 => ?_)
  obtain ⟨rfl, ⟨h5, rfl⟩ | ⟨h5, rfl⟩⟩ := hpo1
  · refine sv_same (st2 := [sv_i 1]) (lv2 := [(0, sv_r a), (1, sv_i v1), (2, sv_i v2)]) rfl rfl ?_
    refine sv_if_f C.1 C.2.1 (cnd := .eq) (off := 12) (tgt := 16) (by decide +kernel) (by decide) ⟨by omega, by omega⟩ (show ¬ (1 = 0) by omega) ?_
    refine sv_go C.1 C.2.1 [(.aload_n 0, 1)] (pc' := 8) (by decide +kernel) rfl (lv' := [(0, sv_r a), (1, sv_i v1), (2, sv_i v2)]) (st' := [sv_r a]) rfl ?_
    obtain ⟨q6, eq6, kq6⟩ := hI.ref (k := 42) k_a rfl
    refine sv_gf C (index := 151) (ci := 10) (k := 42) (r := (RX11, TX11, 47)) (v := sv_r q6) (by decide +kernel) (by rw [k_a]; rfl) rfl (by decide) fl_X11_151 (congrArg sv_a eq6) ?_
    refine sv_go C.1 C.2.1 [(.iload_n 1, 1)] (pc' := 12) (by decide +kernel) rfl (lv' := [(0, sv_r a), (1, sv_i v1), (2, sv_i v2)]) (st' := [sv_i v1, sv_r q6]) rfl ?_
    refine sv_ia C (n := 12) (by decide +kernel) (by rw [kq6]; rfl) (by decide) (by omega) (by omega) ?_
    have w7 : σ q6 v1.toNat = 0 := by have q := hZ.num (k := (v1 : Int).toNat) kq6 rfl; omega
    rw [w7]
    refine sv_if_f C.1 C.2.1 (cnd := .ne) (off := 5) (tgt := 18) (by decide +kernel) (by decide) ⟨by omega, by omega⟩ (show ¬ (0 ≠ 0) by omega) ?_
    refine sv_go C.1 C.2.1 [(.iconst (-1), 1)] (pc' := 17) (by decide +kernel) rfl (lv' := [(0, sv_r a), (1, sv_i v1), (2, sv_i v2)]) (st' := [sv_i ((-1))]) rfl ?_
    exact sv_iret C hr (by decide +kernel) hok4 (⟨congrArg (fun q => [sv_i q]) (by first | omega | (unfold x; omega)), hF⟩)
  · refine sv_same (st2 := [sv_i 0]) (lv2 := [(0, sv_r a), (1, sv_i v1), (2, sv_i v2)]) rfl rfl ?_
    refine sv_if_t C.1 C.2.1 (cnd := .eq) (off := 12) (tgt := 16) (by decide +kernel) (by decide) ⟨by omega, by omega⟩ (show 0 = 0 by omega) ?_
    refine sv_go C.1 C.2.1 [(.iconst (-1), 1)] (pc' := 17) (by decide +kernel) rfl (lv' := [(0, sv_r a), (1, sv_i v1), (2, sv_i v2)]) (st' := [sv_i ((-1))]) rfl ?_
    exact sv_iret C hr (by decide +kernel) hok4 (⟨congrArg (fun q => [sv_i q]) (by first | omega | (unfold x; omega)), hF⟩)

set_option maxHeartbeats 4000000 in
set_option maxRecDepth 100000 in
theorem ct_X11_isGoing (l : Launch) (g : sv_G) (A : Nat → Prop) (ty : Nat → Nat) (σ : Nat → Nat → Int) (hok : sv_ok ty σ) (hI : sv_inv sp_1 ty σ) (hZ : sv_inv sp_0 ty σ) (a : Nat) (k_a : ty a = 10) (v1 : Int) (hv1 : sv_in v1) : sv_M l yX11_isGoing cX11_isGoing 2 (some .boolean) { frames := 2, cells := 0, slots := 0, locals := 45 } g A ty σ [sv_r a, sv_i v1] (fun r σ' => σ = σ' ∧ sv_bo (False) r) := by
  refine sv_enter (by decide) (Nat.le_of_ble_eq_true rfl) ?_
  intro p e s m args below meth c C hr
  have C : sv_C g A RX11 cX11_isGoing 2 p s m args meth c := C
  have hr : meth.sig.returnType = (some .boolean) := hr
  refine sv_same (st2 := []) (lv2 := [(0, sv_r a), (1, sv_i v1)]) rfl rfl ?_
  refine sv_go C.1 C.2.1 [(.iload_n 1, 1)] (pc' := 1) (by decide +kernel) rfl (lv' := [(0, sv_r a), (1, sv_i v1)]) (st' := [sv_i v1]) rfl ?_
  refine sv_cs C (index := 345) (k := 1) (rest := []) (by decide +kernel) (ct_X11_isWalk l g A ty σ hok (v1) ⟨by omega, by omega⟩) ⟨co_X11_isWalk, in_X11, ⟨by decide, by decide, by decide +kernel⟩, Nat.le_of_ble_eq_true rfl, Nat.le_of_ble_eq_true rfl⟩ ml_X11_345 st_X11_isWalk rfl rfl (Nat.le_of_ble_eq_true rfl) ⟨Nat.zero_le _, Nat.zero_le _⟩ (fun r2 σ3 hpo1 hok4 => ?_)
  obtain ⟨rfl, ⟨h5, rfl⟩ | ⟨h5, rfl⟩⟩ := hpo1
  · refine sv_same (st2 := [sv_i 1]) (lv2 := [(0, sv_r a), (1, sv_i v1)]) rfl rfl ?_
    refine sv_if_f C.1 C.2.1 (cnd := .eq) (off := 17) (tgt := 21) (by decide +kernel) (by decide) ⟨by omega, by omega⟩ (show ¬ (1 = 0) by omega) ?_
    refine sv_go C.1 C.2.1 [(.aload_n 0, 1)] (pc' := 8) (by decide +kernel) rfl (lv' := [(0, sv_r a), (1, sv_i v1)]) (st' := [sv_r a]) rfl ?_
    obtain ⟨q6, eq6, kq6⟩ := hI.ref (k := 42) k_a rfl
    refine sv_gf C (index := 151) (ci := 10) (k := 42) (r := (RX11, TX11, 47)) (v := sv_r q6) (by decide +kernel) (by rw [k_a]; rfl) rfl (by decide) fl_X11_151 (congrArg sv_a eq6) ?_
    refine sv_go C.1 C.2.1 [(.iload_n 1, 1)] (pc' := 12) (by decide +kernel) rfl (lv' := [(0, sv_r a), (1, sv_i v1)]) (st' := [sv_i v1, sv_r q6]) rfl ?_
    refine sv_ia C (n := 12) (by decide +kernel) (by rw [kq6]; rfl) (by decide) (by omega) (by omega) ?_
    have w7 : σ q6 v1.toNat = 0 := by have q := hZ.num (k := (v1 : Int).toNat) kq6 rfl; omega
    rw [w7]
    refine sv_go C.1 C.2.1 [(.iconst 1, 1)] (pc' := 14) (by decide +kernel) rfl (lv' := [(0, sv_r a), (1, sv_i v1)]) (st' := [sv_i 1, sv_i 0]) rfl ?_
    refine sv_icmp_t C.1 C.2.1 (cnd := .le) (off := 7) (tgt := 21) (by decide +kernel) (by decide) ⟨by omega, by omega⟩ ⟨by omega, by omega⟩ (show 0 ≤ 1 by omega) ?_
    refine sv_go C.1 C.2.1 [(.iconst 0, 1)] (pc' := 22) (by decide +kernel) rfl (lv' := [(0, sv_r a), (1, sv_i v1)]) (st' := [sv_i 0]) rfl ?_
    exact sv_zret C hr (by first | exact Or.inl rfl | exact Or.inr rfl | omega) (by decide +kernel) hok4 (⟨rfl, Or.inr ⟨id, rfl⟩⟩)
  · refine sv_same (st2 := [sv_i 0]) (lv2 := [(0, sv_r a), (1, sv_i v1)]) rfl rfl ?_
    refine sv_if_t C.1 C.2.1 (cnd := .eq) (off := 17) (tgt := 21) (by decide +kernel) (by decide) ⟨by omega, by omega⟩ (show 0 = 0 by omega) ?_
    refine sv_go C.1 C.2.1 [(.iconst 0, 1)] (pc' := 22) (by decide +kernel) rfl (lv' := [(0, sv_r a), (1, sv_i v1)]) (st' := [sv_i 0]) rfl ?_
    exact sv_zret C hr (by first | exact Or.inl rfl | exact Or.inr rfl | omega) (by decide +kernel) hok4 (⟨rfl, Or.inr ⟨id, rfl⟩⟩)

theorem ml_X11_367 : Cond.methodLink RX11 367 yX11_isGoing ∈ lw_good := sv_mem 1486 (by decide +kernel) rfl
theorem co_X11_isGoing : Cond.code yX11_isGoing cX11_isGoing 2 (some .boolean) ∈ lw_good := sv_mem 1489 (by decide +kernel) rfl
theorem im_X11_isGoing : Cond.instanceMethod yX11_isGoing ∈ lw_good := sv_mem 1488 (by decide +kernel) rfl
theorem se_X11_isGoing : Cond.selects RX11 yX11_isGoing yX11_isGoing ∈ lw_good := sv_mem 69 (by decide +kernel) rfl
set_option maxHeartbeats 4000000 in
set_option maxRecDepth 100000 in
theorem ct_X11_meets (l : Launch) (g : sv_G) (A : Nat → Prop) (ty : Nat → Nat) (σ : Nat → Nat → Int) (hok : sv_ok ty σ) (hTA : ∀ q, ty q ≠ 0 → A q) (hI : sv_inv sp_1 ty σ) (hZ : sv_inv sp_0 ty σ) (a : Nat) (k_a : ty a = 10)  : sv_M l yX11_meets cX11_meets 3 (some .int) { frames := 3, cells := 0, slots := 0, locals := 66 } g A ty σ [sv_r a] (fun r σ' => r = [sv_i (-1)] ∧ sv_off [] ty σ σ') := by
  refine sv_enter (by decide) (Nat.le_of_ble_eq_true rfl) ?_
  intro p e s m args below meth c C hr
  have C : sv_C g A RX11 cX11_meets 3 p s m args meth c := C
  have hr : meth.sig.returnType = (some .int) := hr
  have hF : sv_off [] ty σ σ := sv_off.rf
  refine sv_same (st2 := []) (lv2 := [(0, sv_r a)]) rfl rfl ?_
  refine sv_go C.1 C.2.1 [(.iconst 0, 1), (.istore_n 1, 1)] (pc' := 2) (by decide +kernel) rfl (lv' := [(0, sv_r a), (1, sv_i 0)]) (st' := []) rfl ?_
  have L1 : ∀ (n : Nat) (X : Int) , (0 ≤ X ∧ X ≤ 12) → (12 - X) < (n : Int) → sv_E p l e { frames := 3, cells := 0, slots := 0, locals := 66 } s m args below meth c 3 g A ty (fun r σ' => r = [sv_i (-1)] ∧ sv_off [] ty σ σ') σ 2 [(0, sv_r a), (1, sv_i X)] [] := by
    intro n
    induction n with
    | zero => intro X  hX hmu; exact absurd hmu (by omega)
    | succ n ih2 =>
      intro X  hX hmu
      refine sv_go C.1 C.2.1 [(.iload_n 1, 1), (.bipush 12, 2)] (pc' := 5) (by decide +kernel) rfl (lv' := [(0, sv_r a), (1, sv_i X)]) (st' := [sv_i 12, sv_i X]) rfl ?_
      refine sv_icmp C.1 C.2.1 (cnd := .ge) (off := 60) (tgt := 65) (by decide +kernel) (by decide) ⟨by omega, by omega⟩ ⟨by omega, by omega⟩ (fun (h3 : 12 ≤ X) => ?_) (fun (h3 : ¬ (12 ≤ X)) => ?_)
      · refine sv_go C.1 C.2.1 [(.iconst (-1), 1)] (pc' := 66) (by decide +kernel) rfl (lv' := [(0, sv_r a), (1, sv_i X)]) (st' := [sv_i ((-1))]) rfl ?_
        exact sv_iret C hr (by decide +kernel) hok (⟨congrArg (fun q => [sv_i q]) (by first | omega | (unfold x; omega)), hF⟩)
      · refine sv_go C.1 C.2.1 [(.iload_n 1, 1), (.iconst 1, 1), (.iadd, 1), (.istore_n 2, 1)] (pc' := 12) (by decide +kernel) rfl (lv' := [(0, sv_r a), (1, sv_i X), (2, sv_i (X + 1))]) (st' := []) rfl ?_
        have L4 : ∀ (n : Nat) (Y : Int) , (0 ≤ Y ∧ Y ≤ 12) → (12 - Y) < (n : Int) → sv_E p l e { frames := 3, cells := 0, slots := 0, locals := 66 } s m args below meth c 3 g A ty (fun r σ' => r = [sv_i (-1)] ∧ sv_off [] ty σ σ') σ 12 [(0, sv_r a), (1, sv_i X), (2, sv_i Y)] [] := by
          intro n
          induction n with
          | zero => intro Y  hY hmu; exact absurd hmu (by omega)
          | succ n ih5 =>
            intro Y  hY hmu
            refine sv_go C.1 C.2.1 [(.iload_n 2, 1), (.bipush 12, 2)] (pc' := 15) (by decide +kernel) rfl (lv' := [(0, sv_r a), (1, sv_i X), (2, sv_i Y)]) (st' := [sv_i 12, sv_i Y]) rfl ?_
            refine sv_icmp C.1 C.2.1 (cnd := .ge) (off := 44) (tgt := 59) (by decide +kernel) (by decide) ⟨by omega, by omega⟩ ⟨by omega, by omega⟩ (fun (h6 : 12 ≤ Y) => ?_) (fun (h6 : ¬ (12 ≤ Y)) => ?_)
            · refine sv_go C.1 C.2.1 [(.iinc 1 1, 3)] (pc' := 62) (by decide +kernel) rfl (lv' := [(0, sv_r a), (1, sv_i (X + 1)), (2, sv_i Y)]) (st' := []) rfl ?_
              refine sv_goto C.1 C.2.1 (off := (-60)) (tgt := 2) (by decide +kernel) (by decide) ?_
              refine sv_pick [0, 1] (lv2 := [(0, sv_r a), (1, sv_i (X + 1))]) rfl ?_
              exact ih2 (X + 1)  (by omega) (by omega)
            · refine sv_go C.1 C.2.1 [(.aload_n 0, 1), (.iload_n 1, 1)] (pc' := 20) (by decide +kernel) rfl (lv' := [(0, sv_r a), (1, sv_i X), (2, sv_i Y)]) (st' := [sv_i X, sv_r a]) rfl ?_
              refine sv_cv C (index := 367) (k := 1) (rest := []) (ci := 10) (r := (RX11, TX11, 47)) (by decide +kernel) (ct_X11_isGoing l g A ty σ hok hI hZ a k_a (X) ⟨by omega, by omega⟩) ⟨co_X11_isGoing, in_X11, ⟨by decide, by decide, by decide +kernel⟩, Nat.le_of_ble_eq_true rfl, Nat.le_of_ble_eq_true rfl⟩ ml_X11_367 im_X11_isGoing se_X11_isGoing (by rw [k_a]; rfl) rfl rfl rfl (Nat.le_of_ble_eq_true rfl) ⟨Nat.zero_le _, Nat.zero_le _⟩ (fun r8 σ9 hpo7 hok10 => ?_)
              obtain ⟨rfl, hpo7⟩ := hpo7
              obtain rfl := sv_boF hpo7
              refine sv_same (st2 := [sv_i 0]) (lv2 := [(0, sv_r a), (1, sv_i X), (2, sv_i Y)]) rfl rfl ?_
              refine sv_if_t C.1 C.2.1 (cnd := .eq) (off := 30) (tgt := 53) (by decide +kernel) (by decide) ⟨by omega, by omega⟩ (show 0 = 0 by omega) ?_
              refine sv_go C.1 C.2.1 [(.iinc 2 1, 3)] (pc' := 56) (by decide +kernel) rfl (lv' := [(0, sv_r a), (1, sv_i X), (2, sv_i (Y + 1))]) (st' := []) rfl ?_
              refine sv_goto C.1 C.2.1 (off := (-44)) (tgt := 12) (by decide +kernel) (by decide) ?_
              exact ih5 (Y + 1)  (by omega) (by omega)
        exact L4 (((12 - (X + 1) : Int)).toNat + 1) (X + 1)  (by omega) (by omega)
  exact L1 (((12 - 0 : Int)).toNat + 1) 0  (by omega) (by omega)

set_option maxHeartbeats 4000000 in
set_option maxRecDepth 100000 in
theorem ct_X11_meeting (l : Launch) (g : sv_G) (A : Nat → Prop) (ty : Nat → Nat) (σ : Nat → Nat → Int) (hok : sv_ok ty σ) (hTA : ∀ q, ty q ≠ 0 → A q) (hI : sv_inv sp_1 ty σ) (hZ : sv_inv sp_0 ty σ) (a : Nat) (k_a : ty a = 10) (v1 : Int) (hv1 : sv_in v1) (v2 : Int) (hv2 : sv_in v2) : sv_M l yX11_meeting cX11_meeting 4 (some .int) { frames := 3, cells := 0, slots := 0, locals := 66 } g A ty σ [sv_r a, sv_i v1, sv_i v2] (fun r σ' => r = [sv_i (-2)] ∧ sv_off [] ty σ σ') := by
  refine sv_enter (by decide) (Nat.le_of_ble_eq_true rfl) ?_
  intro p e s m args below meth c C hr
  have C : sv_C g A RX11 cX11_meeting 4 p s m args meth c := C
  have hr : meth.sig.returnType = (some .int) := hr
  have hF : sv_off [] ty σ σ := sv_off.rf
  refine sv_same (st2 := []) (lv2 := [(0, sv_r a), (1, sv_i v1), (2, sv_i v2)]) rfl rfl ?_
  refine sv_go C.1 C.2.1 [(.aload_n 0, 1), (.iload_n 1, 1)] (pc' := 2) (by decide +kernel) rfl (lv' := [(0, sv_r a), (1, sv_i v1), (2, sv_i v2)]) (st' := [sv_i v1, sv_r a]) rfl ?_
  refine sv_cv C (index := 367) (k := 1) (rest := []) (ci := 10) (r := (RX11, TX11, 47)) (by decide +kernel) (ct_X11_isGoing l g A ty σ hok hI hZ a k_a (v1) ⟨by omega, by omega⟩) ⟨co_X11_isGoing, in_X11, ⟨by decide, by decide, by decide +kernel⟩, Nat.le_of_ble_eq_true rfl, Nat.le_of_ble_eq_true rfl⟩ ml_X11_367 im_X11_isGoing se_X11_isGoing (by rw [k_a]; rfl) rfl rfl rfl (Nat.le_of_ble_eq_true rfl) ⟨Nat.zero_le _, Nat.zero_le _⟩ (fun r2 σ3 hpo1 hok4 => ?_)
  obtain ⟨rfl, hpo1⟩ := hpo1
  obtain rfl := sv_boF hpo1
  refine sv_same (st2 := [sv_i 0]) (lv2 := [(0, sv_r a), (1, sv_i v1), (2, sv_i v2)]) rfl rfl ?_
  refine sv_if_t C.1 C.2.1 (cnd := .eq) (off := 16) (tgt := 21) (by decide +kernel) (by decide) ⟨by omega, by omega⟩ (show 0 = 0 by omega) ?_
  refine sv_go C.1 C.2.1 [(.bipush (-2), 2)] (pc' := 23) (by decide +kernel) rfl (lv' := [(0, sv_r a), (1, sv_i v1), (2, sv_i v2)]) (st' := [sv_i ((-2))]) rfl ?_
  exact sv_iret C hr (by decide +kernel) hok4 (⟨congrArg (fun q => [sv_i q]) (by first | omega | (unfold x; omega)), hF⟩)

set_option maxHeartbeats 4000000 in
set_option maxRecDepth 100000 in
theorem ct_X11_timed (l : Launch) (g : sv_G) (A : Nat → Prop) (ty : Nat → Nat) (σ : Nat → Nat → Int) (hok : sv_ok ty σ) (hTA : ∀ q, ty q ≠ 0 → A q) (hI : sv_inv sp_1 ty σ) (hZ : sv_inv sp_0 ty σ) (a : Nat) (k_a : ty a = 10) (v1 : Int) (hv1 : sv_in v1) (v2 : Int) (hv2 : sv_in v2) : sv_M l yX11_timed cX11_timed 8 (some .int) { frames := 3, cells := 0, slots := 0, locals := 66 } g A ty σ [sv_r a, sv_i v1, sv_i v2] (fun r σ' => r = [sv_i (-2)] ∧ sv_off [] ty σ σ') := by
  refine sv_enter (by decide) (Nat.le_of_ble_eq_true rfl) ?_
  intro p e s m args below meth c C hr
  have C : sv_C g A RX11 cX11_timed 8 p s m args meth c := C
  have hr : meth.sig.returnType = (some .int) := hr
  have hF : sv_off [] ty σ σ := sv_off.rf
  refine sv_same (st2 := []) (lv2 := [(0, sv_r a), (1, sv_i v1), (2, sv_i v2)]) rfl rfl ?_
  refine sv_go C.1 C.2.1 [(.aload_n 0, 1), (.iload_n 1, 1)] (pc' := 2) (by decide +kernel) rfl (lv' := [(0, sv_r a), (1, sv_i v1), (2, sv_i v2)]) (st' := [sv_i v1, sv_r a]) rfl ?_
  refine sv_cv C (index := 367) (k := 1) (rest := []) (ci := 10) (r := (RX11, TX11, 47)) (by decide +kernel) (ct_X11_isGoing l g A ty σ hok hI hZ a k_a (v1) ⟨by omega, by omega⟩) ⟨co_X11_isGoing, in_X11, ⟨by decide, by decide, by decide +kernel⟩, Nat.le_of_ble_eq_true rfl, Nat.le_of_ble_eq_true rfl⟩ ml_X11_367 im_X11_isGoing se_X11_isGoing (by rw [k_a]; rfl) rfl rfl rfl (Nat.le_of_ble_eq_true rfl) ⟨Nat.zero_le _, Nat.zero_le _⟩ (fun r2 σ3 hpo1 hok4 => ?_)
  obtain ⟨rfl, hpo1⟩ := hpo1
  obtain rfl := sv_boF hpo1
  refine sv_same (st2 := [sv_i 0]) (lv2 := [(0, sv_r a), (1, sv_i v1), (2, sv_i v2)]) rfl rfl ?_
  refine sv_if_t C.1 C.2.1 (cnd := .eq) (off := 15) (tgt := 20) (by decide +kernel) (by decide) ⟨by omega, by omega⟩ (show 0 = 0 by omega) ?_
  refine sv_go C.1 C.2.1 [(.bipush (-2), 2)] (pc' := 22) (by decide +kernel) rfl (lv' := [(0, sv_r a), (1, sv_i v1), (2, sv_i v2)]) (st' := [sv_i ((-2))]) rfl ?_
  exact sv_iret C hr (by decide +kernel) hok4 (⟨congrArg (fun q => [sv_i q]) (by first | omega | (unfold x; omega)), hF⟩)

theorem cl_X11_290 : Cond.constantLong RX11 290 (10) ∈ lw_good := sv_mem 1360 (by decide +kernel) rfl
theorem cl_X11_373 : Cond.constantLong RX11 373 (13) ∈ lw_good := sv_mem 1511 (by decide +kernel) rfl
set_option maxHeartbeats 4000000 in
set_option maxRecDepth 100000 in
theorem ct_X11_count (l : Launch) (g : sv_G) (A : Nat → Prop) (ty : Nat → Nat) (σ : Nat → Nat → Int) (hok : sv_ok ty σ) (hTA : ∀ q, ty q ≠ 0 → A q) (hI : sv_inv sp_1 ty σ) (hZ : sv_inv sp_0 ty σ) (a : Nat) (k_a : ty a = 10) (w1 : Int) (hw1 : sv_in w1) : sv_M l yX11_count cX11_count 5 (some .int) { frames := 1, cells := 0, slots := 0, locals := 25 } g A ty σ [sv_r a, sv_i w1] (fun r σ' => r = [sv_i (fx_count w1)] ∧ sv_off [] ty σ σ') := by
  refine sv_enter (by decide) (Nat.le_of_ble_eq_true rfl) ?_
  intro p e s m args below meth c C hr
  have C : sv_C g A RX11 cX11_count 5 p s m args meth c := C
  have hr : meth.sig.returnType = (some .int) := hr
  have hF : sv_off [] ty σ σ := sv_off.rf
  refine sv_same (st2 := []) (lv2 := [(0, sv_r a), (1, sv_i w1)]) rfl rfl ?_
  refine sv_go C.1 C.2.1 [(.iload_n 1, 1)] (pc' := 1) (by decide +kernel) rfl (lv' := [(0, sv_r a), (1, sv_i w1)]) (st' := [sv_i w1]) rfl ?_
  refine sv_i2l C.1 C.2.1 (by decide +kernel) ⟨by omega, by omega⟩ ?_
  refine sv_ldc2 C (index := 290) (z := 10) (by decide +kernel) cl_X11_290 (by decide) ?_
  refine sv_ldc2 C (index := 373) (z := 13) (by decide +kernel) cl_X11_373 (by decide) ?_
  refine sv_cs C (index := 9) (k := 3) (rest := []) (by decide +kernel) (ct_X11_in l g A ty σ hok (w1) ⟨by omega, by omega⟩ (10) ⟨by omega, by omega⟩ (13) ⟨by omega, by omega⟩) ⟨co_X11_in, in_X11, ⟨by decide, by decide, by decide +kernel⟩, Nat.le_of_ble_eq_true rfl, Nat.le_of_ble_eq_true rfl⟩ ml_X11_9 st_X11_in rfl rfl (Nat.le_of_ble_eq_true rfl) ⟨Nat.zero_le _, Nat.zero_le _⟩ (fun r2 σ3 hpo1 hok4 => ?_)
  obtain ⟨rfl, ⟨h5, rfl⟩ | ⟨h5, rfl⟩⟩ := hpo1
  · refine sv_same (st2 := [sv_i 1]) (lv2 := [(0, sv_r a), (1, sv_i w1)]) rfl rfl ?_
    refine sv_if_f C.1 C.2.1 (cnd := .eq) (off := 13) (tgt := 24) (by decide +kernel) (by decide) ⟨by omega, by omega⟩ (show ¬ (1 = 0) by omega) ?_
    refine sv_go C.1 C.2.1 [(.aload_n 0, 1)] (pc' := 15) (by decide +kernel) rfl (lv' := [(0, sv_r a), (1, sv_i w1)]) (st' := [sv_r a]) rfl ?_
    obtain ⟨q6, eq6, kq6⟩ := hI.ref (k := 0) k_a rfl
    refine sv_gf C (index := 47) (ci := 10) (k := 0) (r := (RX11, TX11, 47)) (v := sv_r q6) (by decide +kernel) (by rw [k_a]; rfl) rfl (by decide) fl_X11_47 (congrArg sv_a eq6) ?_
    refine sv_go C.1 C.2.1 [(.iload_n 1, 1), (.bipush 10, 2), (.isub, 1)] (pc' := 22) (by decide +kernel) rfl (lv' := [(0, sv_r a), (1, sv_i w1)]) (st' := [sv_i (w1 - 10), sv_r q6]) rfl ?_
    refine sv_ia C (n := 5) (by decide +kernel) (by rw [kq6]; rfl) (by decide) (by omega) (by omega) ?_
    have w7 : σ q6 (w1 - 10).toNat = 0 := by have q := hI.num (k := (w1 - 10 : Int).toNat) kq6 rfl; omega
    rw [w7]
    exact sv_iret C hr (by decide +kernel) hok4 (⟨congrArg (fun q => [sv_i q]) (by first | omega | (unfold fx_count; omega)), hF⟩)
  · refine sv_same (st2 := [sv_i 0]) (lv2 := [(0, sv_r a), (1, sv_i w1)]) rfl rfl ?_
    refine sv_if_t C.1 C.2.1 (cnd := .eq) (off := 13) (tgt := 24) (by decide +kernel) (by decide) ⟨by omega, by omega⟩ (show 0 = 0 by omega) ?_
    refine sv_go C.1 C.2.1 [(.iconst 0, 1), (.istore_n 2, 1), (.iload_n 1, 1)] (pc' := 27) (by decide +kernel) rfl (lv' := [(0, sv_r a), (1, sv_i w1), (2, sv_i 0)]) (st' := [sv_i w1]) rfl ?_
    rcases (show w1 = 0 ∨ w1 = 1 ∨ w1 = 2 ∨ w1 = 3 ∨ (w1 ≠ 0 ∧ w1 ≠ 1 ∧ w1 ≠ 2 ∧ w1 ≠ 3) by omega) with h8 | h8 | h8 | h8 | h8
    · refine sv_tsI C.1 C.2.1 (dflt := 175) (lo := 0) (hi := 3) (offs := #[29, 34, 88, 142]) (len := 29) (off := 29) (tgt := 56) (by decide +kernel) 0 h8 (by decide) rfl (by decide) ?_
      refine sv_go C.1 C.2.1 [(.aload_n 0, 1)] (pc' := 57) (by decide +kernel) rfl (lv' := [(0, sv_r a), (1, sv_i w1), (2, sv_i 0)]) (st' := [sv_r a]) rfl ?_
      have t9 : σ a 17 = 0 := by have q := hZ.num (k := 17) k_a rfl; omega
      refine sv_gf C (index := 269) (ci := 10) (k := 17) (r := (RX11, TX11, 47)) (v := sv_i 0) (by decide +kernel) (by rw [k_a]; rfl) rfl (by decide) fl_X11_269 (congrArg sv_i t9) ?_
      exact sv_iret C hr (by decide +kernel) hok4 (⟨congrArg (fun q => [sv_i q]) (by first | omega | (unfold fx_count; omega)), hF⟩)
    · refine sv_tsI C.1 C.2.1 (dflt := 175) (lo := 0) (hi := 3) (offs := #[29, 34, 88, 142]) (len := 29) (off := 34) (tgt := 61) (by decide +kernel) 1 h8 (by decide) rfl (by decide) ?_
      refine sv_go C.1 C.2.1 [(.iconst 0, 1), (.istore_n 3, 1)] (pc' := 63) (by decide +kernel) rfl (lv' := [(0, sv_r a), (1, sv_i w1), (2, sv_i 0), (3, sv_i 0)]) (st' := []) rfl ?_
      have L10 : ∀ (n : Nat) (N : Int) (X : Int) , (N = 0) → (0 ≤ X ∧ X ≤ 20) → (20 - X) < (n : Int) → sv_E p l e { frames := 1, cells := 0, slots := 0, locals := 25 } s m args below meth c 5 g A ty (fun r σ' => r = [sv_i (fx_count w1)] ∧ sv_off [] ty σ σ') σ 63 [(0, sv_r a), (1, sv_i w1), (2, sv_i N), (3, sv_i X)] [] := by
        intro n
        induction n with
        | zero => intro N X  hN hX hmu; exact absurd hmu (by omega)
        | succ n ih11 =>
          intro N X  hN hX hmu
          refine sv_go C.1 C.2.1 [(.iload_n 3, 1), (.bipush 20, 2)] (pc' := 66) (by decide +kernel) rfl (lv' := [(0, sv_r a), (1, sv_i w1), (2, sv_i N), (3, sv_i X)]) (st' := [sv_i 20, sv_i X]) rfl ?_
          refine sv_icmp C.1 C.2.1 (cnd := .ge) (off := 47) (tgt := 113) (by decide +kernel) (by decide) ⟨by omega, by omega⟩ ⟨by omega, by omega⟩ (fun (h12 : 20 ≤ X) => ?_) (fun (h12 : ¬ (20 ≤ X)) => ?_)
          · refine sv_go C.1 C.2.1 [(.iload_n 2, 1)] (pc' := 114) (by decide +kernel) rfl (lv' := [(0, sv_r a), (1, sv_i w1), (2, sv_i N), (3, sv_i X)]) (st' := [sv_i N]) rfl ?_
            exact sv_iret C hr (by decide +kernel) hok4 (⟨congrArg (fun q => [sv_i q]) (by first | omega | (unfold fx_count; omega)), hF⟩)
          · refine sv_go C.1 C.2.1 [(.iconst 0, 1), (.istore 4, 2)] (pc' := 72) (by decide +kernel) rfl (lv' := [(0, sv_r a), (1, sv_i w1), (2, sv_i N), (3, sv_i X), (4, sv_i 0)]) (st' := []) rfl ?_
            have L13 : ∀ (n : Nat) (N2 : Int) (Y : Int) , (N2 = 0) → (0 ≤ Y ∧ Y ≤ X) → (X - Y) < (n : Int) → sv_E p l e { frames := 1, cells := 0, slots := 0, locals := 25 } s m args below meth c 5 g A ty (fun r σ' => r = [sv_i (fx_count w1)] ∧ sv_off [] ty σ σ') σ 72 [(0, sv_r a), (1, sv_i w1), (2, sv_i N2), (3, sv_i X), (4, sv_i Y)] [] := by
              intro n
              induction n with
              | zero => intro N2 Y  hN2 hY hmu; exact absurd hmu (by omega)
              | succ n ih14 =>
                intro N2 Y  hN2 hY hmu
                refine sv_go C.1 C.2.1 [(.iload 4, 2), (.iload_n 3, 1)] (pc' := 75) (by decide +kernel) rfl (lv' := [(0, sv_r a), (1, sv_i w1), (2, sv_i N2), (3, sv_i X), (4, sv_i Y)]) (st' := [sv_i X, sv_i Y]) rfl ?_
                refine sv_icmp C.1 C.2.1 (cnd := .ge) (off := 32) (tgt := 107) (by decide +kernel) (by decide) ⟨by omega, by omega⟩ ⟨by omega, by omega⟩ (fun (h15 : X ≤ Y) => ?_) (fun (h15 : ¬ (X ≤ Y)) => ?_)
                · refine sv_go C.1 C.2.1 [(.iinc 3 1, 3)] (pc' := 110) (by decide +kernel) rfl (lv' := [(0, sv_r a), (1, sv_i w1), (2, sv_i N2), (3, sv_i (X + 1)), (4, sv_i Y)]) (st' := []) rfl ?_
                  refine sv_goto C.1 C.2.1 (off := (-47)) (tgt := 63) (by decide +kernel) (by decide) ?_
                  refine sv_pick [0, 1, 2, 3] (lv2 := [(0, sv_r a), (1, sv_i w1), (2, sv_i N2), (3, sv_i (X + 1))]) rfl ?_
                  exact ih11 N2 (X + 1)  (by omega) (by omega) (by omega)
                · refine sv_go C.1 C.2.1 [(.iload_n 2, 1), (.aload_n 0, 1)] (pc' := 80) (by decide +kernel) rfl (lv' := [(0, sv_r a), (1, sv_i w1), (2, sv_i N2), (3, sv_i X), (4, sv_i Y)]) (st' := [sv_r a, sv_i N2]) rfl ?_
                  obtain ⟨q16, eq16, kq16⟩ := hI.ref (k := 41) k_a rfl
                  refine sv_gf C (index := 148) (ci := 10) (k := 41) (r := (RX11, TX11, 47)) (v := sv_r q16) (by decide +kernel) (by rw [k_a]; rfl) rfl (by decide) fl_X11_148 (congrArg sv_a eq16) ?_
                  refine sv_go C.1 C.2.1 [(.bipush 20, 2), (.iload_n 3, 1), (.imul, 1), (.iload 4, 2), (.iadd, 1)] (pc' := 90) (by decide +kernel) rfl (lv' := [(0, sv_r a), (1, sv_i w1), (2, sv_i N2), (3, sv_i X), (4, sv_i Y)]) (st' := [sv_i ((20 * X) + Y), sv_r q16, sv_i N2]) rfl ?_
                  refine sv_ia C (n := 400) (by decide +kernel) (by rw [kq16]; rfl) (by decide) (by omega) (by omega) ?_
                  have w17 : σ q16 ((20 * X) + Y).toNat = 0 := by have q := hZ.num (k := ((20 * X) + Y : Int).toNat) kq16 rfl; omega
                  rw [w17]
                  refine sv_if_t C.1 C.2.1 (cnd := .le) (off := 7) (tgt := 98) (by decide +kernel) (by decide) ⟨by omega, by omega⟩ (show 0 ≤ 0 by omega) ?_
                  refine sv_go C.1 C.2.1 [(.iconst 0, 1), (.iadd, 1), (.istore_n 2, 1), (.iinc 4 1, 3)] (pc' := 104) (by decide +kernel) rfl (lv' := [(0, sv_r a), (1, sv_i w1), (2, sv_i (N2 + 0)), (3, sv_i X), (4, sv_i (Y + 1))]) (st' := []) rfl ?_
                  refine sv_goto C.1 C.2.1 (off := (-32)) (tgt := 72) (by decide +kernel) (by decide) ?_
                  exact ih14 (N2 + 0) (Y + 1)  (by omega) (by omega) (by omega)
            exact L13 (((X - 0 : Int)).toNat + 1) N 0  (by omega) (by omega) (by omega)
      exact L10 (((20 - 0 : Int)).toNat + 1) 0 0  (by omega) (by omega) (by omega)
    · refine sv_tsI C.1 C.2.1 (dflt := 175) (lo := 0) (hi := 3) (offs := #[29, 34, 88, 142]) (len := 29) (off := 88) (tgt := 115) (by decide +kernel) 2 h8 (by decide) rfl (by decide) ?_
      refine sv_go C.1 C.2.1 [(.iconst 0, 1), (.istore_n 3, 1)] (pc' := 117) (by decide +kernel) rfl (lv' := [(0, sv_r a), (1, sv_i w1), (2, sv_i 0), (3, sv_i 0)]) (st' := []) rfl ?_
      have L18 : ∀ (n : Nat) (N : Int) (X : Int) , (N = 0) → (0 ≤ X ∧ X ≤ 10) → (10 - X) < (n : Int) → sv_E p l e { frames := 1, cells := 0, slots := 0, locals := 25 } s m args below meth c 5 g A ty (fun r σ' => r = [sv_i (fx_count w1)] ∧ sv_off [] ty σ σ') σ 117 [(0, sv_r a), (1, sv_i w1), (2, sv_i N), (3, sv_i X)] [] := by
        intro n
        induction n with
        | zero => intro N X  hN hX hmu; exact absurd hmu (by omega)
        | succ n ih19 =>
          intro N X  hN hX hmu
          refine sv_go C.1 C.2.1 [(.iload_n 3, 1), (.bipush 10, 2)] (pc' := 120) (by decide +kernel) rfl (lv' := [(0, sv_r a), (1, sv_i w1), (2, sv_i N), (3, sv_i X)]) (st' := [sv_i 10, sv_i X]) rfl ?_
          refine sv_icmp C.1 C.2.1 (cnd := .ge) (off := 47) (tgt := 167) (by decide +kernel) (by decide) ⟨by omega, by omega⟩ ⟨by omega, by omega⟩ (fun (h20 : 10 ≤ X) => ?_) (fun (h20 : ¬ (10 ≤ X)) => ?_)
          · refine sv_go C.1 C.2.1 [(.iload_n 2, 1)] (pc' := 168) (by decide +kernel) rfl (lv' := [(0, sv_r a), (1, sv_i w1), (2, sv_i N), (3, sv_i X)]) (st' := [sv_i N]) rfl ?_
            exact sv_iret C hr (by decide +kernel) hok4 (⟨congrArg (fun q => [sv_i q]) (by first | omega | (unfold fx_count; omega)), hF⟩)
          · refine sv_go C.1 C.2.1 [(.iconst 0, 1), (.istore 4, 2)] (pc' := 126) (by decide +kernel) rfl (lv' := [(0, sv_r a), (1, sv_i w1), (2, sv_i N), (3, sv_i X), (4, sv_i 0)]) (st' := []) rfl ?_
            have L21 : ∀ (n : Nat) (N2 : Int) (Y : Int) , (N2 = 0) → (0 ≤ Y ∧ Y ≤ X) → (X - Y) < (n : Int) → sv_E p l e { frames := 1, cells := 0, slots := 0, locals := 25 } s m args below meth c 5 g A ty (fun r σ' => r = [sv_i (fx_count w1)] ∧ sv_off [] ty σ σ') σ 126 [(0, sv_r a), (1, sv_i w1), (2, sv_i N2), (3, sv_i X), (4, sv_i Y)] [] := by
              intro n
              induction n with
              | zero => intro N2 Y  hN2 hY hmu; exact absurd hmu (by omega)
              | succ n ih22 =>
                intro N2 Y  hN2 hY hmu
                refine sv_go C.1 C.2.1 [(.iload 4, 2), (.iload_n 3, 1)] (pc' := 129) (by decide +kernel) rfl (lv' := [(0, sv_r a), (1, sv_i w1), (2, sv_i N2), (3, sv_i X), (4, sv_i Y)]) (st' := [sv_i X, sv_i Y]) rfl ?_
                refine sv_icmp C.1 C.2.1 (cnd := .ge) (off := 32) (tgt := 161) (by decide +kernel) (by decide) ⟨by omega, by omega⟩ ⟨by omega, by omega⟩ (fun (h23 : X ≤ Y) => ?_) (fun (h23 : ¬ (X ≤ Y)) => ?_)
                · refine sv_go C.1 C.2.1 [(.iinc 3 1, 3)] (pc' := 164) (by decide +kernel) rfl (lv' := [(0, sv_r a), (1, sv_i w1), (2, sv_i N2), (3, sv_i (X + 1)), (4, sv_i Y)]) (st' := []) rfl ?_
                  refine sv_goto C.1 C.2.1 (off := (-47)) (tgt := 117) (by decide +kernel) (by decide) ?_
                  refine sv_pick [0, 1, 2, 3] (lv2 := [(0, sv_r a), (1, sv_i w1), (2, sv_i N2), (3, sv_i (X + 1))]) rfl ?_
                  exact ih19 N2 (X + 1)  (by omega) (by omega) (by omega)
                · refine sv_go C.1 C.2.1 [(.iload_n 2, 1), (.aload_n 0, 1)] (pc' := 134) (by decide +kernel) rfl (lv' := [(0, sv_r a), (1, sv_i w1), (2, sv_i N2), (3, sv_i X), (4, sv_i Y)]) (st' := [sv_r a, sv_i N2]) rfl ?_
                  obtain ⟨q24, eq24, kq24⟩ := hI.ref (k := 33) k_a rfl
                  refine sv_gf C (index := 127) (ci := 10) (k := 33) (r := (RX11, TX11, 47)) (v := sv_r q24) (by decide +kernel) (by rw [k_a]; rfl) rfl (by decide) fl_X11_127 (congrArg sv_a eq24) ?_
                  refine sv_go C.1 C.2.1 [(.bipush 10, 2), (.iload_n 3, 1), (.imul, 1), (.iload 4, 2), (.iadd, 1)] (pc' := 144) (by decide +kernel) rfl (lv' := [(0, sv_r a), (1, sv_i w1), (2, sv_i N2), (3, sv_i X), (4, sv_i Y)]) (st' := [sv_i ((10 * X) + Y), sv_r q24, sv_i N2]) rfl ?_
                  refine sv_za C (n := 100) (by decide +kernel) (by rw [kq24]; rfl) (by decide) (by omega) (by omega) ?_
                  have w25 : σ q24 ((10 * X) + Y).toNat = 0 := by have q := hZ.num (k := ((10 * X) + Y : Int).toNat) kq24 rfl; omega
                  rw [w25]
                  refine sv_if_t C.1 C.2.1 (cnd := .eq) (off := 7) (tgt := 152) (by decide +kernel) (by decide) ⟨by omega, by omega⟩ (show 0 = 0 by omega) ?_
                  refine sv_go C.1 C.2.1 [(.iconst 0, 1), (.iadd, 1), (.istore_n 2, 1), (.iinc 4 1, 3)] (pc' := 158) (by decide +kernel) rfl (lv' := [(0, sv_r a), (1, sv_i w1), (2, sv_i (N2 + 0)), (3, sv_i X), (4, sv_i (Y + 1))]) (st' := []) rfl ?_
                  refine sv_goto C.1 C.2.1 (off := (-32)) (tgt := 126) (by decide +kernel) (by decide) ?_
                  exact ih22 (N2 + 0) (Y + 1)  (by omega) (by omega) (by omega)
            exact L21 (((X - 0 : Int)).toNat + 1) N 0  (by omega) (by omega) (by omega)
      exact L18 (((10 - 0 : Int)).toNat + 1) 0 0  (by omega) (by omega) (by omega)
    · refine sv_tsI C.1 C.2.1 (dflt := 175) (lo := 0) (hi := 3) (offs := #[29, 34, 88, 142]) (len := 29) (off := 142) (tgt := 169) (by decide +kernel) 3 h8 (by decide) rfl (by decide) ?_
      refine sv_go C.1 C.2.1 [(.iconst 0, 1), (.istore_n 3, 1)] (pc' := 171) (by decide +kernel) rfl (lv' := [(0, sv_r a), (1, sv_i w1), (2, sv_i 0), (3, sv_i 0)]) (st' := []) rfl ?_
      have L26 : ∀ (n : Nat) (N : Int) (X : Int) , (N = 0) → (0 ≤ X ∧ X ≤ 12) → (12 - X) < (n : Int) → sv_E p l e { frames := 1, cells := 0, slots := 0, locals := 25 } s m args below meth c 5 g A ty (fun r σ' => r = [sv_i (fx_count w1)] ∧ sv_off [] ty σ σ') σ 171 [(0, sv_r a), (1, sv_i w1), (2, sv_i N), (3, sv_i X)] [] := by
        intro n
        induction n with
        | zero => intro N X  hN hX hmu; exact absurd hmu (by omega)
        | succ n ih27 =>
          intro N X  hN hX hmu
          refine sv_go C.1 C.2.1 [(.iload_n 3, 1), (.bipush 12, 2)] (pc' := 174) (by decide +kernel) rfl (lv' := [(0, sv_r a), (1, sv_i w1), (2, sv_i N), (3, sv_i X)]) (st' := [sv_i 12, sv_i X]) rfl ?_
          refine sv_icmp C.1 C.2.1 (cnd := .ge) (off := 26) (tgt := 200) (by decide +kernel) (by decide) ⟨by omega, by omega⟩ ⟨by omega, by omega⟩ (fun (h28 : 12 ≤ X) => ?_) (fun (h28 : ¬ (12 ≤ X)) => ?_)
          · refine sv_go C.1 C.2.1 [(.iload_n 2, 1)] (pc' := 201) (by decide +kernel) rfl (lv' := [(0, sv_r a), (1, sv_i w1), (2, sv_i N), (3, sv_i X)]) (st' := [sv_i N]) rfl ?_
            exact sv_iret C hr (by decide +kernel) hok4 (⟨congrArg (fun q => [sv_i q]) (by first | omega | (unfold fx_count; omega)), hF⟩)
          · refine sv_go C.1 C.2.1 [(.iload_n 2, 1), (.aload_n 0, 1)] (pc' := 179) (by decide +kernel) rfl (lv' := [(0, sv_r a), (1, sv_i w1), (2, sv_i N), (3, sv_i X)]) (st' := [sv_r a, sv_i N]) rfl ?_
            obtain ⟨q29, eq29, kq29⟩ := hI.ref (k := 42) k_a rfl
            refine sv_gf C (index := 151) (ci := 10) (k := 42) (r := (RX11, TX11, 47)) (v := sv_r q29) (by decide +kernel) (by rw [k_a]; rfl) rfl (by decide) fl_X11_151 (congrArg sv_a eq29) ?_
            refine sv_go C.1 C.2.1 [(.iload_n 3, 1)] (pc' := 183) (by decide +kernel) rfl (lv' := [(0, sv_r a), (1, sv_i w1), (2, sv_i N), (3, sv_i X)]) (st' := [sv_i X, sv_r q29, sv_i N]) rfl ?_
            refine sv_ia C (n := 12) (by decide +kernel) (by rw [kq29]; rfl) (by decide) (by omega) (by omega) ?_
            have w30 : σ q29 X.toNat = 0 := by have q := hZ.num (k := (X : Int).toNat) kq29 rfl; omega
            rw [w30]
            refine sv_if_t C.1 C.2.1 (cnd := .le) (off := 7) (tgt := 191) (by decide +kernel) (by decide) ⟨by omega, by omega⟩ (show 0 ≤ 0 by omega) ?_
            refine sv_go C.1 C.2.1 [(.iconst 0, 1), (.iadd, 1), (.istore_n 2, 1), (.iinc 3 1, 3)] (pc' := 197) (by decide +kernel) rfl (lv' := [(0, sv_r a), (1, sv_i w1), (2, sv_i (N + 0)), (3, sv_i (X + 1))]) (st' := []) rfl ?_
            refine sv_goto C.1 C.2.1 (off := (-26)) (tgt := 171) (by decide +kernel) (by decide) ?_
            exact ih27 (N + 0) (X + 1)  (by omega) (by omega) (by omega)
      exact L26 (((12 - 0 : Int)).toNat + 1) 0 0  (by omega) (by omega) (by omega)
    · refine sv_tsO C.1 C.2.1 (dflt := 175) (lo := 0) (hi := 3) (offs := #[29, 34, 88, 142]) (len := 29) (tgt := 202) (by decide +kernel) ⟨by omega, by omega⟩ (by omega) (by decide) ?_
      refine sv_go C.1 C.2.1 [(.iconst (-1), 1)] (pc' := 203) (by decide +kernel) rfl (lv' := [(0, sv_r a), (1, sv_i w1), (2, sv_i 0)]) (st' := [sv_i ((-1))]) rfl ?_
      exact sv_iret C hr (by decide +kernel) hok4 (⟨congrArg (fun q => [sv_i q]) (by first | omega | (unfold fx_count; omega)), hF⟩)

theorem fl_X11_121 : Cond.fieldLink RX11 121 "SaintsRoadModel" "office" "[I" ∈ lw_good := sv_mem 1135 (by decide +kernel) rfl
set_option maxHeartbeats 4000000 in
set_option maxRecDepth 100000 in
theorem ct_X11_lead (l : Launch) (g : sv_G) (A : Nat → Prop) (ty : Nat → Nat) (σ : Nat → Nat → Int) (hok : sv_ok ty σ) (hTA : ∀ q, ty q ≠ 0 → A q) (hI : sv_inv sp_1 ty σ) (a : Nat) (k_a : ty a = 10) (v1 : Int) (hv1 : 0 ≤ v1 ∧ v1 ≤ 3) (y : Int) (hy : 1 ≤ y ∧ y ≤ 2000) : sv_M l yX11_lead cX11_lead 8 none { frames := 2, cells := 0, slots := 0, locals := 42 } g A ty σ [sv_r a, sv_i v1, sv_i y] (fun r σ' => r = [] ∧ sv_inv sp_1 ty σ' ∧ sv_off [91] ty σ σ' ∧ md_of σ' a 31 y) := by
  refine sv_enter (by decide) (Nat.le_of_ble_eq_true rfl) ?_
  intro p e s m args below meth c C hr
  have C : sv_C g A RX11 cX11_lead 8 p s m args meth c := C
  have hr : meth.sig.returnType = none := hr
  have hF : sv_off [91] ty σ σ := sv_off.rf
  have hlp := dy_lp_in y
  refine sv_same (st2 := []) (lv2 := [(0, sv_r a), (1, sv_i v1), (2, sv_i y)]) rfl rfl ?_
  refine sv_go C.1 C.2.1 [(.iconst 0, 1), (.istore_n 3, 1), (.iload_n 3, 1), (.aload_n 0, 1)] (pc' := 4) (by decide +kernel) rfl (lv' := [(0, sv_r a), (1, sv_i v1), (2, sv_i y), (3, sv_i 0)]) (st' := [sv_r a, sv_i 0]) rfl ?_
  obtain ⟨q1, eq1, kq1⟩ := hI.ref (k := 0) k_a rfl
  refine sv_gf C (index := 47) (ci := 10) (k := 0) (r := (RX11, TX11, 47)) (v := sv_r q1) (by decide +kernel) (by rw [k_a]; rfl) rfl (by decide) fl_X11_47 (congrArg sv_a eq1) ?_
  refine sv_go C.1 C.2.1 [(.iload_n 1, 1)] (pc' := 8) (by decide +kernel) rfl (lv' := [(0, sv_r a), (1, sv_i v1), (2, sv_i y), (3, sv_i 0)]) (st' := [sv_i v1, sv_r q1, sv_i 0]) rfl ?_
  refine sv_ia C (n := 5) (by decide +kernel) (by rw [kq1]; rfl) (by decide) (by omega) (by omega) ?_
  have w2 : σ q1 v1.toNat = 0 := by have q := hI.num (k := (v1 : Int).toNat) kq1 rfl; omega
  rw [w2]
  refine sv_icmp_t C.1 C.2.1 (cnd := .ge) (off := 52) (tgt := 61) (by decide +kernel) (by decide) ⟨by omega, by omega⟩ ⟨by omega, by omega⟩ (show 0 ≤ 0 by omega) ?_
  refine sv_go C.1 C.2.1 [(.iconst (-1), 1), (.istore_n 3, 1), (.iconst 0, 1), (.istore 4, 2)] (pc' := 66) (by decide +kernel) rfl (lv' := [(0, sv_r a), (1, sv_i v1), (2, sv_i y), (3, sv_i ((-1))), (4, sv_i 0)]) (st' := []) rfl ?_
  obtain ⟨qo, eqo, kqo⟩ := hI.ref (k := 31) k_a rfl
  have L5 : ∀ (n : Nat) (X : Int) (σ3 : Nat → Nat → Int), (sv_ok ty σ3) → (sv_inv sp_1 ty σ3) → (sv_off [91] ty σ σ3) → (σ3 a 0 = (q1 : Int) + 1) → (σ3 a 31 = (qo : Int) + 1) → (0 ≤ X ∧ X ≤ 365 + dy_lp y) → (∀ i : Int, 0 ≤ i → i < X → σ3 qo i.toNat = fx_of y i) → (365 + dy_lp y - X) < (n : Int) → sv_E p l e { frames := 2, cells := 0, slots := 0, locals := 42 } s m args below meth c 8 g A ty (fun r σ' => r = [] ∧ sv_inv sp_1 ty σ' ∧ sv_off [91] ty σ σ' ∧ md_of σ' a 31 y) σ3 66 [(0, sv_r a), (1, sv_i v1), (2, sv_i y), (3, sv_i ((-1))), (4, sv_i X)] [] := by
    intro n
    induction n with
    | zero => intro X σ3 hokc4 hIc4 hFc4 kc4_0 kc4_1 hX hO hmu; exact absurd hmu (by omega)
    | succ n ih6 =>
      intro X σ3 hokc4 hIc4 hFc4 kc4_0 kc4_1 hX hO hmu
      refine sv_go C.1 C.2.1 [(.iload 4, 2), (.iload_n 2, 1)] (pc' := 69) (by decide +kernel) rfl (lv' := [(0, sv_r a), (1, sv_i v1), (2, sv_i y), (3, sv_i ((-1))), (4, sv_i X)]) (st' := [sv_i y, sv_i X]) rfl ?_
      refine sv_cs C (index := 16) (k := 1) (rest := [sv_i X]) (by decide +kernel) (ct_X11_daysOf l g A ty σ3 hokc4 (y) ⟨by omega, by omega⟩) ⟨co_X11_daysOf, in_X11, ⟨by decide, by decide, by decide +kernel⟩, Nat.le_of_ble_eq_true rfl, Nat.le_of_ble_eq_true rfl⟩ ml_X11_16 st_X11_daysOf rfl rfl (Nat.le_of_ble_eq_true rfl) ⟨Nat.zero_le _, Nat.zero_le _⟩ (fun r8 σ9 hpo7 hok10 => ?_)
      obtain ⟨rfl, rfl⟩ := hpo7
      have hn11 := dy_lp_in y
      refine sv_same (st2 := [sv_i (365 + dy_lp y), sv_i X]) (lv2 := [(0, sv_r a), (1, sv_i v1), (2, sv_i y), (3, sv_i ((-1))), (4, sv_i X)]) rfl rfl ?_
      refine sv_icmp C.1 C.2.1 (cnd := .ge) (off := 306) (tgt := 378) (by decide +kernel) (by decide) ⟨by omega, by omega⟩ ⟨by omega, by omega⟩ (fun (h12 : (365 + dy_lp y) ≤ X) => ?_) (fun (h12 : ¬ ((365 + dy_lp y) ≤ X)) => ?_)
      · exact sv_vret C hr (by decide +kernel) hok10 (⟨rfl, hIc4, hFc4, fun h hh i h1 h2 => by have hb : h = qo := (by have q := kc4_1; omega); rw [hb]; exact hO i h1 (by omega)⟩)
      · refine sv_go C.1 C.2.1 [(.iconst (-1), 1), (.istore 5, 2), (.iconst 0, 1), (.istore 6, 2), (.iload 6, 2), (.aload_n 0, 1)] (pc' := 84) (by decide +kernel) rfl (lv' := [(0, sv_r a), (1, sv_i v1), (2, sv_i y), (3, sv_i ((-1))), (4, sv_i X), (5, sv_i ((-1))), (6, sv_i 0)]) (st' := [sv_r a, sv_i 0]) rfl ?_
        refine sv_gf C (index := 47) (ci := 10) (k := 0) (r := (RX11, TX11, 47)) (v := sv_r q1) (by decide +kernel) (by rw [k_a]; rfl) rfl (by decide) fl_X11_47 (congrArg sv_a kc4_0) ?_
        refine sv_go C.1 C.2.1 [(.iload_n 1, 1)] (pc' := 88) (by decide +kernel) rfl (lv' := [(0, sv_r a), (1, sv_i v1), (2, sv_i y), (3, sv_i ((-1))), (4, sv_i X), (5, sv_i ((-1))), (6, sv_i 0)]) (st' := [sv_i v1, sv_r q1, sv_i 0]) rfl ?_
        refine sv_ia C (n := 5) (by decide +kernel) (by rw [kq1]; rfl) (by decide) (by omega) (by omega) ?_
        have w13 : σ3 q1 v1.toNat = 0 := by have q := hIc4.num (k := (v1 : Int).toNat) kq1 rfl; omega
        rw [w13]
        refine sv_icmp_t C.1 C.2.1 (cnd := .ge) (off := 56) (tgt := 145) (by decide +kernel) (by decide) ⟨by omega, by omega⟩ ⟨by omega, by omega⟩ (show 0 ≤ 0 by omega) ?_
        refine sv_go C.1 C.2.1 [(.iconst 0, 1), (.istore 6, 2), (.iload 6, 2), (.aload_n 0, 1)] (pc' := 151) (by decide +kernel) rfl (lv' := [(0, sv_r a), (1, sv_i v1), (2, sv_i y), (3, sv_i ((-1))), (4, sv_i X), (5, sv_i ((-1))), (6, sv_i 0)]) (st' := [sv_r a, sv_i 0]) rfl ?_
        refine sv_gf C (index := 47) (ci := 10) (k := 0) (r := (RX11, TX11, 47)) (v := sv_r q1) (by decide +kernel) (by rw [k_a]; rfl) rfl (by decide) fl_X11_47 (congrArg sv_a kc4_0) ?_
        refine sv_go C.1 C.2.1 [(.iload_n 1, 1)] (pc' := 155) (by decide +kernel) rfl (lv' := [(0, sv_r a), (1, sv_i v1), (2, sv_i y), (3, sv_i ((-1))), (4, sv_i X), (5, sv_i ((-1))), (6, sv_i 0)]) (st' := [sv_i v1, sv_r q1, sv_i 0]) rfl ?_
        refine sv_ia C (n := 5) (by decide +kernel) (by rw [kq1]; rfl) (by decide) (by omega) (by omega) ?_
        have w14 : σ3 q1 v1.toNat = 0 := by have q := hIc4.num (k := (v1 : Int).toNat) kq1 rfl; omega
        rw [w14]
        refine sv_icmp_t C.1 C.2.1 (cnd := .ge) (off := 106) (tgt := 262) (by decide +kernel) (by decide) ⟨by omega, by omega⟩ ⟨by omega, by omega⟩ (show 0 ≤ 0 by omega) ?_
        refine sv_go C.1 C.2.1 [(.iload 5, 2), (.iconst (-1), 1)] (pc' := 265) (by decide +kernel) rfl (lv' := [(0, sv_r a), (1, sv_i v1), (2, sv_i y), (3, sv_i ((-1))), (4, sv_i X), (5, sv_i ((-1))), (6, sv_i 0)]) (st' := [sv_i ((-1)), sv_i ((-1))]) rfl ?_
        refine sv_icmp_t C.1 C.2.1 (cnd := .eq) (off := 29) (tgt := 294) (by decide +kernel) (by decide) ⟨by omega, by omega⟩ ⟨by omega, by omega⟩ (show ((-1)) = ((-1)) by omega) ?_
        refine sv_go C.1 C.2.1 [(.iload 5, 2), (.iconst (-1), 1)] (pc' := 297) (by decide +kernel) rfl (lv' := [(0, sv_r a), (1, sv_i v1), (2, sv_i y), (3, sv_i ((-1))), (4, sv_i X), (5, sv_i ((-1))), (6, sv_i 0)]) (st' := [sv_i ((-1)), sv_i ((-1))]) rfl ?_
        refine sv_icmp_f C.1 C.2.1 (cnd := .ne) (off := 26) (tgt := 323) (by decide +kernel) (by decide) ⟨by omega, by omega⟩ ⟨by omega, by omega⟩ (show ¬ (((-1)) ≠ ((-1))) by omega) ?_
        refine sv_go C.1 C.2.1 [(.iload_n 3, 1), (.iconst (-1), 1)] (pc' := 302) (by decide +kernel) rfl (lv' := [(0, sv_r a), (1, sv_i v1), (2, sv_i y), (3, sv_i ((-1))), (4, sv_i X), (5, sv_i ((-1))), (6, sv_i 0)]) (st' := [sv_i ((-1)), sv_i ((-1))]) rfl ?_
        refine sv_icmp_t C.1 C.2.1 (cnd := .eq) (off := 21) (tgt := 323) (by decide +kernel) (by decide) ⟨by omega, by omega⟩ ⟨by omega, by omega⟩ (show ((-1)) = ((-1)) by omega) ?_
        refine sv_go C.1 C.2.1 [(.iconst 0, 1), (.istore 6, 2), (.aload_n 0, 1)] (pc' := 327) (by decide +kernel) rfl (lv' := [(0, sv_r a), (1, sv_i v1), (2, sv_i y), (3, sv_i ((-1))), (4, sv_i X), (5, sv_i ((-1))), (6, sv_i 0)]) (st' := [sv_r a]) rfl ?_
        refine sv_gf C (index := 121) (ci := 10) (k := 31) (r := (RX11, TX11, 47)) (v := sv_r qo) (by decide +kernel) (by rw [k_a]; rfl) rfl (by decide) fl_X11_121 (congrArg sv_a kc4_1) ?_
        refine sv_go C.1 C.2.1 [(.iload 4, 2), (.iload 5, 2), (.iconst (-1), 1)] (pc' := 335) (by decide +kernel) rfl (lv' := [(0, sv_r a), (1, sv_i v1), (2, sv_i y), (3, sv_i ((-1))), (4, sv_i X), (5, sv_i ((-1))), (6, sv_i 0)]) (st' := [sv_i ((-1)), sv_i ((-1)), sv_i X, sv_r qo]) rfl ?_
        refine sv_icmp_t C.1 C.2.1 (cnd := .eq) (off := 8) (tgt := 343) (by decide +kernel) (by decide) ⟨by omega, by omega⟩ ⟨by omega, by omega⟩ (show ((-1)) = ((-1)) by omega) ?_
        refine sv_go C.1 C.2.1 [(.iload 6, 2)] (pc' := 345) (by decide +kernel) rfl (lv' := [(0, sv_r a), (1, sv_i v1), (2, sv_i y), (3, sv_i ((-1))), (4, sv_i X), (5, sv_i ((-1))), (6, sv_i 0)]) (st' := [sv_i 0, sv_i X, sv_r qo]) rfl ?_
        refine sv_if_t C.1 C.2.1 (cnd := .eq) (off := 10) (tgt := 355) (by decide +kernel) (by decide) ⟨by omega, by omega⟩ (show 0 = 0 by omega) ?_
        refine sv_go C.1 C.2.1 [(.iload_n 2, 1), (.iload 4, 2)] (pc' := 358) (by decide +kernel) rfl (lv' := [(0, sv_r a), (1, sv_i v1), (2, sv_i y), (3, sv_i ((-1))), (4, sv_i X), (5, sv_i ((-1))), (6, sv_i 0)]) (st' := [sv_i X, sv_i y, sv_i X, sv_r qo]) rfl ?_
        refine sv_cs C (index := 31) (k := 2) (rest := [sv_i X, sv_r qo]) (by decide +kernel) (ct_X11_weekday l g A ty σ3 hok10 (y) ⟨by omega, by omega⟩ (X) ⟨by omega, by omega⟩) ⟨co_X11_weekday, in_X11, ⟨by decide, by decide, by decide +kernel⟩, Nat.le_of_ble_eq_true rfl, Nat.le_of_ble_eq_true rfl⟩ ml_X11_31 st_X11_weekday rfl rfl (Nat.le_of_ble_eq_true rfl) ⟨Nat.zero_le _, Nat.zero_le _⟩ (fun r16 σ17 hpo15 hok18 => ?_)
        obtain ⟨rfl, rfl⟩ := hpo15
        have hn19 := dy_wd_in y X
        refine sv_same (st2 := [sv_i (dy_wd y X), sv_i X, sv_r qo]) (lv2 := [(0, sv_r a), (1, sv_i v1), (2, sv_i y), (3, sv_i ((-1))), (4, sv_i X), (5, sv_i ((-1))), (6, sv_i 0)]) rfl rfl ?_
        refine sv_if C.1 C.2.1 (cnd := .ne) (off := 8) (tgt := 369) (by decide +kernel) (by decide) ⟨by omega, by omega⟩ (fun (h20 : (dy_wd y X) ≠ 0) => ?_) (fun (h20 : ¬ ((dy_wd y X) ≠ 0)) => ?_)
        · refine sv_go C.1 C.2.1 [(.bipush (-10), 2)] (pc' := 371) (by decide +kernel) rfl (lv' := [(0, sv_r a), (1, sv_i v1), (2, sv_i y), (3, sv_i ((-1))), (4, sv_i X), (5, sv_i ((-1))), (6, sv_i 0)]) (st' := [sv_i ((-10)), sv_i X, sv_r qo]) rfl ?_
          refine sv_is C (n := 366) (by decide +kernel) (by rw [kqo]; rfl) (by decide) (by omega) (by omega) ⟨by omega, by omega⟩ (hTA _ (by rw [kqo]; decide)) hok18 (fun hok21 => ?_)
          have hI23 := hIc4.up (a := qo) (k := (X : Int).toNat) (z := (-10)) (by rw [kqo]; exact trivial)
          have hF24 := hFc4.up (a := qo) (k := (X : Int).toNat) (z := (-10)) (by rw [kqo]; decide)
          generalize eσ22 : sv_up σ3 qo (X : Int).toNat ((-10)) = σ22 at hok21 hI23 hF24 ⊢
          have t25 : σ22 a 0 = (q1 : Int) + 1 := by rw [← eσ22, sv_up_a (sv_ne k_a kqo (by decide))]; exact kc4_0
          have t26 : σ22 a 31 = (qo : Int) + 1 := by rw [← eσ22, sv_up_a (sv_ne k_a kqo (by decide))]; exact kc4_1
          refine sv_go C.1 C.2.1 [(.iinc 4 1, 3)] (pc' := 375) (by decide +kernel) rfl (lv' := [(0, sv_r a), (1, sv_i v1), (2, sv_i y), (3, sv_i ((-1))), (4, sv_i (X + 1)), (5, sv_i ((-1))), (6, sv_i 0)]) (st' := []) rfl ?_
          refine sv_goto C.1 C.2.1 (off := (-309)) (tgt := 66) (by decide +kernel) (by decide) ?_
          refine sv_pick [0, 1, 2, 3, 4] (lv2 := [(0, sv_r a), (1, sv_i v1), (2, sv_i y), (3, sv_i ((-1))), (4, sv_i (X + 1))]) rfl ?_
          exact ih6 (X + 1) σ22 hok21 hI23 hF24 t25 t26 (by omega) (by rw [← eσ22]; exact md_step hO (by unfold fx_of; omega) (by omega)) (by omega)
        · refine sv_go C.1 C.2.1 [(.bipush (-11), 2)] (pc' := 366) (by decide +kernel) rfl (lv' := [(0, sv_r a), (1, sv_i v1), (2, sv_i y), (3, sv_i ((-1))), (4, sv_i X), (5, sv_i ((-1))), (6, sv_i 0)]) (st' := [sv_i ((-11)), sv_i X, sv_r qo]) rfl ?_
          refine sv_goto C.1 C.2.1 (off := 5) (tgt := 371) (by decide +kernel) (by decide) ?_
          refine sv_is C (n := 366) (by decide +kernel) (by rw [kqo]; rfl) (by decide) (by omega) (by omega) ⟨by omega, by omega⟩ (hTA _ (by rw [kqo]; decide)) hok18 (fun hok27 => ?_)
          have hI29 := hIc4.up (a := qo) (k := (X : Int).toNat) (z := (-11)) (by rw [kqo]; exact trivial)
          have hF30 := hFc4.up (a := qo) (k := (X : Int).toNat) (z := (-11)) (by rw [kqo]; decide)
          generalize eσ28 : sv_up σ3 qo (X : Int).toNat ((-11)) = σ28 at hok27 hI29 hF30 ⊢
          have t31 : σ28 a 0 = (q1 : Int) + 1 := by rw [← eσ28, sv_up_a (sv_ne k_a kqo (by decide))]; exact kc4_0
          have t32 : σ28 a 31 = (qo : Int) + 1 := by rw [← eσ28, sv_up_a (sv_ne k_a kqo (by decide))]; exact kc4_1
          refine sv_go C.1 C.2.1 [(.iinc 4 1, 3)] (pc' := 375) (by decide +kernel) rfl (lv' := [(0, sv_r a), (1, sv_i v1), (2, sv_i y), (3, sv_i ((-1))), (4, sv_i (X + 1)), (5, sv_i ((-1))), (6, sv_i 0)]) (st' := []) rfl ?_
          refine sv_goto C.1 C.2.1 (off := (-309)) (tgt := 66) (by decide +kernel) (by decide) ?_
          refine sv_pick [0, 1, 2, 3, 4] (lv2 := [(0, sv_r a), (1, sv_i v1), (2, sv_i y), (3, sv_i ((-1))), (4, sv_i (X + 1))]) rfl ?_
          exact ih6 (X + 1) σ28 hok27 hI29 hF30 t31 t32 (by omega) (by rw [← eσ28]; exact md_step hO (by unfold fx_of; omega) (by omega)) (by omega)
  exact L5 (((365 + dy_lp y - 0 : Int)).toNat + 1) 0 σ hok hI hF eq1 eqo (by omega) (fun i h1 h2 => absurd h2 (by omega)) (by omega)

set_option maxHeartbeats 4000000 in
set_option maxRecDepth 100000 in
theorem ct_X11_isVigil (l : Launch) (g : sv_G) (A : Nat → Prop) (ty : Nat → Nat) (σ : Nat → Nat → Int) (hok : sv_ok ty σ) (hI : sv_inv sp_1 ty σ) (a : Nat) (k_a : ty a = 10) (y : Int) (hy : 1 ≤ y ∧ y ≤ 2000) (hM : md_of σ a 31 y) (v1 : Int) (hv1 : 0 ≤ v1 ∧ v1 ≤ 3) (d : Int) (hd : 0 ≤ d ∧ d ≤ 370) : sv_M l yX11_isVigil cX11_isVigil 4 (some .boolean) { frames := 2, cells := 0, slots := 0, locals := 40 } g A ty σ [sv_r a, sv_i v1, sv_i y, sv_i d] (fun r σ' => σ = σ' ∧ sv_bo False r) := by
  refine sv_enter (by decide) (Nat.le_of_ble_eq_true rfl) ?_
  intro p e s m args below meth c C hr
  have C : sv_C g A RX11 cX11_isVigil 4 p s m args meth c := C
  have hr : meth.sig.returnType = (some .boolean) := hr
  refine sv_same (st2 := []) (lv2 := [(0, sv_r a), (1, sv_i v1), (2, sv_i y), (3, sv_i d)]) rfl rfl ?_
  refine sv_go C.1 C.2.1 [(.iload_n 3, 1)] (pc' := 1) (by decide +kernel) rfl (lv' := [(0, sv_r a), (1, sv_i v1), (2, sv_i y), (3, sv_i d)]) (st' := [sv_i d]) rfl ?_
  refine sv_i2l C.1 C.2.1 (by decide +kernel) ⟨by omega, by omega⟩ ?_
  refine sv_go C.1 C.2.1 [(.lconst 0, 1), (.iload_n 2, 1)] (pc' := 4) (by decide +kernel) rfl (lv' := [(0, sv_r a), (1, sv_i v1), (2, sv_i y), (3, sv_i d)]) (st' := [sv_i y, sv_l 0, sv_l d]) rfl ?_
  refine sv_cs C (index := 16) (k := 1) (rest := [sv_l 0, sv_l d]) (by decide +kernel) (ct_X11_daysOf l g A ty σ hok (y) ⟨by omega, by omega⟩) ⟨co_X11_daysOf, in_X11, ⟨by decide, by decide, by decide +kernel⟩, Nat.le_of_ble_eq_true rfl, Nat.le_of_ble_eq_true rfl⟩ ml_X11_16 st_X11_daysOf rfl rfl (Nat.le_of_ble_eq_true rfl) ⟨Nat.zero_le _, Nat.zero_le _⟩ (fun r2 σ3 hpo1 hok4 => ?_)
  obtain ⟨rfl, rfl⟩ := hpo1
  have hn5 := dy_lp_in y
  refine sv_same (st2 := [sv_i (365 + dy_lp y), sv_l 0, sv_l d]) (lv2 := [(0, sv_r a), (1, sv_i v1), (2, sv_i y), (3, sv_i d)]) rfl rfl ?_
  refine sv_i2l C.1 C.2.1 (by decide +kernel) ⟨by omega, by omega⟩ ?_
  refine sv_go C.1 C.2.1 [(.lconst 1, 1), (.lsub, 1)] (pc' := 10) (by decide +kernel) rfl (lv' := [(0, sv_r a), (1, sv_i v1), (2, sv_i y), (3, sv_i d)]) (st' := [sv_l ((365 + dy_lp y) - 1), sv_l 0, sv_l d]) rfl ?_
  refine sv_cs C (index := 9) (k := 3) (rest := []) (by decide +kernel) (ct_X11_in l g A ty σ hok4 (d) ⟨by omega, by omega⟩ (0) ⟨by omega, by omega⟩ ((365 + dy_lp y) - 1) ⟨by omega, by omega⟩) ⟨co_X11_in, in_X11, ⟨by decide, by decide, by decide +kernel⟩, Nat.le_of_ble_eq_true rfl, Nat.le_of_ble_eq_true rfl⟩ ml_X11_9 st_X11_in rfl rfl (Nat.le_of_ble_eq_true rfl) ⟨Nat.zero_le _, Nat.zero_le _⟩ (fun r7 σ8 hpo6 hok9 => ?_)
  obtain ⟨rfl, ⟨h10, rfl⟩ | ⟨h10, rfl⟩⟩ := hpo6
  · refine sv_same (st2 := [sv_i 1]) (lv2 := [(0, sv_r a), (1, sv_i v1), (2, sv_i y), (3, sv_i d)]) rfl rfl ?_
    refine sv_if_f C.1 C.2.1 (cnd := .eq) (off := 34) (tgt := 47) (by decide +kernel) (by decide) ⟨by omega, by omega⟩ (show ¬ (1 = 0) by omega) ?_
    refine sv_go C.1 C.2.1 [(.aload_n 0, 1)] (pc' := 17) (by decide +kernel) rfl (lv' := [(0, sv_r a), (1, sv_i v1), (2, sv_i y), (3, sv_i d)]) (st' := [sv_r a]) rfl ?_
    obtain ⟨q11, eq11, kq11⟩ := hI.ref (k := 31) k_a rfl
    refine sv_gf C (index := 121) (ci := 10) (k := 31) (r := (RX11, TX11, 47)) (v := sv_r q11) (by decide +kernel) (by rw [k_a]; rfl) rfl (by decide) fl_X11_121 (congrArg sv_a eq11) ?_
    refine sv_go C.1 C.2.1 [(.iload_n 3, 1)] (pc' := 21) (by decide +kernel) rfl (lv' := [(0, sv_r a), (1, sv_i v1), (2, sv_i y), (3, sv_i d)]) (st' := [sv_i d, sv_r q11]) rfl ?_
    refine sv_ia C (n := 366) (by decide +kernel) (by rw [kq11]; rfl) (by decide) (by omega) (by omega) ?_
    rw [show σ q11 d.toNat = fx_of y d from hM q11 eq11 (d) (by omega) (by omega)]
    have w12 := fx_of_in y d
    refine sv_if_t C.1 C.2.1 (cnd := .lt) (off := 25) (tgt := 47) (by decide +kernel) (by decide) ⟨by omega, by omega⟩ (show (fx_of y d) < 0 by omega) ?_
    refine sv_go C.1 C.2.1 [(.iconst 0, 1)] (pc' := 48) (by decide +kernel) rfl (lv' := [(0, sv_r a), (1, sv_i v1), (2, sv_i y), (3, sv_i d)]) (st' := [sv_i 0]) rfl ?_
    exact sv_zret C hr (by first | exact Or.inl rfl | exact Or.inr rfl | omega) (by decide +kernel) hok9 (⟨rfl, Or.inr ⟨id, rfl⟩⟩)
  · refine sv_same (st2 := [sv_i 0]) (lv2 := [(0, sv_r a), (1, sv_i v1), (2, sv_i y), (3, sv_i d)]) rfl rfl ?_
    refine sv_if_t C.1 C.2.1 (cnd := .eq) (off := 34) (tgt := 47) (by decide +kernel) (by decide) ⟨by omega, by omega⟩ (show 0 = 0 by omega) ?_
    refine sv_go C.1 C.2.1 [(.iconst 0, 1)] (pc' := 48) (by decide +kernel) rfl (lv' := [(0, sv_r a), (1, sv_i v1), (2, sv_i y), (3, sv_i d)]) (st' := [sv_i 0]) rfl ?_
    exact sv_zret C hr (by first | exact Or.inl rfl | exact Or.inr rfl | omega) (by decide +kernel) hok9 (⟨rfl, Or.inr ⟨id, rfl⟩⟩)

set_option maxHeartbeats 4000000 in
set_option maxRecDepth 100000 in
theorem ct_X11_waxOf (l : Launch) (g : sv_G) (A : Nat → Prop) (ty : Nat → Nat) (σ : Nat → Nat → Int) (hok : sv_ok ty σ) (hI : sv_inv sp_1 ty σ) (a : Nat) (k_a : ty a = 10) (y : Int) (hy : 1 ≤ y ∧ y ≤ 2000) (hM : md_of σ a 31 y) (v1 : Int) (hv1 : 0 ≤ v1 ∧ v1 ≤ 3) (d : Int) (hd : 0 ≤ d ∧ d < 365 + dy_lp y) : sv_M l yX11_waxOf cX11_waxOf 4 (some .int) { frames := 0, cells := 0, slots := 0, locals := 0 } g A ty σ [sv_r a, sv_i v1, sv_i d] (fun r σ' => σ = σ' ∧ r = [sv_i 0]) := by
  refine sv_enter (by decide) (Nat.le_of_ble_eq_true rfl) ?_
  intro p e s m args below meth c C hr
  have C : sv_C g A RX11 cX11_waxOf 4 p s m args meth c := C
  have hr : meth.sig.returnType = (some .int) := hr
  have hlp := dy_lp_in y
  refine sv_same (st2 := []) (lv2 := [(0, sv_r a), (1, sv_i v1), (2, sv_i d)]) rfl rfl ?_
  refine sv_go C.1 C.2.1 [(.aload_n 0, 1)] (pc' := 1) (by decide +kernel) rfl (lv' := [(0, sv_r a), (1, sv_i v1), (2, sv_i d)]) (st' := [sv_r a]) rfl ?_
  obtain ⟨q1, eq1, kq1⟩ := hI.ref (k := 31) k_a rfl
  refine sv_gf C (index := 121) (ci := 10) (k := 31) (r := (RX11, TX11, 47)) (v := sv_r q1) (by decide +kernel) (by rw [k_a]; rfl) rfl (by decide) fl_X11_121 (congrArg sv_a eq1) ?_
  refine sv_go C.1 C.2.1 [(.iload_n 2, 1)] (pc' := 5) (by decide +kernel) rfl (lv' := [(0, sv_r a), (1, sv_i v1), (2, sv_i d)]) (st' := [sv_i d, sv_r q1]) rfl ?_
  refine sv_ia C (n := 366) (by decide +kernel) (by rw [kq1]; rfl) (by decide) (by omega) (by omega) ?_
  rw [show σ q1 d.toNat = fx_of y d from hM q1 eq1 (d) (by omega) (by omega)]
  have w2 := fx_of_in y d
  refine sv_go C.1 C.2.1 [(.istore_n 3, 1), (.iload_n 3, 1)] (pc' := 8) (by decide +kernel) rfl (lv' := [(0, sv_r a), (1, sv_i v1), (2, sv_i d), (3, sv_i (fx_of y d))]) (st' := [sv_i (fx_of y d)]) rfl ?_
  refine sv_if_t C.1 C.2.1 (cnd := .lt) (off := 24) (tgt := 32) (by decide +kernel) (by decide) ⟨by omega, by omega⟩ (show (fx_of y d) < 0 by omega) ?_
  refine sv_go C.1 C.2.1 [(.iload_n 3, 1), (.bipush (-20), 2)] (pc' := 35) (by decide +kernel) rfl (lv' := [(0, sv_r a), (1, sv_i v1), (2, sv_i d), (3, sv_i (fx_of y d))]) (st' := [sv_i ((-20)), sv_i (fx_of y d)]) rfl ?_
  refine sv_icmp_t C.1 C.2.1 (cnd := .gt) (off := 31) (tgt := 66) (by decide +kernel) (by decide) ⟨by omega, by omega⟩ ⟨by omega, by omega⟩ (show ((-20)) < (fx_of y d) by omega) ?_
  refine sv_go C.1 C.2.1 [(.iconst 0, 1)] (pc' := 67) (by decide +kernel) rfl (lv' := [(0, sv_r a), (1, sv_i v1), (2, sv_i d), (3, sv_i (fx_of y d))]) (st' := [sv_i 0]) rfl ?_
  exact sv_iret C hr (by decide +kernel) hok (⟨rfl, rfl⟩)

set_option maxHeartbeats 4000000 in
set_option maxRecDepth 100000 in
theorem ct_X11_areLike (l : Launch) (g : sv_G) (A : Nat → Prop) (ty : Nat → Nat) (σ : Nat → Nat → Int) (hok : sv_ok ty σ) (a : Nat) (v1 : Int) (v2 : Int) (v3 : Int) (h2 : -11 ≤ v2 ∧ v2 ≤ -10) : sv_M l yX11_areLike cX11_areLike 5 (some .boolean) { frames := 0, cells := 0, slots := 0, locals := 0 } g A ty σ [sv_r a, sv_i v1, sv_i v2, sv_i v3, sv_i v2] (fun r σ' => σ = σ' ∧ r = [sv_i 1]) := by
  refine sv_enter (by decide) (Nat.le_of_ble_eq_true rfl) ?_
  intro p e s m args below meth c C hr
  have C : sv_C g A RX11 cX11_areLike 5 p s m args meth c := C
  have hr : meth.sig.returnType = (some .boolean) := hr
  refine sv_same (st2 := []) (lv2 := [(0, sv_r a), (1, sv_i v1), (2, sv_i v2), (3, sv_i v3), (4, sv_i v2)]) rfl rfl ?_
  refine sv_go C.1 C.2.1 [(.iload_n 2, 1)] (pc' := 1) (by decide +kernel) rfl (lv' := [(0, sv_r a), (1, sv_i v1), (2, sv_i v2), (3, sv_i v3), (4, sv_i v2)]) (st' := [sv_i v2]) rfl ?_
  refine sv_if_t C.1 C.2.1 (cnd := .lt) (off := 24) (tgt := 25) (by decide +kernel) (by decide) ⟨by omega, by omega⟩ (show v2 < 0 by omega) ?_
  refine sv_go C.1 C.2.1 [(.iload_n 2, 1), (.bipush (-20), 2)] (pc' := 28) (by decide +kernel) rfl (lv' := [(0, sv_r a), (1, sv_i v1), (2, sv_i v2), (3, sv_i v3), (4, sv_i v2)]) (st' := [sv_i ((-20)), sv_i v2]) rfl ?_
  refine sv_icmp_t C.1 C.2.1 (cnd := .gt) (off := 32) (tgt := 60) (by decide +kernel) (by decide) ⟨by omega, by omega⟩ ⟨by omega, by omega⟩ (show ((-20)) < v2 by omega) ?_
  refine sv_go C.1 C.2.1 [(.iload_n 2, 1), (.iload 4, 2)] (pc' := 63) (by decide +kernel) rfl (lv' := [(0, sv_r a), (1, sv_i v1), (2, sv_i v2), (3, sv_i v3), (4, sv_i v2)]) (st' := [sv_i v2, sv_i v2]) rfl ?_
  refine sv_icmp_f C.1 C.2.1 (cnd := .ne) (off := 17) (tgt := 80) (by decide +kernel) (by decide) ⟨by omega, by omega⟩ ⟨by omega, by omega⟩ (show ¬ (v2 ≠ v2) by omega) ?_
  refine sv_go C.1 C.2.1 [(.iload_n 2, 1)] (pc' := 67) (by decide +kernel) rfl (lv' := [(0, sv_r a), (1, sv_i v1), (2, sv_i v2), (3, sv_i v3), (4, sv_i v2)]) (st' := [sv_i v2]) rfl ?_
  refine sv_if_f C.1 C.2.1 (cnd := .ge) (off := 13) (tgt := 80) (by decide +kernel) (by decide) ⟨by omega, by omega⟩ (show ¬ (0 ≤ v2) by omega) ?_
  refine sv_go C.1 C.2.1 [(.iload_n 2, 1), (.bipush (-20), 2)] (pc' := 73) (by decide +kernel) rfl (lv' := [(0, sv_r a), (1, sv_i v1), (2, sv_i v2), (3, sv_i v3), (4, sv_i v2)]) (st' := [sv_i ((-20)), sv_i v2]) rfl ?_
  refine sv_icmp_f C.1 C.2.1 (cnd := .le) (off := 7) (tgt := 80) (by decide +kernel) (by decide) ⟨by omega, by omega⟩ ⟨by omega, by omega⟩ (show ¬ (v2 ≤ ((-20))) by omega) ?_
  refine sv_go C.1 C.2.1 [(.iconst 1, 1)] (pc' := 77) (by decide +kernel) rfl (lv' := [(0, sv_r a), (1, sv_i v1), (2, sv_i v2), (3, sv_i v3), (4, sv_i v2)]) (st' := [sv_i 1]) rfl ?_
  refine sv_goto C.1 C.2.1 (off := 4) (tgt := 81) (by decide +kernel) (by decide) ?_
  exact sv_zret C hr (by first | exact Or.inl rfl | exact Or.inr rfl | omega) (by decide +kernel) hok (⟨rfl, rfl⟩)

theorem ml_X11_297 : Cond.methodLink RX11 297 yX11_isPlaced ∈ lw_good := sv_mem 1366 (by decide +kernel) rfl
theorem co_X11_isPlaced : Cond.code yX11_isPlaced cX11_isPlaced 4 (some .boolean) ∈ lw_good := sv_mem 1369 (by decide +kernel) rfl
theorem im_X11_isPlaced : Cond.instanceMethod yX11_isPlaced ∈ lw_good := sv_mem 1368 (by decide +kernel) rfl
theorem se_X11_isPlaced : Cond.selects RX11 yX11_isPlaced yX11_isPlaced ∈ lw_good := sv_mem 60 (by decide +kernel) rfl
theorem ml_X11_301 : Cond.methodLink RX11 301 yX11_lead ∈ lw_good := sv_mem 1370 (by decide +kernel) rfl
theorem co_X11_lead : Cond.code yX11_lead cX11_lead 8 none ∈ lw_good := sv_mem 1373 (by decide +kernel) rfl
theorem im_X11_lead : Cond.instanceMethod yX11_lead ∈ lw_good := sv_mem 1372 (by decide +kernel) rfl
theorem se_X11_lead : Cond.selects RX11 yX11_lead yX11_lead ∈ lw_good := sv_mem 61 (by decide +kernel) rfl
set_option maxHeartbeats 4000000 in
set_option maxRecDepth 100000 in
theorem ct_X11_office (l : Launch) (g : sv_G) (A : Nat → Prop) (ty : Nat → Nat) (σ : Nat → Nat → Int) (hok : sv_ok ty σ) (hTA : ∀ q, ty q ≠ 0 → A q) (hI : sv_inv sp_1 ty σ) (hZ : sv_inv sp_0 ty σ) (a : Nat) (k_a : ty a = 10) (v1 : Int) (hv1 : sv_in v1) (y : Int) (hy : sv_in y) (d : Int) (hd : sv_in d) : sv_M l yX11_office cX11_office 4 (some .int) { frames := 4, cells := 0, slots := 0, locals := 89 } g A ty σ [sv_r a, sv_i v1, sv_i y, sv_i d] (fun r σ' => r = [sv_i (fx_office v1 y d)] ∧ sv_off [91] ty σ σ') := by
  refine sv_enter (by decide) (Nat.le_of_ble_eq_true rfl) ?_
  intro p e s m args below meth c C hr
  have C : sv_C g A RX11 cX11_office 4 p s m args meth c := C
  have hr : meth.sig.returnType = (some .int) := hr
  have hF : sv_off [91] ty σ σ := sv_off.rf
  have hlp := dy_lp_in y
  refine sv_same (st2 := []) (lv2 := [(0, sv_r a), (1, sv_i v1), (2, sv_i y), (3, sv_i d)]) rfl rfl ?_
  refine sv_go C.1 C.2.1 [(.aload_n 0, 1), (.iload_n 1, 1), (.iload_n 2, 1), (.iload_n 3, 1)] (pc' := 4) (by decide +kernel) rfl (lv' := [(0, sv_r a), (1, sv_i v1), (2, sv_i y), (3, sv_i d)]) (st' := [sv_i d, sv_i y, sv_i v1, sv_r a]) rfl ?_
  refine sv_cv C (index := 297) (k := 3) (rest := []) (ci := 10) (r := (RX11, TX11, 47)) (by decide +kernel) (ct_X11_isPlaced l g A ty σ hok (v1) ⟨by omega, by omega⟩ (y) ⟨by omega, by omega⟩ (d) ⟨by omega, by omega⟩ a) ⟨co_X11_isPlaced, in_X11, ⟨by decide, by decide, by decide +kernel⟩, Nat.le_of_ble_eq_true rfl, Nat.le_of_ble_eq_true rfl⟩ ml_X11_297 im_X11_isPlaced se_X11_isPlaced (by rw [k_a]; rfl) rfl rfl rfl (Nat.le_of_ble_eq_true rfl) ⟨Nat.zero_le _, Nat.zero_le _⟩ (fun r2 σ3 hpo1 hok4 => ?_)
  obtain ⟨rfl, ⟨h5, rfl⟩ | ⟨h5, rfl⟩⟩ := hpo1
  · refine sv_same (st2 := [sv_i 1]) (lv2 := [(0, sv_r a), (1, sv_i v1), (2, sv_i y), (3, sv_i d)]) rfl rfl ?_
    refine sv_if_t C.1 C.2.1 (cnd := .ne) (off := 6) (tgt := 13) (by decide +kernel) (by decide) ⟨by omega, by omega⟩ (show 1 ≠ 0 by omega) ?_
    refine sv_go C.1 C.2.1 [(.aload_n 0, 1), (.iload_n 1, 1), (.iload_n 2, 1)] (pc' := 16) (by decide +kernel) rfl (lv' := [(0, sv_r a), (1, sv_i v1), (2, sv_i y), (3, sv_i d)]) (st' := [sv_i y, sv_i v1, sv_r a]) rfl ?_
    refine sv_cv C (index := 301) (k := 2) (rest := []) (ci := 10) (r := (RX11, TX11, 47)) (by decide +kernel) (ct_X11_lead l g A ty σ hok4 hTA hI a k_a (v1) ⟨by omega, by omega⟩ (y) ⟨by omega, by omega⟩) ⟨co_X11_lead, in_X11, ⟨by decide, by decide, by decide +kernel⟩, Nat.le_of_ble_eq_true rfl, Nat.le_of_ble_eq_true rfl⟩ ml_X11_301 im_X11_lead se_X11_lead (by rw [k_a]; rfl) rfl rfl rfl (Nat.le_of_ble_eq_true rfl) ⟨Nat.zero_le _, Nat.zero_le _⟩ (fun r7 σ8 hpo6 hok9 => ?_)
    obtain ⟨rfl, hIu10, hFu10, xu10⟩ := hpo6
    have hGu10 := hF.tr hFu10 (by decide)
    refine sv_same (st2 := []) (lv2 := [(0, sv_r a), (1, sv_i v1), (2, sv_i y), (3, sv_i d)]) rfl rfl ?_
    refine sv_go C.1 C.2.1 [(.aload_n 0, 1)] (pc' := 20) (by decide +kernel) rfl (lv' := [(0, sv_r a), (1, sv_i v1), (2, sv_i y), (3, sv_i d)]) (st' := [sv_r a]) rfl ?_
    obtain ⟨q11, eq11, kq11⟩ := hIu10.ref (k := 31) k_a rfl
    refine sv_gf C (index := 121) (ci := 10) (k := 31) (r := (RX11, TX11, 47)) (v := sv_r q11) (by decide +kernel) (by rw [k_a]; rfl) rfl (by decide) fl_X11_121 (congrArg sv_a eq11) ?_
    refine sv_go C.1 C.2.1 [(.iload_n 3, 1)] (pc' := 24) (by decide +kernel) rfl (lv' := [(0, sv_r a), (1, sv_i v1), (2, sv_i y), (3, sv_i d)]) (st' := [sv_i d, sv_r q11]) rfl ?_
    refine sv_ia C (n := 366) (by decide +kernel) (by rw [kq11]; rfl) (by decide) (by omega) (by omega) ?_
    rw [show σ8 q11 d.toNat = fx_of y d from xu10 q11 eq11 (d) (by omega) (by omega)]
    have w12 := fx_of_in y d
    exact sv_iret C hr (by decide +kernel) hok9 (⟨congrArg (fun q => [sv_i q]) (by first | omega | (unfold fx_office; omega)), hGu10⟩)
  · refine sv_same (st2 := [sv_i 0]) (lv2 := [(0, sv_r a), (1, sv_i v1), (2, sv_i y), (3, sv_i d)]) rfl rfl ?_
    refine sv_if_f C.1 C.2.1 (cnd := .ne) (off := 6) (tgt := 13) (by decide +kernel) (by decide) ⟨by omega, by omega⟩ (show ¬ (0 ≠ 0) by omega) ?_
    refine sv_go C.1 C.2.1 [(.bipush (-2), 2)] (pc' := 12) (by decide +kernel) rfl (lv' := [(0, sv_r a), (1, sv_i v1), (2, sv_i y), (3, sv_i d)]) (st' := [sv_i ((-2))]) rfl ?_
    exact sv_iret C hr (by decide +kernel) hok4 (⟨congrArg (fun q => [sv_i q]) (by first | omega | (unfold fx_office; omega)), hF⟩)

theorem ml_X11_304 : Cond.methodLink RX11 304 yX11_isVigil ∈ lw_good := sv_mem 1390 (by decide +kernel) rfl
theorem co_X11_isVigil : Cond.code yX11_isVigil cX11_isVigil 4 (some .boolean) ∈ lw_good := sv_mem 1393 (by decide +kernel) rfl
theorem im_X11_isVigil : Cond.instanceMethod yX11_isVigil ∈ lw_good := sv_mem 1392 (by decide +kernel) rfl
theorem se_X11_isVigil : Cond.selects RX11 yX11_isVigil yX11_isVigil ∈ lw_good := sv_mem 63 (by decide +kernel) rfl
theorem fl_X11_57 : Cond.fieldLink RX11 57 "SaintsRoadModel" "lent" "[I" ∈ lw_good := sv_mem 1107 (by decide +kernel) rfl
set_option maxHeartbeats 4000000 in
set_option maxRecDepth 100000 in
theorem ct_X11_fast (l : Launch) (g : sv_G) (A : Nat → Prop) (ty : Nat → Nat) (σ : Nat → Nat → Int) (hok : sv_ok ty σ) (hTA : ∀ q, ty q ≠ 0 → A q) (hI : sv_inv sp_1 ty σ) (hZ : sv_inv sp_0 ty σ) (a : Nat) (k_a : ty a = 10) (v1 : Int) (hv1 : sv_in v1) (y : Int) (hy : sv_in y) (d : Int) (hd : sv_in d) : sv_M l yX11_fast cX11_fast 6 (some .int) { frames := 4, cells := 0, slots := 0, locals := 89 } g A ty σ [sv_r a, sv_i v1, sv_i y, sv_i d] (fun r σ' => r = [sv_i (fx_fast v1 y d)] ∧ sv_off [91] ty σ σ') := by
  refine sv_enter (by decide) (Nat.le_of_ble_eq_true rfl) ?_
  intro p e s m args below meth c C hr
  have C : sv_C g A RX11 cX11_fast 6 p s m args meth c := C
  have hr : meth.sig.returnType = (some .int) := hr
  have hF : sv_off [91] ty σ σ := sv_off.rf
  have hlp := dy_lp_in y
  have hea := dy_ea_in y
  refine sv_same (st2 := []) (lv2 := [(0, sv_r a), (1, sv_i v1), (2, sv_i y), (3, sv_i d)]) rfl rfl ?_
  refine sv_go C.1 C.2.1 [(.aload_n 0, 1), (.iload_n 1, 1), (.iload_n 2, 1), (.iload_n 3, 1)] (pc' := 4) (by decide +kernel) rfl (lv' := [(0, sv_r a), (1, sv_i v1), (2, sv_i y), (3, sv_i d)]) (st' := [sv_i d, sv_i y, sv_i v1, sv_r a]) rfl ?_
  refine sv_cv C (index := 297) (k := 3) (rest := []) (ci := 10) (r := (RX11, TX11, 47)) (by decide +kernel) (ct_X11_isPlaced l g A ty σ hok (v1) ⟨by omega, by omega⟩ (y) ⟨by omega, by omega⟩ (d) ⟨by omega, by omega⟩ a) ⟨co_X11_isPlaced, in_X11, ⟨by decide, by decide, by decide +kernel⟩, Nat.le_of_ble_eq_true rfl, Nat.le_of_ble_eq_true rfl⟩ ml_X11_297 im_X11_isPlaced se_X11_isPlaced (by rw [k_a]; rfl) rfl rfl rfl (Nat.le_of_ble_eq_true rfl) ⟨Nat.zero_le _, Nat.zero_le _⟩ (fun r2 σ3 hpo1 hok4 => ?_)
  obtain ⟨rfl, ⟨h5, rfl⟩ | ⟨h5, rfl⟩⟩ := hpo1
  · refine sv_same (st2 := [sv_i 1]) (lv2 := [(0, sv_r a), (1, sv_i v1), (2, sv_i y), (3, sv_i d)]) rfl rfl ?_
    refine sv_if_t C.1 C.2.1 (cnd := .ne) (off := 6) (tgt := 13) (by decide +kernel) (by decide) ⟨by omega, by omega⟩ (show 1 ≠ 0 by omega) ?_
    refine sv_go C.1 C.2.1 [(.aload_n 0, 1), (.iload_n 1, 1), (.iload_n 2, 1)] (pc' := 16) (by decide +kernel) rfl (lv' := [(0, sv_r a), (1, sv_i v1), (2, sv_i y), (3, sv_i d)]) (st' := [sv_i y, sv_i v1, sv_r a]) rfl ?_
    refine sv_cv C (index := 301) (k := 2) (rest := []) (ci := 10) (r := (RX11, TX11, 47)) (by decide +kernel) (ct_X11_lead l g A ty σ hok4 hTA hI a k_a (v1) ⟨by omega, by omega⟩ (y) ⟨by omega, by omega⟩) ⟨co_X11_lead, in_X11, ⟨by decide, by decide, by decide +kernel⟩, Nat.le_of_ble_eq_true rfl, Nat.le_of_ble_eq_true rfl⟩ ml_X11_301 im_X11_lead se_X11_lead (by rw [k_a]; rfl) rfl rfl rfl (Nat.le_of_ble_eq_true rfl) ⟨Nat.zero_le _, Nat.zero_le _⟩ (fun r7 σ8 hpo6 hok9 => ?_)
    obtain ⟨rfl, hIu10, hFu10, xu10⟩ := hpo6
    have hGu10 := hF.tr hFu10 (by decide)
    refine sv_same (st2 := []) (lv2 := [(0, sv_r a), (1, sv_i v1), (2, sv_i y), (3, sv_i d)]) rfl rfl ?_
    refine sv_go C.1 C.2.1 [(.iload_n 2, 1), (.iload_n 3, 1)] (pc' := 21) (by decide +kernel) rfl (lv' := [(0, sv_r a), (1, sv_i v1), (2, sv_i y), (3, sv_i d)]) (st' := [sv_i d, sv_i y]) rfl ?_
    refine sv_cs C (index := 31) (k := 2) (rest := []) (by decide +kernel) (ct_X11_weekday l g A ty σ8 hok9 (y) ⟨by omega, by omega⟩ (d) ⟨by omega, by omega⟩) ⟨co_X11_weekday, in_X11, ⟨by decide, by decide, by decide +kernel⟩, Nat.le_of_ble_eq_true rfl, Nat.le_of_ble_eq_true rfl⟩ ml_X11_31 st_X11_weekday rfl rfl (Nat.le_of_ble_eq_true rfl) ⟨Nat.zero_le _, Nat.zero_le _⟩ (fun r12 σ13 hpo11 hok14 => ?_)
    obtain ⟨rfl, rfl⟩ := hpo11
    have hn15 := dy_wd_in y d
    refine sv_same (st2 := [sv_i (dy_wd y d)]) (lv2 := [(0, sv_r a), (1, sv_i v1), (2, sv_i y), (3, sv_i d)]) rfl rfl ?_
    refine sv_if C.1 C.2.1 (cnd := .ne) (off := 5) (tgt := 29) (by decide +kernel) (by decide) ⟨by omega, by omega⟩ (fun (h16 : (dy_wd y d) ≠ 0) => ?_) (fun (h16 : ¬ ((dy_wd y d) ≠ 0)) => ?_)
    · refine sv_go C.1 C.2.1 [(.iload_n 2, 1)] (pc' := 30) (by decide +kernel) rfl (lv' := [(0, sv_r a), (1, sv_i v1), (2, sv_i y), (3, sv_i d)]) (st' := [sv_i y]) rfl ?_
      refine sv_cs C (index := 34) (k := 1) (rest := []) (by decide +kernel) (ct_X11_easterOf l g A ty σ8 hok14 (y) ⟨by omega, by omega⟩) ⟨co_X11_easterOf, in_X11, ⟨by decide, by decide, by decide +kernel⟩, Nat.le_of_ble_eq_true rfl, Nat.le_of_ble_eq_true rfl⟩ ml_X11_34 st_X11_easterOf rfl rfl (Nat.le_of_ble_eq_true rfl) ⟨Nat.zero_le _, Nat.zero_le _⟩ (fun r18 σ19 hpo17 hok20 => ?_)
      obtain ⟨rfl, rfl⟩ := hpo17
      have hn21 := dy_ea_in y
      refine sv_same (st2 := [sv_i (dy_ea y)]) (lv2 := [(0, sv_r a), (1, sv_i v1), (2, sv_i y), (3, sv_i d)]) rfl rfl ?_
      refine sv_go C.1 C.2.1 [(.istore 4, 2), (.iload_n 3, 1), (.iload 4, 2)] (pc' := 38) (by decide +kernel) rfl (lv' := [(0, sv_r a), (1, sv_i v1), (2, sv_i y), (3, sv_i d), (4, sv_i (dy_ea y))]) (st' := [sv_i (dy_ea y), sv_i d]) rfl ?_
      refine sv_icmp C.1 C.2.1 (cnd := .ge) (off := 16) (tgt := 54) (by decide +kernel) (by decide) ⟨by omega, by omega⟩ ⟨by omega, by omega⟩ (fun (h22 : (dy_ea y) ≤ d) => ?_) (fun (h22 : ¬ ((dy_ea y) ≤ d)) => ?_)
      · refine sv_go C.1 C.2.1 [(.aload_n 0, 1), (.iload_n 1, 1), (.iload_n 2, 1), (.iload_n 3, 1), (.iconst 1, 1), (.iadd, 1)] (pc' := 60) (by decide +kernel) rfl (lv' := [(0, sv_r a), (1, sv_i v1), (2, sv_i y), (3, sv_i d), (4, sv_i (dy_ea y))]) (st' := [sv_i (d + 1), sv_i y, sv_i v1, sv_r a]) rfl ?_
        refine sv_cv C (index := 304) (k := 3) (rest := []) (ci := 10) (r := (RX11, TX11, 47)) (by decide +kernel) (ct_X11_isVigil l g A ty σ8 hok20 hIu10 a k_a (y) ⟨by omega, by omega⟩ xu10 (v1) ⟨by omega, by omega⟩ (d + 1) ⟨by omega, by omega⟩) ⟨co_X11_isVigil, in_X11, ⟨by decide, by decide, by decide +kernel⟩, Nat.le_of_ble_eq_true rfl, Nat.le_of_ble_eq_true rfl⟩ ml_X11_304 im_X11_isVigil se_X11_isVigil (by rw [k_a]; rfl) rfl rfl rfl (Nat.le_of_ble_eq_true rfl) ⟨Nat.zero_le _, Nat.zero_le _⟩ (fun r24 σ25 hpo23 hok26 => ?_)
        obtain ⟨rfl, hpo23⟩ := hpo23
        obtain rfl := sv_boF hpo23
        refine sv_same (st2 := [sv_i 0]) (lv2 := [(0, sv_r a), (1, sv_i v1), (2, sv_i y), (3, sv_i d), (4, sv_i (dy_ea y))]) rfl rfl ?_
        refine sv_if_t C.1 C.2.1 (cnd := .eq) (off := 7) (tgt := 70) (by decide +kernel) (by decide) ⟨by omega, by omega⟩ (show 0 = 0 by omega) ?_
        refine sv_go C.1 C.2.1 [(.iconst 0, 1), (.istore 5, 2), (.iload 5, 2)] (pc' := 75) (by decide +kernel) rfl (lv' := [(0, sv_r a), (1, sv_i v1), (2, sv_i y), (3, sv_i d), (4, sv_i (dy_ea y)), (5, sv_i 0)]) (st' := [sv_i 0]) rfl ?_
        refine sv_if_f C.1 C.2.1 (cnd := .ne) (off := 25) (tgt := 100) (by decide +kernel) (by decide) ⟨by omega, by omega⟩ (show ¬ (0 ≠ 0) by omega) ?_
        refine sv_go C.1 C.2.1 [(.iload_n 2, 1), (.iload_n 3, 1)] (pc' := 80) (by decide +kernel) rfl (lv' := [(0, sv_r a), (1, sv_i v1), (2, sv_i y), (3, sv_i d), (4, sv_i (dy_ea y)), (5, sv_i 0)]) (st' := [sv_i d, sv_i y]) rfl ?_
        refine sv_cs C (index := 31) (k := 2) (rest := []) (by decide +kernel) (ct_X11_weekday l g A ty σ8 hok26 (y) ⟨by omega, by omega⟩ (d) ⟨by omega, by omega⟩) ⟨co_X11_weekday, in_X11, ⟨by decide, by decide, by decide +kernel⟩, Nat.le_of_ble_eq_true rfl, Nat.le_of_ble_eq_true rfl⟩ ml_X11_31 st_X11_weekday rfl rfl (Nat.le_of_ble_eq_true rfl) ⟨Nat.zero_le _, Nat.zero_le _⟩ (fun r28 σ29 hpo27 hok30 => ?_)
        obtain ⟨rfl, rfl⟩ := hpo27
        have hn31 := dy_wd_in y d
        refine sv_same (st2 := [sv_i (dy_wd y d)]) (lv2 := [(0, sv_r a), (1, sv_i v1), (2, sv_i y), (3, sv_i d), (4, sv_i (dy_ea y)), (5, sv_i 0)]) rfl rfl ?_
        refine sv_go C.1 C.2.1 [(.bipush 6, 2)] (pc' := 85) (by decide +kernel) rfl (lv' := [(0, sv_r a), (1, sv_i v1), (2, sv_i y), (3, sv_i d), (4, sv_i (dy_ea y)), (5, sv_i 0)]) (st' := [sv_i 6, sv_i (dy_wd y d)]) rfl ?_
        refine sv_icmp C.1 C.2.1 (cnd := .ne) (off := 19) (tgt := 104) (by decide +kernel) (by decide) ⟨by omega, by omega⟩ ⟨by omega, by omega⟩ (fun (h32 : (dy_wd y d) ≠ 6) => ?_) (fun (h32 : ¬ ((dy_wd y d) ≠ 6)) => ?_)
        · refine sv_go C.1 C.2.1 [(.iconst 0, 1)] (pc' := 105) (by decide +kernel) rfl (lv' := [(0, sv_r a), (1, sv_i v1), (2, sv_i y), (3, sv_i d), (4, sv_i (dy_ea y)), (5, sv_i 0)]) (st' := [sv_i 0]) rfl ?_
          exact sv_iret C hr (by decide +kernel) hok30 (⟨congrArg (fun q => [sv_i q]) (by first | omega | (unfold fx_fast; omega)), hGu10⟩)
        · refine sv_go C.1 C.2.1 [(.aload_n 0, 1), (.iload_n 1, 1), (.iload_n 2, 1), (.iload_n 3, 1), (.iconst 2, 1), (.iadd, 1)] (pc' := 94) (by decide +kernel) rfl (lv' := [(0, sv_r a), (1, sv_i v1), (2, sv_i y), (3, sv_i d), (4, sv_i (dy_ea y)), (5, sv_i 0)]) (st' := [sv_i (d + 2), sv_i y, sv_i v1, sv_r a]) rfl ?_
          refine sv_cv C (index := 304) (k := 3) (rest := []) (ci := 10) (r := (RX11, TX11, 47)) (by decide +kernel) (ct_X11_isVigil l g A ty σ8 hok30 hIu10 a k_a (y) ⟨by omega, by omega⟩ xu10 (v1) ⟨by omega, by omega⟩ (d + 2) ⟨by omega, by omega⟩) ⟨co_X11_isVigil, in_X11, ⟨by decide, by decide, by decide +kernel⟩, Nat.le_of_ble_eq_true rfl, Nat.le_of_ble_eq_true rfl⟩ ml_X11_304 im_X11_isVigil se_X11_isVigil (by rw [k_a]; rfl) rfl rfl rfl (Nat.le_of_ble_eq_true rfl) ⟨Nat.zero_le _, Nat.zero_le _⟩ (fun r34 σ35 hpo33 hok36 => ?_)
          obtain ⟨rfl, hpo33⟩ := hpo33
          obtain rfl := sv_boF hpo33
          refine sv_same (st2 := [sv_i 0]) (lv2 := [(0, sv_r a), (1, sv_i v1), (2, sv_i y), (3, sv_i d), (4, sv_i (dy_ea y)), (5, sv_i 0)]) rfl rfl ?_
          refine sv_if_t C.1 C.2.1 (cnd := .eq) (off := 7) (tgt := 104) (by decide +kernel) (by decide) ⟨by omega, by omega⟩ (show 0 = 0 by omega) ?_
          refine sv_go C.1 C.2.1 [(.iconst 0, 1)] (pc' := 105) (by decide +kernel) rfl (lv' := [(0, sv_r a), (1, sv_i v1), (2, sv_i y), (3, sv_i d), (4, sv_i (dy_ea y)), (5, sv_i 0)]) (st' := [sv_i 0]) rfl ?_
          exact sv_iret C hr (by decide +kernel) hok36 (⟨congrArg (fun q => [sv_i q]) (by first | omega | (unfold fx_fast; omega)), hGu10⟩)
      · refine sv_go C.1 C.2.1 [(.iload_n 3, 1), (.iload 4, 2), (.aload_n 0, 1)] (pc' := 45) (by decide +kernel) rfl (lv' := [(0, sv_r a), (1, sv_i v1), (2, sv_i y), (3, sv_i d), (4, sv_i (dy_ea y))]) (st' := [sv_r a, sv_i (dy_ea y), sv_i d]) rfl ?_
        obtain ⟨q37, eq37, kq37⟩ := hIu10.ref (k := 3) k_a rfl
        refine sv_gf C (index := 57) (ci := 10) (k := 3) (r := (RX11, TX11, 47)) (v := sv_r q37) (by decide +kernel) (by rw [k_a]; rfl) rfl (by decide) fl_X11_57 (congrArg sv_a eq37) ?_
        refine sv_go C.1 C.2.1 [(.iload_n 1, 1)] (pc' := 49) (by decide +kernel) rfl (lv' := [(0, sv_r a), (1, sv_i v1), (2, sv_i y), (3, sv_i d), (4, sv_i (dy_ea y))]) (st' := [sv_i v1, sv_r q37, sv_i (dy_ea y), sv_i d]) rfl ?_
        refine sv_ia C (n := 5) (by decide +kernel) (by rw [kq37]; rfl) (by decide) (by omega) (by omega) ?_
        have w38 : σ8 q37 v1.toNat = 0 := by have q := hZ.num (k := (v1 : Int).toNat) kq37 rfl; rw [hGu10.at kq37 (by decide)]; omega
        rw [w38]
        refine sv_go C.1 C.2.1 [(.isub, 1)] (pc' := 51) (by decide +kernel) rfl (lv' := [(0, sv_r a), (1, sv_i v1), (2, sv_i y), (3, sv_i d), (4, sv_i (dy_ea y))]) (st' := [sv_i ((dy_ea y) - 0), sv_i d]) rfl ?_
        refine sv_icmp_f C.1 C.2.1 (cnd := .ge) (off := 15) (tgt := 66) (by decide +kernel) (by decide) ⟨by omega, by omega⟩ ⟨by omega, by omega⟩ (show ¬ (((dy_ea y) - 0) ≤ d) by omega) ?_
        refine sv_go C.1 C.2.1 [(.aload_n 0, 1), (.iload_n 1, 1), (.iload_n 2, 1), (.iload_n 3, 1), (.iconst 1, 1), (.iadd, 1)] (pc' := 60) (by decide +kernel) rfl (lv' := [(0, sv_r a), (1, sv_i v1), (2, sv_i y), (3, sv_i d), (4, sv_i (dy_ea y))]) (st' := [sv_i (d + 1), sv_i y, sv_i v1, sv_r a]) rfl ?_
        refine sv_cv C (index := 304) (k := 3) (rest := []) (ci := 10) (r := (RX11, TX11, 47)) (by decide +kernel) (ct_X11_isVigil l g A ty σ8 hok20 hIu10 a k_a (y) ⟨by omega, by omega⟩ xu10 (v1) ⟨by omega, by omega⟩ (d + 1) ⟨by omega, by omega⟩) ⟨co_X11_isVigil, in_X11, ⟨by decide, by decide, by decide +kernel⟩, Nat.le_of_ble_eq_true rfl, Nat.le_of_ble_eq_true rfl⟩ ml_X11_304 im_X11_isVigil se_X11_isVigil (by rw [k_a]; rfl) rfl rfl rfl (Nat.le_of_ble_eq_true rfl) ⟨Nat.zero_le _, Nat.zero_le _⟩ (fun r40 σ41 hpo39 hok42 => ?_)
        obtain ⟨rfl, hpo39⟩ := hpo39
        obtain rfl := sv_boF hpo39
        refine sv_same (st2 := [sv_i 0]) (lv2 := [(0, sv_r a), (1, sv_i v1), (2, sv_i y), (3, sv_i d), (4, sv_i (dy_ea y))]) rfl rfl ?_
        refine sv_if_t C.1 C.2.1 (cnd := .eq) (off := 7) (tgt := 70) (by decide +kernel) (by decide) ⟨by omega, by omega⟩ (show 0 = 0 by omega) ?_
        refine sv_go C.1 C.2.1 [(.iconst 0, 1), (.istore 5, 2), (.iload 5, 2)] (pc' := 75) (by decide +kernel) rfl (lv' := [(0, sv_r a), (1, sv_i v1), (2, sv_i y), (3, sv_i d), (4, sv_i (dy_ea y)), (5, sv_i 0)]) (st' := [sv_i 0]) rfl ?_
        refine sv_if_f C.1 C.2.1 (cnd := .ne) (off := 25) (tgt := 100) (by decide +kernel) (by decide) ⟨by omega, by omega⟩ (show ¬ (0 ≠ 0) by omega) ?_
        refine sv_go C.1 C.2.1 [(.iload_n 2, 1), (.iload_n 3, 1)] (pc' := 80) (by decide +kernel) rfl (lv' := [(0, sv_r a), (1, sv_i v1), (2, sv_i y), (3, sv_i d), (4, sv_i (dy_ea y)), (5, sv_i 0)]) (st' := [sv_i d, sv_i y]) rfl ?_
        refine sv_cs C (index := 31) (k := 2) (rest := []) (by decide +kernel) (ct_X11_weekday l g A ty σ8 hok42 (y) ⟨by omega, by omega⟩ (d) ⟨by omega, by omega⟩) ⟨co_X11_weekday, in_X11, ⟨by decide, by decide, by decide +kernel⟩, Nat.le_of_ble_eq_true rfl, Nat.le_of_ble_eq_true rfl⟩ ml_X11_31 st_X11_weekday rfl rfl (Nat.le_of_ble_eq_true rfl) ⟨Nat.zero_le _, Nat.zero_le _⟩ (fun r44 σ45 hpo43 hok46 => ?_)
        obtain ⟨rfl, rfl⟩ := hpo43
        have hn47 := dy_wd_in y d
        refine sv_same (st2 := [sv_i (dy_wd y d)]) (lv2 := [(0, sv_r a), (1, sv_i v1), (2, sv_i y), (3, sv_i d), (4, sv_i (dy_ea y)), (5, sv_i 0)]) rfl rfl ?_
        refine sv_go C.1 C.2.1 [(.bipush 6, 2)] (pc' := 85) (by decide +kernel) rfl (lv' := [(0, sv_r a), (1, sv_i v1), (2, sv_i y), (3, sv_i d), (4, sv_i (dy_ea y)), (5, sv_i 0)]) (st' := [sv_i 6, sv_i (dy_wd y d)]) rfl ?_
        refine sv_icmp C.1 C.2.1 (cnd := .ne) (off := 19) (tgt := 104) (by decide +kernel) (by decide) ⟨by omega, by omega⟩ ⟨by omega, by omega⟩ (fun (h48 : (dy_wd y d) ≠ 6) => ?_) (fun (h48 : ¬ ((dy_wd y d) ≠ 6)) => ?_)
        · refine sv_go C.1 C.2.1 [(.iconst 0, 1)] (pc' := 105) (by decide +kernel) rfl (lv' := [(0, sv_r a), (1, sv_i v1), (2, sv_i y), (3, sv_i d), (4, sv_i (dy_ea y)), (5, sv_i 0)]) (st' := [sv_i 0]) rfl ?_
          exact sv_iret C hr (by decide +kernel) hok46 (⟨congrArg (fun q => [sv_i q]) (by first | omega | (unfold fx_fast; omega)), hGu10⟩)
        · refine sv_go C.1 C.2.1 [(.aload_n 0, 1), (.iload_n 1, 1), (.iload_n 2, 1), (.iload_n 3, 1), (.iconst 2, 1), (.iadd, 1)] (pc' := 94) (by decide +kernel) rfl (lv' := [(0, sv_r a), (1, sv_i v1), (2, sv_i y), (3, sv_i d), (4, sv_i (dy_ea y)), (5, sv_i 0)]) (st' := [sv_i (d + 2), sv_i y, sv_i v1, sv_r a]) rfl ?_
          refine sv_cv C (index := 304) (k := 3) (rest := []) (ci := 10) (r := (RX11, TX11, 47)) (by decide +kernel) (ct_X11_isVigil l g A ty σ8 hok46 hIu10 a k_a (y) ⟨by omega, by omega⟩ xu10 (v1) ⟨by omega, by omega⟩ (d + 2) ⟨by omega, by omega⟩) ⟨co_X11_isVigil, in_X11, ⟨by decide, by decide, by decide +kernel⟩, Nat.le_of_ble_eq_true rfl, Nat.le_of_ble_eq_true rfl⟩ ml_X11_304 im_X11_isVigil se_X11_isVigil (by rw [k_a]; rfl) rfl rfl rfl (Nat.le_of_ble_eq_true rfl) ⟨Nat.zero_le _, Nat.zero_le _⟩ (fun r50 σ51 hpo49 hok52 => ?_)
          obtain ⟨rfl, hpo49⟩ := hpo49
          obtain rfl := sv_boF hpo49
          refine sv_same (st2 := [sv_i 0]) (lv2 := [(0, sv_r a), (1, sv_i v1), (2, sv_i y), (3, sv_i d), (4, sv_i (dy_ea y)), (5, sv_i 0)]) rfl rfl ?_
          refine sv_if_t C.1 C.2.1 (cnd := .eq) (off := 7) (tgt := 104) (by decide +kernel) (by decide) ⟨by omega, by omega⟩ (show 0 = 0 by omega) ?_
          refine sv_go C.1 C.2.1 [(.iconst 0, 1)] (pc' := 105) (by decide +kernel) rfl (lv' := [(0, sv_r a), (1, sv_i v1), (2, sv_i y), (3, sv_i d), (4, sv_i (dy_ea y)), (5, sv_i 0)]) (st' := [sv_i 0]) rfl ?_
          exact sv_iret C hr (by decide +kernel) hok52 (⟨congrArg (fun q => [sv_i q]) (by first | omega | (unfold fx_fast; omega)), hGu10⟩)
    · refine sv_go C.1 C.2.1 [(.iconst 0, 1)] (pc' := 28) (by decide +kernel) rfl (lv' := [(0, sv_r a), (1, sv_i v1), (2, sv_i y), (3, sv_i d)]) (st' := [sv_i 0]) rfl ?_
      exact sv_iret C hr (by decide +kernel) hok14 (⟨congrArg (fun q => [sv_i q]) (by first | omega | (unfold fx_fast; omega)), hGu10⟩)
  · refine sv_same (st2 := [sv_i 0]) (lv2 := [(0, sv_r a), (1, sv_i v1), (2, sv_i y), (3, sv_i d)]) rfl rfl ?_
    refine sv_if_f C.1 C.2.1 (cnd := .ne) (off := 6) (tgt := 13) (by decide +kernel) (by decide) ⟨by omega, by omega⟩ (show ¬ (0 ≠ 0) by omega) ?_
    refine sv_go C.1 C.2.1 [(.bipush (-2), 2)] (pc' := 12) (by decide +kernel) rfl (lv' := [(0, sv_r a), (1, sv_i v1), (2, sv_i y), (3, sv_i d)]) (st' := [sv_i ((-2))]) rfl ?_
    exact sv_iret C hr (by decide +kernel) hok4 (⟨congrArg (fun q => [sv_i q]) (by first | omega | (unfold fx_fast; omega)), hF⟩)

theorem ml_X11_307 : Cond.methodLink RX11 307 yX11_waxOf ∈ lw_good := sv_mem 1398 (by decide +kernel) rfl
theorem co_X11_waxOf : Cond.code yX11_waxOf cX11_waxOf 4 (some .int) ∈ lw_good := sv_mem 1401 (by decide +kernel) rfl
theorem im_X11_waxOf : Cond.instanceMethod yX11_waxOf ∈ lw_good := sv_mem 1400 (by decide +kernel) rfl
theorem se_X11_waxOf : Cond.selects RX11 yX11_waxOf yX11_waxOf ∈ lw_good := sv_mem 64 (by decide +kernel) rfl
set_option maxHeartbeats 4000000 in
set_option maxRecDepth 100000 in
theorem ct_X11_wax (l : Launch) (g : sv_G) (A : Nat → Prop) (ty : Nat → Nat) (σ : Nat → Nat → Int) (hok : sv_ok ty σ) (hTA : ∀ q, ty q ≠ 0 → A q) (hI : sv_inv sp_1 ty σ) (hZ : sv_inv sp_0 ty σ) (a : Nat) (k_a : ty a = 10) (v1 : Int) (hv1 : sv_in v1) (y : Int) (hy : sv_in y) (f : Int) (hf : sv_in f) (t : Int) (ht : sv_in t) : sv_M l yX11_wax cX11_wax 7 (some .int) { frames := 4, cells := 0, slots := 0, locals := 89 } g A ty σ [sv_r a, sv_i v1, sv_i y, sv_i f, sv_i t] (fun r σ' => r = [sv_i (fx_wax v1 y f t)] ∧ sv_off [91] ty σ σ') := by
  refine sv_enter (by decide) (Nat.le_of_ble_eq_true rfl) ?_
  intro p e s m args below meth c C hr
  have C : sv_C g A RX11 cX11_wax 7 p s m args meth c := C
  have hr : meth.sig.returnType = (some .int) := hr
  have hF : sv_off [91] ty σ σ := sv_off.rf
  have hlp := dy_lp_in y
  refine sv_same (st2 := []) (lv2 := [(0, sv_r a), (1, sv_i v1), (2, sv_i y), (3, sv_i f), (4, sv_i t)]) rfl rfl ?_
  refine sv_go C.1 C.2.1 [(.aload_n 0, 1), (.iload_n 1, 1), (.iload_n 2, 1), (.iload_n 3, 1)] (pc' := 4) (by decide +kernel) rfl (lv' := [(0, sv_r a), (1, sv_i v1), (2, sv_i y), (3, sv_i f), (4, sv_i t)]) (st' := [sv_i f, sv_i y, sv_i v1, sv_r a]) rfl ?_
  refine sv_cv C (index := 297) (k := 3) (rest := []) (ci := 10) (r := (RX11, TX11, 47)) (by decide +kernel) (ct_X11_isPlaced l g A ty σ hok (v1) ⟨by omega, by omega⟩ (y) ⟨by omega, by omega⟩ (f) ⟨by omega, by omega⟩ a) ⟨co_X11_isPlaced, in_X11, ⟨by decide, by decide, by decide +kernel⟩, Nat.le_of_ble_eq_true rfl, Nat.le_of_ble_eq_true rfl⟩ ml_X11_297 im_X11_isPlaced se_X11_isPlaced (by rw [k_a]; rfl) rfl rfl rfl (Nat.le_of_ble_eq_true rfl) ⟨Nat.zero_le _, Nat.zero_le _⟩ (fun r2 σ3 hpo1 hok4 => ?_)
  obtain ⟨rfl, ⟨h5, rfl⟩ | ⟨h5, rfl⟩⟩ := hpo1
  · refine sv_same (st2 := [sv_i 1]) (lv2 := [(0, sv_r a), (1, sv_i v1), (2, sv_i y), (3, sv_i f), (4, sv_i t)]) rfl rfl ?_
    refine sv_if_f C.1 C.2.1 (cnd := .eq) (off := 18) (tgt := 25) (by decide +kernel) (by decide) ⟨by omega, by omega⟩ (show ¬ (1 = 0) by omega) ?_
    refine sv_go C.1 C.2.1 [(.iload_n 2, 1), (.iload 4, 2)] (pc' := 13) (by decide +kernel) rfl (lv' := [(0, sv_r a), (1, sv_i v1), (2, sv_i y), (3, sv_i f), (4, sv_i t)]) (st' := [sv_i t, sv_i y]) rfl ?_
    refine sv_cs C (index := 37) (k := 2) (rest := []) (by decide +kernel) (ct_X11_isDay l g A ty σ hok4 (y) ⟨by omega, by omega⟩ (t) ⟨by omega, by omega⟩) ⟨co_X11_isDay, in_X11, ⟨by decide, by decide, by decide +kernel⟩, Nat.le_of_ble_eq_true rfl, Nat.le_of_ble_eq_true rfl⟩ ml_X11_37 st_X11_isDay rfl rfl (Nat.le_of_ble_eq_true rfl) ⟨Nat.zero_le _, Nat.zero_le _⟩ (fun r7 σ8 hpo6 hok9 => ?_)
    obtain ⟨rfl, ⟨h10, rfl⟩ | ⟨h10, rfl⟩⟩ := hpo6
    · refine sv_same (st2 := [sv_i 1]) (lv2 := [(0, sv_r a), (1, sv_i v1), (2, sv_i y), (3, sv_i f), (4, sv_i t)]) rfl rfl ?_
      refine sv_if_f C.1 C.2.1 (cnd := .eq) (off := 9) (tgt := 25) (by decide +kernel) (by decide) ⟨by omega, by omega⟩ (show ¬ (1 = 0) by omega) ?_
      refine sv_go C.1 C.2.1 [(.iload_n 3, 1), (.iload 4, 2)] (pc' := 22) (by decide +kernel) rfl (lv' := [(0, sv_r a), (1, sv_i v1), (2, sv_i y), (3, sv_i f), (4, sv_i t)]) (st' := [sv_i t, sv_i f]) rfl ?_
      refine sv_icmp C.1 C.2.1 (cnd := .le) (off := 6) (tgt := 28) (by decide +kernel) (by decide) ⟨by omega, by omega⟩ ⟨by omega, by omega⟩ (fun (h11 : f ≤ t) => ?_) (fun (h11 : ¬ (f ≤ t)) => ?_)
      · refine sv_go C.1 C.2.1 [(.aload_n 0, 1), (.iload_n 1, 1), (.iload_n 2, 1)] (pc' := 31) (by decide +kernel) rfl (lv' := [(0, sv_r a), (1, sv_i v1), (2, sv_i y), (3, sv_i f), (4, sv_i t)]) (st' := [sv_i y, sv_i v1, sv_r a]) rfl ?_
        refine sv_cv C (index := 301) (k := 2) (rest := []) (ci := 10) (r := (RX11, TX11, 47)) (by decide +kernel) (ct_X11_lead l g A ty σ hok9 hTA hI a k_a (v1) ⟨by omega, by omega⟩ (y) ⟨by omega, by omega⟩) ⟨co_X11_lead, in_X11, ⟨by decide, by decide, by decide +kernel⟩, Nat.le_of_ble_eq_true rfl, Nat.le_of_ble_eq_true rfl⟩ ml_X11_301 im_X11_lead se_X11_lead (by rw [k_a]; rfl) rfl rfl rfl (Nat.le_of_ble_eq_true rfl) ⟨Nat.zero_le _, Nat.zero_le _⟩ (fun r13 σ14 hpo12 hok15 => ?_)
        obtain ⟨rfl, hIu16, hFu16, xu16⟩ := hpo12
        have hGu16 := hF.tr hFu16 (by decide)
        refine sv_same (st2 := []) (lv2 := [(0, sv_r a), (1, sv_i v1), (2, sv_i y), (3, sv_i f), (4, sv_i t)]) rfl rfl ?_
        refine sv_go C.1 C.2.1 [(.iconst 0, 1), (.istore 5, 2), (.iload_n 3, 1), (.istore 6, 2)] (pc' := 40) (by decide +kernel) rfl (lv' := [(0, sv_r a), (1, sv_i v1), (2, sv_i y), (3, sv_i f), (4, sv_i t), (5, sv_i 0), (6, sv_i f)]) (st' := []) rfl ?_
        have L17 : ∀ (n : Nat) (N : Int) (X : Int) , (N = 0) → (f ≤ X ∧ X ≤ t + 1) → (t + 1 - X) < (n : Int) → sv_E p l e { frames := 4, cells := 0, slots := 0, locals := 89 } s m args below meth c 7 g A ty (fun r σ' => r = [sv_i (fx_wax v1 y f t)] ∧ sv_off [91] ty σ σ') σ14 40 [(0, sv_r a), (1, sv_i v1), (2, sv_i y), (3, sv_i f), (4, sv_i t), (5, sv_i N), (6, sv_i X)] [] := by
          intro n
          induction n with
          | zero => intro N X  hN hX hmu; exact absurd hmu (by omega)
          | succ n ih18 =>
            intro N X  hN hX hmu
            refine sv_go C.1 C.2.1 [(.iload 6, 2), (.iload 4, 2)] (pc' := 44) (by decide +kernel) rfl (lv' := [(0, sv_r a), (1, sv_i v1), (2, sv_i y), (3, sv_i f), (4, sv_i t), (5, sv_i N), (6, sv_i X)]) (st' := [sv_i t, sv_i X]) rfl ?_
            refine sv_icmp C.1 C.2.1 (cnd := .gt) (off := 21) (tgt := 65) (by decide +kernel) (by decide) ⟨by omega, by omega⟩ ⟨by omega, by omega⟩ (fun (h19 : t < X) => ?_) (fun (h19 : ¬ (t < X)) => ?_)
            · refine sv_go C.1 C.2.1 [(.iload 5, 2)] (pc' := 67) (by decide +kernel) rfl (lv' := [(0, sv_r a), (1, sv_i v1), (2, sv_i y), (3, sv_i f), (4, sv_i t), (5, sv_i N), (6, sv_i X)]) (st' := [sv_i N]) rfl ?_
              exact sv_iret C hr (by decide +kernel) hok15 (⟨congrArg (fun q => [sv_i q]) (by first | omega | (unfold fx_wax; omega)), hGu16⟩)
            · refine sv_go C.1 C.2.1 [(.iload 5, 2), (.aload_n 0, 1), (.iload_n 1, 1), (.iload 6, 2)] (pc' := 53) (by decide +kernel) rfl (lv' := [(0, sv_r a), (1, sv_i v1), (2, sv_i y), (3, sv_i f), (4, sv_i t), (5, sv_i N), (6, sv_i X)]) (st' := [sv_i X, sv_i v1, sv_r a, sv_i N]) rfl ?_
              refine sv_cv C (index := 307) (k := 2) (rest := [sv_i N]) (ci := 10) (r := (RX11, TX11, 47)) (by decide +kernel) (ct_X11_waxOf l g A ty σ14 hok15 hIu16 a k_a (y) ⟨by omega, by omega⟩ xu16 (v1) ⟨by omega, by omega⟩ (X) ⟨by omega, by omega⟩) ⟨co_X11_waxOf, in_X11, ⟨by decide, by decide, by decide +kernel⟩, Nat.le_of_ble_eq_true rfl, Nat.le_of_ble_eq_true rfl⟩ ml_X11_307 im_X11_waxOf se_X11_waxOf (by rw [k_a]; rfl) rfl rfl rfl (Nat.le_of_ble_eq_true rfl) ⟨Nat.zero_le _, Nat.zero_le _⟩ (fun r21 σ22 hpo20 hok23 => ?_)
              obtain ⟨rfl, rfl⟩ := hpo20
              refine sv_same (st2 := [sv_i 0, sv_i N]) (lv2 := [(0, sv_r a), (1, sv_i v1), (2, sv_i y), (3, sv_i f), (4, sv_i t), (5, sv_i N), (6, sv_i X)]) rfl rfl ?_
              refine sv_go C.1 C.2.1 [(.iadd, 1), (.istore 5, 2), (.iinc 6 1, 3)] (pc' := 62) (by decide +kernel) rfl (lv' := [(0, sv_r a), (1, sv_i v1), (2, sv_i y), (3, sv_i f), (4, sv_i t), (5, sv_i (N + 0)), (6, sv_i (X + 1))]) (st' := []) rfl ?_
              refine sv_goto C.1 C.2.1 (off := (-22)) (tgt := 40) (by decide +kernel) (by decide) ?_
              exact ih18 (N + 0) (X + 1)  (by omega) (by omega) (by omega)
        exact L17 (((t + 1 - f : Int)).toNat + 1) 0 f  (by omega) (by omega) (by omega)
      · refine sv_go C.1 C.2.1 [(.bipush (-2), 2)] (pc' := 27) (by decide +kernel) rfl (lv' := [(0, sv_r a), (1, sv_i v1), (2, sv_i y), (3, sv_i f), (4, sv_i t)]) (st' := [sv_i ((-2))]) rfl ?_
        exact sv_iret C hr (by decide +kernel) hok9 (⟨congrArg (fun q => [sv_i q]) (by first | omega | (unfold fx_wax; omega)), hF⟩)
    · refine sv_same (st2 := [sv_i 0]) (lv2 := [(0, sv_r a), (1, sv_i v1), (2, sv_i y), (3, sv_i f), (4, sv_i t)]) rfl rfl ?_
      refine sv_if_t C.1 C.2.1 (cnd := .eq) (off := 9) (tgt := 25) (by decide +kernel) (by decide) ⟨by omega, by omega⟩ (show 0 = 0 by omega) ?_
      refine sv_go C.1 C.2.1 [(.bipush (-2), 2)] (pc' := 27) (by decide +kernel) rfl (lv' := [(0, sv_r a), (1, sv_i v1), (2, sv_i y), (3, sv_i f), (4, sv_i t)]) (st' := [sv_i ((-2))]) rfl ?_
      exact sv_iret C hr (by decide +kernel) hok9 (⟨congrArg (fun q => [sv_i q]) (by first | omega | (unfold fx_wax; omega)), hF⟩)
  · refine sv_same (st2 := [sv_i 0]) (lv2 := [(0, sv_r a), (1, sv_i v1), (2, sv_i y), (3, sv_i f), (4, sv_i t)]) rfl rfl ?_
    refine sv_if_t C.1 C.2.1 (cnd := .eq) (off := 18) (tgt := 25) (by decide +kernel) (by decide) ⟨by omega, by omega⟩ (show 0 = 0 by omega) ?_
    refine sv_go C.1 C.2.1 [(.bipush (-2), 2)] (pc' := 27) (by decide +kernel) rfl (lv' := [(0, sv_r a), (1, sv_i v1), (2, sv_i y), (3, sv_i f), (4, sv_i t)]) (st' := [sv_i ((-2))]) rfl ?_
    exact sv_iret C hr (by decide +kernel) hok4 (⟨congrArg (fun q => [sv_i q]) (by first | omega | (unfold fx_wax; omega)), hF⟩)

theorem cl_X11_310 : Cond.constantLong RX11 310 (8) ∈ lw_good := sv_mem 1406 (by decide +kernel) rfl
set_option maxHeartbeats 4000000 in
set_option maxRecDepth 100000 in
theorem ct_X11_next (l : Launch) (g : sv_G) (A : Nat → Prop) (ty : Nat → Nat) (σ : Nat → Nat → Int) (hok : sv_ok ty σ) (hTA : ∀ q, ty q ≠ 0 → A q) (hI : sv_inv sp_1 ty σ) (hZ : sv_inv sp_0 ty σ) (a : Nat) (k_a : ty a = 10) (v1 : Int) (hv1 : sv_in v1) (y : Int) (hy : sv_in y) (d : Int) (hd : sv_in d) (w1 : Int) (hw1 : sv_in w1) : sv_M l yX11_next cX11_next 7 (some .int) { frames := 4, cells := 0, slots := 0, locals := 89 } g A ty σ [sv_r a, sv_i v1, sv_i y, sv_i d, sv_i w1] (fun r σ' => r = [sv_i (fx_next v1 y d w1)] ∧ sv_off [91] ty σ σ') := by
  refine sv_enter (by decide) (Nat.le_of_ble_eq_true rfl) ?_
  intro p e s m args below meth c C hr
  have C : sv_C g A RX11 cX11_next 7 p s m args meth c := C
  have hr : meth.sig.returnType = (some .int) := hr
  have hF : sv_off [91] ty σ σ := sv_off.rf
  have hlp := dy_lp_in y
  refine sv_same (st2 := []) (lv2 := [(0, sv_r a), (1, sv_i v1), (2, sv_i y), (3, sv_i d), (4, sv_i w1)]) rfl rfl ?_
  refine sv_go C.1 C.2.1 [(.aload_n 0, 1), (.iload_n 1, 1), (.iload_n 2, 1), (.iload_n 3, 1)] (pc' := 4) (by decide +kernel) rfl (lv' := [(0, sv_r a), (1, sv_i v1), (2, sv_i y), (3, sv_i d), (4, sv_i w1)]) (st' := [sv_i d, sv_i y, sv_i v1, sv_r a]) rfl ?_
  refine sv_cv C (index := 297) (k := 3) (rest := []) (ci := 10) (r := (RX11, TX11, 47)) (by decide +kernel) (ct_X11_isPlaced l g A ty σ hok (v1) ⟨by omega, by omega⟩ (y) ⟨by omega, by omega⟩ (d) ⟨by omega, by omega⟩ a) ⟨co_X11_isPlaced, in_X11, ⟨by decide, by decide, by decide +kernel⟩, Nat.le_of_ble_eq_true rfl, Nat.le_of_ble_eq_true rfl⟩ ml_X11_297 im_X11_isPlaced se_X11_isPlaced (by rw [k_a]; rfl) rfl rfl rfl (Nat.le_of_ble_eq_true rfl) ⟨Nat.zero_le _, Nat.zero_le _⟩ (fun r2 σ3 hpo1 hok4 => ?_)
  obtain ⟨rfl, ⟨h5, rfl⟩ | ⟨h5, rfl⟩⟩ := hpo1
  · refine sv_same (st2 := [sv_i 1]) (lv2 := [(0, sv_r a), (1, sv_i v1), (2, sv_i y), (3, sv_i d), (4, sv_i w1)]) rfl rfl ?_
    refine sv_if_f C.1 C.2.1 (cnd := .eq) (off := 16) (tgt := 23) (by decide +kernel) (by decide) ⟨by omega, by omega⟩ (show ¬ (1 = 0) by omega) ?_
    refine sv_go C.1 C.2.1 [(.iload 4, 2)] (pc' := 12) (by decide +kernel) rfl (lv' := [(0, sv_r a), (1, sv_i v1), (2, sv_i y), (3, sv_i d), (4, sv_i w1)]) (st' := [sv_i w1]) rfl ?_
    refine sv_i2l C.1 C.2.1 (by decide +kernel) ⟨by omega, by omega⟩ ?_
    refine sv_go C.1 C.2.1 [(.lconst 1, 1)] (pc' := 14) (by decide +kernel) rfl (lv' := [(0, sv_r a), (1, sv_i v1), (2, sv_i y), (3, sv_i d), (4, sv_i w1)]) (st' := [sv_l 1, sv_l w1]) rfl ?_
    refine sv_ldc2 C (index := 310) (z := 8) (by decide +kernel) cl_X11_310 (by decide) ?_
    refine sv_cs C (index := 9) (k := 3) (rest := []) (by decide +kernel) (ct_X11_in l g A ty σ hok4 (w1) ⟨by omega, by omega⟩ (1) ⟨by omega, by omega⟩ (8) ⟨by omega, by omega⟩) ⟨co_X11_in, in_X11, ⟨by decide, by decide, by decide +kernel⟩, Nat.le_of_ble_eq_true rfl, Nat.le_of_ble_eq_true rfl⟩ ml_X11_9 st_X11_in rfl rfl (Nat.le_of_ble_eq_true rfl) ⟨Nat.zero_le _, Nat.zero_le _⟩ (fun r7 σ8 hpo6 hok9 => ?_)
    obtain ⟨rfl, ⟨h10, rfl⟩ | ⟨h10, rfl⟩⟩ := hpo6
    · refine sv_same (st2 := [sv_i 1]) (lv2 := [(0, sv_r a), (1, sv_i v1), (2, sv_i y), (3, sv_i d), (4, sv_i w1)]) rfl rfl ?_
      refine sv_if_t C.1 C.2.1 (cnd := .ne) (off := 6) (tgt := 26) (by decide +kernel) (by decide) ⟨by omega, by omega⟩ (show 1 ≠ 0 by omega) ?_
      refine sv_go C.1 C.2.1 [(.iload_n 2, 1), (.istore 5, 2)] (pc' := 29) (by decide +kernel) rfl (lv' := [(0, sv_r a), (1, sv_i v1), (2, sv_i y), (3, sv_i d), (4, sv_i w1), (5, sv_i y)]) (st' := []) rfl ?_
      obtain ⟨qo, eqo, kqo⟩ := hI.ref (k := 31) k_a rfl
      have L13 : ∀ (n : Nat) (X : Int) (σ11 : Nat → Nat → Int), (sv_ok ty σ11) → (sv_inv sp_1 ty σ11) → (sv_off [91] ty σ σ11) → (σ11 a 31 = (qo : Int) + 1) → (y ≤ X ∧ X ≤ 2001) → (2001 - X) < (n : Int) → sv_E p l e { frames := 4, cells := 0, slots := 0, locals := 89 } s m args below meth c 7 g A ty (fun r σ' => r = [sv_i (fx_next v1 y d w1)] ∧ sv_off [91] ty σ σ') σ11 29 [(0, sv_r a), (1, sv_i v1), (2, sv_i y), (3, sv_i d), (4, sv_i w1), (5, sv_i X)] [] := by
        intro n
        induction n with
        | zero => intro X σ11 hokc12 hIc12 hFc12 kc12_0 hX hmu; exact absurd hmu (by omega)
        | succ n ih14 =>
          intro X σ11 hokc12 hIc12 hFc12 kc12_0 hX hmu
          refine sv_go C.1 C.2.1 [(.iload 5, 2), (.iload_n 2, 1), (.bipush 30, 2), (.iadd, 1)] (pc' := 35) (by decide +kernel) rfl (lv' := [(0, sv_r a), (1, sv_i v1), (2, sv_i y), (3, sv_i d), (4, sv_i w1), (5, sv_i X)]) (st' := [sv_i (y + 30), sv_i X]) rfl ?_
          refine sv_icmp C.1 C.2.1 (cnd := .ge) (off := 94) (tgt := 129) (by decide +kernel) (by decide) ⟨by omega, by omega⟩ ⟨by omega, by omega⟩ (fun (h15 : (y + 30) ≤ X) => ?_) (fun (h15 : ¬ ((y + 30) ≤ X)) => ?_)
          · refine sv_go C.1 C.2.1 [(.iconst (-1), 1)] (pc' := 130) (by decide +kernel) rfl (lv' := [(0, sv_r a), (1, sv_i v1), (2, sv_i y), (3, sv_i d), (4, sv_i w1), (5, sv_i X)]) (st' := [sv_i ((-1))]) rfl ?_
            exact sv_iret C hr (by decide +kernel) hokc12 (⟨congrArg (fun q => [sv_i q]) (by first | omega | (unfold fx_next; omega)), hFc12⟩)
          · refine sv_go C.1 C.2.1 [(.iload 5, 2), (.sipush 2000, 3)] (pc' := 43) (by decide +kernel) rfl (lv' := [(0, sv_r a), (1, sv_i v1), (2, sv_i y), (3, sv_i d), (4, sv_i w1), (5, sv_i X)]) (st' := [sv_i 2000, sv_i X]) rfl ?_
            refine sv_icmp C.1 C.2.1 (cnd := .gt) (off := 86) (tgt := 129) (by decide +kernel) (by decide) ⟨by omega, by omega⟩ ⟨by omega, by omega⟩ (fun (h16 : 2000 < X) => ?_) (fun (h16 : ¬ (2000 < X)) => ?_)
            · refine sv_go C.1 C.2.1 [(.iconst (-1), 1)] (pc' := 130) (by decide +kernel) rfl (lv' := [(0, sv_r a), (1, sv_i v1), (2, sv_i y), (3, sv_i d), (4, sv_i w1), (5, sv_i X)]) (st' := [sv_i ((-1))]) rfl ?_
              exact sv_iret C hr (by decide +kernel) hokc12 (⟨congrArg (fun q => [sv_i q]) (by first | omega | (unfold fx_next; omega)), hFc12⟩)
            · refine sv_go C.1 C.2.1 [(.aload_n 0, 1), (.iload_n 1, 1), (.iload 5, 2)] (pc' := 50) (by decide +kernel) rfl (lv' := [(0, sv_r a), (1, sv_i v1), (2, sv_i y), (3, sv_i d), (4, sv_i w1), (5, sv_i X)]) (st' := [sv_i X, sv_i v1, sv_r a]) rfl ?_
              refine sv_cv C (index := 301) (k := 2) (rest := []) (ci := 10) (r := (RX11, TX11, 47)) (by decide +kernel) (ct_X11_lead l g A ty σ11 hokc12 hTA hIc12 a k_a (v1) ⟨by omega, by omega⟩ (X) ⟨by omega, by omega⟩) ⟨co_X11_lead, in_X11, ⟨by decide, by decide, by decide +kernel⟩, Nat.le_of_ble_eq_true rfl, Nat.le_of_ble_eq_true rfl⟩ ml_X11_301 im_X11_lead se_X11_lead (by rw [k_a]; rfl) rfl rfl rfl (Nat.le_of_ble_eq_true rfl) ⟨Nat.zero_le _, Nat.zero_le _⟩ (fun r18 σ19 hpo17 hok20 => ?_)
              obtain ⟨rfl, hIu21, hFu21, xu21⟩ := hpo17
              have hGu21 := hFc12.tr hFu21 (by decide)
              have t22 : σ19 a 31 = (qo : Int) + 1 := (hFu21.at k_a (by decide)).trans kc12_0
              refine sv_same (st2 := []) (lv2 := [(0, sv_r a), (1, sv_i v1), (2, sv_i y), (3, sv_i d), (4, sv_i w1), (5, sv_i X)]) rfl rfl ?_
              refine sv_go C.1 C.2.1 [(.iload 5, 2), (.iload_n 2, 1)] (pc' := 56) (by decide +kernel) rfl (lv' := [(0, sv_r a), (1, sv_i v1), (2, sv_i y), (3, sv_i d), (4, sv_i w1), (5, sv_i X)]) (st' := [sv_i y, sv_i X]) rfl ?_
              refine sv_icmp C.1 C.2.1 (cnd := .ne) (off := 7) (tgt := 63) (by decide +kernel) (by decide) ⟨by omega, by omega⟩ ⟨by omega, by omega⟩ (fun (h23 : X ≠ y) => ?_) (fun (h23 : ¬ (X ≠ y)) => ?_)
              · refine sv_go C.1 C.2.1 [(.iconst 0, 1), (.istore 6, 2)] (pc' := 66) (by decide +kernel) rfl (lv' := [(0, sv_r a), (1, sv_i v1), (2, sv_i y), (3, sv_i d), (4, sv_i w1), (5, sv_i X), (6, sv_i 0)]) (st' := []) rfl ?_
                have L24 : ∀ (n : Nat) (Y : Int) , (0 ≤ Y ∧ Y ≤ 366) → (366 - Y) < (n : Int) → sv_E p l e { frames := 4, cells := 0, slots := 0, locals := 89 } s m args below meth c 7 g A ty (fun r σ' => r = [sv_i (fx_next v1 y d w1)] ∧ sv_off [91] ty σ σ') σ19 66 [(0, sv_r a), (1, sv_i v1), (2, sv_i y), (3, sv_i d), (4, sv_i w1), (5, sv_i X), (6, sv_i Y)] [] := by
                  intro n
                  induction n with
                  | zero => intro Y  hY hmu; exact absurd hmu (by omega)
                  | succ n ih25 =>
                    intro Y  hY hmu
                    refine sv_go C.1 C.2.1 [(.iload 6, 2), (.iload 5, 2)] (pc' := 70) (by decide +kernel) rfl (lv' := [(0, sv_r a), (1, sv_i v1), (2, sv_i y), (3, sv_i d), (4, sv_i w1), (5, sv_i X), (6, sv_i Y)]) (st' := [sv_i X, sv_i Y]) rfl ?_
                    refine sv_cs C (index := 16) (k := 1) (rest := [sv_i Y]) (by decide +kernel) (ct_X11_daysOf l g A ty σ19 hok20 (X) ⟨by omega, by omega⟩) ⟨co_X11_daysOf, in_X11, ⟨by decide, by decide, by decide +kernel⟩, Nat.le_of_ble_eq_true rfl, Nat.le_of_ble_eq_true rfl⟩ ml_X11_16 st_X11_daysOf rfl rfl (Nat.le_of_ble_eq_true rfl) ⟨Nat.zero_le _, Nat.zero_le _⟩ (fun r27 σ28 hpo26 hok29 => ?_)
                    obtain ⟨rfl, rfl⟩ := hpo26
                    have hn30 := dy_lp_in X
                    refine sv_same (st2 := [sv_i (365 + dy_lp X), sv_i Y]) (lv2 := [(0, sv_r a), (1, sv_i v1), (2, sv_i y), (3, sv_i d), (4, sv_i w1), (5, sv_i X), (6, sv_i Y)]) rfl rfl ?_
                    refine sv_icmp C.1 C.2.1 (cnd := .ge) (off := 50) (tgt := 123) (by decide +kernel) (by decide) ⟨by omega, by omega⟩ ⟨by omega, by omega⟩ (fun (h31 : (365 + dy_lp X) ≤ Y) => ?_) (fun (h31 : ¬ ((365 + dy_lp X) ≤ Y)) => ?_)
                    · refine sv_go C.1 C.2.1 [(.iinc 5 1, 3)] (pc' := 126) (by decide +kernel) rfl (lv' := [(0, sv_r a), (1, sv_i v1), (2, sv_i y), (3, sv_i d), (4, sv_i w1), (5, sv_i (X + 1)), (6, sv_i Y)]) (st' := []) rfl ?_
                      refine sv_goto C.1 C.2.1 (off := (-97)) (tgt := 29) (by decide +kernel) (by decide) ?_
                      refine sv_pick [0, 1, 2, 3, 4, 5] (lv2 := [(0, sv_r a), (1, sv_i v1), (2, sv_i y), (3, sv_i d), (4, sv_i w1), (5, sv_i (X + 1))]) rfl ?_
                      exact ih14 (X + 1) σ19 hok29 hIu21 hGu21 t22 (by omega) (by omega)
                    · refine sv_go C.1 C.2.1 [(.aload_n 0, 1)] (pc' := 77) (by decide +kernel) rfl (lv' := [(0, sv_r a), (1, sv_i v1), (2, sv_i y), (3, sv_i d), (4, sv_i w1), (5, sv_i X), (6, sv_i Y)]) (st' := [sv_r a]) rfl ?_
                      refine sv_gf C (index := 121) (ci := 10) (k := 31) (r := (RX11, TX11, 47)) (v := sv_r qo) (by decide +kernel) (by rw [k_a]; rfl) rfl (by decide) fl_X11_121 (congrArg sv_a t22) ?_
                      refine sv_go C.1 C.2.1 [(.iload 6, 2)] (pc' := 82) (by decide +kernel) rfl (lv' := [(0, sv_r a), (1, sv_i v1), (2, sv_i y), (3, sv_i d), (4, sv_i w1), (5, sv_i X), (6, sv_i Y)]) (st' := [sv_i Y, sv_r qo]) rfl ?_
                      refine sv_ia C (n := 366) (by decide +kernel) (by rw [kqo]; rfl) (by decide) (by omega) (by omega) ?_
                      rw [show σ19 qo Y.toNat = fx_of X Y from xu21 qo t22 (Y) (by omega) (by omega)]
                      have w32 := fx_of_in X Y
                      refine sv_if_t C.1 C.2.1 (cnd := .lt) (off := 34) (tgt := 117) (by decide +kernel) (by decide) ⟨by omega, by omega⟩ (show (fx_of X Y) < 0 by omega) ?_
                      refine sv_go C.1 C.2.1 [(.iinc 6 1, 3)] (pc' := 120) (by decide +kernel) rfl (lv' := [(0, sv_r a), (1, sv_i v1), (2, sv_i y), (3, sv_i d), (4, sv_i w1), (5, sv_i X), (6, sv_i (Y + 1))]) (st' := []) rfl ?_
                      refine sv_goto C.1 C.2.1 (off := (-54)) (tgt := 66) (by decide +kernel) (by decide) ?_
                      exact ih25 (Y + 1)  (by omega) (by omega)
                exact L24 (((366 - 0 : Int)).toNat + 1) 0  (by omega) (by omega)
              · refine sv_go C.1 C.2.1 [(.iload_n 3, 1)] (pc' := 60) (by decide +kernel) rfl (lv' := [(0, sv_r a), (1, sv_i v1), (2, sv_i y), (3, sv_i d), (4, sv_i w1), (5, sv_i X)]) (st' := [sv_i d]) rfl ?_
                refine sv_goto C.1 C.2.1 (off := 4) (tgt := 64) (by decide +kernel) (by decide) ?_
                refine sv_go C.1 C.2.1 [(.istore 6, 2)] (pc' := 66) (by decide +kernel) rfl (lv' := [(0, sv_r a), (1, sv_i v1), (2, sv_i y), (3, sv_i d), (4, sv_i w1), (5, sv_i X), (6, sv_i d)]) (st' := []) rfl ?_
                have L33 : ∀ (n : Nat) (Y : Int) , (0 ≤ Y ∧ Y ≤ 366) → (366 - Y) < (n : Int) → sv_E p l e { frames := 4, cells := 0, slots := 0, locals := 89 } s m args below meth c 7 g A ty (fun r σ' => r = [sv_i (fx_next v1 y d w1)] ∧ sv_off [91] ty σ σ') σ19 66 [(0, sv_r a), (1, sv_i v1), (2, sv_i y), (3, sv_i d), (4, sv_i w1), (5, sv_i X), (6, sv_i Y)] [] := by
                  intro n
                  induction n with
                  | zero => intro Y  hY hmu; exact absurd hmu (by omega)
                  | succ n ih34 =>
                    intro Y  hY hmu
                    refine sv_go C.1 C.2.1 [(.iload 6, 2), (.iload 5, 2)] (pc' := 70) (by decide +kernel) rfl (lv' := [(0, sv_r a), (1, sv_i v1), (2, sv_i y), (3, sv_i d), (4, sv_i w1), (5, sv_i X), (6, sv_i Y)]) (st' := [sv_i X, sv_i Y]) rfl ?_
                    refine sv_cs C (index := 16) (k := 1) (rest := [sv_i Y]) (by decide +kernel) (ct_X11_daysOf l g A ty σ19 hok20 (X) ⟨by omega, by omega⟩) ⟨co_X11_daysOf, in_X11, ⟨by decide, by decide, by decide +kernel⟩, Nat.le_of_ble_eq_true rfl, Nat.le_of_ble_eq_true rfl⟩ ml_X11_16 st_X11_daysOf rfl rfl (Nat.le_of_ble_eq_true rfl) ⟨Nat.zero_le _, Nat.zero_le _⟩ (fun r36 σ37 hpo35 hok38 => ?_)
                    obtain ⟨rfl, rfl⟩ := hpo35
                    have hn39 := dy_lp_in X
                    refine sv_same (st2 := [sv_i (365 + dy_lp X), sv_i Y]) (lv2 := [(0, sv_r a), (1, sv_i v1), (2, sv_i y), (3, sv_i d), (4, sv_i w1), (5, sv_i X), (6, sv_i Y)]) rfl rfl ?_
                    refine sv_icmp C.1 C.2.1 (cnd := .ge) (off := 50) (tgt := 123) (by decide +kernel) (by decide) ⟨by omega, by omega⟩ ⟨by omega, by omega⟩ (fun (h40 : (365 + dy_lp X) ≤ Y) => ?_) (fun (h40 : ¬ ((365 + dy_lp X) ≤ Y)) => ?_)
                    · refine sv_go C.1 C.2.1 [(.iinc 5 1, 3)] (pc' := 126) (by decide +kernel) rfl (lv' := [(0, sv_r a), (1, sv_i v1), (2, sv_i y), (3, sv_i d), (4, sv_i w1), (5, sv_i (X + 1)), (6, sv_i Y)]) (st' := []) rfl ?_
                      refine sv_goto C.1 C.2.1 (off := (-97)) (tgt := 29) (by decide +kernel) (by decide) ?_
                      refine sv_pick [0, 1, 2, 3, 4, 5] (lv2 := [(0, sv_r a), (1, sv_i v1), (2, sv_i y), (3, sv_i d), (4, sv_i w1), (5, sv_i (X + 1))]) rfl ?_
                      exact ih14 (X + 1) σ19 hok38 hIu21 hGu21 t22 (by omega) (by omega)
                    · refine sv_go C.1 C.2.1 [(.aload_n 0, 1)] (pc' := 77) (by decide +kernel) rfl (lv' := [(0, sv_r a), (1, sv_i v1), (2, sv_i y), (3, sv_i d), (4, sv_i w1), (5, sv_i X), (6, sv_i Y)]) (st' := [sv_r a]) rfl ?_
                      refine sv_gf C (index := 121) (ci := 10) (k := 31) (r := (RX11, TX11, 47)) (v := sv_r qo) (by decide +kernel) (by rw [k_a]; rfl) rfl (by decide) fl_X11_121 (congrArg sv_a t22) ?_
                      refine sv_go C.1 C.2.1 [(.iload 6, 2)] (pc' := 82) (by decide +kernel) rfl (lv' := [(0, sv_r a), (1, sv_i v1), (2, sv_i y), (3, sv_i d), (4, sv_i w1), (5, sv_i X), (6, sv_i Y)]) (st' := [sv_i Y, sv_r qo]) rfl ?_
                      refine sv_ia C (n := 366) (by decide +kernel) (by rw [kqo]; rfl) (by decide) (by omega) (by omega) ?_
                      rw [show σ19 qo Y.toNat = fx_of X Y from xu21 qo t22 (Y) (by omega) (by omega)]
                      have w41 := fx_of_in X Y
                      refine sv_if_t C.1 C.2.1 (cnd := .lt) (off := 34) (tgt := 117) (by decide +kernel) (by decide) ⟨by omega, by omega⟩ (show (fx_of X Y) < 0 by omega) ?_
                      refine sv_go C.1 C.2.1 [(.iinc 6 1, 3)] (pc' := 120) (by decide +kernel) rfl (lv' := [(0, sv_r a), (1, sv_i v1), (2, sv_i y), (3, sv_i d), (4, sv_i w1), (5, sv_i X), (6, sv_i (Y + 1))]) (st' := []) rfl ?_
                      refine sv_goto C.1 C.2.1 (off := (-54)) (tgt := 66) (by decide +kernel) (by decide) ?_
                      exact ih34 (Y + 1)  (by omega) (by omega)
                exact L33 (((366 - d : Int)).toNat + 1) d  (by omega) (by omega)
      exact L13 (((2001 - y : Int)).toNat + 1) y σ hok9 hI hF eqo (by omega) (by omega)
    · refine sv_same (st2 := [sv_i 0]) (lv2 := [(0, sv_r a), (1, sv_i v1), (2, sv_i y), (3, sv_i d), (4, sv_i w1)]) rfl rfl ?_
      refine sv_if_f C.1 C.2.1 (cnd := .ne) (off := 6) (tgt := 26) (by decide +kernel) (by decide) ⟨by omega, by omega⟩ (show ¬ (0 ≠ 0) by omega) ?_
      refine sv_go C.1 C.2.1 [(.bipush (-2), 2)] (pc' := 25) (by decide +kernel) rfl (lv' := [(0, sv_r a), (1, sv_i v1), (2, sv_i y), (3, sv_i d), (4, sv_i w1)]) (st' := [sv_i ((-2))]) rfl ?_
      exact sv_iret C hr (by decide +kernel) hok9 (⟨congrArg (fun q => [sv_i q]) (by first | omega | (unfold fx_next; omega)), hF⟩)
  · refine sv_same (st2 := [sv_i 0]) (lv2 := [(0, sv_r a), (1, sv_i v1), (2, sv_i y), (3, sv_i d), (4, sv_i w1)]) rfl rfl ?_
    refine sv_if_t C.1 C.2.1 (cnd := .eq) (off := 16) (tgt := 23) (by decide +kernel) (by decide) ⟨by omega, by omega⟩ (show 0 = 0 by omega) ?_
    refine sv_go C.1 C.2.1 [(.bipush (-2), 2)] (pc' := 25) (by decide +kernel) rfl (lv' := [(0, sv_r a), (1, sv_i v1), (2, sv_i y), (3, sv_i d), (4, sv_i w1)]) (st' := [sv_i ((-2))]) rfl ?_
    exact sv_iret C hr (by decide +kernel) hok4 (⟨congrArg (fun q => [sv_i q]) (by first | omega | (unfold fx_next; omega)), hF⟩)

theorem fl_X11_124 : Cond.fieldLink RX11 124 "SaintsRoadModel" "otherOffice" "[I" ∈ lw_good := sv_mem 1136 (by decide +kernel) rfl
theorem ml_X11_312 : Cond.methodLink RX11 312 yX11_areLike ∈ lw_good := sv_mem 1411 (by decide +kernel) rfl
theorem co_X11_areLike : Cond.code yX11_areLike cX11_areLike 5 (some .boolean) ∈ lw_good := sv_mem 1414 (by decide +kernel) rfl
theorem im_X11_areLike : Cond.instanceMethod yX11_areLike ∈ lw_good := sv_mem 1413 (by decide +kernel) rfl
theorem se_X11_areLike : Cond.selects RX11 yX11_areLike yX11_areLike ∈ lw_good := sv_mem 65 (by decide +kernel) rfl
set_option maxHeartbeats 4000000 in
set_option maxRecDepth 100000 in
theorem ct_X11_unlike (l : Launch) (g : sv_G) (A : Nat → Prop) (ty : Nat → Nat) (σ : Nat → Nat → Int) (hok : sv_ok ty σ) (hTA : ∀ q, ty q ≠ 0 → A q) (hI : sv_inv sp_1 ty σ) (hZ : sv_inv sp_0 ty σ) (a : Nat) (k_a : ty a = 10) (v1 : Int) (hv1 : sv_in v1) (v2 : Int) (hv2 : sv_in v2) (y : Int) (hy : sv_in y) : sv_M l yX11_unlike cX11_unlike 6 (some .int) { frames := 3, cells := 0, slots := 0, locals := 69 } g A ty σ [sv_r a, sv_i v1, sv_i v2, sv_i y] (fun r σ' => r = [sv_i (fx_unlike v1 v2 y)] ∧ sv_off [91, 92] ty σ σ') := by
  refine sv_enter (by decide) (Nat.le_of_ble_eq_true rfl) ?_
  intro p e s m args below meth c C hr
  have C : sv_C g A RX11 cX11_unlike 6 p s m args meth c := C
  have hr : meth.sig.returnType = (some .int) := hr
  have hF : sv_off [91, 92] ty σ σ := sv_off.rf
  have hlp := dy_lp_in y
  refine sv_same (st2 := []) (lv2 := [(0, sv_r a), (1, sv_i v1), (2, sv_i v2), (3, sv_i y)]) rfl rfl ?_
  refine sv_go C.1 C.2.1 [(.iload_n 1, 1)] (pc' := 1) (by decide +kernel) rfl (lv' := [(0, sv_r a), (1, sv_i v1), (2, sv_i v2), (3, sv_i y)]) (st' := [sv_i v1]) rfl ?_
  refine sv_cs C (index := 277) (k := 1) (rest := []) (by decide +kernel) (ct_X11_isPlace l g A ty σ hok (v1) ⟨by omega, by omega⟩) ⟨co_X11_isPlace, in_X11, ⟨by decide, by decide, by decide +kernel⟩, Nat.le_of_ble_eq_true rfl, Nat.le_of_ble_eq_true rfl⟩ ml_X11_277 st_X11_isPlace rfl rfl (Nat.le_of_ble_eq_true rfl) ⟨Nat.zero_le _, Nat.zero_le _⟩ (fun r2 σ3 hpo1 hok4 => ?_)
  obtain ⟨rfl, ⟨h5, rfl⟩ | ⟨h5, rfl⟩⟩ := hpo1
  · refine sv_same (st2 := [sv_i 1]) (lv2 := [(0, sv_r a), (1, sv_i v1), (2, sv_i v2), (3, sv_i y)]) rfl rfl ?_
    refine sv_if_f C.1 C.2.1 (cnd := .eq) (off := 17) (tgt := 21) (by decide +kernel) (by decide) ⟨by omega, by omega⟩ (show ¬ (1 = 0) by omega) ?_
    refine sv_go C.1 C.2.1 [(.iload_n 2, 1)] (pc' := 8) (by decide +kernel) rfl (lv' := [(0, sv_r a), (1, sv_i v1), (2, sv_i v2), (3, sv_i y)]) (st' := [sv_i v2]) rfl ?_
    refine sv_cs C (index := 277) (k := 1) (rest := []) (by decide +kernel) (ct_X11_isPlace l g A ty σ hok4 (v2) ⟨by omega, by omega⟩) ⟨co_X11_isPlace, in_X11, ⟨by decide, by decide, by decide +kernel⟩, Nat.le_of_ble_eq_true rfl, Nat.le_of_ble_eq_true rfl⟩ ml_X11_277 st_X11_isPlace rfl rfl (Nat.le_of_ble_eq_true rfl) ⟨Nat.zero_le _, Nat.zero_le _⟩ (fun r7 σ8 hpo6 hok9 => ?_)
    obtain ⟨rfl, ⟨h10, rfl⟩ | ⟨h10, rfl⟩⟩ := hpo6
    · refine sv_same (st2 := [sv_i 1]) (lv2 := [(0, sv_r a), (1, sv_i v1), (2, sv_i v2), (3, sv_i y)]) rfl rfl ?_
      refine sv_if_f C.1 C.2.1 (cnd := .eq) (off := 10) (tgt := 21) (by decide +kernel) (by decide) ⟨by omega, by omega⟩ (show ¬ (1 = 0) by omega) ?_
      refine sv_go C.1 C.2.1 [(.iload_n 3, 1)] (pc' := 15) (by decide +kernel) rfl (lv' := [(0, sv_r a), (1, sv_i v1), (2, sv_i v2), (3, sv_i y)]) (st' := [sv_i y]) rfl ?_
      refine sv_cs C (index := 13) (k := 1) (rest := []) (by decide +kernel) (ct_X11_isYear l g A ty σ hok9 (y) ⟨by omega, by omega⟩) ⟨co_X11_isYear, in_X11, ⟨by decide, by decide, by decide +kernel⟩, Nat.le_of_ble_eq_true rfl, Nat.le_of_ble_eq_true rfl⟩ ml_X11_13 st_X11_isYear rfl rfl (Nat.le_of_ble_eq_true rfl) ⟨Nat.zero_le _, Nat.zero_le _⟩ (fun r12 σ13 hpo11 hok14 => ?_)
      obtain ⟨rfl, ⟨h15, rfl⟩ | ⟨h15, rfl⟩⟩ := hpo11
      · refine sv_same (st2 := [sv_i 1]) (lv2 := [(0, sv_r a), (1, sv_i v1), (2, sv_i v2), (3, sv_i y)]) rfl rfl ?_
        refine sv_if_t C.1 C.2.1 (cnd := .ne) (off := 6) (tgt := 24) (by decide +kernel) (by decide) ⟨by omega, by omega⟩ (show 1 ≠ 0 by omega) ?_
        refine sv_go C.1 C.2.1 [(.aload_n 0, 1), (.iload_n 2, 1), (.iload_n 3, 1)] (pc' := 27) (by decide +kernel) rfl (lv' := [(0, sv_r a), (1, sv_i v1), (2, sv_i v2), (3, sv_i y)]) (st' := [sv_i y, sv_i v2, sv_r a]) rfl ?_
        refine sv_cv C (index := 301) (k := 2) (rest := []) (ci := 10) (r := (RX11, TX11, 47)) (by decide +kernel) (ct_X11_lead l g A ty σ hok14 hTA hI a k_a (v2) ⟨by omega, by omega⟩ (y) ⟨by omega, by omega⟩) ⟨co_X11_lead, in_X11, ⟨by decide, by decide, by decide +kernel⟩, Nat.le_of_ble_eq_true rfl, Nat.le_of_ble_eq_true rfl⟩ ml_X11_301 im_X11_lead se_X11_lead (by rw [k_a]; rfl) rfl rfl rfl (Nat.le_of_ble_eq_true rfl) ⟨Nat.zero_le _, Nat.zero_le _⟩ (fun r17 σ18 hpo16 hok19 => ?_)
        obtain ⟨rfl, hIu20, hFu20, xu20⟩ := hpo16
        have hGu20 := hF.tr hFu20 (by decide)
        refine sv_same (st2 := []) (lv2 := [(0, sv_r a), (1, sv_i v1), (2, sv_i v2), (3, sv_i y)]) rfl rfl ?_
        refine sv_go C.1 C.2.1 [(.iconst 0, 1), (.istore 4, 2)] (pc' := 33) (by decide +kernel) rfl (lv' := [(0, sv_r a), (1, sv_i v1), (2, sv_i v2), (3, sv_i y), (4, sv_i 0)]) (st' := []) rfl ?_
        obtain ⟨qc, eqc, kqc⟩ := hIu20.ref (k := 32) k_a rfl
        obtain ⟨qo, eqo, kqo⟩ := hIu20.ref (k := 31) k_a rfl
        have L23 : ∀ (n : Nat) (X : Int) (σ21 : Nat → Nat → Int), (sv_ok ty σ21) → (sv_inv sp_1 ty σ21) → (sv_off [91, 92] ty σ σ21) → (σ21 a 32 = (qc : Int) + 1) → (σ21 a 31 = (qo : Int) + 1) → (0 ≤ X ∧ X ≤ 365 + dy_lp y) → (∀ i : Int, 0 ≤ i → i < X → σ21 qc i.toNat = fx_of y i) → (md_of σ21 a 31 y) → (365 + dy_lp y - X) < (n : Int) → sv_E p l e { frames := 3, cells := 0, slots := 0, locals := 69 } s m args below meth c 6 g A ty (fun r σ' => r = [sv_i (fx_unlike v1 v2 y)] ∧ sv_off [91, 92] ty σ σ') σ21 33 [(0, sv_r a), (1, sv_i v1), (2, sv_i v2), (3, sv_i y), (4, sv_i X)] [] := by
          intro n
          induction n with
          | zero => intro X σ21 hokc22 hIc22 hFc22 kc22_0 kc22_1 hX hC hM1 hmu; exact absurd hmu (by omega)
          | succ n ih24 =>
            intro X σ21 hokc22 hIc22 hFc22 kc22_0 kc22_1 hX hC hM1 hmu
            refine sv_go C.1 C.2.1 [(.iload 4, 2), (.iload_n 3, 1)] (pc' := 36) (by decide +kernel) rfl (lv' := [(0, sv_r a), (1, sv_i v1), (2, sv_i v2), (3, sv_i y), (4, sv_i X)]) (st' := [sv_i y, sv_i X]) rfl ?_
            refine sv_cs C (index := 16) (k := 1) (rest := [sv_i X]) (by decide +kernel) (ct_X11_daysOf l g A ty σ21 hokc22 (y) ⟨by omega, by omega⟩) ⟨co_X11_daysOf, in_X11, ⟨by decide, by decide, by decide +kernel⟩, Nat.le_of_ble_eq_true rfl, Nat.le_of_ble_eq_true rfl⟩ ml_X11_16 st_X11_daysOf rfl rfl (Nat.le_of_ble_eq_true rfl) ⟨Nat.zero_le _, Nat.zero_le _⟩ (fun r26 σ27 hpo25 hok28 => ?_)
            obtain ⟨rfl, rfl⟩ := hpo25
            have hn29 := dy_lp_in y
            refine sv_same (st2 := [sv_i (365 + dy_lp y), sv_i X]) (lv2 := [(0, sv_r a), (1, sv_i v1), (2, sv_i v2), (3, sv_i y), (4, sv_i X)]) rfl rfl ?_
            refine sv_icmp C.1 C.2.1 (cnd := .ge) (off := 23) (tgt := 62) (by decide +kernel) (by decide) ⟨by omega, by omega⟩ ⟨by omega, by omega⟩ (fun (h30 : (365 + dy_lp y) ≤ X) => ?_) (fun (h30 : ¬ ((365 + dy_lp y) ≤ X)) => ?_)
            · have hC2 : ∀ i : Int, 0 ≤ i → i < 365 + dy_lp y → σ21 qc i.toNat = fx_of y i := fun i h1 h2 => hC i h1 (by omega)
              refine sv_go C.1 C.2.1 [(.aload_n 0, 1), (.iload_n 1, 1), (.iload_n 3, 1)] (pc' := 65) (by decide +kernel) rfl (lv' := [(0, sv_r a), (1, sv_i v1), (2, sv_i v2), (3, sv_i y), (4, sv_i X)]) (st' := [sv_i y, sv_i v1, sv_r a]) rfl ?_
              refine sv_cv C (index := 301) (k := 2) (rest := []) (ci := 10) (r := (RX11, TX11, 47)) (by decide +kernel) (ct_X11_lead l g A ty σ21 hok28 hTA hIc22 a k_a (v1) ⟨by omega, by omega⟩ (y) ⟨by omega, by omega⟩) ⟨co_X11_lead, in_X11, ⟨by decide, by decide, by decide +kernel⟩, Nat.le_of_ble_eq_true rfl, Nat.le_of_ble_eq_true rfl⟩ ml_X11_301 im_X11_lead se_X11_lead (by rw [k_a]; rfl) rfl rfl rfl (Nat.le_of_ble_eq_true rfl) ⟨Nat.zero_le _, Nat.zero_le _⟩ (fun r32 σ33 hpo31 hok34 => ?_)
              obtain ⟨rfl, hIu35, hFu35, xu35⟩ := hpo31
              have hGu35 := hFc22.tr hFu35 (by decide)
              have t36 : σ33 a 32 = (qc : Int) + 1 := (hFu35.at k_a (by decide)).trans kc22_0
              have t37 : σ33 a 31 = (qo : Int) + 1 := (hFu35.at k_a (by decide)).trans kc22_1
              have m238 : ∀ i : Int, 0 ≤ i → i < 365 + dy_lp y → σ33 qc i.toNat = fx_of y i := fun i h1 h2 => by rw [hFu35.at kqc (by decide)]; exact hC2 i h1 h2
              refine sv_same (st2 := []) (lv2 := [(0, sv_r a), (1, sv_i v1), (2, sv_i v2), (3, sv_i y), (4, sv_i X)]) rfl rfl ?_
              refine sv_go C.1 C.2.1 [(.iconst 0, 1), (.istore 4, 2), (.iconst 0, 1), (.istore 5, 2)] (pc' := 74) (by decide +kernel) rfl (lv' := [(0, sv_r a), (1, sv_i v1), (2, sv_i v2), (3, sv_i y), (4, sv_i 0), (5, sv_i 0)]) (st' := []) rfl ?_
              have L39 : ∀ (n : Nat) (N : Int) (Y : Int) , (N = 0) → (0 ≤ Y ∧ Y ≤ 365 + dy_lp y) → (365 + dy_lp y - Y) < (n : Int) → sv_E p l e { frames := 3, cells := 0, slots := 0, locals := 69 } s m args below meth c 6 g A ty (fun r σ' => r = [sv_i (fx_unlike v1 v2 y)] ∧ sv_off [91, 92] ty σ σ') σ33 74 [(0, sv_r a), (1, sv_i v1), (2, sv_i v2), (3, sv_i y), (4, sv_i N), (5, sv_i Y)] [] := by
                intro n
                induction n with
                | zero => intro N Y  hN hY hmu; exact absurd hmu (by omega)
                | succ n ih40 =>
                  intro N Y  hN hY hmu
                  refine sv_go C.1 C.2.1 [(.iload 5, 2), (.iload_n 3, 1)] (pc' := 77) (by decide +kernel) rfl (lv' := [(0, sv_r a), (1, sv_i v1), (2, sv_i v2), (3, sv_i y), (4, sv_i N), (5, sv_i Y)]) (st' := [sv_i y, sv_i Y]) rfl ?_
                  refine sv_cs C (index := 16) (k := 1) (rest := [sv_i Y]) (by decide +kernel) (ct_X11_daysOf l g A ty σ33 hok34 (y) ⟨by omega, by omega⟩) ⟨co_X11_daysOf, in_X11, ⟨by decide, by decide, by decide +kernel⟩, Nat.le_of_ble_eq_true rfl, Nat.le_of_ble_eq_true rfl⟩ ml_X11_16 st_X11_daysOf rfl rfl (Nat.le_of_ble_eq_true rfl) ⟨Nat.zero_le _, Nat.zero_le _⟩ (fun r42 σ43 hpo41 hok44 => ?_)
                  obtain ⟨rfl, rfl⟩ := hpo41
                  have hn45 := dy_lp_in y
                  refine sv_same (st2 := [sv_i (365 + dy_lp y), sv_i Y]) (lv2 := [(0, sv_r a), (1, sv_i v1), (2, sv_i v2), (3, sv_i y), (4, sv_i N), (5, sv_i Y)]) rfl rfl ?_
                  refine sv_icmp C.1 C.2.1 (cnd := .ge) (off := 42) (tgt := 122) (by decide +kernel) (by decide) ⟨by omega, by omega⟩ ⟨by omega, by omega⟩ (fun (h46 : (365 + dy_lp y) ≤ Y) => ?_) (fun (h46 : ¬ ((365 + dy_lp y) ≤ Y)) => ?_)
                  · refine sv_go C.1 C.2.1 [(.iload 4, 2)] (pc' := 124) (by decide +kernel) rfl (lv' := [(0, sv_r a), (1, sv_i v1), (2, sv_i v2), (3, sv_i y), (4, sv_i N), (5, sv_i Y)]) (st' := [sv_i N]) rfl ?_
                    exact sv_iret C hr (by decide +kernel) hok44 (⟨congrArg (fun q => [sv_i q]) (by first | omega | (unfold fx_unlike; omega)), hGu35⟩)
                  · refine sv_go C.1 C.2.1 [(.iload 4, 2), (.aload_n 0, 1), (.iload_n 1, 1), (.aload_n 0, 1)] (pc' := 88) (by decide +kernel) rfl (lv' := [(0, sv_r a), (1, sv_i v1), (2, sv_i v2), (3, sv_i y), (4, sv_i N), (5, sv_i Y)]) (st' := [sv_r a, sv_i v1, sv_r a, sv_i N]) rfl ?_
                    refine sv_gf C (index := 121) (ci := 10) (k := 31) (r := (RX11, TX11, 47)) (v := sv_r qo) (by decide +kernel) (by rw [k_a]; rfl) rfl (by decide) fl_X11_121 (congrArg sv_a t37) ?_
                    refine sv_go C.1 C.2.1 [(.iload 5, 2)] (pc' := 93) (by decide +kernel) rfl (lv' := [(0, sv_r a), (1, sv_i v1), (2, sv_i v2), (3, sv_i y), (4, sv_i N), (5, sv_i Y)]) (st' := [sv_i Y, sv_r qo, sv_i v1, sv_r a, sv_i N]) rfl ?_
                    refine sv_ia C (n := 366) (by decide +kernel) (by rw [kqo]; rfl) (by decide) (by omega) (by omega) ?_
                    rw [show σ33 qo Y.toNat = fx_of y Y from xu35 qo t37 (Y) (by omega) (by omega)]
                    have w47 := fx_of_in y Y
                    refine sv_go C.1 C.2.1 [(.iload_n 2, 1), (.aload_n 0, 1)] (pc' := 96) (by decide +kernel) rfl (lv' := [(0, sv_r a), (1, sv_i v1), (2, sv_i v2), (3, sv_i y), (4, sv_i N), (5, sv_i Y)]) (st' := [sv_r a, sv_i v2, sv_i (fx_of y Y), sv_i v1, sv_r a, sv_i N]) rfl ?_
                    refine sv_gf C (index := 124) (ci := 10) (k := 32) (r := (RX11, TX11, 47)) (v := sv_r qc) (by decide +kernel) (by rw [k_a]; rfl) rfl (by decide) fl_X11_124 (congrArg sv_a t36) ?_
                    refine sv_go C.1 C.2.1 [(.iload 5, 2)] (pc' := 101) (by decide +kernel) rfl (lv' := [(0, sv_r a), (1, sv_i v1), (2, sv_i v2), (3, sv_i y), (4, sv_i N), (5, sv_i Y)]) (st' := [sv_i Y, sv_r qc, sv_i v2, sv_i (fx_of y Y), sv_i v1, sv_r a, sv_i N]) rfl ?_
                    refine sv_ia C (n := 366) (by decide +kernel) (by rw [kqc]; rfl) (by decide) (by omega) (by omega) ?_
                    rw [show σ33 qc Y.toNat = fx_of y Y from m238 (Y) (by omega) (by omega)]
                    have w48 := fx_of_in y Y
                    refine sv_cv C (index := 312) (k := 4) (rest := [sv_i N]) (ci := 10) (r := (RX11, TX11, 47)) (by decide +kernel) (ct_X11_areLike l g A ty σ33 hok44 a (v1) (fx_of y Y) (v2) ⟨by omega, by omega⟩) ⟨co_X11_areLike, in_X11, ⟨by decide, by decide, by decide +kernel⟩, Nat.le_of_ble_eq_true rfl, Nat.le_of_ble_eq_true rfl⟩ ml_X11_312 im_X11_areLike se_X11_areLike (by rw [k_a]; rfl) rfl rfl rfl (Nat.le_of_ble_eq_true rfl) ⟨Nat.zero_le _, Nat.zero_le _⟩ (fun r50 σ51 hpo49 hok52 => ?_)
                    obtain ⟨rfl, rfl⟩ := hpo49
                    refine sv_same (st2 := [sv_i 1, sv_i N]) (lv2 := [(0, sv_r a), (1, sv_i v1), (2, sv_i v2), (3, sv_i y), (4, sv_i N), (5, sv_i Y)]) rfl rfl ?_
                    refine sv_if_f C.1 C.2.1 (cnd := .eq) (off := 7) (tgt := 112) (by decide +kernel) (by decide) ⟨by omega, by omega⟩ (show ¬ (1 = 0) by omega) ?_
                    refine sv_go C.1 C.2.1 [(.iconst 0, 1)] (pc' := 109) (by decide +kernel) rfl (lv' := [(0, sv_r a), (1, sv_i v1), (2, sv_i v2), (3, sv_i y), (4, sv_i N), (5, sv_i Y)]) (st' := [sv_i 0, sv_i N]) rfl ?_
                    refine sv_goto C.1 C.2.1 (off := 4) (tgt := 113) (by decide +kernel) (by decide) ?_
                    refine sv_go C.1 C.2.1 [(.iadd, 1), (.istore 4, 2), (.iinc 5 1, 3)] (pc' := 119) (by decide +kernel) rfl (lv' := [(0, sv_r a), (1, sv_i v1), (2, sv_i v2), (3, sv_i y), (4, sv_i (N + 0)), (5, sv_i (Y + 1))]) (st' := []) rfl ?_
                    refine sv_goto C.1 C.2.1 (off := (-45)) (tgt := 74) (by decide +kernel) (by decide) ?_
                    exact ih40 (N + 0) (Y + 1)  (by omega) (by omega) (by omega)
              exact L39 (((365 + dy_lp y - 0 : Int)).toNat + 1) 0 0  (by omega) (by omega) (by omega)
            · refine sv_go C.1 C.2.1 [(.aload_n 0, 1)] (pc' := 43) (by decide +kernel) rfl (lv' := [(0, sv_r a), (1, sv_i v1), (2, sv_i v2), (3, sv_i y), (4, sv_i X)]) (st' := [sv_r a]) rfl ?_
              refine sv_gf C (index := 124) (ci := 10) (k := 32) (r := (RX11, TX11, 47)) (v := sv_r qc) (by decide +kernel) (by rw [k_a]; rfl) rfl (by decide) fl_X11_124 (congrArg sv_a kc22_0) ?_
              refine sv_go C.1 C.2.1 [(.iload 4, 2), (.aload_n 0, 1)] (pc' := 49) (by decide +kernel) rfl (lv' := [(0, sv_r a), (1, sv_i v1), (2, sv_i v2), (3, sv_i y), (4, sv_i X)]) (st' := [sv_r a, sv_i X, sv_r qc]) rfl ?_
              refine sv_gf C (index := 121) (ci := 10) (k := 31) (r := (RX11, TX11, 47)) (v := sv_r qo) (by decide +kernel) (by rw [k_a]; rfl) rfl (by decide) fl_X11_121 (congrArg sv_a kc22_1) ?_
              refine sv_go C.1 C.2.1 [(.iload 4, 2)] (pc' := 54) (by decide +kernel) rfl (lv' := [(0, sv_r a), (1, sv_i v1), (2, sv_i v2), (3, sv_i y), (4, sv_i X)]) (st' := [sv_i X, sv_r qo, sv_i X, sv_r qc]) rfl ?_
              refine sv_ia C (n := 366) (by decide +kernel) (by rw [kqo]; rfl) (by decide) (by omega) (by omega) ?_
              rw [show σ21 qo X.toNat = fx_of y X from hM1 qo kc22_1 (X) (by omega) (by omega)]
              have w53 := fx_of_in y X
              refine sv_is C (n := 366) (by decide +kernel) (by rw [kqc]; rfl) (by decide) (by omega) (by omega) ⟨by omega, by omega⟩ (hTA _ (by rw [kqc]; decide)) hok28 (fun hok54 => ?_)
              have hI56 := hIc22.up (a := qc) (k := (X : Int).toNat) (z := fx_of y X) (by rw [kqc]; exact trivial)
              have hF57 := hFc22.up (a := qc) (k := (X : Int).toNat) (z := fx_of y X) (by rw [kqc]; decide)
              generalize eσ55 : sv_up σ21 qc (X : Int).toNat (fx_of y X) = σ55 at hok54 hI56 hF57 ⊢
              have t58 : σ55 a 32 = (qc : Int) + 1 := by rw [← eσ55, sv_up_a (sv_ne k_a kqc (by decide))]; exact kc22_0
              have t59 : σ55 a 31 = (qo : Int) + 1 := by rw [← eσ55, sv_up_a (sv_ne k_a kqc (by decide))]; exact kc22_1
              refine sv_go C.1 C.2.1 [(.iinc 4 1, 3)] (pc' := 59) (by decide +kernel) rfl (lv' := [(0, sv_r a), (1, sv_i v1), (2, sv_i v2), (3, sv_i y), (4, sv_i (X + 1))]) (st' := []) rfl ?_
              refine sv_goto C.1 C.2.1 (off := (-26)) (tgt := 33) (by decide +kernel) (by decide) ?_
              exact ih24 (X + 1) σ55 hok54 hI56 hF57 t58 t59 (by omega) (by rw [← eσ55]; exact md_step hC rfl (by omega)) (fun h hh i h1 h2 => by have hb : h = qo := (by have q := t59; omega); rw [hb, ← eσ55, sv_up_a (sv_ne kqo kqc (by decide))]; exact hM1 qo (by have q := t59; rw [← eσ55, sv_up_a (sv_ne k_a kqc (by decide))] at q; exact q) i h1 h2) (by omega)
        exact L23 (((365 + dy_lp y - 0 : Int)).toNat + 1) 0 σ18 hok19 hIu20 hGu20 eqc eqo (by omega) (fun i h1 h2 => absurd h2 (by omega)) xu20 (by omega)
      · refine sv_same (st2 := [sv_i 0]) (lv2 := [(0, sv_r a), (1, sv_i v1), (2, sv_i v2), (3, sv_i y)]) rfl rfl ?_
        refine sv_if_f C.1 C.2.1 (cnd := .ne) (off := 6) (tgt := 24) (by decide +kernel) (by decide) ⟨by omega, by omega⟩ (show ¬ (0 ≠ 0) by omega) ?_
        refine sv_go C.1 C.2.1 [(.bipush (-2), 2)] (pc' := 23) (by decide +kernel) rfl (lv' := [(0, sv_r a), (1, sv_i v1), (2, sv_i v2), (3, sv_i y)]) (st' := [sv_i ((-2))]) rfl ?_
        exact sv_iret C hr (by decide +kernel) hok14 (⟨congrArg (fun q => [sv_i q]) (by first | omega | (unfold fx_unlike; omega)), hF⟩)
    · refine sv_same (st2 := [sv_i 0]) (lv2 := [(0, sv_r a), (1, sv_i v1), (2, sv_i v2), (3, sv_i y)]) rfl rfl ?_
      refine sv_if_t C.1 C.2.1 (cnd := .eq) (off := 10) (tgt := 21) (by decide +kernel) (by decide) ⟨by omega, by omega⟩ (show 0 = 0 by omega) ?_
      refine sv_go C.1 C.2.1 [(.bipush (-2), 2)] (pc' := 23) (by decide +kernel) rfl (lv' := [(0, sv_r a), (1, sv_i v1), (2, sv_i v2), (3, sv_i y)]) (st' := [sv_i ((-2))]) rfl ?_
      exact sv_iret C hr (by decide +kernel) hok9 (⟨congrArg (fun q => [sv_i q]) (by first | omega | (unfold fx_unlike; omega)), hF⟩)
  · refine sv_same (st2 := [sv_i 0]) (lv2 := [(0, sv_r a), (1, sv_i v1), (2, sv_i v2), (3, sv_i y)]) rfl rfl ?_
    refine sv_if_t C.1 C.2.1 (cnd := .eq) (off := 17) (tgt := 21) (by decide +kernel) (by decide) ⟨by omega, by omega⟩ (show 0 = 0 by omega) ?_
    refine sv_go C.1 C.2.1 [(.bipush (-2), 2)] (pc' := 23) (by decide +kernel) rfl (lv' := [(0, sv_r a), (1, sv_i v1), (2, sv_i v2), (3, sv_i y)]) (st' := [sv_i ((-2))]) rfl ?_
    exact sv_iret C hr (by decide +kernel) hok4 (⟨congrArg (fun q => [sv_i q]) (by first | omega | (unfold fx_unlike; omega)), hF⟩)

theorem cl_X11_319 : Cond.constantLong RX11 319 (1023) ∈ lw_good := sv_mem 1426 (by decide +kernel) rfl
theorem ci_X11_324 : Cond.constant RX11 324 (-268435456) ∈ lw_good := sv_mem 1427 (by decide +kernel) rfl
theorem fl_X11_145 : Cond.fieldLink RX11 145 "SaintsRoadModel" "lastTurn" "[I" ∈ lw_good := sv_mem 1143 (by decide +kernel) rfl
set_option maxHeartbeats 4000000 in
set_option maxRecDepth 100000 in
theorem ct_X11_rota (l : Launch) (g : sv_G) (A : Nat → Prop) (ty : Nat → Nat) (σ : Nat → Nat → Int) (hok : sv_ok ty σ) (hTA : ∀ q, ty q ≠ 0 → A q) (hI : sv_inv sp_1 ty σ) (hZ : sv_inv sp_0 ty σ) (a : Nat) (k_a : ty a = 10) (v1 : Int) (hv1 : sv_in v1) (f : Int) (hf : sv_in f) (t : Int) (ht : sv_in t) (v4 : Int) (hv4 : sv_in v4) (v5 : Int) (hv5 : sv_in v5) : sv_M l yX11_rota cX11_rota 12 (some .int) { frames := 3, cells := 0, slots := 0, locals := 69 } g A ty σ [sv_r a, sv_i v1, sv_i f, sv_i t, sv_i v4, sv_i v5] (fun r σ' => r = [sv_i (fx_rota v1 f t v4 v5)] ∧ sv_off [10, 91, 98, 99] ty σ σ') := by
  refine sv_enter (by decide) (Nat.le_of_ble_eq_true rfl) ?_
  intro p e s m args below meth c C hr
  have C : sv_C g A RX11 cX11_rota 12 p s m args meth c := C
  have hr : meth.sig.returnType = (some .int) := hr
  have hF : sv_off [10, 91, 98, 99] ty σ σ := sv_off.rf
  refine sv_same (st2 := []) (lv2 := [(0, sv_r a), (1, sv_i v1), (2, sv_i f), (3, sv_i t), (4, sv_i v4), (5, sv_i v5)]) rfl rfl ?_
  refine sv_go C.1 C.2.1 [(.iload_n 1, 1)] (pc' := 1) (by decide +kernel) rfl (lv' := [(0, sv_r a), (1, sv_i v1), (2, sv_i f), (3, sv_i t), (4, sv_i v4), (5, sv_i v5)]) (st' := [sv_i v1]) rfl ?_
  refine sv_cs C (index := 277) (k := 1) (rest := []) (by decide +kernel) (ct_X11_isPlace l g A ty σ hok (v1) ⟨by omega, by omega⟩) ⟨co_X11_isPlace, in_X11, ⟨by decide, by decide, by decide +kernel⟩, Nat.le_of_ble_eq_true rfl, Nat.le_of_ble_eq_true rfl⟩ ml_X11_277 st_X11_isPlace rfl rfl (Nat.le_of_ble_eq_true rfl) ⟨Nat.zero_le _, Nat.zero_le _⟩ (fun r2 σ3 hpo1 hok4 => ?_)
  obtain ⟨rfl, ⟨h5, rfl⟩ | ⟨h5, rfl⟩⟩ := hpo1
  · refine sv_same (st2 := [sv_i 1]) (lv2 := [(0, sv_r a), (1, sv_i v1), (2, sv_i f), (3, sv_i t), (4, sv_i v4), (5, sv_i v5)]) rfl rfl ?_
    refine sv_if_f C.1 C.2.1 (cnd := .eq) (off := 57) (tgt := 61) (by decide +kernel) (by decide) ⟨by omega, by omega⟩ (show ¬ (1 = 0) by omega) ?_
    refine sv_go C.1 C.2.1 [(.iload_n 2, 1)] (pc' := 8) (by decide +kernel) rfl (lv' := [(0, sv_r a), (1, sv_i v1), (2, sv_i f), (3, sv_i t), (4, sv_i v4), (5, sv_i v5)]) (st' := [sv_i f]) rfl ?_
    refine sv_cs C (index := 13) (k := 1) (rest := []) (by decide +kernel) (ct_X11_isYear l g A ty σ hok4 (f) ⟨by omega, by omega⟩) ⟨co_X11_isYear, in_X11, ⟨by decide, by decide, by decide +kernel⟩, Nat.le_of_ble_eq_true rfl, Nat.le_of_ble_eq_true rfl⟩ ml_X11_13 st_X11_isYear rfl rfl (Nat.le_of_ble_eq_true rfl) ⟨Nat.zero_le _, Nat.zero_le _⟩ (fun r7 σ8 hpo6 hok9 => ?_)
    obtain ⟨rfl, ⟨h10, rfl⟩ | ⟨h10, rfl⟩⟩ := hpo6
    · refine sv_same (st2 := [sv_i 1]) (lv2 := [(0, sv_r a), (1, sv_i v1), (2, sv_i f), (3, sv_i t), (4, sv_i v4), (5, sv_i v5)]) rfl rfl ?_
      refine sv_if_f C.1 C.2.1 (cnd := .eq) (off := 50) (tgt := 61) (by decide +kernel) (by decide) ⟨by omega, by omega⟩ (show ¬ (1 = 0) by omega) ?_
      refine sv_go C.1 C.2.1 [(.iload_n 3, 1)] (pc' := 15) (by decide +kernel) rfl (lv' := [(0, sv_r a), (1, sv_i v1), (2, sv_i f), (3, sv_i t), (4, sv_i v4), (5, sv_i v5)]) (st' := [sv_i t]) rfl ?_
      refine sv_i2l C.1 C.2.1 (by decide +kernel) ⟨by omega, by omega⟩ ?_
      refine sv_go C.1 C.2.1 [(.iload_n 2, 1)] (pc' := 17) (by decide +kernel) rfl (lv' := [(0, sv_r a), (1, sv_i v1), (2, sv_i f), (3, sv_i t), (4, sv_i v4), (5, sv_i v5)]) (st' := [sv_i f, sv_l t]) rfl ?_
      refine sv_i2l C.1 C.2.1 (by decide +kernel) ⟨by omega, by omega⟩ ?_
      refine sv_ldc2 C (index := 7) (z := 2000) (by decide +kernel) cl_X11_7 (by decide) ?_
      refine sv_cs C (index := 9) (k := 3) (rest := []) (by decide +kernel) (ct_X11_in l g A ty σ hok9 (t) ⟨by omega, by omega⟩ (f) ⟨by omega, by omega⟩ (2000) ⟨by omega, by omega⟩) ⟨co_X11_in, in_X11, ⟨by decide, by decide, by decide +kernel⟩, Nat.le_of_ble_eq_true rfl, Nat.le_of_ble_eq_true rfl⟩ ml_X11_9 st_X11_in rfl rfl (Nat.le_of_ble_eq_true rfl) ⟨Nat.zero_le _, Nat.zero_le _⟩ (fun r12 σ13 hpo11 hok14 => ?_)
      obtain ⟨rfl, ⟨h15, rfl⟩ | ⟨h15, rfl⟩⟩ := hpo11
      · refine sv_same (st2 := [sv_i 1]) (lv2 := [(0, sv_r a), (1, sv_i v1), (2, sv_i f), (3, sv_i t), (4, sv_i v4), (5, sv_i v5)]) rfl rfl ?_
        refine sv_if_f C.1 C.2.1 (cnd := .eq) (off := 37) (tgt := 61) (by decide +kernel) (by decide) ⟨by omega, by omega⟩ (show ¬ (1 = 0) by omega) ?_
        refine sv_go C.1 C.2.1 [(.iload_n 3, 1), (.iload_n 2, 1), (.isub, 1), (.bipush 19, 2)] (pc' := 32) (by decide +kernel) rfl (lv' := [(0, sv_r a), (1, sv_i v1), (2, sv_i f), (3, sv_i t), (4, sv_i v4), (5, sv_i v5)]) (st' := [sv_i 19, sv_i (t - f)]) rfl ?_
        refine sv_icmp C.1 C.2.1 (cnd := .gt) (off := 29) (tgt := 61) (by decide +kernel) (by decide) ⟨by omega, by omega⟩ ⟨by omega, by omega⟩ (fun (h16 : 19 < (t - f)) => ?_) (fun (h16 : ¬ (19 < (t - f))) => ?_)
        · refine sv_go C.1 C.2.1 [(.bipush (-2), 2)] (pc' := 63) (by decide +kernel) rfl (lv' := [(0, sv_r a), (1, sv_i v1), (2, sv_i f), (3, sv_i t), (4, sv_i v4), (5, sv_i v5)]) (st' := [sv_i ((-2))]) rfl ?_
          exact sv_iret C hr (by decide +kernel) hok14 (⟨congrArg (fun q => [sv_i q]) (by first | omega | (unfold fx_rota; omega)), hF⟩)
        · refine sv_go C.1 C.2.1 [(.iload 4, 2)] (pc' := 37) (by decide +kernel) rfl (lv' := [(0, sv_r a), (1, sv_i v1), (2, sv_i f), (3, sv_i t), (4, sv_i v4), (5, sv_i v5)]) (st' := [sv_i v4]) rfl ?_
          refine sv_i2l C.1 C.2.1 (by decide +kernel) ⟨by omega, by omega⟩ ?_
          refine sv_go C.1 C.2.1 [(.lconst 1, 1)] (pc' := 39) (by decide +kernel) rfl (lv' := [(0, sv_r a), (1, sv_i v1), (2, sv_i f), (3, sv_i t), (4, sv_i v4), (5, sv_i v5)]) (st' := [sv_l 1, sv_l v4]) rfl ?_
          refine sv_ldc2 C (index := 310) (z := 8) (by decide +kernel) cl_X11_310 (by decide) ?_
          refine sv_cs C (index := 9) (k := 3) (rest := []) (by decide +kernel) (ct_X11_in l g A ty σ hok14 (v4) ⟨by omega, by omega⟩ (1) ⟨by omega, by omega⟩ (8) ⟨by omega, by omega⟩) ⟨co_X11_in, in_X11, ⟨by decide, by decide, by decide +kernel⟩, Nat.le_of_ble_eq_true rfl, Nat.le_of_ble_eq_true rfl⟩ ml_X11_9 st_X11_in rfl rfl (Nat.le_of_ble_eq_true rfl) ⟨Nat.zero_le _, Nat.zero_le _⟩ (fun r18 σ19 hpo17 hok20 => ?_)
          obtain ⟨rfl, ⟨h21, rfl⟩ | ⟨h21, rfl⟩⟩ := hpo17
          · refine sv_same (st2 := [sv_i 1]) (lv2 := [(0, sv_r a), (1, sv_i v1), (2, sv_i f), (3, sv_i t), (4, sv_i v4), (5, sv_i v5)]) rfl rfl ?_
            refine sv_if_f C.1 C.2.1 (cnd := .eq) (off := 16) (tgt := 61) (by decide +kernel) (by decide) ⟨by omega, by omega⟩ (show ¬ (1 = 0) by omega) ?_
            refine sv_go C.1 C.2.1 [(.iload 5, 2)] (pc' := 50) (by decide +kernel) rfl (lv' := [(0, sv_r a), (1, sv_i v1), (2, sv_i f), (3, sv_i t), (4, sv_i v4), (5, sv_i v5)]) (st' := [sv_i v5]) rfl ?_
            refine sv_i2l C.1 C.2.1 (by decide +kernel) ⟨by omega, by omega⟩ ?_
            refine sv_go C.1 C.2.1 [(.lconst 1, 1)] (pc' := 52) (by decide +kernel) rfl (lv' := [(0, sv_r a), (1, sv_i v1), (2, sv_i f), (3, sv_i t), (4, sv_i v4), (5, sv_i v5)]) (st' := [sv_l 1, sv_l v5]) rfl ?_
            refine sv_ldc2 C (index := 319) (z := 1023) (by decide +kernel) cl_X11_319 (by decide) ?_
            refine sv_cs C (index := 9) (k := 3) (rest := []) (by decide +kernel) (ct_X11_in l g A ty σ hok20 (v5) ⟨by omega, by omega⟩ (1) ⟨by omega, by omega⟩ (1023) ⟨by omega, by omega⟩) ⟨co_X11_in, in_X11, ⟨by decide, by decide, by decide +kernel⟩, Nat.le_of_ble_eq_true rfl, Nat.le_of_ble_eq_true rfl⟩ ml_X11_9 st_X11_in rfl rfl (Nat.le_of_ble_eq_true rfl) ⟨Nat.zero_le _, Nat.zero_le _⟩ (fun r23 σ24 hpo22 hok25 => ?_)
            obtain ⟨rfl, ⟨h26, rfl⟩ | ⟨h26, rfl⟩⟩ := hpo22
            · refine sv_same (st2 := [sv_i 1]) (lv2 := [(0, sv_r a), (1, sv_i v1), (2, sv_i f), (3, sv_i t), (4, sv_i v4), (5, sv_i v5)]) rfl rfl ?_
              refine sv_if_t C.1 C.2.1 (cnd := .ne) (off := 6) (tgt := 64) (by decide +kernel) (by decide) ⟨by omega, by omega⟩ (show 1 ≠ 0 by omega) ?_
              refine sv_go C.1 C.2.1 [(.aload_n 0, 1), (.iconst 0, 1)] (pc' := 66) (by decide +kernel) rfl (lv' := [(0, sv_r a), (1, sv_i v1), (2, sv_i f), (3, sv_i t), (4, sv_i v4), (5, sv_i v5)]) (st' := [sv_i 0, sv_r a]) rfl ?_
              refine sv_pf C (index := 321) (ci := 10) (k := 40) (r := (RX11, TX11, 47)) (z := 0) (by decide +kernel) (by rw [k_a]; rfl) rfl (by decide) rfl fl_X11_321 rfl (Or.inl rfl) ⟨by omega, by omega⟩ (hTA _ (by rw [k_a]; decide)) hok25 (fun hok27 => ?_)
              have hI29 := hI.up (a := a) (k := 40) (z := 0) (by rw [k_a]; exact trivial)
              have hF30 := hF.up (a := a) (k := 40) (z := 0) (by rw [k_a]; decide)
              generalize eσ28 : sv_up σ a 40 0 = σ28 at hok27 hI29 hF30 ⊢
              have t31 : σ28 a 40 = 0 := by rw [← eσ28]; exact sv_up_s _ _ _ _
              refine sv_go C.1 C.2.1 [(.iconst 0, 1), (.istore 6, 2)] (pc' := 72) (by decide +kernel) rfl (lv' := [(0, sv_r a), (1, sv_i v1), (2, sv_i f), (3, sv_i t), (4, sv_i v4), (5, sv_i v5), (6, sv_i 0)]) (st' := []) rfl ?_
              have L34 : ∀ (n : Nat) (X : Int) (σ32 : Nat → Nat → Int), (sv_ok ty σ32) → (sv_inv sp_1 ty σ32) → (sv_off [10, 91, 98, 99] ty σ σ32) → (σ32 a 40 = 0) → (0 ≤ X ∧ X ≤ 10) → (10 - X) < (n : Int) → sv_E p l e { frames := 3, cells := 0, slots := 0, locals := 69 } s m args below meth c 12 g A ty (fun r σ' => r = [sv_i (fx_rota v1 f t v4 v5)] ∧ sv_off [10, 91, 98, 99] ty σ σ') σ32 72 [(0, sv_r a), (1, sv_i v1), (2, sv_i f), (3, sv_i t), (4, sv_i v4), (5, sv_i v5), (6, sv_i X)] [] := by
                intro n
                induction n with
                | zero => intro X σ32 hokc33 hIc33 hFc33 kc33_0 hX hmu; exact absurd hmu (by omega)
                | succ n ih35 =>
                  intro X σ32 hokc33 hIc33 hFc33 kc33_0 hX hmu
                  refine sv_go C.1 C.2.1 [(.iload 6, 2), (.bipush 10, 2)] (pc' := 76) (by decide +kernel) rfl (lv' := [(0, sv_r a), (1, sv_i v1), (2, sv_i f), (3, sv_i t), (4, sv_i v4), (5, sv_i v5), (6, sv_i X)]) (st' := [sv_i 10, sv_i X]) rfl ?_
                  refine sv_icmp C.1 C.2.1 (cnd := .ge) (off := 25) (tgt := 101) (by decide +kernel) (by decide) ⟨by omega, by omega⟩ ⟨by omega, by omega⟩ (fun (h36 : 10 ≤ X) => ?_) (fun (h36 : ¬ (10 ≤ X)) => ?_)
                  · refine sv_go C.1 C.2.1 [(.iconst (-1), 1), (.istore 6, 2)] (pc' := 104) (by decide +kernel) rfl (lv' := [(0, sv_r a), (1, sv_i v1), (2, sv_i f), (3, sv_i t), (4, sv_i v4), (5, sv_i v5), (6, sv_i ((-1)))]) (st' := []) rfl ?_
                    refine sv_ldc_w C (index := 324) (z := -268435456) (by decide +kernel) ci_X11_324 (by decide) ?_
                    refine sv_go C.1 C.2.1 [(.istore 7, 2), (.iload_n 2, 1), (.istore 8, 2)] (pc' := 112) (by decide +kernel) rfl (lv' := [(0, sv_r a), (1, sv_i v1), (2, sv_i f), (3, sv_i t), (4, sv_i v4), (5, sv_i v5), (6, sv_i ((-1))), (7, sv_i ((-268435456))), (8, sv_i f)]) (st' := []) rfl ?_
                    obtain ⟨qo, eqo, kqo⟩ := hIc33.ref (k := 31) k_a rfl
                    have L39 : ∀ (n : Nat) (X : Int) (σ37 : Nat → Nat → Int), (sv_ok ty σ37) → (sv_inv sp_1 ty σ37) → (sv_off [10, 91, 98, 99] ty σ σ37) → (σ37 a 40 = 0) → (σ37 a 31 = (qo : Int) + 1) → (f ≤ X ∧ X ≤ t + 1) → (t + 1 - X) < (n : Int) → sv_E p l e { frames := 3, cells := 0, slots := 0, locals := 69 } s m args below meth c 12 g A ty (fun r σ' => r = [sv_i (fx_rota v1 f t v4 v5)] ∧ sv_off [10, 91, 98, 99] ty σ σ') σ37 112 [(0, sv_r a), (1, sv_i v1), (2, sv_i f), (3, sv_i t), (4, sv_i v4), (5, sv_i v5), (6, sv_i ((-1))), (7, sv_i ((-268435456))), (8, sv_i X)] [] := by
                      intro n
                      induction n with
                      | zero => intro X σ37 hokc38 hIc38 hFc38 kc38_0 kc38_1 hX2 hmu; exact absurd hmu (by omega)
                      | succ n ih40 =>
                        intro X σ37 hokc38 hIc38 hFc38 kc38_0 kc38_1 hX2 hmu
                        refine sv_go C.1 C.2.1 [(.iload 8, 2), (.iload_n 3, 1)] (pc' := 115) (by decide +kernel) rfl (lv' := [(0, sv_r a), (1, sv_i v1), (2, sv_i f), (3, sv_i t), (4, sv_i v4), (5, sv_i v5), (6, sv_i ((-1))), (7, sv_i ((-268435456))), (8, sv_i X)]) (st' := [sv_i t, sv_i X]) rfl ?_
                        refine sv_icmp C.1 C.2.1 (cnd := .gt) (off := 220) (tgt := 335) (by decide +kernel) (by decide) ⟨by omega, by omega⟩ ⟨by omega, by omega⟩ (fun (h41 : t < X) => ?_) (fun (h41 : ¬ (t < X)) => ?_)
                        · refine sv_go C.1 C.2.1 [(.aload_n 0, 1)] (pc' := 336) (by decide +kernel) rfl (lv' := [(0, sv_r a), (1, sv_i v1), (2, sv_i f), (3, sv_i t), (4, sv_i v4), (5, sv_i v5), (6, sv_i ((-1))), (7, sv_i ((-268435456))), (8, sv_i X)]) (st' := [sv_r a]) rfl ?_
                          refine sv_gf C (index := 321) (ci := 10) (k := 40) (r := (RX11, TX11, 47)) (v := sv_i 0) (by decide +kernel) (by rw [k_a]; rfl) rfl (by decide) fl_X11_321 (congrArg sv_i kc38_0) ?_
                          exact sv_iret C hr (by decide +kernel) hokc38 (⟨congrArg (fun q => [sv_i q]) (by first | omega | (unfold fx_rota; omega)), hFc38⟩)
                        · refine sv_go C.1 C.2.1 [(.aload_n 0, 1), (.iload_n 1, 1), (.iload 8, 2)] (pc' := 122) (by decide +kernel) rfl (lv' := [(0, sv_r a), (1, sv_i v1), (2, sv_i f), (3, sv_i t), (4, sv_i v4), (5, sv_i v5), (6, sv_i ((-1))), (7, sv_i ((-268435456))), (8, sv_i X)]) (st' := [sv_i X, sv_i v1, sv_r a]) rfl ?_
                          refine sv_cv C (index := 301) (k := 2) (rest := []) (ci := 10) (r := (RX11, TX11, 47)) (by decide +kernel) (ct_X11_lead l g A ty σ37 hokc38 hTA hIc38 a k_a (v1) ⟨by omega, by omega⟩ (X) ⟨by omega, by omega⟩) ⟨co_X11_lead, in_X11, ⟨by decide, by decide, by decide +kernel⟩, Nat.le_of_ble_eq_true rfl, Nat.le_of_ble_eq_true rfl⟩ ml_X11_301 im_X11_lead se_X11_lead (by rw [k_a]; rfl) rfl rfl rfl (Nat.le_of_ble_eq_true rfl) ⟨Nat.zero_le _, Nat.zero_le _⟩ (fun r43 σ44 hpo42 hok45 => ?_)
                          obtain ⟨rfl, hIu46, hFu46, xu46⟩ := hpo42
                          have hGu46 := hFc38.tr hFu46 (by decide)
                          have t47 : σ44 a 40 = 0 := (hFu46.at k_a (by decide)).trans kc38_0
                          have t48 : σ44 a 31 = (qo : Int) + 1 := (hFu46.at k_a (by decide)).trans kc38_1
                          refine sv_same (st2 := []) (lv2 := [(0, sv_r a), (1, sv_i v1), (2, sv_i f), (3, sv_i t), (4, sv_i v4), (5, sv_i v5), (6, sv_i ((-1))), (7, sv_i ((-268435456))), (8, sv_i X)]) rfl rfl ?_
                          refine sv_go C.1 C.2.1 [(.iconst 0, 1), (.istore 9, 2)] (pc' := 128) (by decide +kernel) rfl (lv' := [(0, sv_r a), (1, sv_i v1), (2, sv_i f), (3, sv_i t), (4, sv_i v4), (5, sv_i v5), (6, sv_i ((-1))), (7, sv_i ((-268435456))), (8, sv_i X), (9, sv_i 0)]) (st' := []) rfl ?_
                          have L49 : ∀ (n : Nat) (Y : Int) , (0 ≤ Y ∧ Y ≤ 366) → (366 - Y) < (n : Int) → sv_E p l e { frames := 3, cells := 0, slots := 0, locals := 69 } s m args below meth c 12 g A ty (fun r σ' => r = [sv_i (fx_rota v1 f t v4 v5)] ∧ sv_off [10, 91, 98, 99] ty σ σ') σ44 128 [(0, sv_r a), (1, sv_i v1), (2, sv_i f), (3, sv_i t), (4, sv_i v4), (5, sv_i v5), (6, sv_i ((-1))), (7, sv_i ((-268435456))), (8, sv_i X), (9, sv_i Y)] [] := by
                            intro n
                            induction n with
                            | zero => intro Y  hY hmu; exact absurd hmu (by omega)
                            | succ n ih50 =>
                              intro Y  hY hmu
                              refine sv_go C.1 C.2.1 [(.iload 9, 2), (.iload 8, 2)] (pc' := 132) (by decide +kernel) rfl (lv' := [(0, sv_r a), (1, sv_i v1), (2, sv_i f), (3, sv_i t), (4, sv_i v4), (5, sv_i v5), (6, sv_i ((-1))), (7, sv_i ((-268435456))), (8, sv_i X), (9, sv_i Y)]) (st' := [sv_i X, sv_i Y]) rfl ?_
                              refine sv_cs C (index := 16) (k := 1) (rest := [sv_i Y]) (by decide +kernel) (ct_X11_daysOf l g A ty σ44 hok45 (X) ⟨by omega, by omega⟩) ⟨co_X11_daysOf, in_X11, ⟨by decide, by decide, by decide +kernel⟩, Nat.le_of_ble_eq_true rfl, Nat.le_of_ble_eq_true rfl⟩ ml_X11_16 st_X11_daysOf rfl rfl (Nat.le_of_ble_eq_true rfl) ⟨Nat.zero_le _, Nat.zero_le _⟩ (fun r52 σ53 hpo51 hok54 => ?_)
                              obtain ⟨rfl, rfl⟩ := hpo51
                              have hn55 := dy_lp_in X
                              refine sv_same (st2 := [sv_i (365 + dy_lp X), sv_i Y]) (lv2 := [(0, sv_r a), (1, sv_i v1), (2, sv_i f), (3, sv_i t), (4, sv_i v4), (5, sv_i v5), (6, sv_i ((-1))), (7, sv_i ((-268435456))), (8, sv_i X), (9, sv_i Y)]) rfl rfl ?_
                              refine sv_icmp C.1 C.2.1 (cnd := .ge) (off := 194) (tgt := 329) (by decide +kernel) (by decide) ⟨by omega, by omega⟩ ⟨by omega, by omega⟩ (fun (h56 : (365 + dy_lp X) ≤ Y) => ?_) (fun (h56 : ¬ ((365 + dy_lp X) ≤ Y)) => ?_)
                              · refine sv_go C.1 C.2.1 [(.iinc 8 1, 3)] (pc' := 332) (by decide +kernel) rfl (lv' := [(0, sv_r a), (1, sv_i v1), (2, sv_i f), (3, sv_i t), (4, sv_i v4), (5, sv_i v5), (6, sv_i ((-1))), (7, sv_i ((-268435456))), (8, sv_i (X + 1)), (9, sv_i Y)]) (st' := []) rfl ?_
                                refine sv_goto C.1 C.2.1 (off := (-220)) (tgt := 112) (by decide +kernel) (by decide) ?_
                                refine sv_pick [0, 1, 2, 3, 4, 5, 6, 7, 8] (lv2 := [(0, sv_r a), (1, sv_i v1), (2, sv_i f), (3, sv_i t), (4, sv_i v4), (5, sv_i v5), (6, sv_i ((-1))), (7, sv_i ((-268435456))), (8, sv_i (X + 1))]) rfl ?_
                                exact ih40 (X + 1) σ44 hok54 hIu46 hGu46 t47 t48 (by omega) (by omega)
                              · refine sv_go C.1 C.2.1 [(.aload_n 0, 1)] (pc' := 139) (by decide +kernel) rfl (lv' := [(0, sv_r a), (1, sv_i v1), (2, sv_i f), (3, sv_i t), (4, sv_i v4), (5, sv_i v5), (6, sv_i ((-1))), (7, sv_i ((-268435456))), (8, sv_i X), (9, sv_i Y)]) (st' := [sv_r a]) rfl ?_
                                refine sv_gf C (index := 121) (ci := 10) (k := 31) (r := (RX11, TX11, 47)) (v := sv_r qo) (by decide +kernel) (by rw [k_a]; rfl) rfl (by decide) fl_X11_121 (congrArg sv_a t48) ?_
                                refine sv_go C.1 C.2.1 [(.iload 9, 2)] (pc' := 144) (by decide +kernel) rfl (lv' := [(0, sv_r a), (1, sv_i v1), (2, sv_i f), (3, sv_i t), (4, sv_i v4), (5, sv_i v5), (6, sv_i ((-1))), (7, sv_i ((-268435456))), (8, sv_i X), (9, sv_i Y)]) (st' := [sv_i Y, sv_r qo]) rfl ?_
                                refine sv_ia C (n := 366) (by decide +kernel) (by rw [kqo]; rfl) (by decide) (by omega) (by omega) ?_
                                rw [show σ44 qo Y.toNat = fx_of X Y from xu46 qo t48 (Y) (by omega) (by omega)]
                                have w57 := fx_of_in X Y
                                refine sv_if_t C.1 C.2.1 (cnd := .lt) (off := 178) (tgt := 323) (by decide +kernel) (by decide) ⟨by omega, by omega⟩ (show (fx_of X Y) < 0 by omega) ?_
                                refine sv_go C.1 C.2.1 [(.iinc 9 1, 3)] (pc' := 326) (by decide +kernel) rfl (lv' := [(0, sv_r a), (1, sv_i v1), (2, sv_i f), (3, sv_i t), (4, sv_i v4), (5, sv_i v5), (6, sv_i ((-1))), (7, sv_i ((-268435456))), (8, sv_i X), (9, sv_i (Y + 1))]) (st' := []) rfl ?_
                                refine sv_goto C.1 C.2.1 (off := (-198)) (tgt := 128) (by decide +kernel) (by decide) ?_
                                exact ih50 (Y + 1)  (by omega) (by omega)
                          exact L49 (((366 - 0 : Int)).toNat + 1) 0  (by omega) (by omega)
                    exact L39 (((t + 1 - f : Int)).toNat + 1) f σ32 hokc33 hIc33 hFc33 kc33_0 eqo (by omega) (by omega)
                  · refine sv_go C.1 C.2.1 [(.aload_n 0, 1)] (pc' := 80) (by decide +kernel) rfl (lv' := [(0, sv_r a), (1, sv_i v1), (2, sv_i f), (3, sv_i t), (4, sv_i v4), (5, sv_i v5), (6, sv_i X)]) (st' := [sv_r a]) rfl ?_
                    obtain ⟨q58, eq58, kq58⟩ := hIc33.ref (k := 38) k_a rfl
                    refine sv_gf C (index := 142) (ci := 10) (k := 38) (r := (RX11, TX11, 47)) (v := sv_r q58) (by decide +kernel) (by rw [k_a]; rfl) rfl (by decide) fl_X11_142 (congrArg sv_a eq58) ?_
                    refine sv_go C.1 C.2.1 [(.iload 6, 2), (.iconst 0, 1)] (pc' := 86) (by decide +kernel) rfl (lv' := [(0, sv_r a), (1, sv_i v1), (2, sv_i f), (3, sv_i t), (4, sv_i v4), (5, sv_i v5), (6, sv_i X)]) (st' := [sv_i 0, sv_i X, sv_r q58]) rfl ?_
                    refine sv_is C (n := 10) (by decide +kernel) (by rw [kq58]; rfl) (by decide) (by omega) (by omega) ⟨by omega, by omega⟩ (hTA _ (by rw [kq58]; decide)) hokc33 (fun hok59 => ?_)
                    have hI61 := hIc33.up (a := q58) (k := (X : Int).toNat) (z := 0) (by rw [kq58]; exact trivial)
                    have hF62 := hFc33.up (a := q58) (k := (X : Int).toNat) (z := 0) (by rw [kq58]; decide)
                    generalize eσ60 : sv_up σ32 q58 (X : Int).toNat 0 = σ60 at hok59 hI61 hF62 ⊢
                    have t63 : σ60 a 40 = 0 := by rw [← eσ60, sv_up_a (sv_ne k_a kq58 (by decide))]; exact kc33_0
                    have t64 : σ60 a 38 = (q58 : Int) + 1 := by rw [← eσ60, sv_up_a (sv_ne k_a kq58 (by decide))]; exact eq58
                    refine sv_go C.1 C.2.1 [(.aload_n 0, 1)] (pc' := 88) (by decide +kernel) rfl (lv' := [(0, sv_r a), (1, sv_i v1), (2, sv_i f), (3, sv_i t), (4, sv_i v4), (5, sv_i v5), (6, sv_i X)]) (st' := [sv_r a]) rfl ?_
                    obtain ⟨q65, eq65, kq65⟩ := hI61.ref (k := 39) k_a rfl
                    refine sv_gf C (index := 145) (ci := 10) (k := 39) (r := (RX11, TX11, 47)) (v := sv_r q65) (by decide +kernel) (by rw [k_a]; rfl) rfl (by decide) fl_X11_145 (congrArg sv_a eq65) ?_
                    refine sv_go C.1 C.2.1 [(.iload 6, 2), (.iconst (-1), 1)] (pc' := 94) (by decide +kernel) rfl (lv' := [(0, sv_r a), (1, sv_i v1), (2, sv_i f), (3, sv_i t), (4, sv_i v4), (5, sv_i v5), (6, sv_i X)]) (st' := [sv_i ((-1)), sv_i X, sv_r q65]) rfl ?_
                    refine sv_is C (n := 10) (by decide +kernel) (by rw [kq65]; rfl) (by decide) (by omega) (by omega) ⟨by omega, by omega⟩ (hTA _ (by rw [kq65]; decide)) hok59 (fun hok66 => ?_)
                    have hI68 := hI61.up (a := q65) (k := (X : Int).toNat) (z := (-1)) (by rw [kq65]; exact trivial)
                    have hF69 := hF62.up (a := q65) (k := (X : Int).toNat) (z := (-1)) (by rw [kq65]; decide)
                    generalize eσ67 : sv_up σ60 q65 (X : Int).toNat ((-1)) = σ67 at hok66 hI68 hF69 ⊢
                    have t70 : σ67 a 40 = 0 := by rw [← eσ67, sv_up_a (sv_ne k_a kq65 (by decide))]; exact t63
                    have t71 : σ67 a 38 = (q58 : Int) + 1 := by rw [← eσ67, sv_up_a (sv_ne k_a kq65 (by decide))]; exact t64
                    have t72 : σ67 a 39 = (q65 : Int) + 1 := by rw [← eσ67, sv_up_a (sv_ne k_a kq65 (by decide))]; exact eq65
                    refine sv_go C.1 C.2.1 [(.iinc 6 1, 3)] (pc' := 98) (by decide +kernel) rfl (lv' := [(0, sv_r a), (1, sv_i v1), (2, sv_i f), (3, sv_i t), (4, sv_i v4), (5, sv_i v5), (6, sv_i (X + 1))]) (st' := []) rfl ?_
                    refine sv_goto C.1 C.2.1 (off := (-26)) (tgt := 72) (by decide +kernel) (by decide) ?_
                    exact ih35 (X + 1) σ67 hok66 hI68 hF69 t70 (by omega) (by omega)
              exact L34 (((10 - 0 : Int)).toNat + 1) 0 σ28 hok27 hI29 hF30 t31 (by omega) (by omega)
            · refine sv_same (st2 := [sv_i 0]) (lv2 := [(0, sv_r a), (1, sv_i v1), (2, sv_i f), (3, sv_i t), (4, sv_i v4), (5, sv_i v5)]) rfl rfl ?_
              refine sv_if_f C.1 C.2.1 (cnd := .ne) (off := 6) (tgt := 64) (by decide +kernel) (by decide) ⟨by omega, by omega⟩ (show ¬ (0 ≠ 0) by omega) ?_
              refine sv_go C.1 C.2.1 [(.bipush (-2), 2)] (pc' := 63) (by decide +kernel) rfl (lv' := [(0, sv_r a), (1, sv_i v1), (2, sv_i f), (3, sv_i t), (4, sv_i v4), (5, sv_i v5)]) (st' := [sv_i ((-2))]) rfl ?_
              exact sv_iret C hr (by decide +kernel) hok25 (⟨congrArg (fun q => [sv_i q]) (by first | omega | (unfold fx_rota; omega)), hF⟩)
          · refine sv_same (st2 := [sv_i 0]) (lv2 := [(0, sv_r a), (1, sv_i v1), (2, sv_i f), (3, sv_i t), (4, sv_i v4), (5, sv_i v5)]) rfl rfl ?_
            refine sv_if_t C.1 C.2.1 (cnd := .eq) (off := 16) (tgt := 61) (by decide +kernel) (by decide) ⟨by omega, by omega⟩ (show 0 = 0 by omega) ?_
            refine sv_go C.1 C.2.1 [(.bipush (-2), 2)] (pc' := 63) (by decide +kernel) rfl (lv' := [(0, sv_r a), (1, sv_i v1), (2, sv_i f), (3, sv_i t), (4, sv_i v4), (5, sv_i v5)]) (st' := [sv_i ((-2))]) rfl ?_
            exact sv_iret C hr (by decide +kernel) hok20 (⟨congrArg (fun q => [sv_i q]) (by first | omega | (unfold fx_rota; omega)), hF⟩)
      · refine sv_same (st2 := [sv_i 0]) (lv2 := [(0, sv_r a), (1, sv_i v1), (2, sv_i f), (3, sv_i t), (4, sv_i v4), (5, sv_i v5)]) rfl rfl ?_
        refine sv_if_t C.1 C.2.1 (cnd := .eq) (off := 37) (tgt := 61) (by decide +kernel) (by decide) ⟨by omega, by omega⟩ (show 0 = 0 by omega) ?_
        refine sv_go C.1 C.2.1 [(.bipush (-2), 2)] (pc' := 63) (by decide +kernel) rfl (lv' := [(0, sv_r a), (1, sv_i v1), (2, sv_i f), (3, sv_i t), (4, sv_i v4), (5, sv_i v5)]) (st' := [sv_i ((-2))]) rfl ?_
        exact sv_iret C hr (by decide +kernel) hok14 (⟨congrArg (fun q => [sv_i q]) (by first | omega | (unfold fx_rota; omega)), hF⟩)
    · refine sv_same (st2 := [sv_i 0]) (lv2 := [(0, sv_r a), (1, sv_i v1), (2, sv_i f), (3, sv_i t), (4, sv_i v4), (5, sv_i v5)]) rfl rfl ?_
      refine sv_if_t C.1 C.2.1 (cnd := .eq) (off := 50) (tgt := 61) (by decide +kernel) (by decide) ⟨by omega, by omega⟩ (show 0 = 0 by omega) ?_
      refine sv_go C.1 C.2.1 [(.bipush (-2), 2)] (pc' := 63) (by decide +kernel) rfl (lv' := [(0, sv_r a), (1, sv_i v1), (2, sv_i f), (3, sv_i t), (4, sv_i v4), (5, sv_i v5)]) (st' := [sv_i ((-2))]) rfl ?_
      exact sv_iret C hr (by decide +kernel) hok9 (⟨congrArg (fun q => [sv_i q]) (by first | omega | (unfold fx_rota; omega)), hF⟩)
  · refine sv_same (st2 := [sv_i 0]) (lv2 := [(0, sv_r a), (1, sv_i v1), (2, sv_i f), (3, sv_i t), (4, sv_i v4), (5, sv_i v5)]) rfl rfl ?_
    refine sv_if_t C.1 C.2.1 (cnd := .eq) (off := 57) (tgt := 61) (by decide +kernel) (by decide) ⟨by omega, by omega⟩ (show 0 = 0 by omega) ?_
    refine sv_go C.1 C.2.1 [(.bipush (-2), 2)] (pc' := 63) (by decide +kernel) rfl (lv' := [(0, sv_r a), (1, sv_i v1), (2, sv_i f), (3, sv_i t), (4, sv_i v4), (5, sv_i v5)]) (st' := [sv_i ((-2))]) rfl ?_
    exact sv_iret C hr (by decide +kernel) hok4 (⟨congrArg (fun q => [sv_i q]) (by first | omega | (unfold fx_rota; omega)), hF⟩)
end
section
/-! a method with an exception table, on a road where none of it is taken -/
def sv_MW (l : Launch) (y : MethodName) (cc : ByteArray) (n : Nat) (ret : Option FieldType) (hh : List (Nat × Nat × Nat × Nat)) (rm : Room) (g : sv_G) (A : Nat → Prop) (ty : Nat → Nat) (σ : Nat → Nat → Int) (av : List sv_T) (po : List sv_T → (Nat → Nat → Int) → Prop) : Prop :=
  Met l y (Cond.codeWith y cc n ret hh :: lw_good) rm (sv_P g A ty σ av) (sv_Q g A ty po) 0 0 A
theorem sv_enterW {l : Launch} {y : MethodName} {cc : ByteArray} {n : Nat} {ret : Option FieldType} {hh : List (Nat × Nat × Nat × Nat)} {fr lo : Nat} {g : sv_G} {A : Nat → Prop} {ty : Nat → Nat} {σ : Nat → Nat → Int} {av : List sv_T} {po : List sv_T → (Nat → Nat → Int) → Prop} (hy : plainName y.cls = true) (hn : (lg_sl (av.map sv_den)).length ≤ n)
    (body : ∀ p e s m args below meth c, sv_C g A y.cls cc n p s m args meth c → meth.sig.returnType = ret → sv_E p l e { frames := fr, cells := 0, slots := 0, locals := lo } s m args below meth c n g A ty po σ 0 (sv_av 0 av) []) : sv_MW l y cc n ret hh { frames := fr, cells := 0, slots := 0, locals := lo } g A ty σ av po := by
  refine va_MetW (cc := cc) (maxL := n) (ret := ret) (hh := hh) hy rfl ?_
  intro p e s m args below meth c s₁ B hml hv
  obtain ⟨rfl, hH, hK⟩ := hv
  have hts := atoms_spec (ws := Cond.codeWith y cc n ret hh :: lw_good) B.pre
  have hown : s.vm.findClass y.cls = some m.cls := findClass_of_methodNamed B.named
  have hl := lv_entry (av.map sv_den) (n := n) hn
  rw [lg_entry_eq]
  rw [sv_av_eq] at hl
  exact body p e s m _ below meth c ⟨B.exec, B.bytes, hml, hown, fun w hw => hts w (List.mem_cons_of_mem _ hw), hK, B.notSynchronized⟩ B.returns s.heap [] _ hH va_S.rf hl
section SVCW
variable {p : Program} {l : Launch} {e : Env} {R : Room} {s : State} {m : MethodId} {args : Array Value} {below : List Frame} {meth : Method} {c : Code} {T : State} {locs : List Loc} {cells slots : Nat} {Q : State → Prop}
theorem sv_callVW (X : Stand p l e R s m args below meth c T locs cells slots) (hexec : p.tables.exec = Jvm.exec) {own C : String} {index : Nat} {y : MethodName} {bytes : ByteArray} {maxL : Nat} {ret : Option FieldType} {hh : List (Nat × Nat × Nat × Nat)}
    (hown : s.vm.findClass own = some m.cls) (hlink : (Cond.methodLink own index y).before args s = true) (hinst : (Cond.instanceMethod y).before args s = true) (hsel : (Cond.selects C y y).before args s = true)
    (hcode : (Cond.codeWith y bytes maxL ret hh).before args s = true) (hy : y.cls ≠ "java/lang/invoke/MethodHandle" ∧ y.cls ≠ "java/lang/invoke/VarHandle")
    {W : Nat} {Pre : Pt → Array Value → Prop} {Post : Pt → Array Value → Option Value → Pt → Prop} (hK : Back l R p e below s args y 3 W Pre Post)
    {b : Addr} {cellB : Cell} (hcell : T.heap[b]? = some cellB) (hobj : cellB.vm.isStatics = false) (hcls : s.vm.findClass C = some cellB.cls)
    {g : JFrame} (hg : g.method = m) (hsize : g.locals.size = c.maxLocals) {argsL rest : List Value} (hlen : ∀ sig, parseMethodDescriptor y.desc = some sig → argsL.length = sig.parameters.length)
    (hstack : g.stack = argsL.reverse ++ .ref b :: rest) (hW : 2 * g.monitorRoom + (rest.map fun v => v.category).sum ≤ W) (hdg : decode c.code g.pc = .ok (.invokevirtual index, 3))
    (hpre : ∀ vm₁, s.WarmedH vm₁ → Pre ⟨T.setVm vm₁, locs, cells, slots⟩ (Value.ref b :: argsL).toArray) :
    ∃ (v : Option Value) (vm₁ : Vm) (B : Pt), s.WarmedH vm₁ ∧ Stand p l e R s m args below meth c B.U B.locs B.cells B.slots ∧ Post ⟨T.setVm vm₁, locs, cells, slots⟩ (Value.ref b :: argsL).toArray v B ∧
      ∀ target, Steps p.tables e below (B.U.setTop { g with pc := g.pc + 3, stack := v.toList ++ rest }) target → Steps p.tables e below (T.setTop g) target := by
  obtain ⟨mk, methM, hnamed, hmethM, hstM, habM⟩ := Cond.instanceMethod_spec hinst
  obtain ⟨m9, methM', cM, hn9, hmethM', -, -, -, -, -, -, hsigM⟩ := Cond.codeWith_spec hcode
  cases hnamed.symm.trans hn9
  cases hmethM.symm.trans hmethM'
  obtain ⟨c2, r2, m2, q1, q2, q3, q4, kP, hkP, hkPi⟩ := Cond.selects_spec hsel
  cases hcls.symm.trans q1
  cases (State.methodFound?_of_named hnamed hy).symm.trans q2
  cases hnamed.symm.trans q3
  have hselP : selectMethod e.platform s.vm cellB.cls mk = .method mk := by rw [Launch.admits_selectMethod X.admits]; exact q4
  obtain ⟨vm₁, X₁, hstep₁⟩ := X.invokevirtual hexec hown hlink hnamed hmethM hstM hkP hkPi hy (a := b) (cell := cellB) hcell
    (fun z h => by rw [h] at hobj; cases hobj) hselP hmethM habM hkP hkPi (g := g) hg (argsL := argsL) (rest := rest) (hlen _ hsigM) hstack hdg
  obtain ⟨v, B, X', hpost, hsteps⟩ := hK m meth c ⟨T.setVm vm₁, locs, cells, slots⟩ { g with stack := rest } (.invokevirtual index) mk (Value.ref b :: argsL).toArray X₁ hg hsize hdg hW (X₁.named hnamed) (hpre vm₁ X₁.warmed)
  exact ⟨v, vm₁, B, X₁.warmed, X', hpost, fun target h => hstep₁ _ fun acts => by rw [doInvoke_state]; exact hsteps.trans h⟩
variable {cc : ByteArray} {pc nL : Nat} {A : Nat → Prop} {lv lv' : sv_L} {st st' rest : List sv_T} {g : sv_G} {own : String} {ty : Nat → Nat} {σ : Nat → Nat → Int}
theorem sv_cvW (C : sv_C g A own cc nL p s m args meth c) {y : MethodName} {bytes : ByteArray} {n : Nat} {ret : Option FieldType} {hh : List (Nat × Nat × Nat × Nat)} {fr lo k index a ci : Nat} {r : vw_C} {as : List sv_T} {po' : List sv_T → (Nat → Nat → Int) → Prop} (hd : decode cc pc = .ok (.invokevirtual index, 3)) (hM : sv_MW l y bytes n ret hh { frames := fr, cells := 0, slots := 0, locals := lo } g A ty σ (sv_r a :: as) po')
    (hco : Cond.codeWith y bytes n ret hh ∈ lw_good) (hini : Cond.initialized y.cls ∈ lw_good) (hnm : y.cls ≠ "java/lang/invoke/MethodHandle" ∧ y.cls ≠ "java/lang/invoke/VarHandle" ∧ (parseMethodDescriptor y.desc).map (fun d => d.parameters.length) = some k) (hfr : fr + 1 ≤ R.frames) (hlo : 8 + (n + 11) + lo ≤ R.locals)
    (hl : Cond.methodLink own index y ∈ lw_good) (hi : Cond.instanceMethod y ∈ lw_good) (hs : Cond.selects r.1 y y ∈ lw_good) (hk : sv_kT (ty a) = some (.inl ci)) (hr : vwCl[ci]? = some r) (hn : as.length = k) (hst : st = as.reverse ++ sv_r a :: rest) (hrm : (rest.map fun v => (sv_den v).category).sum ≤ 8) (hcs : cells ≤ R.cells ∧ slots ≤ R.slots)
    (kk : ∀ (r : List sv_T) (σ' : Nat → Nat → Int), po' r σ' → sv_ok ty σ' → sv_V p l e R s m args below meth c nL A cells slots Q (sv_H g ty σ') (pc + 3) lv (r ++ rest)) : sv_V p l e R s m args below meth c nL A cells slots Q (sv_H g ty σ) pc lv st := by
  intro H locs ls hH hS hll
  subst hst
  have hts := C.2.2.2.2.1
  refine sv_cont (mc0 := 0) (pc0 := 0) (po' := po') (av := (Value.ref a :: as.map sv_den).toArray) ?_ hS hll kk
  have hK : Back l R p e below s args y 3 8 (PreOf R 0 0 (sv_P g A ty σ (sv_r a :: as))) (PostOf (sv_Q g A ty po') 0 0 A) :=
    va_backW (hh := hh) (bytes := bytes) (maxL := n) (ret := ret) hM sv_Pblind rfl rfl hfr hlo (pay_in hts (sv_goodIn hco)) List.mem_cons_self (fun a' U hW => word_at hW (Or.inl (by first | rfl | simp [Cond.onTables, Cond.keeps, Cond.steady])) (hts _ hini))
  obtain ⟨cellB, hcB, hoB, hclB⟩ := sv_rcv C hH hk hr
  intro T hT X
  obtain ⟨v, vm₁, ⟨U', l2, c2, s2⟩, hW₁, X', ⟨g', mk, t, L, e1, e2, hq, h1, hL, h2, h3⟩, stp⟩ := sv_callVW X C.1 (C := r.1) (bytes := bytes) (maxL := n) (ret := ret) (hh := hh) C.2.2.2.1 (hts _ hl) (hts _ hi) (hts _ hs) (hts _ hco) ⟨hnm.1, hnm.2.1⟩ hK (by rw [hT]; exact hcB) hoB hclB (g := F0 m pc ls ((as.reverse ++ sv_r a :: rest).map sv_den)) rfl (hll.1.trans C.2.2.1.symm) (argsL := as.map sv_den) (rest := rest.map sv_den)
    (fun sig h => by rw [List.length_map, hn]; have h2 := hnm.2.2; rw [h] at h2; exact (Option.some.inj h2).symm) (by simp [sv_den_r]) (sv_room hrm) (by rw [C.2.1]; exact hd)
    (fun vm₁ hW₁ => ⟨hcs.1, hcs.2, sv_Pat (av := sv_r a :: as) C.2.2.2.2.2.1 hH hS (T.setVm vm₁) hT hW₁⟩)
  dsimp only [Pt.U, Pt.locs, Pt.cells, Pt.slots] at X' e1 e2 h1 h2 h3 stp
  subst h1; subst h2; subst h3
  exact ⟨v, (T.setVm vm₁).calling g' mk (Value.ref a :: as.map sv_den).toArray, t, U', L, hT, X', hL, e1, e2, hq, stp⟩
end SVCW
end
section
theorem fl_X11_51 : Cond.fieldLink RX11 51 "SaintsRoadModel" "yieldRank" "[I" ∈ lw_good := sv_mem 1105 (by decide +kernel) rfl
theorem fl_X11_54 : Cond.fieldLink RX11 54 "SaintsRoadModel" "yieldTimes" "[I" ∈ lw_good := sv_mem 1106 (by decide +kernel) rfl
theorem fl_X11_60 : Cond.fieldLink RX11 60 "SaintsRoadModel" "wax" "[I" ∈ lw_good := sv_mem 1108 (by decide +kernel) rfl
set_option maxHeartbeats 4000000 in
set_option maxRecDepth 100000 in
theorem ct_X11_clear (l : Launch) (g : sv_G) (A : Nat → Prop) (ty : Nat → Nat) (σ : Nat → Nat → Int) (hok : sv_ok ty σ) (hTA : ∀ q, ty q ≠ 0 → A q) (hI : sv_inv sp_1 ty σ) (a : Nat) (k_a : ty a = 10) (v1 : Int) (hv1 : 0 ≤ v1 ∧ v1 ≤ 4) : sv_M l yX11_clear cX11_clear 3 none { frames := 0, cells := 0, slots := 0, locals := 0 } g A ty σ [sv_r a, sv_i v1] (fun r σ' => r = [] ∧ sv_inv sp_1 ty σ' ∧ sv_off [60, 61, 62, 63, 64] ty σ σ') := by
  refine sv_enter (by decide) (Nat.le_of_ble_eq_true rfl) ?_
  intro p e s m args below meth c C hr
  have C : sv_C g A RX11 cX11_clear 3 p s m args meth c := C
  have hr : meth.sig.returnType = none := hr
  have hF : sv_off [60, 61, 62, 63, 64] ty σ σ := sv_off.rf
  refine sv_same (st2 := []) (lv2 := [(0, sv_r a), (1, sv_i v1)]) rfl rfl ?_
  refine sv_go C.1 C.2.1 [(.aload_n 0, 1)] (pc' := 1) (by decide +kernel) rfl (lv' := [(0, sv_r a), (1, sv_i v1)]) (st' := [sv_r a]) rfl ?_
  obtain ⟨q1, eq1, kq1⟩ := hI.ref (k := 0) k_a rfl
  refine sv_gf C (index := 47) (ci := 10) (k := 0) (r := (RX11, TX11, 47)) (v := sv_r q1) (by decide +kernel) (by rw [k_a]; rfl) rfl (by decide) fl_X11_47 (congrArg sv_a eq1) ?_
  refine sv_go C.1 C.2.1 [(.iload_n 1, 1), (.iconst 0, 1)] (pc' := 6) (by decide +kernel) rfl (lv' := [(0, sv_r a), (1, sv_i v1)]) (st' := [sv_i 0, sv_i v1, sv_r q1]) rfl ?_
  refine sv_is C (n := 5) (by decide +kernel) (by rw [kq1]; rfl) (by decide) (by omega) (by omega) ⟨by omega, by omega⟩ (hTA _ (by rw [kq1]; decide)) hok (fun hok2 => ?_)
  have hI4 := hI.up (a := q1) (k := (v1 : Int).toNat) (z := 0) (by rw [kq1]; exact ⟨by omega, by omega⟩)
  have hF5 := hF.up (a := q1) (k := (v1 : Int).toNat) (z := 0) (by rw [kq1]; decide)
  generalize eσ3 : sv_up σ q1 (v1 : Int).toNat 0 = σ3 at hok2 hI4 hF5 ⊢
  have t6 : σ3 a 0 = (q1 : Int) + 1 := by rw [← eσ3, sv_up_a (sv_ne k_a kq1 (by decide))]; exact eq1
  refine sv_go C.1 C.2.1 [(.aload_n 0, 1)] (pc' := 8) (by decide +kernel) rfl (lv' := [(0, sv_r a), (1, sv_i v1)]) (st' := [sv_r a]) rfl ?_
  obtain ⟨q7, eq7, kq7⟩ := hI4.ref (k := 1) k_a rfl
  refine sv_gf C (index := 51) (ci := 10) (k := 1) (r := (RX11, TX11, 47)) (v := sv_r q7) (by decide +kernel) (by rw [k_a]; rfl) rfl (by decide) fl_X11_51 (congrArg sv_a eq7) ?_
  refine sv_go C.1 C.2.1 [(.iload_n 1, 1), (.iconst 0, 1)] (pc' := 13) (by decide +kernel) rfl (lv' := [(0, sv_r a), (1, sv_i v1)]) (st' := [sv_i 0, sv_i v1, sv_r q7]) rfl ?_
  refine sv_is C (n := 5) (by decide +kernel) (by rw [kq7]; rfl) (by decide) (by omega) (by omega) ⟨by omega, by omega⟩ (hTA _ (by rw [kq7]; decide)) hok2 (fun hok8 => ?_)
  have hI10 := hI4.up (a := q7) (k := (v1 : Int).toNat) (z := 0) (by rw [kq7]; exact trivial)
  have hF11 := hF5.up (a := q7) (k := (v1 : Int).toNat) (z := 0) (by rw [kq7]; decide)
  generalize eσ9 : sv_up σ3 q7 (v1 : Int).toNat 0 = σ9 at hok8 hI10 hF11 ⊢
  have t12 : σ9 a 0 = (q1 : Int) + 1 := by rw [← eσ9, sv_up_a (sv_ne k_a kq7 (by decide))]; exact t6
  have t13 : σ9 a 1 = (q7 : Int) + 1 := by rw [← eσ9, sv_up_a (sv_ne k_a kq7 (by decide))]; exact eq7
  refine sv_go C.1 C.2.1 [(.aload_n 0, 1)] (pc' := 15) (by decide +kernel) rfl (lv' := [(0, sv_r a), (1, sv_i v1)]) (st' := [sv_r a]) rfl ?_
  obtain ⟨q14, eq14, kq14⟩ := hI10.ref (k := 2) k_a rfl
  refine sv_gf C (index := 54) (ci := 10) (k := 2) (r := (RX11, TX11, 47)) (v := sv_r q14) (by decide +kernel) (by rw [k_a]; rfl) rfl (by decide) fl_X11_54 (congrArg sv_a eq14) ?_
  refine sv_go C.1 C.2.1 [(.iload_n 1, 1), (.iconst 0, 1)] (pc' := 20) (by decide +kernel) rfl (lv' := [(0, sv_r a), (1, sv_i v1)]) (st' := [sv_i 0, sv_i v1, sv_r q14]) rfl ?_
  refine sv_is C (n := 5) (by decide +kernel) (by rw [kq14]; rfl) (by decide) (by omega) (by omega) ⟨by omega, by omega⟩ (hTA _ (by rw [kq14]; decide)) hok8 (fun hok15 => ?_)
  have hI17 := hI10.up (a := q14) (k := (v1 : Int).toNat) (z := 0) (by rw [kq14]; exact trivial)
  have hF18 := hF11.up (a := q14) (k := (v1 : Int).toNat) (z := 0) (by rw [kq14]; decide)
  generalize eσ16 : sv_up σ9 q14 (v1 : Int).toNat 0 = σ16 at hok15 hI17 hF18 ⊢
  have t19 : σ16 a 0 = (q1 : Int) + 1 := by rw [← eσ16, sv_up_a (sv_ne k_a kq14 (by decide))]; exact t12
  have t20 : σ16 a 1 = (q7 : Int) + 1 := by rw [← eσ16, sv_up_a (sv_ne k_a kq14 (by decide))]; exact t13
  have t21 : σ16 a 2 = (q14 : Int) + 1 := by rw [← eσ16, sv_up_a (sv_ne k_a kq14 (by decide))]; exact eq14
  refine sv_go C.1 C.2.1 [(.aload_n 0, 1)] (pc' := 22) (by decide +kernel) rfl (lv' := [(0, sv_r a), (1, sv_i v1)]) (st' := [sv_r a]) rfl ?_
  obtain ⟨q22, eq22, kq22⟩ := hI17.ref (k := 3) k_a rfl
  refine sv_gf C (index := 57) (ci := 10) (k := 3) (r := (RX11, TX11, 47)) (v := sv_r q22) (by decide +kernel) (by rw [k_a]; rfl) rfl (by decide) fl_X11_57 (congrArg sv_a eq22) ?_
  refine sv_go C.1 C.2.1 [(.iload_n 1, 1), (.iconst 0, 1)] (pc' := 27) (by decide +kernel) rfl (lv' := [(0, sv_r a), (1, sv_i v1)]) (st' := [sv_i 0, sv_i v1, sv_r q22]) rfl ?_
  refine sv_is C (n := 5) (by decide +kernel) (by rw [kq22]; rfl) (by decide) (by omega) (by omega) ⟨by omega, by omega⟩ (hTA _ (by rw [kq22]; decide)) hok15 (fun hok23 => ?_)
  have hI25 := hI17.up (a := q22) (k := (v1 : Int).toNat) (z := 0) (by rw [kq22]; exact trivial)
  have hF26 := hF18.up (a := q22) (k := (v1 : Int).toNat) (z := 0) (by rw [kq22]; decide)
  generalize eσ24 : sv_up σ16 q22 (v1 : Int).toNat 0 = σ24 at hok23 hI25 hF26 ⊢
  have t27 : σ24 a 0 = (q1 : Int) + 1 := by rw [← eσ24, sv_up_a (sv_ne k_a kq22 (by decide))]; exact t19
  have t28 : σ24 a 1 = (q7 : Int) + 1 := by rw [← eσ24, sv_up_a (sv_ne k_a kq22 (by decide))]; exact t20
  have t29 : σ24 a 2 = (q14 : Int) + 1 := by rw [← eσ24, sv_up_a (sv_ne k_a kq22 (by decide))]; exact t21
  have t30 : σ24 a 3 = (q22 : Int) + 1 := by rw [← eσ24, sv_up_a (sv_ne k_a kq22 (by decide))]; exact eq22
  refine sv_go C.1 C.2.1 [(.iconst 0, 1), (.istore_n 2, 1)] (pc' := 30) (by decide +kernel) rfl (lv' := [(0, sv_r a), (1, sv_i v1), (2, sv_i 0)]) (st' := []) rfl ?_
  have L33 : ∀ (n : Nat) (X : Int) (σ31 : Nat → Nat → Int), (sv_ok ty σ31) → (sv_inv sp_1 ty σ31) → (sv_off [60, 61, 62, 63, 64] ty σ σ31) → (σ31 a 0 = (q1 : Int) + 1) → (σ31 a 1 = (q7 : Int) + 1) → (σ31 a 2 = (q14 : Int) + 1) → (σ31 a 3 = (q22 : Int) + 1) → (0 ≤ X ∧ X ≤ 9) → (9 - X) < (n : Int) → sv_E p l e { frames := 0, cells := 0, slots := 0, locals := 0 } s m args below meth c 3 g A ty (fun r σ' => r = [] ∧ sv_inv sp_1 ty σ' ∧ sv_off [60, 61, 62, 63, 64] ty σ σ') σ31 30 [(0, sv_r a), (1, sv_i v1), (2, sv_i X)] [] := by
    intro n
    induction n with
    | zero => intro X σ31 hokc32 hIc32 hFc32 kc32_0 kc32_1 kc32_2 kc32_3 hX hmu; exact absurd hmu (by omega)
    | succ n ih34 =>
      intro X σ31 hokc32 hIc32 hFc32 kc32_0 kc32_1 kc32_2 kc32_3 hX hmu
      refine sv_go C.1 C.2.1 [(.iload_n 2, 1), (.bipush 9, 2)] (pc' := 33) (by decide +kernel) rfl (lv' := [(0, sv_r a), (1, sv_i v1), (2, sv_i X)]) (st' := [sv_i 9, sv_i X]) rfl ?_
      refine sv_icmp C.1 C.2.1 (cnd := .ge) (off := 21) (tgt := 54) (by decide +kernel) (by decide) ⟨by omega, by omega⟩ ⟨by omega, by omega⟩ (fun (h35 : 9 ≤ X) => ?_) (fun (h35 : ¬ (9 ≤ X)) => ?_)
      · exact sv_vret C hr (by decide +kernel) hokc32 (⟨rfl, hIc32, hFc32⟩)
      · refine sv_go C.1 C.2.1 [(.aload_n 0, 1)] (pc' := 37) (by decide +kernel) rfl (lv' := [(0, sv_r a), (1, sv_i v1), (2, sv_i X)]) (st' := [sv_r a]) rfl ?_
        obtain ⟨q36, eq36, kq36⟩ := hIc32.ref (k := 4) k_a rfl
        refine sv_gf C (index := 60) (ci := 10) (k := 4) (r := (RX11, TX11, 47)) (v := sv_r q36) (by decide +kernel) (by rw [k_a]; rfl) rfl (by decide) fl_X11_60 (congrArg sv_a eq36) ?_
        refine sv_go C.1 C.2.1 [(.bipush 9, 2), (.iload_n 1, 1), (.imul, 1), (.iload_n 2, 1), (.iadd, 1), (.iconst 0, 1)] (pc' := 47) (by decide +kernel) rfl (lv' := [(0, sv_r a), (1, sv_i v1), (2, sv_i X)]) (st' := [sv_i 0, sv_i ((9 * v1) + X), sv_r q36]) rfl ?_
        refine sv_is C (n := 45) (by decide +kernel) (by rw [kq36]; rfl) (by decide) (by omega) (by omega) ⟨by omega, by omega⟩ (hTA _ (by rw [kq36]; decide)) hokc32 (fun hok37 => ?_)
        have hI39 := hIc32.up (a := q36) (k := ((9 * v1) + X : Int).toNat) (z := 0) (by rw [kq36]; exact trivial)
        have hF40 := hFc32.up (a := q36) (k := ((9 * v1) + X : Int).toNat) (z := 0) (by rw [kq36]; decide)
        generalize eσ38 : sv_up σ31 q36 ((9 * v1) + X : Int).toNat 0 = σ38 at hok37 hI39 hF40 ⊢
        have t41 : σ38 a 0 = (q1 : Int) + 1 := by rw [← eσ38, sv_up_a (sv_ne k_a kq36 (by decide))]; exact kc32_0
        have t42 : σ38 a 1 = (q7 : Int) + 1 := by rw [← eσ38, sv_up_a (sv_ne k_a kq36 (by decide))]; exact kc32_1
        have t43 : σ38 a 2 = (q14 : Int) + 1 := by rw [← eσ38, sv_up_a (sv_ne k_a kq36 (by decide))]; exact kc32_2
        have t44 : σ38 a 3 = (q22 : Int) + 1 := by rw [← eσ38, sv_up_a (sv_ne k_a kq36 (by decide))]; exact kc32_3
        have t45 : σ38 a 4 = (q36 : Int) + 1 := by rw [← eσ38, sv_up_a (sv_ne k_a kq36 (by decide))]; exact eq36
        refine sv_go C.1 C.2.1 [(.iinc 2 1, 3)] (pc' := 51) (by decide +kernel) rfl (lv' := [(0, sv_r a), (1, sv_i v1), (2, sv_i (X + 1))]) (st' := []) rfl ?_
        refine sv_goto C.1 C.2.1 (off := (-21)) (tgt := 30) (by decide +kernel) (by decide) ?_
        exact ih34 (X + 1) σ38 hok37 hI39 hF40 t41 t42 t43 t44 (by omega) (by omega)
  exact L33 (((9 - 0 : Int)).toNat + 1) 0 σ24 hok23 hI25 hF26 t27 t28 t29 t30 (by omega) (by omega)

set_option maxHeartbeats 4000000 in
set_option maxRecDepth 100000 in
theorem ct_X11_become (l : Launch) (g : sv_G) (A : Nat → Prop) (ty : Nat → Nat) (σ : Nat → Nat → Int) (hok : sv_ok ty σ) (hTA : ∀ q, ty q ≠ 0 → A q) (hI : sv_inv sp_1 ty σ) (a : Nat) (k_a : ty a = 10) (v1 : Int) (hv1 : 0 ≤ v1 ∧ v1 ≤ 4) (v2 : Int) (hv2 : 0 ≤ v2 ∧ v2 ≤ 4) : sv_M l yX11_become cX11_become 7 none { frames := 0, cells := 0, slots := 0, locals := 0 } g A ty σ [sv_r a, sv_i v1, sv_i v2] (fun r σ' => r = [] ∧ sv_inv sp_1 ty σ' ∧ sv_off [60, 61, 62, 63, 64] ty σ σ') := by
  refine sv_enter (by decide) (Nat.le_of_ble_eq_true rfl) ?_
  intro p e s m args below meth c C hr
  have C : sv_C g A RX11 cX11_become 7 p s m args meth c := C
  have hr : meth.sig.returnType = none := hr
  have hF : sv_off [60, 61, 62, 63, 64] ty σ σ := sv_off.rf
  refine sv_same (st2 := []) (lv2 := [(0, sv_r a), (1, sv_i v1), (2, sv_i v2)]) rfl rfl ?_
  refine sv_go C.1 C.2.1 [(.aload_n 0, 1)] (pc' := 1) (by decide +kernel) rfl (lv' := [(0, sv_r a), (1, sv_i v1), (2, sv_i v2)]) (st' := [sv_r a]) rfl ?_
  obtain ⟨q1, eq1, kq1⟩ := hI.ref (k := 0) k_a rfl
  refine sv_gf C (index := 47) (ci := 10) (k := 0) (r := (RX11, TX11, 47)) (v := sv_r q1) (by decide +kernel) (by rw [k_a]; rfl) rfl (by decide) fl_X11_47 (congrArg sv_a eq1) ?_
  refine sv_go C.1 C.2.1 [(.iload_n 1, 1), (.aload_n 0, 1)] (pc' := 6) (by decide +kernel) rfl (lv' := [(0, sv_r a), (1, sv_i v1), (2, sv_i v2)]) (st' := [sv_r a, sv_i v1, sv_r q1]) rfl ?_
  refine sv_gf C (index := 47) (ci := 10) (k := 0) (r := (RX11, TX11, 47)) (v := sv_r q1) (by decide +kernel) (by rw [k_a]; rfl) rfl (by decide) fl_X11_47 (congrArg sv_a eq1) ?_
  refine sv_go C.1 C.2.1 [(.iload_n 2, 1)] (pc' := 10) (by decide +kernel) rfl (lv' := [(0, sv_r a), (1, sv_i v1), (2, sv_i v2)]) (st' := [sv_i v2, sv_r q1, sv_i v1, sv_r q1]) rfl ?_
  refine sv_ia C (n := 5) (by decide +kernel) (by rw [kq1]; rfl) (by decide) (by omega) (by omega) ?_
  have w2 : σ q1 v2.toNat = 0 := by have q := hI.num (k := (v2 : Int).toNat) kq1 rfl; omega
  rw [w2]
  refine sv_is C (n := 5) (by decide +kernel) (by rw [kq1]; rfl) (by decide) (by omega) (by omega) ⟨by omega, by omega⟩ (hTA _ (by rw [kq1]; decide)) hok (fun hok3 => ?_)
  have hI5 := hI.up (a := q1) (k := (v1 : Int).toNat) (z := 0) (by rw [kq1]; exact ⟨by omega, by omega⟩)
  have hF6 := hF.up (a := q1) (k := (v1 : Int).toNat) (z := 0) (by rw [kq1]; decide)
  generalize eσ4 : sv_up σ q1 (v1 : Int).toNat 0 = σ4 at hok3 hI5 hF6 ⊢
  have t7 : σ4 a 0 = (q1 : Int) + 1 := by rw [← eσ4, sv_up_a (sv_ne k_a kq1 (by decide))]; exact eq1
  refine sv_go C.1 C.2.1 [(.aload_n 0, 1)] (pc' := 13) (by decide +kernel) rfl (lv' := [(0, sv_r a), (1, sv_i v1), (2, sv_i v2)]) (st' := [sv_r a]) rfl ?_
  obtain ⟨q8, eq8, kq8⟩ := hI5.ref (k := 1) k_a rfl
  refine sv_gf C (index := 51) (ci := 10) (k := 1) (r := (RX11, TX11, 47)) (v := sv_r q8) (by decide +kernel) (by rw [k_a]; rfl) rfl (by decide) fl_X11_51 (congrArg sv_a eq8) ?_
  refine sv_go C.1 C.2.1 [(.iload_n 1, 1), (.aload_n 0, 1)] (pc' := 18) (by decide +kernel) rfl (lv' := [(0, sv_r a), (1, sv_i v1), (2, sv_i v2)]) (st' := [sv_r a, sv_i v1, sv_r q8]) rfl ?_
  refine sv_gf C (index := 51) (ci := 10) (k := 1) (r := (RX11, TX11, 47)) (v := sv_r q8) (by decide +kernel) (by rw [k_a]; rfl) rfl (by decide) fl_X11_51 (congrArg sv_a eq8) ?_
  refine sv_go C.1 C.2.1 [(.iload_n 2, 1)] (pc' := 22) (by decide +kernel) rfl (lv' := [(0, sv_r a), (1, sv_i v1), (2, sv_i v2)]) (st' := [sv_i v2, sv_r q8, sv_i v1, sv_r q8]) rfl ?_
  refine sv_ia C (n := 5) (by decide +kernel) (by rw [kq8]; rfl) (by decide) (by omega) (by omega) ?_
  have w9 := sv_ok.el hok3 (k := (v2 : Int).toNat) (t := .int) (n := 5) (by rw [kq8]; rfl) (by omega)
  generalize hw9 : σ4 q8 v2.toNat = xw9 at w9 ⊢
  have w9 : sv_in xw9 := w9
  refine sv_is C (n := 5) (by decide +kernel) (by rw [kq8]; rfl) (by decide) (by omega) (by omega) ⟨by omega, by omega⟩ (hTA _ (by rw [kq8]; decide)) hok3 (fun hok10 => ?_)
  have hI12 := hI5.up (a := q8) (k := (v1 : Int).toNat) (z := xw9) (by rw [kq8]; exact trivial)
  have hF13 := hF6.up (a := q8) (k := (v1 : Int).toNat) (z := xw9) (by rw [kq8]; decide)
  generalize eσ11 : sv_up σ4 q8 (v1 : Int).toNat xw9 = σ11 at hok10 hI12 hF13 ⊢
  have t14 : σ11 a 0 = (q1 : Int) + 1 := by rw [← eσ11, sv_up_a (sv_ne k_a kq8 (by decide))]; exact t7
  have t15 : σ11 a 1 = (q8 : Int) + 1 := by rw [← eσ11, sv_up_a (sv_ne k_a kq8 (by decide))]; exact eq8
  refine sv_go C.1 C.2.1 [(.aload_n 0, 1)] (pc' := 25) (by decide +kernel) rfl (lv' := [(0, sv_r a), (1, sv_i v1), (2, sv_i v2)]) (st' := [sv_r a]) rfl ?_
  obtain ⟨q16, eq16, kq16⟩ := hI12.ref (k := 2) k_a rfl
  refine sv_gf C (index := 54) (ci := 10) (k := 2) (r := (RX11, TX11, 47)) (v := sv_r q16) (by decide +kernel) (by rw [k_a]; rfl) rfl (by decide) fl_X11_54 (congrArg sv_a eq16) ?_
  refine sv_go C.1 C.2.1 [(.iload_n 1, 1), (.aload_n 0, 1)] (pc' := 30) (by decide +kernel) rfl (lv' := [(0, sv_r a), (1, sv_i v1), (2, sv_i v2)]) (st' := [sv_r a, sv_i v1, sv_r q16]) rfl ?_
  refine sv_gf C (index := 54) (ci := 10) (k := 2) (r := (RX11, TX11, 47)) (v := sv_r q16) (by decide +kernel) (by rw [k_a]; rfl) rfl (by decide) fl_X11_54 (congrArg sv_a eq16) ?_
  refine sv_go C.1 C.2.1 [(.iload_n 2, 1)] (pc' := 34) (by decide +kernel) rfl (lv' := [(0, sv_r a), (1, sv_i v1), (2, sv_i v2)]) (st' := [sv_i v2, sv_r q16, sv_i v1, sv_r q16]) rfl ?_
  refine sv_ia C (n := 5) (by decide +kernel) (by rw [kq16]; rfl) (by decide) (by omega) (by omega) ?_
  have w17 := sv_ok.el hok10 (k := (v2 : Int).toNat) (t := .int) (n := 5) (by rw [kq16]; rfl) (by omega)
  generalize hw17 : σ11 q16 v2.toNat = xw17 at w17 ⊢
  have w17 : sv_in xw17 := w17
  refine sv_is C (n := 5) (by decide +kernel) (by rw [kq16]; rfl) (by decide) (by omega) (by omega) ⟨by omega, by omega⟩ (hTA _ (by rw [kq16]; decide)) hok10 (fun hok18 => ?_)
  have hI20 := hI12.up (a := q16) (k := (v1 : Int).toNat) (z := xw17) (by rw [kq16]; exact trivial)
  have hF21 := hF13.up (a := q16) (k := (v1 : Int).toNat) (z := xw17) (by rw [kq16]; decide)
  generalize eσ19 : sv_up σ11 q16 (v1 : Int).toNat xw17 = σ19 at hok18 hI20 hF21 ⊢
  have t22 : σ19 a 0 = (q1 : Int) + 1 := by rw [← eσ19, sv_up_a (sv_ne k_a kq16 (by decide))]; exact t14
  have t23 : σ19 a 1 = (q8 : Int) + 1 := by rw [← eσ19, sv_up_a (sv_ne k_a kq16 (by decide))]; exact t15
  have t24 : σ19 a 2 = (q16 : Int) + 1 := by rw [← eσ19, sv_up_a (sv_ne k_a kq16 (by decide))]; exact eq16
  refine sv_go C.1 C.2.1 [(.aload_n 0, 1)] (pc' := 37) (by decide +kernel) rfl (lv' := [(0, sv_r a), (1, sv_i v1), (2, sv_i v2)]) (st' := [sv_r a]) rfl ?_
  obtain ⟨q25, eq25, kq25⟩ := hI20.ref (k := 3) k_a rfl
  refine sv_gf C (index := 57) (ci := 10) (k := 3) (r := (RX11, TX11, 47)) (v := sv_r q25) (by decide +kernel) (by rw [k_a]; rfl) rfl (by decide) fl_X11_57 (congrArg sv_a eq25) ?_
  refine sv_go C.1 C.2.1 [(.iload_n 1, 1), (.aload_n 0, 1)] (pc' := 42) (by decide +kernel) rfl (lv' := [(0, sv_r a), (1, sv_i v1), (2, sv_i v2)]) (st' := [sv_r a, sv_i v1, sv_r q25]) rfl ?_
  refine sv_gf C (index := 57) (ci := 10) (k := 3) (r := (RX11, TX11, 47)) (v := sv_r q25) (by decide +kernel) (by rw [k_a]; rfl) rfl (by decide) fl_X11_57 (congrArg sv_a eq25) ?_
  refine sv_go C.1 C.2.1 [(.iload_n 2, 1)] (pc' := 46) (by decide +kernel) rfl (lv' := [(0, sv_r a), (1, sv_i v1), (2, sv_i v2)]) (st' := [sv_i v2, sv_r q25, sv_i v1, sv_r q25]) rfl ?_
  refine sv_ia C (n := 5) (by decide +kernel) (by rw [kq25]; rfl) (by decide) (by omega) (by omega) ?_
  have w26 := sv_ok.el hok18 (k := (v2 : Int).toNat) (t := .int) (n := 5) (by rw [kq25]; rfl) (by omega)
  generalize hw26 : σ19 q25 v2.toNat = xw26 at w26 ⊢
  have w26 : sv_in xw26 := w26
  refine sv_is C (n := 5) (by decide +kernel) (by rw [kq25]; rfl) (by decide) (by omega) (by omega) ⟨by omega, by omega⟩ (hTA _ (by rw [kq25]; decide)) hok18 (fun hok27 => ?_)
  have hI29 := hI20.up (a := q25) (k := (v1 : Int).toNat) (z := xw26) (by rw [kq25]; exact trivial)
  have hF30 := hF21.up (a := q25) (k := (v1 : Int).toNat) (z := xw26) (by rw [kq25]; decide)
  generalize eσ28 : sv_up σ19 q25 (v1 : Int).toNat xw26 = σ28 at hok27 hI29 hF30 ⊢
  have t31 : σ28 a 0 = (q1 : Int) + 1 := by rw [← eσ28, sv_up_a (sv_ne k_a kq25 (by decide))]; exact t22
  have t32 : σ28 a 1 = (q8 : Int) + 1 := by rw [← eσ28, sv_up_a (sv_ne k_a kq25 (by decide))]; exact t23
  have t33 : σ28 a 2 = (q16 : Int) + 1 := by rw [← eσ28, sv_up_a (sv_ne k_a kq25 (by decide))]; exact t24
  have t34 : σ28 a 3 = (q25 : Int) + 1 := by rw [← eσ28, sv_up_a (sv_ne k_a kq25 (by decide))]; exact eq25
  refine sv_go C.1 C.2.1 [(.iconst 0, 1), (.istore_n 3, 1)] (pc' := 50) (by decide +kernel) rfl (lv' := [(0, sv_r a), (1, sv_i v1), (2, sv_i v2), (3, sv_i 0)]) (st' := []) rfl ?_
  have L37 : ∀ (n : Nat) (X : Int) (σ35 : Nat → Nat → Int), (sv_ok ty σ35) → (sv_inv sp_1 ty σ35) → (sv_off [60, 61, 62, 63, 64] ty σ σ35) → (σ35 a 0 = (q1 : Int) + 1) → (σ35 a 1 = (q8 : Int) + 1) → (σ35 a 2 = (q16 : Int) + 1) → (σ35 a 3 = (q25 : Int) + 1) → (0 ≤ X ∧ X ≤ 9) → (9 - X) < (n : Int) → sv_E p l e { frames := 0, cells := 0, slots := 0, locals := 0 } s m args below meth c 7 g A ty (fun r σ' => r = [] ∧ sv_inv sp_1 ty σ' ∧ sv_off [60, 61, 62, 63, 64] ty σ σ') σ35 50 [(0, sv_r a), (1, sv_i v1), (2, sv_i v2), (3, sv_i X)] [] := by
    intro n
    induction n with
    | zero => intro X σ35 hokc36 hIc36 hFc36 kc36_0 kc36_1 kc36_2 kc36_3 hX hmu; exact absurd hmu (by omega)
    | succ n ih38 =>
      intro X σ35 hokc36 hIc36 hFc36 kc36_0 kc36_1 kc36_2 kc36_3 hX hmu
      refine sv_go C.1 C.2.1 [(.iload_n 3, 1), (.bipush 9, 2)] (pc' := 53) (by decide +kernel) rfl (lv' := [(0, sv_r a), (1, sv_i v1), (2, sv_i v2), (3, sv_i X)]) (st' := [sv_i 9, sv_i X]) rfl ?_
      refine sv_icmp C.1 C.2.1 (cnd := .ge) (off := 31) (tgt := 84) (by decide +kernel) (by decide) ⟨by omega, by omega⟩ ⟨by omega, by omega⟩ (fun (h39 : 9 ≤ X) => ?_) (fun (h39 : ¬ (9 ≤ X)) => ?_)
      · refine sv_go C.1 C.2.1 [(.iconst 0, 1), (.istore_n 3, 1), (.iload_n 3, 1), (.aload_n 0, 1)] (pc' := 88) (by decide +kernel) rfl (lv' := [(0, sv_r a), (1, sv_i v1), (2, sv_i v2), (3, sv_i 0)]) (st' := [sv_r a, sv_i 0]) rfl ?_
        refine sv_gf C (index := 47) (ci := 10) (k := 0) (r := (RX11, TX11, 47)) (v := sv_r q1) (by decide +kernel) (by rw [k_a]; rfl) rfl (by decide) fl_X11_47 (congrArg sv_a kc36_0) ?_
        refine sv_go C.1 C.2.1 [(.iload_n 2, 1)] (pc' := 92) (by decide +kernel) rfl (lv' := [(0, sv_r a), (1, sv_i v1), (2, sv_i v2), (3, sv_i 0)]) (st' := [sv_i v2, sv_r q1, sv_i 0]) rfl ?_
        refine sv_ia C (n := 5) (by decide +kernel) (by rw [kq1]; rfl) (by decide) (by omega) (by omega) ?_
        have w40 : σ35 q1 v2.toNat = 0 := by have q := hIc36.num (k := (v2 : Int).toNat) kq1 rfl; omega
        rw [w40]
        refine sv_icmp_t C.1 C.2.1 (cnd := .ge) (off := 191) (tgt := 284) (by decide +kernel) (by decide) ⟨by omega, by omega⟩ ⟨by omega, by omega⟩ (show 0 ≤ 0 by omega) ?_
        exact sv_vret C hr (by decide +kernel) hokc36 (⟨rfl, hIc36, hFc36⟩)
      · refine sv_go C.1 C.2.1 [(.aload_n 0, 1)] (pc' := 57) (by decide +kernel) rfl (lv' := [(0, sv_r a), (1, sv_i v1), (2, sv_i v2), (3, sv_i X)]) (st' := [sv_r a]) rfl ?_
        obtain ⟨q41, eq41, kq41⟩ := hIc36.ref (k := 4) k_a rfl
        refine sv_gf C (index := 60) (ci := 10) (k := 4) (r := (RX11, TX11, 47)) (v := sv_r q41) (by decide +kernel) (by rw [k_a]; rfl) rfl (by decide) fl_X11_60 (congrArg sv_a eq41) ?_
        refine sv_go C.1 C.2.1 [(.bipush 9, 2), (.iload_n 1, 1), (.imul, 1), (.iload_n 3, 1), (.iadd, 1), (.aload_n 0, 1)] (pc' := 67) (by decide +kernel) rfl (lv' := [(0, sv_r a), (1, sv_i v1), (2, sv_i v2), (3, sv_i X)]) (st' := [sv_r a, sv_i ((9 * v1) + X), sv_r q41]) rfl ?_
        refine sv_gf C (index := 60) (ci := 10) (k := 4) (r := (RX11, TX11, 47)) (v := sv_r q41) (by decide +kernel) (by rw [k_a]; rfl) rfl (by decide) fl_X11_60 (congrArg sv_a eq41) ?_
        refine sv_go C.1 C.2.1 [(.bipush 9, 2), (.iload_n 2, 1), (.imul, 1), (.iload_n 3, 1), (.iadd, 1)] (pc' := 76) (by decide +kernel) rfl (lv' := [(0, sv_r a), (1, sv_i v1), (2, sv_i v2), (3, sv_i X)]) (st' := [sv_i ((9 * v2) + X), sv_r q41, sv_i ((9 * v1) + X), sv_r q41]) rfl ?_
        refine sv_ia C (n := 45) (by decide +kernel) (by rw [kq41]; rfl) (by decide) (by omega) (by omega) ?_
        have w42 := sv_ok.el hokc36 (k := ((9 * v2) + X : Int).toNat) (t := .int) (n := 45) (by rw [kq41]; rfl) (by omega)
        generalize hw42 : σ35 q41 ((9 * v2) + X).toNat = xw42 at w42 ⊢
        have w42 : sv_in xw42 := w42
        refine sv_is C (n := 45) (by decide +kernel) (by rw [kq41]; rfl) (by decide) (by omega) (by omega) ⟨by omega, by omega⟩ (hTA _ (by rw [kq41]; decide)) hokc36 (fun hok43 => ?_)
        have hI45 := hIc36.up (a := q41) (k := ((9 * v1) + X : Int).toNat) (z := xw42) (by rw [kq41]; exact trivial)
        have hF46 := hFc36.up (a := q41) (k := ((9 * v1) + X : Int).toNat) (z := xw42) (by rw [kq41]; decide)
        generalize eσ44 : sv_up σ35 q41 ((9 * v1) + X : Int).toNat xw42 = σ44 at hok43 hI45 hF46 ⊢
        have t47 : σ44 a 0 = (q1 : Int) + 1 := by rw [← eσ44, sv_up_a (sv_ne k_a kq41 (by decide))]; exact kc36_0
        have t48 : σ44 a 1 = (q8 : Int) + 1 := by rw [← eσ44, sv_up_a (sv_ne k_a kq41 (by decide))]; exact kc36_1
        have t49 : σ44 a 2 = (q16 : Int) + 1 := by rw [← eσ44, sv_up_a (sv_ne k_a kq41 (by decide))]; exact kc36_2
        have t50 : σ44 a 3 = (q25 : Int) + 1 := by rw [← eσ44, sv_up_a (sv_ne k_a kq41 (by decide))]; exact kc36_3
        have t51 : σ44 a 4 = (q41 : Int) + 1 := by rw [← eσ44, sv_up_a (sv_ne k_a kq41 (by decide))]; exact eq41
        refine sv_go C.1 C.2.1 [(.iinc 3 1, 3)] (pc' := 81) (by decide +kernel) rfl (lv' := [(0, sv_r a), (1, sv_i v1), (2, sv_i v2), (3, sv_i (X + 1))]) (st' := []) rfl ?_
        refine sv_goto C.1 C.2.1 (off := (-31)) (tgt := 50) (by decide +kernel) (by decide) ?_
        exact ih38 (X + 1) σ44 hok43 hI45 hF46 t47 t48 t49 t50 (by omega) (by omega)
  exact L37 (((9 - 0 : Int)).toNat + 1) 0 σ28 hok27 hI29 hF30 t31 t32 t33 t34 (by omega) (by omega)

theorem fl_X11_175 : Cond.fieldLink RX11 175 "SaintsRoadModel" "size" "I" ∈ lw_good := sv_mem 1122 (by decide +kernel) rfl
set_option maxHeartbeats 4000000 in
set_option maxRecDepth 100000 in
theorem ct_X11_byteAt (l : Launch) (g : sv_G) (A : Nat → Prop) (ty : Nat → Nat) (σ : Nat → Nat → Int) (hok : sv_ok ty σ) (hI : sv_inv sp_1 ty σ) (a : Nat) (k_a : ty a = 10) (hs : σ a 18 = 0) (v : Int) (hv : 0 ≤ v ∧ v ≤ 4000) : sv_M l yX11_byteAt cX11_byteAt 2 (some .int) { frames := 0, cells := 0, slots := 0, locals := 0 } g A ty σ [sv_r a, sv_i v] (fun r σ' => σ = σ' ∧ r = [sv_i (0)]) := by
  refine sv_enter (by decide) (Nat.le_of_ble_eq_true rfl) ?_
  intro p e s m args below meth c C hr
  have C : sv_C g A RX11 cX11_byteAt 2 p s m args meth c := C
  have hr : meth.sig.returnType = (some .int) := hr
  refine sv_same (st2 := []) (lv2 := [(0, sv_r a), (1, sv_i v)]) rfl rfl ?_
  refine sv_go C.1 C.2.1 [(.iload_n 1, 1), (.aload_n 0, 1)] (pc' := 2) (by decide +kernel) rfl (lv' := [(0, sv_r a), (1, sv_i v)]) (st' := [sv_r a, sv_i v]) rfl ?_
  refine sv_gf C (index := 175) (ci := 10) (k := 18) (r := (RX11, TX11, 47)) (v := sv_i 0) (by decide +kernel) (by rw [k_a]; rfl) rfl (by decide) fl_X11_175 (congrArg sv_i hs) ?_
  refine sv_icmp_t C.1 C.2.1 (cnd := .ge) (off := 16) (tgt := 21) (by decide +kernel) (by decide) ⟨by omega, by omega⟩ ⟨by omega, by omega⟩ (show 0 ≤ v by omega) ?_
  refine sv_go C.1 C.2.1 [(.iconst 0, 1)] (pc' := 22) (by decide +kernel) rfl (lv' := [(0, sv_r a), (1, sv_i v)]) (st' := [sv_i 0]) rfl ?_
  exact sv_iret C hr (by decide +kernel) hok (⟨rfl, rfl⟩)

theorem fl_X11_178 : Cond.fieldLink RX11 178 "SaintsRoadModel" "behind" "I" ∈ lw_good := sv_mem 1124 (by decide +kernel) rfl
theorem fl_X11_172 : Cond.fieldLink RX11 172 "SaintsRoadModel" "begins" "I" ∈ lw_good := sv_mem 1123 (by decide +kernel) rfl
theorem ml_X11_181 : Cond.methodLink RX11 181 yX11_byteAt ∈ lw_good := sv_mem 1278 (by decide +kernel) rfl
theorem co_X11_byteAt : Cond.code yX11_byteAt cX11_byteAt 2 (some .int) ∈ lw_good := sv_mem 1281 (by decide +kernel) rfl
theorem im_X11_byteAt : Cond.instanceMethod yX11_byteAt ∈ lw_good := sv_mem 1280 (by decide +kernel) rfl
theorem se_X11_byteAt : Cond.selects RX11 yX11_byteAt yX11_byteAt ∈ lw_good := sv_mem 47 (by decide +kernel) rfl
theorem fl_X11_184 : Cond.fieldLink RX11 184 "SaintsRoadModel" "hand" "I" ∈ lw_good := sv_mem 1125 (by decide +kernel) rfl
set_option maxHeartbeats 4000000 in
set_option maxRecDepth 100000 in
theorem ct_X11_scan (l : Launch) (g : sv_G) (A : Nat → Prop) (ty : Nat → Nat) (σ : Nat → Nat → Int) (hok : sv_ok ty σ) (hTA : ∀ q, ty q ≠ 0 → A q) (hI : sv_inv sp_1 ty σ) (a : Nat) (k_a : ty a = 10) (hs : σ a 18 = 0) (hb : σ a 20 = 0) : sv_M l yX11_scan cX11_scan 2 none { frames := 1, cells := 0, slots := 0, locals := 21 } g A ty σ [sv_r a] (fun r σ' => r = [] ∧ sv_inv sp_1 ty σ' ∧ sv_off [10] ty σ σ' ∧ σ' a 21 = 0) := by
  refine sv_enter (by decide) (Nat.le_of_ble_eq_true rfl) ?_
  intro p e s m args below meth c C hr
  have C : sv_C g A RX11 cX11_scan 2 p s m args meth c := C
  have hr : meth.sig.returnType = none := hr
  have hF : sv_off [10] ty σ σ := sv_off.rf
  refine sv_same (st2 := []) (lv2 := [(0, sv_r a)]) rfl rfl ?_
  refine sv_go C.1 C.2.1 [(.aload_n 0, 1)] (pc' := 1) (by decide +kernel) rfl (lv' := [(0, sv_r a)]) (st' := [sv_r a]) rfl ?_
  refine sv_gf C (index := 178) (ci := 10) (k := 20) (r := (RX11, TX11, 47)) (v := sv_i 0) (by decide +kernel) (by rw [k_a]; rfl) rfl (by decide) fl_X11_178 (congrArg sv_i hb) ?_
  refine sv_go C.1 C.2.1 [(.aload_n 0, 1)] (pc' := 5) (by decide +kernel) rfl (lv' := [(0, sv_r a)]) (st' := [sv_r a, sv_i 0]) rfl ?_
  refine sv_gf C (index := 175) (ci := 10) (k := 18) (r := (RX11, TX11, 47)) (v := sv_i 0) (by decide +kernel) (by rw [k_a]; rfl) rfl (by decide) fl_X11_175 (congrArg sv_i hs) ?_
  refine sv_icmp_t C.1 C.2.1 (cnd := .ge) (off := 44) (tgt := 52) (by decide +kernel) (by decide) ⟨by omega, by omega⟩ ⟨by omega, by omega⟩ (show 0 ≤ 0 by omega) ?_
  refine sv_go C.1 C.2.1 [(.aload_n 0, 1), (.aload_n 0, 1)] (pc' := 54) (by decide +kernel) rfl (lv' := [(0, sv_r a)]) (st' := [sv_r a, sv_r a]) rfl ?_
  refine sv_gf C (index := 178) (ci := 10) (k := 20) (r := (RX11, TX11, 47)) (v := sv_i 0) (by decide +kernel) (by rw [k_a]; rfl) rfl (by decide) fl_X11_178 (congrArg sv_i hb) ?_
  refine sv_pf C (index := 172) (ci := 10) (k := 19) (r := (RX11, TX11, 47)) (z := 0) (by decide +kernel) (by rw [k_a]; rfl) rfl (by decide) rfl fl_X11_172 rfl (Or.inl rfl) ⟨by omega, by omega⟩ (hTA _ (by rw [k_a]; decide)) hok (fun hok1 => ?_)
  have hI3 := hI.up (a := a) (k := 19) (z := 0) (by rw [k_a]; exact trivial)
  have hF4 := hF.up (a := a) (k := 19) (z := 0) (by rw [k_a]; decide)
  generalize eσ2 : sv_up σ a 19 0 = σ2 at hok1 hI3 hF4 ⊢
  have t5 : σ2 a 18 = 0 := by rw [← eσ2, sv_up_k (by decide)]; exact hs
  have t6 : σ2 a 20 = 0 := by rw [← eσ2, sv_up_k (by decide)]; exact hb
  have t7 : σ2 a 19 = 0 := by rw [← eσ2]; exact sv_up_s _ _ _ _
  refine sv_go C.1 C.2.1 [(.aload_n 0, 1), (.aload_n 0, 1)] (pc' := 62) (by decide +kernel) rfl (lv' := [(0, sv_r a)]) (st' := [sv_r a, sv_r a]) rfl ?_
  refine sv_gf C (index := 172) (ci := 10) (k := 19) (r := (RX11, TX11, 47)) (v := sv_i 0) (by decide +kernel) (by rw [k_a]; rfl) rfl (by decide) fl_X11_172 (congrArg sv_i t7) ?_
  refine sv_cv C (index := 181) (k := 1) (rest := []) (ci := 10) (r := (RX11, TX11, 47)) (by decide +kernel) (ct_X11_byteAt l g A ty σ2 hok1 hI3 a k_a t5 (0) ⟨by omega, by omega⟩) ⟨co_X11_byteAt, in_X11, ⟨by decide, by decide, by decide +kernel⟩, Nat.le_of_ble_eq_true rfl, Nat.le_of_ble_eq_true rfl⟩ ml_X11_181 im_X11_byteAt se_X11_byteAt (by rw [k_a]; rfl) rfl rfl rfl (Nat.le_of_ble_eq_true rfl) ⟨Nat.zero_le _, Nat.zero_le _⟩ (fun r9 σ10 hpo8 hok11 => ?_)
  obtain ⟨rfl, rfl⟩ := hpo8
  refine sv_same (st2 := [sv_i 0]) (lv2 := [(0, sv_r a)]) rfl rfl ?_
  refine sv_go C.1 C.2.1 [(.istore_n 1, 1), (.aload_n 0, 1)] (pc' := 70) (by decide +kernel) rfl (lv' := [(0, sv_r a), (1, sv_i 0)]) (st' := [sv_r a]) rfl ?_
  refine sv_gf C (index := 172) (ci := 10) (k := 19) (r := (RX11, TX11, 47)) (v := sv_i 0) (by decide +kernel) (by rw [k_a]; rfl) rfl (by decide) fl_X11_172 (congrArg sv_i t7) ?_
  refine sv_go C.1 C.2.1 [(.aload_n 0, 1)] (pc' := 74) (by decide +kernel) rfl (lv' := [(0, sv_r a), (1, sv_i 0)]) (st' := [sv_r a, sv_i 0]) rfl ?_
  refine sv_gf C (index := 175) (ci := 10) (k := 18) (r := (RX11, TX11, 47)) (v := sv_i 0) (by decide +kernel) (by rw [k_a]; rfl) rfl (by decide) fl_X11_175 (congrArg sv_i t5) ?_
  refine sv_icmp_f C.1 C.2.1 (cnd := .ne) (off := 11) (tgt := 88) (by decide +kernel) (by decide) ⟨by omega, by omega⟩ ⟨by omega, by omega⟩ (show ¬ (0 ≠ 0) by omega) ?_
  refine sv_go C.1 C.2.1 [(.aload_n 0, 1), (.iconst 0, 1)] (pc' := 82) (by decide +kernel) rfl (lv' := [(0, sv_r a), (1, sv_i 0)]) (st' := [sv_i 0, sv_r a]) rfl ?_
  refine sv_pf C (index := 184) (ci := 10) (k := 21) (r := (RX11, TX11, 47)) (z := 0) (by decide +kernel) (by rw [k_a]; rfl) rfl (by decide) rfl fl_X11_184 rfl (Or.inl rfl) ⟨by omega, by omega⟩ (hTA _ (by rw [k_a]; decide)) hok11 (fun hok12 => ?_)
  have hI14 := hI3.up (a := a) (k := 21) (z := 0) (by rw [k_a]; exact trivial)
  have hF15 := hF4.up (a := a) (k := 21) (z := 0) (by rw [k_a]; decide)
  generalize eσ13 : sv_up σ2 a 21 0 = σ13 at hok12 hI14 hF15 ⊢
  have t16 : σ13 a 18 = 0 := by rw [← eσ13, sv_up_k (by decide)]; exact t5
  have t17 : σ13 a 20 = 0 := by rw [← eσ13, sv_up_k (by decide)]; exact t6
  have t18 : σ13 a 19 = 0 := by rw [← eσ13, sv_up_k (by decide)]; exact t7
  have t19 : σ13 a 21 = 0 := by rw [← eσ13]; exact sv_up_s _ _ _ _
  refine sv_goto C.1 C.2.1 (off := 194) (tgt := 279) (by decide +kernel) (by decide) ?_
  exact sv_vret C hr (by decide +kernel) hok12 (⟨rfl, hI14, hF15, t19⟩)

theorem ml_X11_235 : Cond.methodLink RX11 235 yX11_clear ∈ lw_good := sv_mem 1270 (by decide +kernel) rfl
theorem co_X11_clear : Cond.code yX11_clear cX11_clear 3 none ∈ lw_good := sv_mem 1273 (by decide +kernel) rfl
theorem im_X11_clear : Cond.instanceMethod yX11_clear ∈ lw_good := sv_mem 1272 (by decide +kernel) rfl
theorem se_X11_clear : Cond.selects RX11 yX11_clear yX11_clear ∈ lw_good := sv_mem 45 (by decide +kernel) rfl
theorem fl_X11_239 : Cond.fieldLink RX11 239 "SaintsRoadModel" "hasYield" "Z" ∈ lw_good := sv_mem 1129 (by decide +kernel) rfl
theorem fl_X11_243 : Cond.fieldLink RX11 243 "SaintsRoadModel" "hasLent" "Z" ∈ lw_good := sv_mem 1130 (by decide +kernel) rfl
theorem ml_X11_229 : Cond.methodLink RX11 229 yX11_scan ∈ lw_good := sv_mem 1274 (by decide +kernel) rfl
theorem co_X11_scan : Cond.code yX11_scan cX11_scan 2 none ∈ lw_good := sv_mem 1277 (by decide +kernel) rfl
theorem im_X11_scan : Cond.instanceMethod yX11_scan ∈ lw_good := sv_mem 1276 (by decide +kernel) rfl
theorem se_X11_scan : Cond.selects RX11 yX11_scan yX11_scan ∈ lw_good := sv_mem 46 (by decide +kernel) rfl
theorem fl_X11_109 : Cond.fieldLink RX11 109 "SaintsRoadModel" "hasWax" "[Z" ∈ lw_good := sv_mem 1131 (by decide +kernel) rfl
set_option maxHeartbeats 4000000 in
set_option maxRecDepth 100000 in
theorem ct_X11_readCalendar (l : Launch) (g : sv_G) (A : Nat → Prop) (ty : Nat → Nat) (σ : Nat → Nat → Int) (hok : sv_ok ty σ) (hTA : ∀ q, ty q ≠ 0 → A q) (hI : sv_inv sp_1 ty σ) (a : Nat) (k_a : ty a = 10) (hs : σ a 18 = 0) : sv_M l yX11_readCalendar cX11_readCalendar 2 none { frames := 2, cells := 0, slots := 0, locals := 42 } g A ty σ [sv_r a] (fun r σ' => r = [] ∧ sv_inv sp_1 ty σ' ∧ sv_off [10, 60, 61, 62, 63, 64, 87] ty σ σ') := by
  refine sv_enter (by decide) (Nat.le_of_ble_eq_true rfl) ?_
  intro p e s m args below meth c C hr
  have C : sv_C g A RX11 cX11_readCalendar 2 p s m args meth c := C
  have hr : meth.sig.returnType = none := hr
  have hF : sv_off [10, 60, 61, 62, 63, 64, 87] ty σ σ := sv_off.rf
  refine sv_same (st2 := []) (lv2 := [(0, sv_r a)]) rfl rfl ?_
  refine sv_go C.1 C.2.1 [(.aload_n 0, 1), (.iconst 4, 1)] (pc' := 2) (by decide +kernel) rfl (lv' := [(0, sv_r a)]) (st' := [sv_i 4, sv_r a]) rfl ?_
  refine sv_cv C (index := 235) (k := 1) (rest := []) (ci := 10) (r := (RX11, TX11, 47)) (by decide +kernel) (ct_X11_clear l g A ty σ hok hTA hI a k_a (4) ⟨by omega, by omega⟩) ⟨co_X11_clear, in_X11, ⟨by decide, by decide, by decide +kernel⟩, Nat.le_of_ble_eq_true rfl, Nat.le_of_ble_eq_true rfl⟩ ml_X11_235 im_X11_clear se_X11_clear (by rw [k_a]; rfl) rfl rfl rfl (Nat.le_of_ble_eq_true rfl) ⟨Nat.zero_le _, Nat.zero_le _⟩ (fun r2 σ3 hpo1 hok4 => ?_)
  obtain ⟨rfl, hIu5, hFu5⟩ := hpo1
  have hGu5 := hF.tr hFu5 (by decide)
  have t6 : σ3 a 18 = 0 := (hFu5.at k_a (by decide)).trans hs
  refine sv_same (st2 := []) (lv2 := [(0, sv_r a)]) rfl rfl ?_
  refine sv_go C.1 C.2.1 [(.aload_n 0, 1), (.iconst 0, 1)] (pc' := 7) (by decide +kernel) rfl (lv' := [(0, sv_r a)]) (st' := [sv_i 0, sv_r a]) rfl ?_
  refine sv_pf C (index := 239) (ci := 10) (k := 25) (r := (RX11, TX11, 47)) (z := 0) (by decide +kernel) (by rw [k_a]; rfl) rfl (by decide) rfl fl_X11_239 rfl (Or.inr (Or.inl rfl)) ⟨by omega, by omega⟩ (hTA _ (by rw [k_a]; decide)) hok4 (fun hok7 => ?_)
  have hI9 := hIu5.up (a := a) (k := 25) (z := 0) (by rw [k_a]; exact trivial)
  have hF10 := hGu5.up (a := a) (k := 25) (z := 0) (by rw [k_a]; decide)
  generalize eσ8 : sv_up σ3 a 25 0 = σ8 at hok7 hI9 hF10 ⊢
  have t11 : σ8 a 18 = 0 := by rw [← eσ8, sv_up_k (by decide)]; exact t6
  have t12 : σ8 a 25 = 0 := by rw [← eσ8]; exact sv_up_s _ _ _ _
  refine sv_go C.1 C.2.1 [(.aload_n 0, 1), (.iconst 0, 1)] (pc' := 12) (by decide +kernel) rfl (lv' := [(0, sv_r a)]) (st' := [sv_i 0, sv_r a]) rfl ?_
  refine sv_pf C (index := 243) (ci := 10) (k := 26) (r := (RX11, TX11, 47)) (z := 0) (by decide +kernel) (by rw [k_a]; rfl) rfl (by decide) rfl fl_X11_243 rfl (Or.inr (Or.inl rfl)) ⟨by omega, by omega⟩ (hTA _ (by rw [k_a]; decide)) hok7 (fun hok13 => ?_)
  have hI15 := hI9.up (a := a) (k := 26) (z := 0) (by rw [k_a]; exact trivial)
  have hF16 := hF10.up (a := a) (k := 26) (z := 0) (by rw [k_a]; decide)
  generalize eσ14 : sv_up σ8 a 26 0 = σ14 at hok13 hI15 hF16 ⊢
  have t17 : σ14 a 18 = 0 := by rw [← eσ14, sv_up_k (by decide)]; exact t11
  have t18 : σ14 a 25 = 0 := by rw [← eσ14, sv_up_k (by decide)]; exact t12
  have t19 : σ14 a 26 = 0 := by rw [← eσ14]; exact sv_up_s _ _ _ _
  refine sv_go C.1 C.2.1 [(.iconst 0, 1), (.istore_n 1, 1)] (pc' := 17) (by decide +kernel) rfl (lv' := [(0, sv_r a), (1, sv_i 0)]) (st' := []) rfl ?_
  have L22 : ∀ (n : Nat) (X : Int) (σ20 : Nat → Nat → Int), (sv_ok ty σ20) → (sv_inv sp_1 ty σ20) → (sv_off [10, 60, 61, 62, 63, 64, 87] ty σ σ20) → (σ20 a 18 = 0) → (σ20 a 25 = 0) → (σ20 a 26 = 0) → (0 ≤ X ∧ X ≤ 9) → (9 - X) < (n : Int) → sv_E p l e { frames := 2, cells := 0, slots := 0, locals := 42 } s m args below meth c 2 g A ty (fun r σ' => r = [] ∧ sv_inv sp_1 ty σ' ∧ sv_off [10, 60, 61, 62, 63, 64, 87] ty σ σ') σ20 17 [(0, sv_r a), (1, sv_i X)] [] := by
    intro n
    induction n with
    | zero => intro X σ20 hokc21 hIc21 hFc21 kc21_0 kc21_1 kc21_2 hX hmu; exact absurd hmu (by omega)
    | succ n ih23 =>
      intro X σ20 hokc21 hIc21 hFc21 kc21_0 kc21_1 kc21_2 hX hmu
      refine sv_go C.1 C.2.1 [(.iload_n 1, 1), (.bipush 9, 2)] (pc' := 20) (by decide +kernel) rfl (lv' := [(0, sv_r a), (1, sv_i X)]) (st' := [sv_i 9, sv_i X]) rfl ?_
      refine sv_icmp C.1 C.2.1 (cnd := .ge) (off := 16) (tgt := 36) (by decide +kernel) (by decide) ⟨by omega, by omega⟩ ⟨by omega, by omega⟩ (fun (h24 : 9 ≤ X) => ?_) (fun (h24 : ¬ (9 ≤ X)) => ?_)
      · refine sv_go C.1 C.2.1 [(.aload_n 0, 1), (.iconst 0, 1)] (pc' := 38) (by decide +kernel) rfl (lv' := [(0, sv_r a), (1, sv_i X)]) (st' := [sv_i 0, sv_r a]) rfl ?_
        refine sv_pf C (index := 178) (ci := 10) (k := 20) (r := (RX11, TX11, 47)) (z := 0) (by decide +kernel) (by rw [k_a]; rfl) rfl (by decide) rfl fl_X11_178 rfl (Or.inl rfl) ⟨by omega, by omega⟩ (hTA _ (by rw [k_a]; decide)) hokc21 (fun hok25 => ?_)
        have hI27 := hIc21.up (a := a) (k := 20) (z := 0) (by rw [k_a]; exact trivial)
        have hF28 := hFc21.up (a := a) (k := 20) (z := 0) (by rw [k_a]; decide)
        generalize eσ26 : sv_up σ20 a 20 0 = σ26 at hok25 hI27 hF28 ⊢
        have t29 : σ26 a 18 = 0 := by rw [← eσ26, sv_up_k (by decide)]; exact kc21_0
        have t30 : σ26 a 25 = 0 := by rw [← eσ26, sv_up_k (by decide)]; exact kc21_1
        have t31 : σ26 a 26 = 0 := by rw [← eσ26, sv_up_k (by decide)]; exact kc21_2
        have t32 : σ26 a 20 = 0 := by rw [← eσ26]; exact sv_up_s _ _ _ _
        refine sv_go C.1 C.2.1 [(.aload_n 0, 1)] (pc' := 42) (by decide +kernel) rfl (lv' := [(0, sv_r a), (1, sv_i X)]) (st' := [sv_r a]) rfl ?_
        refine sv_cv C (index := 229) (k := 0) (rest := []) (ci := 10) (r := (RX11, TX11, 47)) (by decide +kernel) (ct_X11_scan l g A ty σ26 hok25 hTA hI27 a k_a t29 t32) ⟨co_X11_scan, in_X11, ⟨by decide, by decide, by decide +kernel⟩, Nat.le_of_ble_eq_true rfl, Nat.le_of_ble_eq_true rfl⟩ ml_X11_229 im_X11_scan se_X11_scan (by rw [k_a]; rfl) rfl rfl rfl (Nat.le_of_ble_eq_true rfl) ⟨Nat.zero_le _, Nat.zero_le _⟩ (fun r34 σ35 hpo33 hok36 => ?_)
        obtain ⟨rfl, hIu37, hFu37, xu37⟩ := hpo33
        have hGu37 := hF28.tr hFu37 (by decide)
        refine sv_same (st2 := []) (lv2 := [(0, sv_r a), (1, sv_i X)]) rfl rfl ?_
        refine sv_go C.1 C.2.1 [(.aload_n 0, 1)] (pc' := 46) (by decide +kernel) rfl (lv' := [(0, sv_r a), (1, sv_i X)]) (st' := [sv_r a]) rfl ?_
        refine sv_gf C (index := 184) (ci := 10) (k := 21) (r := (RX11, TX11, 47)) (v := sv_i 0) (by decide +kernel) (by rw [k_a]; rfl) rfl (by decide) fl_X11_184 (congrArg sv_i xu37) ?_
        refine sv_if_t C.1 C.2.1 (cnd := .eq) (off := 29) (tgt := 78) (by decide +kernel) (by decide) ⟨by omega, by omega⟩ (show 0 = 0 by omega) ?_
        exact sv_vret C hr (by decide +kernel) hok36 (⟨rfl, hIu37, hGu37⟩)
      · refine sv_go C.1 C.2.1 [(.aload_n 0, 1)] (pc' := 24) (by decide +kernel) rfl (lv' := [(0, sv_r a), (1, sv_i X)]) (st' := [sv_r a]) rfl ?_
        obtain ⟨q38, eq38, kq38⟩ := hIc21.ref (k := 27) k_a rfl
        refine sv_gf C (index := 109) (ci := 10) (k := 27) (r := (RX11, TX11, 47)) (v := sv_r q38) (by decide +kernel) (by rw [k_a]; rfl) rfl (by decide) fl_X11_109 (congrArg sv_a eq38) ?_
        refine sv_go C.1 C.2.1 [(.iload_n 1, 1), (.iconst 0, 1)] (pc' := 29) (by decide +kernel) rfl (lv' := [(0, sv_r a), (1, sv_i X)]) (st' := [sv_i 0, sv_i X, sv_r q38]) rfl ?_
        refine sv_zs C (n := 9) (by decide +kernel) (by rw [kq38]; rfl) (by decide) (by omega) (by omega) ⟨by omega, by omega⟩ (hTA _ (by rw [kq38]; decide)) hokc21 (fun hok39 => ?_)
        have hI41 := hIc21.up (a := q38) (k := (X : Int).toNat) (z := 0) (by rw [kq38]; exact trivial)
        have hF42 := hFc21.up (a := q38) (k := (X : Int).toNat) (z := 0) (by rw [kq38]; decide)
        generalize eσ40 : sv_up σ20 q38 (X : Int).toNat 0 = σ40 at hok39 hI41 hF42 ⊢
        have t43 : σ40 a 18 = 0 := by rw [← eσ40, sv_up_a (sv_ne k_a kq38 (by decide))]; exact kc21_0
        have t44 : σ40 a 25 = 0 := by rw [← eσ40, sv_up_a (sv_ne k_a kq38 (by decide))]; exact kc21_1
        have t45 : σ40 a 26 = 0 := by rw [← eσ40, sv_up_a (sv_ne k_a kq38 (by decide))]; exact kc21_2
        have t46 : σ40 a 27 = (q38 : Int) + 1 := by rw [← eσ40, sv_up_a (sv_ne k_a kq38 (by decide))]; exact eq38
        refine sv_go C.1 C.2.1 [(.iinc 1 1, 3)] (pc' := 33) (by decide +kernel) rfl (lv' := [(0, sv_r a), (1, sv_i (X + 1))]) (st' := []) rfl ?_
        refine sv_goto C.1 C.2.1 (off := (-16)) (tgt := 17) (by decide +kernel) (by decide) ?_
        exact ih23 (X + 1) σ40 hok39 hI41 hF42 t43 t44 t45 (by omega) (by omega)
  exact L22 (((9 - 0 : Int)).toNat + 1) 0 σ14 hok13 hI15 hF16 t17 t18 t19 (by omega) (by omega)

theorem ml_X11_280 : Cond.methodLink RX11 280 yX11_readCalendar ∈ lw_good := sv_mem 1266 (by decide +kernel) rfl
theorem co_X11_readCalendar : Cond.code yX11_readCalendar cX11_readCalendar 2 none ∈ lw_good := sv_mem 1269 (by decide +kernel) rfl
theorem im_X11_readCalendar : Cond.instanceMethod yX11_readCalendar ∈ lw_good := sv_mem 1268 (by decide +kernel) rfl
theorem se_X11_readCalendar : Cond.selects RX11 yX11_readCalendar yX11_readCalendar ∈ lw_good := sv_mem 44 (by decide +kernel) rfl
theorem ml_X11_283 : Cond.methodLink RX11 283 yX11_become ∈ lw_good := sv_mem 1344 (by decide +kernel) rfl
theorem co_X11_become : Cond.code yX11_become cX11_become 7 none ∈ lw_good := sv_mem 1347 (by decide +kernel) rfl
theorem im_X11_become : Cond.instanceMethod yX11_become ∈ lw_good := sv_mem 1346 (by decide +kernel) rfl
theorem se_X11_become : Cond.selects RX11 yX11_become yX11_become ∈ lw_good := sv_mem 58 (by decide +kernel) rfl
set_option maxHeartbeats 4000000 in
set_option maxRecDepth 100000 in
theorem ct_X11_calendar (l : Launch) (g : sv_G) (A : Nat → Prop) (ty : Nat → Nat) (σ : Nat → Nat → Int) (hok : sv_ok ty σ) (hTA : ∀ q, ty q ≠ 0 → A q) (hI : sv_inv sp_1 ty σ) (hZ : sv_inv sp_0 ty σ) (a : Nat) (k_a : ty a = 10) (v1 : Int) (hv1 : sv_in v1) : sv_MW l yX11_calendar cX11_calendar 3 (some .int) [(33, 37, 40, 95)] { frames := 3, cells := 0, slots := 0, locals := 63 } g A ty σ [sv_r a, sv_i v1] (fun r σ' => r = [sv_i (fx_cal v1)] ∧ sv_off [10, 60, 61, 62, 63, 64, 87] ty σ σ') := by
  refine sv_enterW (by decide) (Nat.le_of_ble_eq_true rfl) ?_
  intro p e s m args below meth c C hr
  have C : sv_C g A RX11 cX11_calendar 3 p s m args meth c := C
  have hr : meth.sig.returnType = (some .int) := hr
  have hF : sv_off [10, 60, 61, 62, 63, 64, 87] ty σ σ := sv_off.rf
  refine sv_same (st2 := []) (lv2 := [(0, sv_r a), (1, sv_i v1)]) rfl rfl ?_
  refine sv_go C.1 C.2.1 [(.aload_n 0, 1), (.aload_n 0, 1)] (pc' := 2) (by decide +kernel) rfl (lv' := [(0, sv_r a), (1, sv_i v1)]) (st' := [sv_r a, sv_r a]) rfl ?_
  have t1 : σ a 17 = 0 := by have q := hZ.num (k := 17) k_a rfl; omega
  refine sv_gf C (index := 269) (ci := 10) (k := 17) (r := (RX11, TX11, 47)) (v := sv_i 0) (by decide +kernel) (by rw [k_a]; rfl) rfl (by decide) fl_X11_269 (congrArg sv_i t1) ?_
  refine sv_pf C (index := 175) (ci := 10) (k := 18) (r := (RX11, TX11, 47)) (z := 0) (by decide +kernel) (by rw [k_a]; rfl) rfl (by decide) rfl fl_X11_175 rfl (Or.inl rfl) ⟨by omega, by omega⟩ (hTA _ (by rw [k_a]; decide)) hok (fun hok2 => ?_)
  have hI4 := hI.up (a := a) (k := 18) (z := 0) (by rw [k_a]; exact trivial)
  have hF5 := hF.up (a := a) (k := 18) (z := 0) (by rw [k_a]; decide)
  generalize eσ3 : sv_up σ a 18 0 = σ3 at hok2 hI4 hF5 ⊢
  have t6 : σ3 a 17 = 0 := by rw [← eσ3, sv_up_k (by decide)]; exact t1
  have t7 : σ3 a 18 = 0 := by rw [← eσ3]; exact sv_up_s _ _ _ _
  refine sv_go C.1 C.2.1 [(.aload_n 0, 1), (.iconst 0, 1)] (pc' := 10) (by decide +kernel) rfl (lv' := [(0, sv_r a), (1, sv_i v1)]) (st' := [sv_i 0, sv_r a]) rfl ?_
  refine sv_pf C (index := 269) (ci := 10) (k := 17) (r := (RX11, TX11, 47)) (z := 0) (by decide +kernel) (by rw [k_a]; rfl) rfl (by decide) rfl fl_X11_269 rfl (Or.inl rfl) ⟨by omega, by omega⟩ (hTA _ (by rw [k_a]; decide)) hok2 (fun hok8 => ?_)
  have hI10 := hI4.up (a := a) (k := 17) (z := 0) (by rw [k_a]; exact trivial)
  have hF11 := hF5.up (a := a) (k := 17) (z := 0) (by rw [k_a]; decide)
  generalize eσ9 : sv_up σ3 a 17 0 = σ9 at hok8 hI10 hF11 ⊢
  have t12 : σ9 a 18 = 0 := by rw [← eσ9, sv_up_k (by decide)]; exact t7
  have t13 : σ9 a 17 = 0 := by rw [← eσ9]; exact sv_up_s _ _ _ _
  refine sv_go C.1 C.2.1 [(.iload_n 1, 1)] (pc' := 14) (by decide +kernel) rfl (lv' := [(0, sv_r a), (1, sv_i v1)]) (st' := [sv_i v1]) rfl ?_
  refine sv_cs C (index := 277) (k := 1) (rest := []) (by decide +kernel) (ct_X11_isPlace l g A ty σ9 hok8 (v1) ⟨by omega, by omega⟩) ⟨co_X11_isPlace, in_X11, ⟨by decide, by decide, by decide +kernel⟩, Nat.le_of_ble_eq_true rfl, Nat.le_of_ble_eq_true rfl⟩ ml_X11_277 st_X11_isPlace rfl rfl (Nat.le_of_ble_eq_true rfl) ⟨Nat.zero_le _, Nat.zero_le _⟩ (fun r15 σ16 hpo14 hok17 => ?_)
  obtain ⟨rfl, ⟨h18, rfl⟩ | ⟨h18, rfl⟩⟩ := hpo14
  · refine sv_same (st2 := [sv_i 1]) (lv2 := [(0, sv_r a), (1, sv_i v1)]) rfl rfl ?_
    refine sv_if_t C.1 C.2.1 (cnd := .ne) (off := 6) (tgt := 23) (by decide +kernel) (by decide) ⟨by omega, by omega⟩ (show 1 ≠ 0 by omega) ?_
    refine sv_go C.1 C.2.1 [(.aload_n 0, 1), (.iconst 0, 1)] (pc' := 25) (by decide +kernel) rfl (lv' := [(0, sv_r a), (1, sv_i v1)]) (st' := [sv_i 0, sv_r a]) rfl ?_
    refine sv_pf C (index := 169) (ci := 10) (k := 23) (r := (RX11, TX11, 47)) (z := 0) (by decide +kernel) (by rw [k_a]; rfl) rfl (by decide) rfl fl_X11_169 rfl (Or.inl rfl) ⟨by omega, by omega⟩ (hTA _ (by rw [k_a]; decide)) hok17 (fun hok19 => ?_)
    have hI21 := hI10.up (a := a) (k := 23) (z := 0) (by rw [k_a]; exact trivial)
    have hF22 := hF11.up (a := a) (k := 23) (z := 0) (by rw [k_a]; decide)
    generalize eσ20 : sv_up σ9 a 23 0 = σ20 at hok19 hI21 hF22 ⊢
    have t23 : σ20 a 18 = 0 := by rw [← eσ20, sv_up_k (by decide)]; exact t12
    have t24 : σ20 a 17 = 0 := by rw [← eσ20, sv_up_k (by decide)]; exact t13
    have t25 : σ20 a 23 = 0 := by rw [← eσ20]; exact sv_up_s _ _ _ _
    refine sv_go C.1 C.2.1 [(.aload_n 0, 1), (.iconst (-1), 1)] (pc' := 30) (by decide +kernel) rfl (lv' := [(0, sv_r a), (1, sv_i v1)]) (st' := [sv_i ((-1)), sv_r a]) rfl ?_
    refine sv_pf C (index := 105) (ci := 10) (k := 24) (r := (RX11, TX11, 47)) (z := (-1)) (by decide +kernel) (by rw [k_a]; rfl) rfl (by decide) rfl fl_X11_105 rfl (Or.inl rfl) ⟨by omega, by omega⟩ (hTA _ (by rw [k_a]; decide)) hok19 (fun hok26 => ?_)
    have hI28 := hI21.up (a := a) (k := 24) (z := (-1)) (by rw [k_a]; exact trivial)
    have hF29 := hF22.up (a := a) (k := 24) (z := (-1)) (by rw [k_a]; decide)
    generalize eσ27 : sv_up σ20 a 24 ((-1)) = σ27 at hok26 hI28 hF29 ⊢
    have t30 : σ27 a 18 = 0 := by rw [← eσ27, sv_up_k (by decide)]; exact t23
    have t31 : σ27 a 17 = 0 := by rw [← eσ27, sv_up_k (by decide)]; exact t24
    have t32 : σ27 a 23 = 0 := by rw [← eσ27, sv_up_k (by decide)]; exact t25
    have t33 : σ27 a 24 = (-1) := by rw [← eσ27]; exact sv_up_s _ _ _ _
    refine sv_go C.1 C.2.1 [(.aload_n 0, 1)] (pc' := 34) (by decide +kernel) rfl (lv' := [(0, sv_r a), (1, sv_i v1)]) (st' := [sv_r a]) rfl ?_
    refine sv_cv C (index := 280) (k := 0) (rest := []) (ci := 10) (r := (RX11, TX11, 47)) (by decide +kernel) (ct_X11_readCalendar l g A ty σ27 hok26 hTA hI28 a k_a t30) ⟨co_X11_readCalendar, in_X11, ⟨by decide, by decide, by decide +kernel⟩, Nat.le_of_ble_eq_true rfl, Nat.le_of_ble_eq_true rfl⟩ ml_X11_280 im_X11_readCalendar se_X11_readCalendar (by rw [k_a]; rfl) rfl rfl rfl (Nat.le_of_ble_eq_true rfl) ⟨Nat.zero_le _, Nat.zero_le _⟩ (fun r35 σ36 hpo34 hok37 => ?_)
    obtain ⟨rfl, hIu38, hFu38⟩ := hpo34
    have hGu38 := hF29.tr hFu38 (by decide)
    refine sv_same (st2 := []) (lv2 := [(0, sv_r a), (1, sv_i v1)]) rfl rfl ?_
    refine sv_goto C.1 C.2.1 (off := 6) (tgt := 43) (by decide +kernel) (by decide) ?_
    refine sv_go C.1 C.2.1 [(.aload_n 0, 1), (.iload_n 1, 1), (.iconst 4, 1)] (pc' := 46) (by decide +kernel) rfl (lv' := [(0, sv_r a), (1, sv_i v1)]) (st' := [sv_i 4, sv_i v1, sv_r a]) rfl ?_
    refine sv_cv C (index := 283) (k := 2) (rest := []) (ci := 10) (r := (RX11, TX11, 47)) (by decide +kernel) (ct_X11_become l g A ty σ36 hok37 hTA hIu38 a k_a (v1) ⟨by omega, by omega⟩ (4) ⟨by omega, by omega⟩) ⟨co_X11_become, in_X11, ⟨by decide, by decide, by decide +kernel⟩, Nat.le_of_ble_eq_true rfl, Nat.le_of_ble_eq_true rfl⟩ ml_X11_283 im_X11_become se_X11_become (by rw [k_a]; rfl) rfl rfl rfl (Nat.le_of_ble_eq_true rfl) ⟨Nat.zero_le _, Nat.zero_le _⟩ (fun r40 σ41 hpo39 hok42 => ?_)
    obtain ⟨rfl, hIu43, hFu43⟩ := hpo39
    have hGu43 := hGu38.tr hFu43 (by decide)
    refine sv_same (st2 := []) (lv2 := [(0, sv_r a), (1, sv_i v1)]) rfl rfl ?_
    refine sv_go C.1 C.2.1 [(.aload_n 0, 1)] (pc' := 50) (by decide +kernel) rfl (lv' := [(0, sv_r a), (1, sv_i v1)]) (st' := [sv_r a]) rfl ?_
    obtain ⟨q44, eq44, kq44⟩ := hIu43.ref (k := 0) k_a rfl
    refine sv_gf C (index := 47) (ci := 10) (k := 0) (r := (RX11, TX11, 47)) (v := sv_r q44) (by decide +kernel) (by rw [k_a]; rfl) rfl (by decide) fl_X11_47 (congrArg sv_a eq44) ?_
    refine sv_go C.1 C.2.1 [(.iload_n 1, 1)] (pc' := 54) (by decide +kernel) rfl (lv' := [(0, sv_r a), (1, sv_i v1)]) (st' := [sv_i v1, sv_r q44]) rfl ?_
    refine sv_ia C (n := 5) (by decide +kernel) (by rw [kq44]; rfl) (by decide) (by omega) (by omega) ?_
    have w45 : σ41 q44 v1.toNat = 0 := by have q := hIu43.num (k := (v1 : Int).toNat) kq44 rfl; omega
    rw [w45]
    exact sv_iret C hr (by decide +kernel) hok42 (⟨congrArg (fun q => [sv_i q]) (by first | omega | (unfold fx_cal; omega)), hGu43⟩)
  · refine sv_same (st2 := [sv_i 0]) (lv2 := [(0, sv_r a), (1, sv_i v1)]) rfl rfl ?_
    refine sv_if_f C.1 C.2.1 (cnd := .ne) (off := 6) (tgt := 23) (by decide +kernel) (by decide) ⟨by omega, by omega⟩ (show ¬ (0 ≠ 0) by omega) ?_
    refine sv_go C.1 C.2.1 [(.bipush (-2), 2)] (pc' := 22) (by decide +kernel) rfl (lv' := [(0, sv_r a), (1, sv_i v1)]) (st' := [sv_i ((-2))]) rfl ?_
    exact sv_iret C hr (by decide +kernel) hok17 (⟨congrArg (fun q => [sv_i q]) (by first | omega | (unfold fx_cal; omega)), hF11⟩)
end
