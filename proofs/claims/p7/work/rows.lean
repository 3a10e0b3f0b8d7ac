section
-- ===== PART A: goes FIRST, ahead of the names: the tables' words, and 'selects' of the private methods out of them =====
/-- a private method of a class that the tables say can be made, by its rows of tables_1 -/
def lw_okq (q : MethodName × Nat) : Prop := (q.1.cls ≠ "java/lang/invoke/MethodHandle" ∧ q.1.cls ≠ "java/lang/invoke/VarHandle") ∧ Cond.instantiable q.1.cls q.2 ∈ tables_1 ∧ Cond.privateMethod q.1 ∈ tables_1 ∧ Cond.instanceMethod q.1 ∈ tables_1
theorem lw_p0 : lw_okq (⟨"SaintsRoad$Reader", "readToken", "()V"⟩, 13) := ⟨⟨by decide +kernel, by decide +kernel⟩, List.mem_of_getElem? (i := 47) (by decide +kernel), List.mem_of_getElem? (i := 382) (by decide +kernel), List.mem_of_getElem? (i := 383) (by decide +kernel)⟩
theorem lw_p1 : lw_okq (⟨"SaintsRoad$Reader", "readWord", "()V"⟩, 13) := ⟨⟨by decide +kernel, by decide +kernel⟩, List.mem_of_getElem? (i := 47) (by decide +kernel), List.mem_of_getElem? (i := 396) (by decide +kernel), List.mem_of_getElem? (i := 397) (by decide +kernel)⟩
theorem lw_p2 : lw_okq (⟨"SaintsRoad$Reader", "wordToken", "()I"⟩, 13) := ⟨⟨by decide +kernel, by decide +kernel⟩, List.mem_of_getElem? (i := 47) (by decide +kernel), List.mem_of_getElem? (i := 400) (by decide +kernel), List.mem_of_getElem? (i := 401) (by decide +kernel)⟩
theorem lw_p3 : lw_okq (⟨"SaintsRoad$Reader", "isAtStart", "(Ljava/lang/String;)Z"⟩, 13) := ⟨⟨by decide +kernel, by decide +kernel⟩, List.mem_of_getElem? (i := 47) (by decide +kernel), List.mem_of_getElem? (i := 419) (by decide +kernel), List.mem_of_getElem? (i := 420) (by decide +kernel)⟩
theorem lw_p4 : lw_okq (⟨"SaintsRoad$Reader", "readNumber", "()V"⟩, 13) := ⟨⟨by decide +kernel, by decide +kernel⟩, List.mem_of_getElem? (i := 47) (by decide +kernel), List.mem_of_getElem? (i := 474) (by decide +kernel), List.mem_of_getElem? (i := 475) (by decide +kernel)⟩
theorem lw_p5 : lw_okq (⟨"SaintsRoad$Reader", "takeToken", "()I"⟩, 13) := ⟨⟨by decide +kernel, by decide +kernel⟩, List.mem_of_getElem? (i := 47) (by decide +kernel), List.mem_of_getElem? (i := 478) (by decide +kernel), List.mem_of_getElem? (i := 479) (by decide +kernel)⟩
theorem lw_p6 : lw_okq (⟨"SaintsRoad$Reader", "takeLineWord", "()I"⟩, 13) := ⟨⟨by decide +kernel, by decide +kernel⟩, List.mem_of_getElem? (i := 47) (by decide +kernel), List.mem_of_getElem? (i := 482) (by decide +kernel), List.mem_of_getElem? (i := 483) (by decide +kernel)⟩
theorem lw_p7 : lw_okq (⟨"SaintsRoad$Reader", "startFeast", "(II)I"⟩, 13) := ⟨⟨by decide +kernel, by decide +kernel⟩, List.mem_of_getElem? (i := 47) (by decide +kernel), List.mem_of_getElem? (i := 486) (by decide +kernel), List.mem_of_getElem? (i := 487) (by decide +kernel)⟩
theorem lw_p8 : lw_okq (⟨"SaintsRoad$Reader", "goTo", "(I)I"⟩, 13) := ⟨⟨by decide +kernel, by decide +kernel⟩, List.mem_of_getElem? (i := 47) (by decide +kernel), List.mem_of_getElem? (i := 494) (by decide +kernel), List.mem_of_getElem? (i := 495) (by decide +kernel)⟩
theorem lw_p9 : lw_okq (⟨"SaintsRoad$Reader", "takeMinusOrShift", "()I"⟩, 13) := ⟨⟨by decide +kernel, by decide +kernel⟩, List.mem_of_getElem? (i := 47) (by decide +kernel), List.mem_of_getElem? (i := 498) (by decide +kernel), List.mem_of_getElem? (i := 499) (by decide +kernel)⟩
theorem lw_p10 : lw_okq (⟨"SaintsRoad$Reader", "takeNumber", "()I"⟩, 13) := ⟨⟨by decide +kernel, by decide +kernel⟩, List.mem_of_getElem? (i := 47) (by decide +kernel), List.mem_of_getElem? (i := 502) (by decide +kernel), List.mem_of_getElem? (i := 503) (by decide +kernel)⟩
theorem lw_p11 : lw_okq (⟨"SaintsRoad$Reader", "leastNumber", "()I"⟩, 13) := ⟨⟨by decide +kernel, by decide +kernel⟩, List.mem_of_getElem? (i := 47) (by decide +kernel), List.mem_of_getElem? (i := 506) (by decide +kernel), List.mem_of_getElem? (i := 507) (by decide +kernel)⟩
theorem lw_p12 : lw_okq (⟨"SaintsRoad$Reader", "mostNumber", "()I"⟩, 13) := ⟨⟨by decide +kernel, by decide +kernel⟩, List.mem_of_getElem? (i := 47) (by decide +kernel), List.mem_of_getElem? (i := 510) (by decide +kernel), List.mem_of_getElem? (i := 511) (by decide +kernel)⟩
theorem lw_p13 : lw_okq (⟨"SaintsRoad$Reader", "keepFeastNumber", "()I"⟩, 13) := ⟨⟨by decide +kernel, by decide +kernel⟩, List.mem_of_getElem? (i := 47) (by decide +kernel), List.mem_of_getElem? (i := 519) (by decide +kernel), List.mem_of_getElem? (i := 520) (by decide +kernel)⟩
theorem lw_p14 : lw_okq (⟨"SaintsRoad$Reader", "keepOtherNumber", "()I"⟩, 13) := ⟨⟨by decide +kernel, by decide +kernel⟩, List.mem_of_getElem? (i := 47) (by decide +kernel), List.mem_of_getElem? (i := 523) (by decide +kernel), List.mem_of_getElem? (i := 524) (by decide +kernel)⟩
theorem lw_p15 : lw_okq (⟨"SaintsRoad$Reader", "pass", "(II)I"⟩, 13) := ⟨⟨by decide +kernel, by decide +kernel⟩, List.mem_of_getElem? (i := 47) (by decide +kernel), List.mem_of_getElem? (i := 527) (by decide +kernel), List.mem_of_getElem? (i := 528) (by decide +kernel)⟩
def lw_privs_1 : List (MethodName × Nat) := [(⟨"SaintsRoad$Reader", "readToken", "()V"⟩, 13), (⟨"SaintsRoad$Reader", "readWord", "()V"⟩, 13), (⟨"SaintsRoad$Reader", "wordToken", "()I"⟩, 13), (⟨"SaintsRoad$Reader", "isAtStart", "(Ljava/lang/String;)Z"⟩, 13), (⟨"SaintsRoad$Reader", "readNumber", "()V"⟩, 13), (⟨"SaintsRoad$Reader", "takeToken", "()I"⟩, 13), (⟨"SaintsRoad$Reader", "takeLineWord", "()I"⟩, 13), (⟨"SaintsRoad$Reader", "startFeast", "(II)I"⟩, 13), (⟨"SaintsRoad$Reader", "goTo", "(I)I"⟩, 13), (⟨"SaintsRoad$Reader", "takeMinusOrShift", "()I"⟩, 13), (⟨"SaintsRoad$Reader", "takeNumber", "()I"⟩, 13), (⟨"SaintsRoad$Reader", "leastNumber", "()I"⟩, 13), (⟨"SaintsRoad$Reader", "mostNumber", "()I"⟩, 13), (⟨"SaintsRoad$Reader", "keepFeastNumber", "()I"⟩, 13), (⟨"SaintsRoad$Reader", "keepOtherNumber", "()I"⟩, 13), (⟨"SaintsRoad$Reader", "pass", "(II)I"⟩, 13)]
theorem lw_r1 : ∀ q ∈ lw_privs_1, lw_okq q := List.forall_mem_cons.mpr ⟨lw_p0, List.forall_mem_cons.mpr ⟨lw_p1, List.forall_mem_cons.mpr ⟨lw_p2, List.forall_mem_cons.mpr ⟨lw_p3, List.forall_mem_cons.mpr ⟨lw_p4, List.forall_mem_cons.mpr ⟨lw_p5, List.forall_mem_cons.mpr ⟨lw_p6, List.forall_mem_cons.mpr ⟨lw_p7, List.forall_mem_cons.mpr ⟨lw_p8, List.forall_mem_cons.mpr ⟨lw_p9, List.forall_mem_cons.mpr ⟨lw_p10, List.forall_mem_cons.mpr ⟨lw_p11, List.forall_mem_cons.mpr ⟨lw_p12, List.forall_mem_cons.mpr ⟨lw_p13, List.forall_mem_cons.mpr ⟨lw_p14, List.forall_mem_cons.mpr ⟨lw_p15, fun _ h => absurd h List.not_mem_nil⟩⟩⟩⟩⟩⟩⟩⟩⟩⟩⟩⟩⟩⟩⟩⟩
theorem lw_p16 : lw_okq (⟨"SaintsRoad$Reader", "takeName", "()I"⟩, 13) := ⟨⟨by decide +kernel, by decide +kernel⟩, List.mem_of_getElem? (i := 47) (by decide +kernel), List.mem_of_getElem? (i := 531) (by decide +kernel), List.mem_of_getElem? (i := 532) (by decide +kernel)⟩
theorem lw_p17 : lw_okq (⟨"SaintsRoad$Reader", "takeMark", "()I"⟩, 13) := ⟨⟨by decide +kernel, by decide +kernel⟩, List.mem_of_getElem? (i := 47) (by decide +kernel), List.mem_of_getElem? (i := 544) (by decide +kernel), List.mem_of_getElem? (i := 545) (by decide +kernel)⟩
theorem lw_p18 : lw_okq (⟨"SaintsRoad", "isFeast", "(II)Z"⟩, 6) := ⟨⟨by decide +kernel, by decide +kernel⟩, List.mem_of_getElem? (i := 23) (by decide +kernel), List.mem_of_getElem? (i := 560) (by decide +kernel), List.mem_of_getElem? (i := 561) (by decide +kernel)⟩
theorem lw_p19 : lw_okq (⟨"SaintsRoad$Feast", "letter", "(I)I"⟩, 12) := ⟨⟨by decide +kernel, by decide +kernel⟩, List.mem_of_getElem? (i := 109) (by decide +kernel), List.mem_of_getElem? (i := 568) (by decide +kernel), List.mem_of_getElem? (i := 569) (by decide +kernel)⟩
theorem lw_p20 : lw_okq (⟨"SaintsRoad$Place", "sortByOwnDay", "(I)V"⟩, 11) := ⟨⟨by decide +kernel, by decide +kernel⟩, List.mem_of_getElem? (i := 96) (by decide +kernel), List.mem_of_getElem? (i := 623) (by decide +kernel), List.mem_of_getElem? (i := 624) (by decide +kernel)⟩
theorem lw_p21 : lw_okq (⟨"SaintsRoad$Feast", "fixedDay", "(I)I"⟩, 12) := ⟨⟨by decide +kernel, by decide +kernel⟩, List.mem_of_getElem? (i := 109) (by decide +kernel), List.mem_of_getElem? (i := 631) (by decide +kernel), List.mem_of_getElem? (i := 632) (by decide +kernel)⟩
theorem lw_p22 : lw_okq (⟨"SaintsRoad$Place", "insertByOwnDay", "(I)V"⟩, 11) := ⟨⟨by decide +kernel, by decide +kernel⟩, List.mem_of_getElem? (i := 96) (by decide +kernel), List.mem_of_getElem? (i := 645) (by decide +kernel), List.mem_of_getElem? (i := 646) (by decide +kernel)⟩
theorem lw_p23 : lw_okq (⟨"SaintsRoad$Place", "holdBest", "(I)V"⟩, 11) := ⟨⟨by decide +kernel, by decide +kernel⟩, List.mem_of_getElem? (i := 96) (by decide +kernel), List.mem_of_getElem? (i := 650) (by decide +kernel), List.mem_of_getElem? (i := 651) (by decide +kernel)⟩
theorem lw_p24 : lw_okq (⟨"SaintsRoad$Place", "isAbove", "(II)Z"⟩, 11) := ⟨⟨by decide +kernel, by decide +kernel⟩, List.mem_of_getElem? (i := 96) (by decide +kernel), List.mem_of_getElem? (i := 654) (by decide +kernel), List.mem_of_getElem? (i := 655) (by decide +kernel)⟩
theorem lw_p25 : lw_okq (⟨"SaintsRoad$Place", "moveOthersOn", "()V"⟩, 11) := ⟨⟨by decide +kernel, by decide +kernel⟩, List.mem_of_getElem? (i := 96) (by decide +kernel), List.mem_of_getElem? (i := 658) (by decide +kernel), List.mem_of_getElem? (i := 659) (by decide +kernel)⟩
theorem lw_p26 : lw_okq (⟨"SaintsRoad$Place", "canYield", "(I)Z"⟩, 11) := ⟨⟨by decide +kernel, by decide +kernel⟩, List.mem_of_getElem? (i := 96) (by decide +kernel), List.mem_of_getElem? (i := 662) (by decide +kernel), List.mem_of_getElem? (i := 663) (by decide +kernel)⟩
theorem lw_p27 : lw_okq (⟨"SaintsRoad$Place", "isInLent", "(I)Z"⟩, 11) := ⟨⟨by decide +kernel, by decide +kernel⟩, List.mem_of_getElem? (i := 96) (by decide +kernel), List.mem_of_getElem? (i := 694) (by decide +kernel), List.mem_of_getElem? (i := 695) (by decide +kernel)⟩
theorem lw_p28 : lw_okq (⟨"SaintsRoad$Place", "isVigil", "(IZ)Z"⟩, 11) := ⟨⟨by decide +kernel, by decide +kernel⟩, List.mem_of_getElem? (i := 96) (by decide +kernel), List.mem_of_getElem? (i := 698) (by decide +kernel), List.mem_of_getElem? (i := 699) (by decide +kernel)⟩
theorem lw_p29 : lw_okq (⟨"SaintsRoad$Place", "hasVigil", "(I)Z"⟩, 11) := ⟨⟨by decide +kernel, by decide +kernel⟩, List.mem_of_getElem? (i := 96) (by decide +kernel), List.mem_of_getElem? (i := 702) (by decide +kernel), List.mem_of_getElem? (i := 703) (by decide +kernel)⟩
theorem lw_p30 : lw_okq (⟨"SaintsRoad$Place", "feastOf", "(I)LSaintsRoad$Feast;"⟩, 11) := ⟨⟨by decide +kernel, by decide +kernel⟩, List.mem_of_getElem? (i := 96) (by decide +kernel), List.mem_of_getElem? (i := 715) (by decide +kernel), List.mem_of_getElem? (i := 716) (by decide +kernel)⟩
theorem lw_p31 : lw_okq (⟨"SaintsRoad", "carryAll", "(LSaintsRoad$Place;II)V"⟩, 6) := ⟨⟨by decide +kernel, by decide +kernel⟩, List.mem_of_getElem? (i := 23) (by decide +kernel), List.mem_of_getElem? (i := 770) (by decide +kernel), List.mem_of_getElem? (i := 771) (by decide +kernel)⟩
def lw_privs_2 : List (MethodName × Nat) := [(⟨"SaintsRoad$Reader", "takeName", "()I"⟩, 13), (⟨"SaintsRoad$Reader", "takeMark", "()I"⟩, 13), (⟨"SaintsRoad", "isFeast", "(II)Z"⟩, 6), (⟨"SaintsRoad$Feast", "letter", "(I)I"⟩, 12), (⟨"SaintsRoad$Place", "sortByOwnDay", "(I)V"⟩, 11), (⟨"SaintsRoad$Feast", "fixedDay", "(I)I"⟩, 12), (⟨"SaintsRoad$Place", "insertByOwnDay", "(I)V"⟩, 11), (⟨"SaintsRoad$Place", "holdBest", "(I)V"⟩, 11), (⟨"SaintsRoad$Place", "isAbove", "(II)Z"⟩, 11), (⟨"SaintsRoad$Place", "moveOthersOn", "()V"⟩, 11), (⟨"SaintsRoad$Place", "canYield", "(I)Z"⟩, 11), (⟨"SaintsRoad$Place", "isInLent", "(I)Z"⟩, 11), (⟨"SaintsRoad$Place", "isVigil", "(IZ)Z"⟩, 11), (⟨"SaintsRoad$Place", "hasVigil", "(I)Z"⟩, 11), (⟨"SaintsRoad$Place", "feastOf", "(I)LSaintsRoad$Feast;"⟩, 11), (⟨"SaintsRoad", "carryAll", "(LSaintsRoad$Place;II)V"⟩, 6)]
theorem lw_r2 : ∀ q ∈ lw_privs_2, lw_okq q := List.forall_mem_cons.mpr ⟨lw_p16, List.forall_mem_cons.mpr ⟨lw_p17, List.forall_mem_cons.mpr ⟨lw_p18, List.forall_mem_cons.mpr ⟨lw_p19, List.forall_mem_cons.mpr ⟨lw_p20, List.forall_mem_cons.mpr ⟨lw_p21, List.forall_mem_cons.mpr ⟨lw_p22, List.forall_mem_cons.mpr ⟨lw_p23, List.forall_mem_cons.mpr ⟨lw_p24, List.forall_mem_cons.mpr ⟨lw_p25, List.forall_mem_cons.mpr ⟨lw_p26, List.forall_mem_cons.mpr ⟨lw_p27, List.forall_mem_cons.mpr ⟨lw_p28, List.forall_mem_cons.mpr ⟨lw_p29, List.forall_mem_cons.mpr ⟨lw_p30, List.forall_mem_cons.mpr ⟨lw_p31, fun _ h => absurd h List.not_mem_nil⟩⟩⟩⟩⟩⟩⟩⟩⟩⟩⟩⟩⟩⟩⟩⟩
theorem lw_p32 : lw_okq (⟨"SaintsRoad$Brotherhoods", "allowed", "(I)I"⟩, 12) := ⟨⟨by decide +kernel, by decide +kernel⟩, List.mem_of_getElem? (i := 241) (by decide +kernel), List.mem_of_getElem? (i := 780) (by decide +kernel), List.mem_of_getElem? (i := 781) (by decide +kernel)⟩
theorem lw_p33 : lw_okq (⟨"SaintsRoad$Brotherhoods", "fairest", "(I)I"⟩, 12) := ⟨⟨by decide +kernel, by decide +kernel⟩, List.mem_of_getElem? (i := 241) (by decide +kernel), List.mem_of_getElem? (i := 784) (by decide +kernel), List.mem_of_getElem? (i := 785) (by decide +kernel)⟩
theorem lw_p34 : lw_okq (⟨"SaintsRoad$Brotherhoods", "isFairer", "(II)Z"⟩, 12) := ⟨⟨by decide +kernel, by decide +kernel⟩, List.mem_of_getElem? (i := 241) (by decide +kernel), List.mem_of_getElem? (i := 788) (by decide +kernel), List.mem_of_getElem? (i := 789) (by decide +kernel)⟩
theorem lw_p35 : lw_okq (⟨"SaintsRoad", "isLong", "(II)Z"⟩, 6) := ⟨⟨by decide +kernel, by decide +kernel⟩, List.mem_of_getElem? (i := 23) (by decide +kernel), List.mem_of_getElem? (i := 841) (by decide +kernel), List.mem_of_getElem? (i := 842) (by decide +kernel)⟩
theorem lw_p36 : lw_okq (⟨"SaintsRoad$Procession", "stretches", "()I"⟩, 5) := ⟨⟨by decide +kernel, by decide +kernel⟩, List.mem_of_getElem? (i := 294) (by decide +kernel), List.mem_of_getElem? (i := 866) (by decide +kernel), List.mem_of_getElem? (i := 867) (by decide +kernel)⟩
theorem lw_p37 : lw_okq (⟨"SaintsRoad$Procession", "comes", "(I)I"⟩, 5) := ⟨⟨by decide +kernel, by decide +kernel⟩, List.mem_of_getElem? (i := 294) (by decide +kernel), List.mem_of_getElem? (i := 870) (by decide +kernel), List.mem_of_getElem? (i := 871) (by decide +kernel)⟩
theorem lw_p38 : lw_okq (⟨"SaintsRoad$Procession", "tellCorner", "(I)I"⟩, 5) := ⟨⟨by decide +kernel, by decide +kernel⟩, List.mem_of_getElem? (i := 294) (by decide +kernel), List.mem_of_getElem? (i := 874) (by decide +kernel), List.mem_of_getElem? (i := 875) (by decide +kernel)⟩
theorem lw_p39 : lw_okq (⟨"SaintsRoad$Procession", "crosses", "(ILSaintsRoad$Procession;I)Z"⟩, 5) := ⟨⟨by decide +kernel, by decide +kernel⟩, List.mem_of_getElem? (i := 294) (by decide +kernel), List.mem_of_getElem? (i := 890) (by decide +kernel), List.mem_of_getElem? (i := 891) (by decide +kernel)⟩
theorem lw_p40 : lw_okq (⟨"SaintsRoad$Procession", "firstShared", "(ILSaintsRoad$Procession;I)I"⟩, 5) := ⟨⟨by decide +kernel, by decide +kernel⟩, List.mem_of_getElem? (i := 294) (by decide +kernel), List.mem_of_getElem? (i := 894) (by decide +kernel), List.mem_of_getElem? (i := 895) (by decide +kernel)⟩
theorem lw_p41 : lw_okq (⟨"SaintsRoad$Procession", "leaves", "(I)I"⟩, 5) := ⟨⟨by decide +kernel, by decide +kernel⟩, List.mem_of_getElem? (i := 294) (by decide +kernel), List.mem_of_getElem? (i := 899) (by decide +kernel), List.mem_of_getElem? (i := 900) (by decide +kernel)⟩
theorem lw_p42 : lw_okq (⟨"java/lang/Throwable", "fillInStackTrace", "(I)Ljava/lang/Throwable;"⟩, 6) := ⟨⟨by decide +kernel, by decide +kernel⟩, List.mem_of_getElem? (i := 1008) (by decide +kernel), List.mem_of_getElem? (i := 1006) (by decide +kernel), List.mem_of_getElem? (i := 1007) (by decide +kernel)⟩
theorem lw_p43 : lw_okq (⟨"SaintsRoadModel", "lay", "(I)V"⟩, 47) := ⟨⟨by decide +kernel, by decide +kernel⟩, List.mem_of_getElem? (i := 968) (by decide +kernel), List.mem_of_getElem? (i := 1180) (by decide +kernel), List.mem_of_getElem? (i := 1181) (by decide +kernel)⟩
theorem lw_p44 : lw_okq (⟨"SaintsRoadModel", "readCalendar", "()V"⟩, 47) := ⟨⟨by decide +kernel, by decide +kernel⟩, List.mem_of_getElem? (i := 968) (by decide +kernel), List.mem_of_getElem? (i := 1196) (by decide +kernel), List.mem_of_getElem? (i := 1197) (by decide +kernel)⟩
theorem lw_p45 : lw_okq (⟨"SaintsRoadModel", "clear", "(I)V"⟩, 47) := ⟨⟨by decide +kernel, by decide +kernel⟩, List.mem_of_getElem? (i := 968) (by decide +kernel), List.mem_of_getElem? (i := 1200) (by decide +kernel), List.mem_of_getElem? (i := 1201) (by decide +kernel)⟩
theorem lw_p46 : lw_okq (⟨"SaintsRoadModel", "scan", "()V"⟩, 47) := ⟨⟨by decide +kernel, by decide +kernel⟩, List.mem_of_getElem? (i := 968) (by decide +kernel), List.mem_of_getElem? (i := 1204) (by decide +kernel), List.mem_of_getElem? (i := 1205) (by decide +kernel)⟩
theorem lw_p47 : lw_okq (⟨"SaintsRoadModel", "byteAt", "(I)I"⟩, 47) := ⟨⟨by decide +kernel, by decide +kernel⟩, List.mem_of_getElem? (i := 968) (by decide +kernel), List.mem_of_getElem? (i := 1208) (by decide +kernel), List.mem_of_getElem? (i := 1209) (by decide +kernel)⟩
def lw_privs_3 : List (MethodName × Nat) := [(⟨"SaintsRoad$Brotherhoods", "allowed", "(I)I"⟩, 12), (⟨"SaintsRoad$Brotherhoods", "fairest", "(I)I"⟩, 12), (⟨"SaintsRoad$Brotherhoods", "isFairer", "(II)Z"⟩, 12), (⟨"SaintsRoad", "isLong", "(II)Z"⟩, 6), (⟨"SaintsRoad$Procession", "stretches", "()I"⟩, 5), (⟨"SaintsRoad$Procession", "comes", "(I)I"⟩, 5), (⟨"SaintsRoad$Procession", "tellCorner", "(I)I"⟩, 5), (⟨"SaintsRoad$Procession", "crosses", "(ILSaintsRoad$Procession;I)Z"⟩, 5), (⟨"SaintsRoad$Procession", "firstShared", "(ILSaintsRoad$Procession;I)I"⟩, 5), (⟨"SaintsRoad$Procession", "leaves", "(I)I"⟩, 5), (⟨"java/lang/Throwable", "fillInStackTrace", "(I)Ljava/lang/Throwable;"⟩, 6), (⟨"SaintsRoadModel", "lay", "(I)V"⟩, 47), (⟨"SaintsRoadModel", "readCalendar", "()V"⟩, 47), (⟨"SaintsRoadModel", "clear", "(I)V"⟩, 47), (⟨"SaintsRoadModel", "scan", "()V"⟩, 47), (⟨"SaintsRoadModel", "byteAt", "(I)I"⟩, 47)]
theorem lw_r3 : ∀ q ∈ lw_privs_3, lw_okq q := List.forall_mem_cons.mpr ⟨lw_p32, List.forall_mem_cons.mpr ⟨lw_p33, List.forall_mem_cons.mpr ⟨lw_p34, List.forall_mem_cons.mpr ⟨lw_p35, List.forall_mem_cons.mpr ⟨lw_p36, List.forall_mem_cons.mpr ⟨lw_p37, List.forall_mem_cons.mpr ⟨lw_p38, List.forall_mem_cons.mpr ⟨lw_p39, List.forall_mem_cons.mpr ⟨lw_p40, List.forall_mem_cons.mpr ⟨lw_p41, List.forall_mem_cons.mpr ⟨lw_p42, List.forall_mem_cons.mpr ⟨lw_p43, List.forall_mem_cons.mpr ⟨lw_p44, List.forall_mem_cons.mpr ⟨lw_p45, List.forall_mem_cons.mpr ⟨lw_p46, List.forall_mem_cons.mpr ⟨lw_p47, fun _ h => absurd h List.not_mem_nil⟩⟩⟩⟩⟩⟩⟩⟩⟩⟩⟩⟩⟩⟩⟩⟩
theorem lw_p48 : lw_okq (⟨"SaintsRoadModel", "readLine", "()V"⟩, 47) := ⟨⟨by decide +kernel, by decide +kernel⟩, List.mem_of_getElem? (i := 968) (by decide +kernel), List.mem_of_getElem? (i := 1218) (by decide +kernel), List.mem_of_getElem? (i := 1219) (by decide +kernel)⟩
theorem lw_p49 : lw_okq (⟨"SaintsRoadModel", "is", "(Ljava/lang/String;)Z"⟩, 47) := ⟨⟨by decide +kernel, by decide +kernel⟩, List.mem_of_getElem? (i := 968) (by decide +kernel), List.mem_of_getElem? (i := 1223) (by decide +kernel), List.mem_of_getElem? (i := 1224) (by decide +kernel)⟩
theorem lw_p50 : lw_okq (⟨"SaintsRoadModel", "wrong", "(I)LSaintsRoadModel$Stop;"⟩, 47) := ⟨⟨by decide +kernel, by decide +kernel⟩, List.mem_of_getElem? (i := 968) (by decide +kernel), List.mem_of_getElem? (i := 1229) (by decide +kernel), List.mem_of_getElem? (i := 1230) (by decide +kernel)⟩
theorem lw_p51 : lw_okq (⟨"SaintsRoadModel", "takeNumber", "(II)I"⟩, 47) := ⟨⟨by decide +kernel, by decide +kernel⟩, List.mem_of_getElem? (i := 968) (by decide +kernel), List.mem_of_getElem? (i := 1233) (by decide +kernel), List.mem_of_getElem? (i := 1234) (by decide +kernel)⟩
theorem lw_p52 : lw_okq (⟨"SaintsRoadModel", "number", "(II)I"⟩, 47) := ⟨⟨by decide +kernel, by decide +kernel⟩, List.mem_of_getElem? (i := 968) (by decide +kernel), List.mem_of_getElem? (i := 1237) (by decide +kernel), List.mem_of_getElem? (i := 1238) (by decide +kernel)⟩
theorem lw_p53 : lw_okq (⟨"SaintsRoadModel", "readFeast", "()V"⟩, 47) := ⟨⟨by decide +kernel, by decide +kernel⟩, List.mem_of_getElem? (i := 968) (by decide +kernel), List.mem_of_getElem? (i := 1243) (by decide +kernel), List.mem_of_getElem? (i := 1244) (by decide +kernel)⟩
theorem lw_p54 : lw_okq (⟨"SaintsRoadModel", "isSign", "(I)Z"⟩, 47) := ⟨⟨by decide +kernel, by decide +kernel⟩, List.mem_of_getElem? (i := 968) (by decide +kernel), List.mem_of_getElem? (i := 1253) (by decide +kernel), List.mem_of_getElem? (i := 1254) (by decide +kernel)⟩
theorem lw_p55 : lw_okq (⟨"SaintsRoadModel", "need", "(Ljava/lang/String;)V"⟩, 47) := ⟨⟨by decide +kernel, by decide +kernel⟩, List.mem_of_getElem? (i := 968) (by decide +kernel), List.mem_of_getElem? (i := 1258) (by decide +kernel), List.mem_of_getElem? (i := 1259) (by decide +kernel)⟩
theorem lw_p56 : lw_okq (⟨"SaintsRoadModel", "isQuoted", "()Z"⟩, 47) := ⟨⟨by decide +kernel, by decide +kernel⟩, List.mem_of_getElem? (i := 968) (by decide +kernel), List.mem_of_getElem? (i := 1262) (by decide +kernel), List.mem_of_getElem? (i := 1263) (by decide +kernel)⟩
theorem lw_p57 : lw_okq (⟨"SaintsRoadModel", "isNamed", "(II)Z"⟩, 47) := ⟨⟨by decide +kernel, by decide +kernel⟩, List.mem_of_getElem? (i := 968) (by decide +kernel), List.mem_of_getElem? (i := 1270) (by decide +kernel), List.mem_of_getElem? (i := 1271) (by decide +kernel)⟩
theorem lw_p58 : lw_okq (⟨"SaintsRoadModel", "become", "(II)V"⟩, 47) := ⟨⟨by decide +kernel, by decide +kernel⟩, List.mem_of_getElem? (i := 968) (by decide +kernel), List.mem_of_getElem? (i := 1274) (by decide +kernel), List.mem_of_getElem? (i := 1275) (by decide +kernel)⟩
theorem lw_p59 : lw_okq (⟨"SaintsRoadModel", "isFeast", "(II)Z"⟩, 47) := ⟨⟨by decide +kernel, by decide +kernel⟩, List.mem_of_getElem? (i := 968) (by decide +kernel), List.mem_of_getElem? (i := 1286) (by decide +kernel), List.mem_of_getElem? (i := 1287) (by decide +kernel)⟩
theorem lw_p60 : lw_okq (⟨"SaintsRoadModel", "isPlaced", "(III)Z"⟩, 47) := ⟨⟨by decide +kernel, by decide +kernel⟩, List.mem_of_getElem? (i := 968) (by decide +kernel), List.mem_of_getElem? (i := 1296) (by decide +kernel), List.mem_of_getElem? (i := 1297) (by decide +kernel)⟩
theorem lw_p61 : lw_okq (⟨"SaintsRoadModel", "lead", "(II)V"⟩, 47) := ⟨⟨by decide +kernel, by decide +kernel⟩, List.mem_of_getElem? (i := 968) (by decide +kernel), List.mem_of_getElem? (i := 1300) (by decide +kernel), List.mem_of_getElem? (i := 1301) (by decide +kernel)⟩
theorem lw_p62 : lw_okq (⟨"SaintsRoadModel", "ownDay", "(III)I"⟩, 47) := ⟨⟨by decide +kernel, by decide +kernel⟩, List.mem_of_getElem? (i := 968) (by decide +kernel), List.mem_of_getElem? (i := 1304) (by decide +kernel), List.mem_of_getElem? (i := 1305) (by decide +kernel)⟩
theorem lw_p63 : lw_okq (⟨"SaintsRoadModel", "isVigil", "(III)Z"⟩, 47) := ⟨⟨by decide +kernel, by decide +kernel⟩, List.mem_of_getElem? (i := 968) (by decide +kernel), List.mem_of_getElem? (i := 1320) (by decide +kernel), List.mem_of_getElem? (i := 1321) (by decide +kernel)⟩
def lw_privs_4 : List (MethodName × Nat) := [(⟨"SaintsRoadModel", "readLine", "()V"⟩, 47), (⟨"SaintsRoadModel", "is", "(Ljava/lang/String;)Z"⟩, 47), (⟨"SaintsRoadModel", "wrong", "(I)LSaintsRoadModel$Stop;"⟩, 47), (⟨"SaintsRoadModel", "takeNumber", "(II)I"⟩, 47), (⟨"SaintsRoadModel", "number", "(II)I"⟩, 47), (⟨"SaintsRoadModel", "readFeast", "()V"⟩, 47), (⟨"SaintsRoadModel", "isSign", "(I)Z"⟩, 47), (⟨"SaintsRoadModel", "need", "(Ljava/lang/String;)V"⟩, 47), (⟨"SaintsRoadModel", "isQuoted", "()Z"⟩, 47), (⟨"SaintsRoadModel", "isNamed", "(II)Z"⟩, 47), (⟨"SaintsRoadModel", "become", "(II)V"⟩, 47), (⟨"SaintsRoadModel", "isFeast", "(II)Z"⟩, 47), (⟨"SaintsRoadModel", "isPlaced", "(III)Z"⟩, 47), (⟨"SaintsRoadModel", "lead", "(II)V"⟩, 47), (⟨"SaintsRoadModel", "ownDay", "(III)I"⟩, 47), (⟨"SaintsRoadModel", "isVigil", "(III)Z"⟩, 47)]
theorem lw_r4 : ∀ q ∈ lw_privs_4, lw_okq q := List.forall_mem_cons.mpr ⟨lw_p48, List.forall_mem_cons.mpr ⟨lw_p49, List.forall_mem_cons.mpr ⟨lw_p50, List.forall_mem_cons.mpr ⟨lw_p51, List.forall_mem_cons.mpr ⟨lw_p52, List.forall_mem_cons.mpr ⟨lw_p53, List.forall_mem_cons.mpr ⟨lw_p54, List.forall_mem_cons.mpr ⟨lw_p55, List.forall_mem_cons.mpr ⟨lw_p56, List.forall_mem_cons.mpr ⟨lw_p57, List.forall_mem_cons.mpr ⟨lw_p58, List.forall_mem_cons.mpr ⟨lw_p59, List.forall_mem_cons.mpr ⟨lw_p60, List.forall_mem_cons.mpr ⟨lw_p61, List.forall_mem_cons.mpr ⟨lw_p62, List.forall_mem_cons.mpr ⟨lw_p63, fun _ h => absurd h List.not_mem_nil⟩⟩⟩⟩⟩⟩⟩⟩⟩⟩⟩⟩⟩⟩⟩⟩
theorem lw_p64 : lw_okq (⟨"SaintsRoadModel", "waxOf", "(II)I"⟩, 47) := ⟨⟨by decide +kernel, by decide +kernel⟩, List.mem_of_getElem? (i := 968) (by decide +kernel), List.mem_of_getElem? (i := 1328) (by decide +kernel), List.mem_of_getElem? (i := 1329) (by decide +kernel)⟩
theorem lw_p65 : lw_okq (⟨"SaintsRoadModel", "areLike", "(IIII)Z"⟩, 47) := ⟨⟨by decide +kernel, by decide +kernel⟩, List.mem_of_getElem? (i := 968) (by decide +kernel), List.mem_of_getElem? (i := 1341) (by decide +kernel), List.mem_of_getElem? (i := 1342) (by decide +kernel)⟩
theorem lw_p66 : lw_okq (⟨"SaintsRoadModel", "carrier", "(II)I"⟩, 47) := ⟨⟨by decide +kernel, by decide +kernel⟩, List.mem_of_getElem? (i := 968) (by decide +kernel), List.mem_of_getElem? (i := 1358) (by decide +kernel), List.mem_of_getElem? (i := 1359) (by decide +kernel)⟩
theorem lw_p67 : lw_okq (⟨"SaintsRoadModel", "parts", "(II)Z"⟩, 47) := ⟨⟨by decide +kernel, by decide +kernel⟩, List.mem_of_getElem? (i := 968) (by decide +kernel), List.mem_of_getElem? (i := 1362) (by decide +kernel), List.mem_of_getElem? (i := 1363) (by decide +kernel)⟩
theorem lw_p68 : lw_okq (⟨"SaintsRoadModel", "headAt", "(II)I"⟩, 47) := ⟨⟨by decide +kernel, by decide +kernel⟩, List.mem_of_getElem? (i := 968) (by decide +kernel), List.mem_of_getElem? (i := 1408) (by decide +kernel), List.mem_of_getElem? (i := 1409) (by decide +kernel)⟩
theorem lw_p69 : lw_okq (⟨"SaintsRoadModel", "isGoing", "(I)Z"⟩, 47) := ⟨⟨by decide +kernel, by decide +kernel⟩, List.mem_of_getElem? (i := 968) (by decide +kernel), List.mem_of_getElem? (i := 1416) (by decide +kernel), List.mem_of_getElem? (i := 1417) (by decide +kernel)⟩
theorem lw_p70 : lw_okq (⟨"SaintsRoadModel", "meet", "(II)I"⟩, 47) := ⟨⟨by decide +kernel, by decide +kernel⟩, List.mem_of_getElem? (i := 968) (by decide +kernel), List.mem_of_getElem? (i := 1420) (by decide +kernel), List.mem_of_getElem? (i := 1421) (by decide +kernel)⟩
def lw_privs_5 : List (MethodName × Nat) := [(⟨"SaintsRoadModel", "waxOf", "(II)I"⟩, 47), (⟨"SaintsRoadModel", "areLike", "(IIII)Z"⟩, 47), (⟨"SaintsRoadModel", "carrier", "(II)I"⟩, 47), (⟨"SaintsRoadModel", "parts", "(II)Z"⟩, 47), (⟨"SaintsRoadModel", "headAt", "(II)I"⟩, 47), (⟨"SaintsRoadModel", "isGoing", "(I)Z"⟩, 47), (⟨"SaintsRoadModel", "meet", "(II)I"⟩, 47)]
theorem lw_r5 : ∀ q ∈ lw_privs_5, lw_okq q := List.forall_mem_cons.mpr ⟨lw_p64, List.forall_mem_cons.mpr ⟨lw_p65, List.forall_mem_cons.mpr ⟨lw_p66, List.forall_mem_cons.mpr ⟨lw_p67, List.forall_mem_cons.mpr ⟨lw_p68, List.forall_mem_cons.mpr ⟨lw_p69, List.forall_mem_cons.mpr ⟨lw_p70, fun _ h => absurd h List.not_mem_nil⟩⟩⟩⟩⟩⟩⟩
def lw_privs : List (MethodName × Nat) := lw_privs_1 ++ (lw_privs_2 ++ (lw_privs_3 ++ (lw_privs_4 ++ (lw_privs_5))))
def lw_tbl : List Cond := k2_sels lw_privs ++ tables_1
theorem lw_privs_ok : ∀ q ∈ lw_privs, lw_okq q := by
  show ∀ q ∈ lw_privs_1 ++ (lw_privs_2 ++ (lw_privs_3 ++ (lw_privs_4 ++ (lw_privs_5)))), lw_okq q
  exact List.forall_mem_append.mpr ⟨lw_r1, List.forall_mem_append.mpr ⟨lw_r2, List.forall_mem_append.mpr ⟨lw_r3, List.forall_mem_append.mpr ⟨lw_r4, lw_r5⟩⟩⟩⟩
end
section
/-! ===== BEGIN words of one list among another's, by their places ===== -/
theorem goodIn_r {big : List Cond} (ws : List Cond) (ps : List Nat) (hp : ws = ps.filterMap (fun i => big[i]?)) (h : ws.all goodWord = true) : GoodIn big ws := by
  intro w hw
  have h1 := List.all_eq_true.mp h w hw
  rw [hp] at hw
  obtain ⟨i, -, hi⟩ := List.mem_filterMap.mp hw
  have hm : w ∈ big := by first | exact List.mem_of_getElem? hi | exact List.getElem?_mem hi
  exact ⟨hm, good_of_word h1⟩
theorem goodIn_app {big a b : List Cond} (ha : GoodIn big a) (hb : GoodIn big b) : GoodIn big (a ++ b) := fun w h => (List.mem_append.mp h).elim (ha w) (hb w)
theorem goodIn_ca {big a b : List Cond} {c : Cond} (ha : GoodIn big (c :: a)) (hb : GoodIn big b) : GoodIn big (c :: (a ++ b)) := fun w h => (List.mem_cons.mp h).elim (fun e => ha w (List.mem_cons.mpr (Or.inl e))) (fun h => (List.mem_append.mp h).elim (fun h => ha w (List.mem_cons.mpr (Or.inr h))) (hb w))
theorem goodIn_sub {big ws : List Cond} (hm : ∀ w ∈ ws, w ∈ big) (h : ws.all goodWord = true) : GoodIn big ws := fun w hw => ⟨hm w hw, good_of_word (List.all_eq_true.mp h w hw)⟩
/-! ===== END ===== -/

/-! ===== BEGIN printed: names, fields, word lists, decode rows ===== -/
def RX0 : String := "SaintsRoad$Brotherhoods"
def TX0 : u_T := fun k => match k with
  | 0 => ("SaintsRoad$Brotherhoods", "carriedBy", "[I", true)
  | 1 => ("SaintsRoad$Brotherhoods", "quarrelCount", "I", false)
  | 2 => ("SaintsRoad$Brotherhoods", "turns", "I", false)
  | 3 => ("SaintsRoad$Brotherhoods", "quarrels", "[I", true)
  | 4 => ("SaintsRoad$Brotherhoods", "latestTurn", "[I", true)
  | 5 => ("SaintsRoad$Brotherhoods", "yearOf", "[I", true)
  | 6 => ("SaintsRoad$Brotherhoods", "dayOf", "[I", true)
  | 7 => ("SaintsRoad$Brotherhoods", "feastOf", "[I", true)
  | 8 => ("SaintsRoad$Brotherhoods", "carrierOf", "[I", true)
  | 9 => ("SaintsRoad$Brotherhoods", "set", "I", false)
  | 10 => ("SaintsRoad$Brotherhoods", "latestCarrier", "I", false)
  | _ => ("SaintsRoad$Brotherhoods", "latestDay", "I", false)
def tyX0 : Nat → FieldType := fun k => match k with
  | 0 => .array .int
  | 1 => .int
  | 2 => .int
  | 3 => .array .int
  | 4 => .array .int
  | 5 => .array .int
  | 6 => .array .int
  | 7 => .array .int
  | 8 => .array .int
  | 9 => .int
  | 10 => .int
  | _ => .int
abbrev wsX00 : List Cond := u_ws RX0 TX0 12
theorem nmX0 : ∀ a, a < 12 → ∀ b, b < 12 → a ≠ b → (TX0 a).2.1 ≠ (TX0 b).2.1 := by decide +kernel
theorem tyX0_ok : ∀ k, k < 12 → parseFieldDescriptor (TX0 k).2.2.1 = some (tyX0 k) := by decide +kernel
abbrev cX0_init : ByteArray := prog_2_method_1_code
def yX0_init : MethodName := ⟨RX0, "<init>", "()V"⟩
abbrev cX0_setQuarrel : ByteArray := prog_2_method_2_code
def yX0_setQuarrel : MethodName := ⟨RX0, "setQuarrel", "(IIZ)Z"⟩
abbrev cX0_startTurns : ByteArray := prog_2_method_3_code
def yX0_startTurns : MethodName := ⟨RX0, "startTurns", "(I)V"⟩
abbrev cX0_carry : ByteArray := prog_2_method_4_code
def yX0_carry : MethodName := ⟨RX0, "carry", "(III)V"⟩
abbrev cX0_allowed : ByteArray := prog_2_method_5_code
def yX0_allowed : MethodName := ⟨RX0, "allowed", "(I)I"⟩
abbrev cX0_fairest : ByteArray := prog_2_method_6_code
def yX0_fairest : MethodName := ⟨RX0, "fairest", "(I)I"⟩
abbrev cX0_isFairer : ByteArray := prog_2_method_7_code
def yX0_isFairer : MethodName := ⟨RX0, "isFairer", "(II)Z"⟩
abbrev cX0_tellTurn : ByteArray := prog_2_method_8_code
def yX0_tellTurn : MethodName := ⟨RX0, "tellTurn", "(II)I"⟩
def RX1 : String := "SaintsRoad$Calendar"
def TX1 : u_T := fun k => match k with
  | 0 => ("SaintsRoad$Calendar", "feasts", "[LSaintsRoad$Feast;", true)
  | 1 => ("SaintsRoad$Calendar", "waxByRank", "[I", true)
  | 2 => ("SaintsRoad$Calendar", "size", "I", false)
  | 3 => ("SaintsRoad$Calendar", "yieldRank", "I", false)
  | 4 => ("SaintsRoad$Calendar", "yieldTimes", "I", false)
  | _ => ("SaintsRoad$Calendar", "lent", "I", false)
def tyX1 : Nat → FieldType := fun k => match k with
  | 0 => .array (.object "SaintsRoad$Feast")
  | 1 => .array .int
  | 2 => .int
  | 3 => .int
  | 4 => .int
  | _ => .int
abbrev wsX10 : List Cond := u_ws RX1 TX1 6
theorem nmX1 : ∀ a, a < 6 → ∀ b, b < 6 → a ≠ b → (TX1 a).2.1 ≠ (TX1 b).2.1 := by decide +kernel
theorem tyX1_ok : ∀ k, k < 6 → parseFieldDescriptor (TX1 k).2.2.1 = some (tyX1 k) := by decide +kernel
abbrev cX1_init : ByteArray := prog_3_method_1_code
def yX1_init : MethodName := ⟨RX1, "<init>", "()V"⟩
abbrev cX1_clear : ByteArray := prog_3_method_2_code
def yX1_clear : MethodName := ⟨RX1, "clear", "()V"⟩
abbrev cX1_hasName : ByteArray := prog_3_method_3_code
def yX1_hasName : MethodName := ⟨RX1, "hasName", "(J)Z"⟩
abbrev cX1_waxOfRank : ByteArray := prog_3_method_4_code
def yX1_waxOfRank : MethodName := ⟨RX1, "waxOfRank", "(I)I"⟩
def RX2 : String := "SaintsRoad$Days"
def TX2 : u_T := fun k => match k with
  | _ => ("", "", "", false)
def tyX2 : Nat → FieldType := fun k => match k with
  | _ => .int
abbrev wsX20 : List Cond := u_ws RX2 TX2 0
theorem nmX2 : ∀ a, a < 0 → ∀ b, b < 0 → a ≠ b → (TX2 a).2.1 ≠ (TX2 b).2.1 := by decide +kernel
theorem tyX2_ok : ∀ k, k < 0 → parseFieldDescriptor (TX2 k).2.2.1 = some (tyX2 k) := by decide +kernel
abbrev cX2_isYear : ByteArray := prog_4_method_2_code
def yX2_isYear : MethodName := ⟨RX2, "isYear", "(I)Z"⟩
abbrev cX2_isDay : ByteArray := prog_4_method_3_code
def yX2_isDay : MethodName := ⟨RX2, "isDay", "(II)Z"⟩
abbrev cX2_isLeap : ByteArray := prog_4_method_4_code
def yX2_isLeap : MethodName := ⟨RX2, "isLeap", "(I)Z"⟩
abbrev cX2_length : ByteArray := prog_4_method_5_code
def yX2_length : MethodName := ⟨RX2, "length", "(I)I"⟩
abbrev cX2_daysAhead : ByteArray := prog_4_method_6_code
def yX2_daysAhead : MethodName := ⟨RX2, "daysAhead", "(I)I"⟩
abbrev cX2_weekday : ByteArray := prog_4_method_7_code
def yX2_weekday : MethodName := ⟨RX2, "weekday", "(II)I"⟩
abbrev cX2_isSunday : ByteArray := prog_4_method_8_code
def yX2_isSunday : MethodName := ⟨RX2, "isSunday", "(II)Z"⟩
abbrev cX2_mostDaysOf : ByteArray := prog_4_method_9_code
def yX2_mostDaysOf : MethodName := ⟨RX2, "mostDaysOf", "(I)I"⟩
abbrev cX2_monthLength : ByteArray := prog_4_method_10_code
def yX2_monthLength : MethodName := ⟨RX2, "monthLength", "(II)I"⟩
abbrev cX2_monthStart : ByteArray := prog_4_method_11_code
def yX2_monthStart : MethodName := ⟨RX2, "monthStart", "(II)I"⟩
abbrev cX2_monthOf : ByteArray := prog_4_method_12_code
def yX2_monthOf : MethodName := ⟨RX2, "monthOf", "(II)I"⟩
abbrev cX2_easterOf : ByteArray := prog_4_method_13_code
def yX2_easterOf : MethodName := ⟨RX2, "easterOf", "(I)I"⟩
abbrev cX2_sundayOf : ByteArray := prog_4_method_14_code
def yX2_sundayOf : MethodName := ⟨RX2, "sundayOf", "(III)I"⟩
def RX3 : String := "SaintsRoad$Feast"
def TX3 : u_T := fun k => match k with
  | 0 => ("SaintsRoad$Feast", "name", "J", false)
  | 1 => ("SaintsRoad$Feast", "letterCount", "I", false)
  | 2 => ("SaintsRoad$Feast", "kind", "I", false)
  | 3 => ("SaintsRoad$Feast", "month", "I", false)
  | 4 => ("SaintsRoad$Feast", "date", "I", false)
  | 5 => ("SaintsRoad$Feast", "shift", "I", false)
  | 6 => ("SaintsRoad$Feast", "week", "I", false)
  | 7 => ("SaintsRoad$Feast", "rank", "I", false)
  | 8 => ("SaintsRoad$Feast", "vigil", "Z", false)
  | 9 => ("SaintsRoad$Feast", "octave", "Z", false)
  | 10 => ("SaintsRoad$Feast", "from", "I", false)
  | _ => ("SaintsRoad$Feast", "till", "I", false)
def tyX3 : Nat → FieldType := fun k => match k with
  | 0 => .long
  | 1 => .int
  | 2 => .int
  | 3 => .int
  | 4 => .int
  | 5 => .int
  | 6 => .int
  | 7 => .int
  | 8 => .boolean
  | 9 => .boolean
  | 10 => .int
  | _ => .int
abbrev wsX30 : List Cond := u_ws RX3 TX3 12
theorem nmX3 : ∀ a, a < 12 → ∀ b, b < 12 → a ≠ b → (TX3 a).2.1 ≠ (TX3 b).2.1 := by decide +kernel
theorem tyX3_ok : ∀ k, k < 12 → parseFieldDescriptor (TX3 k).2.2.1 = some (tyX3 k) := by decide +kernel
abbrev cX3_init : ByteArray := prog_5_method_1_code
def yX3_init : MethodName := ⟨RX3, "<init>", "()V"⟩
abbrev cX3_clear : ByteArray := prog_5_method_2_code
def yX3_clear : MethodName := ⟨RX3, "clear", "(I)V"⟩
abbrev cX3_setName : ByteArray := prog_5_method_3_code
def yX3_setName : MethodName := ⟨RX3, "setName", "(LSaintsRoad$Tape;II)V"⟩
abbrev cX3_letter : ByteArray := prog_5_method_4_code
def yX3_letter : MethodName := ⟨RX3, "letter", "(I)I"⟩
abbrev cX3_tell : ByteArray := prog_5_method_5_code
def yX3_tell : MethodName := ⟨RX3, "tell", "(I)I"⟩
abbrev cX3_ownDayIn : ByteArray := prog_5_method_6_code
def yX3_ownDayIn : MethodName := ⟨RX3, "ownDayIn", "(II)I"⟩
abbrev cX3_fixedDay : ByteArray := prog_5_method_7_code
def yX3_fixedDay : MethodName := ⟨RX3, "fixedDay", "(I)I"⟩
def RX4 : String := "SaintsRoad$Place"
def TX4 : u_T := fun k => match k with
  | 0 => ("SaintsRoad$Place", "heldDay", "[I", true)
  | 1 => ("SaintsRoad$Place", "heldOn", "[I", true)
  | 2 => ("SaintsRoad$Place", "calendar", "LSaintsRoad$Calendar;", false)
  | 3 => ("SaintsRoad$Place", "ownDay", "[I", true)
  | 4 => ("SaintsRoad$Place", "timesMoved", "[I", true)
  | 5 => ("SaintsRoad$Place", "byOwnDay", "[I", true)
  | 6 => ("SaintsRoad$Place", "waiting", "[I", true)
  | 7 => ("SaintsRoad$Place", "inYear", "I", false)
  | 8 => ("SaintsRoad$Place", "easterDay", "I", false)
  | 9 => ("SaintsRoad$Place", "waitingCount", "I", false)
  | _ => ("SaintsRoad$Place", "settledYear", "I", false)
def tyX4 : Nat → FieldType := fun k => match k with
  | 0 => .array .int
  | 1 => .array .int
  | 2 => .object "SaintsRoad$Calendar"
  | 3 => .array .int
  | 4 => .array .int
  | 5 => .array .int
  | 6 => .array .int
  | 7 => .int
  | 8 => .int
  | 9 => .int
  | _ => .int
abbrev wsX40 : List Cond := u_ws RX4 TX4 11
theorem nmX4 : ∀ a, a < 11 → ∀ b, b < 11 → a ≠ b → (TX4 a).2.1 ≠ (TX4 b).2.1 := by decide +kernel
theorem tyX4_ok : ∀ k, k < 11 → parseFieldDescriptor (TX4 k).2.2.1 = some (tyX4 k) := by decide +kernel
abbrev cX4_init : ByteArray := prog_6_method_1_code
def yX4_init : MethodName := ⟨RX4, "<init>", "()V"⟩
abbrev cX4_exchange : ByteArray := prog_6_method_2_code
def yX4_exchange : MethodName := ⟨RX4, "exchange", "(LSaintsRoad$Calendar;)LSaintsRoad$Calendar;"⟩
abbrev cX4_settle : ByteArray := prog_6_method_3_code
def yX4_settle : MethodName := ⟨RX4, "settle", "(I)V"⟩
abbrev cX4_sortByOwnDay : ByteArray := prog_6_method_4_code
def yX4_sortByOwnDay : MethodName := ⟨RX4, "sortByOwnDay", "(I)V"⟩
abbrev cX4_insertByOwnDay : ByteArray := prog_6_method_5_code
def yX4_insertByOwnDay : MethodName := ⟨RX4, "insertByOwnDay", "(I)V"⟩
abbrev cX4_holdBest : ByteArray := prog_6_method_6_code
def yX4_holdBest : MethodName := ⟨RX4, "holdBest", "(I)V"⟩
abbrev cX4_isAbove : ByteArray := prog_6_method_7_code
def yX4_isAbove : MethodName := ⟨RX4, "isAbove", "(II)Z"⟩
abbrev cX4_moveOthersOn : ByteArray := prog_6_method_8_code
def yX4_moveOthersOn : MethodName := ⟨RX4, "moveOthersOn", "()V"⟩
abbrev cX4_canYield : ByteArray := prog_6_method_9_code
def yX4_canYield : MethodName := ⟨RX4, "canYield", "(I)Z"⟩
abbrev cX4_feastHeldOn : ByteArray := prog_6_method_10_code
def yX4_feastHeldOn : MethodName := ⟨RX4, "feastHeldOn", "(I)LSaintsRoad$Feast;"⟩
abbrev cX4_officeOf : ByteArray := prog_6_method_11_code
def yX4_officeOf : MethodName := ⟨RX4, "officeOf", "(I)I"⟩
abbrev cX4_isFast : ByteArray := prog_6_method_12_code
def yX4_isFast : MethodName := ⟨RX4, "isFast", "(I)Z"⟩
abbrev cX4_isInLent : ByteArray := prog_6_method_13_code
def yX4_isInLent : MethodName := ⟨RX4, "isInLent", "(I)Z"⟩
abbrev cX4_isVigil : ByteArray := prog_6_method_14_code
def yX4_isVigil : MethodName := ⟨RX4, "isVigil", "(IZ)Z"⟩
abbrev cX4_hasVigil : ByteArray := prog_6_method_15_code
def yX4_hasVigil : MethodName := ⟨RX4, "hasVigil", "(I)Z"⟩
abbrev cX4_waxOf : ByteArray := prog_6_method_16_code
def yX4_waxOf : MethodName := ⟨RX4, "waxOf", "(I)I"⟩
abbrev cX4_feastOf : ByteArray := prog_6_method_17_code
def yX4_feastOf : MethodName := ⟨RX4, "feastOf", "(I)LSaintsRoad$Feast;"⟩
abbrev cX4_firstHeld : ByteArray := prog_6_method_18_code
def yX4_firstHeld : MethodName := ⟨RX4, "firstHeld", "(II)I"⟩
abbrev cX4_isAlike : ByteArray := prog_6_method_19_code
def yX4_isAlike : MethodName := ⟨RX4, "isAlike", "(LSaintsRoad$Place;I)Z"⟩
def RX5 : String := "SaintsRoad$Procession"
def TX5 : u_T := fun k => match k with
  | 0 => ("SaintsRoad$Procession", "size", "I", false)
  | 1 => ("SaintsRoad$Procession", "beginning", "I", false)
  | 2 => ("SaintsRoad$Procession", "corners", "[I", true)
  | 3 => ("SaintsRoad$Procession", "reached", "[I", true)
  | _ => ("SaintsRoad$Procession", "tail", "I", false)
def tyX5 : Nat → FieldType := fun k => match k with
  | 0 => .int
  | 1 => .int
  | 2 => .array .int
  | 3 => .array .int
  | _ => .int
abbrev wsX50 : List Cond := u_ws RX5 TX5 5
theorem nmX5 : ∀ a, a < 5 → ∀ b, b < 5 → a ≠ b → (TX5 a).2.1 ≠ (TX5 b).2.1 := by decide +kernel
theorem tyX5_ok : ∀ k, k < 5 → parseFieldDescriptor (TX5 k).2.2.1 = some (tyX5 k) := by decide +kernel
abbrev cX5_init : ByteArray := prog_7_method_1_code
def yX5_init : MethodName := ⟨RX5, "<init>", "()V"⟩
abbrev cX5_start : ByteArray := prog_7_method_2_code
def yX5_start : MethodName := ⟨RX5, "start", "(III)V"⟩
abbrev cX5_lastCorner : ByteArray := prog_7_method_3_code
def yX5_lastCorner : MethodName := ⟨RX5, "lastCorner", "()I"⟩
abbrev cX5_goOn : ByteArray := prog_7_method_4_code
def yX5_goOn : MethodName := ⟨RX5, "goOn", "(II)Z"⟩
abbrev cX5_tell : ByteArray := prog_7_method_5_code
def yX5_tell : MethodName := ⟨RX5, "tell", "(I)I"⟩
abbrev cX5_tellCorner : ByteArray := prog_7_method_6_code
def yX5_tellCorner : MethodName := ⟨RX5, "tellCorner", "(I)I"⟩
abbrev cX5_stretches : ByteArray := prog_7_method_7_code
def yX5_stretches : MethodName := ⟨RX5, "stretches", "()I"⟩
abbrev cX5_comes : ByteArray := prog_7_method_8_code
def yX5_comes : MethodName := ⟨RX5, "comes", "(I)I"⟩
abbrev cX5_leaves : ByteArray := prog_7_method_9_code
def yX5_leaves : MethodName := ⟨RX5, "leaves", "(I)I"⟩
abbrev cX5_crosses : ByteArray := prog_7_method_10_code
def yX5_crosses : MethodName := ⟨RX5, "crosses", "(ILSaintsRoad$Procession;I)Z"⟩
abbrev cX5_firstMeeting : ByteArray := prog_7_method_11_code
def yX5_firstMeeting : MethodName := ⟨RX5, "firstMeeting", "(LSaintsRoad$Procession;)I"⟩
abbrev cX5_firstShared : ByteArray := prog_7_method_12_code
def yX5_firstShared : MethodName := ⟨RX5, "firstShared", "(ILSaintsRoad$Procession;I)I"⟩
abbrev cX5_addHindrances : ByteArray := prog_7_method_13_code
def yX5_addHindrances : MethodName := ⟨RX5, "addHindrances", "(LSaintsRoad$Procession;[I)V"⟩
abbrev cX5_addHindrance : ByteArray := prog_7_method_14_code
def yX5_addHindrance : MethodName := ⟨RX5, "addHindrance", "([III)V"⟩
def RX6 : String := "SaintsRoad$Reader"
def TX6 : u_T := fun k => match k with
  | 0 => ("SaintsRoad$Reader", "faultKind", "I", false)
  | 1 => ("SaintsRoad$Reader", "faultPlace", "I", false)
  | 2 => ("SaintsRoad$Reader", "tape", "LSaintsRoad$Tape;", false)
  | 3 => ("SaintsRoad$Reader", "calendar", "LSaintsRoad$Calendar;", false)
  | 4 => ("SaintsRoad$Reader", "feast", "LSaintsRoad$Feast;", false)
  | 5 => ("SaintsRoad$Reader", "state", "I", false)
  | 6 => ("SaintsRoad$Reader", "at", "I", false)
  | 7 => ("SaintsRoad$Reader", "token", "I", false)
  | 8 => ("SaintsRoad$Reader", "start", "I", false)
  | 9 => ("SaintsRoad$Reader", "value", "I", false)
  | 10 => ("SaintsRoad$Reader", "ahead", "Z", false)
  | 11 => ("SaintsRoad$Reader", "marks", "I", false)
  | _ => ("SaintsRoad$Reader", "waxRank", "I", false)
def tyX6 : Nat → FieldType := fun k => match k with
  | 0 => .int
  | 1 => .int
  | 2 => .object "SaintsRoad$Tape"
  | 3 => .object "SaintsRoad$Calendar"
  | 4 => .object "SaintsRoad$Feast"
  | 5 => .int
  | 6 => .int
  | 7 => .int
  | 8 => .int
  | 9 => .int
  | 10 => .boolean
  | 11 => .int
  | _ => .int
abbrev wsX60 : List Cond := u_ws RX6 TX6 13
theorem nmX6 : ∀ a, a < 13 → ∀ b, b < 13 → a ≠ b → (TX6 a).2.1 ≠ (TX6 b).2.1 := by decide +kernel
theorem tyX6_ok : ∀ k, k < 13 → parseFieldDescriptor (TX6 k).2.2.1 = some (tyX6 k) := by decide +kernel
abbrev cX6_init : ByteArray := prog_8_method_1_code
def yX6_init : MethodName := ⟨RX6, "<init>", "()V"⟩
abbrev cX6_readText : ByteArray := prog_8_method_2_code
def yX6_readText : MethodName := ⟨RX6, "readText", "(LSaintsRoad$Tape;LSaintsRoad$Calendar;)Z"⟩
abbrev cX6_readToken : ByteArray := prog_8_method_3_code
def yX6_readToken : MethodName := ⟨RX6, "readToken", "()V"⟩
abbrev cX6_readWord : ByteArray := prog_8_method_4_code
def yX6_readWord : MethodName := ⟨RX6, "readWord", "()V"⟩
abbrev cX6_readNumber : ByteArray := prog_8_method_5_code
def yX6_readNumber : MethodName := ⟨RX6, "readNumber", "()V"⟩
abbrev cX6_wordToken : ByteArray := prog_8_method_6_code
def yX6_wordToken : MethodName := ⟨RX6, "wordToken", "()I"⟩
abbrev cX6_isAtStart : ByteArray := prog_8_method_7_code
def yX6_isAtStart : MethodName := ⟨RX6, "isAtStart", "(Ljava/lang/String;)Z"⟩
abbrev cX6_quoted : ByteArray := prog_8_method_8_code
def yX6_quoted : MethodName := ⟨RX6, "quoted", "(I)Ljava/lang/String;"⟩
abbrev cX6_takeToken : ByteArray := prog_8_method_9_code
def yX6_takeToken : MethodName := ⟨RX6, "takeToken", "()I"⟩
abbrev cX6_pass : ByteArray := prog_8_method_10_code
def yX6_pass : MethodName := ⟨RX6, "pass", "(II)I"⟩
abbrev cX6_goTo : ByteArray := prog_8_method_11_code
def yX6_goTo : MethodName := ⟨RX6, "goTo", "(I)I"⟩
abbrev cX6_takeLineWord : ByteArray := prog_8_method_12_code
def yX6_takeLineWord : MethodName := ⟨RX6, "takeLineWord", "()I"⟩
abbrev cX6_startFeast : ByteArray := prog_8_method_13_code
def yX6_startFeast : MethodName := ⟨RX6, "startFeast", "(II)I"⟩
abbrev cX6_takeMinusOrShift : ByteArray := prog_8_method_14_code
def yX6_takeMinusOrShift : MethodName := ⟨RX6, "takeMinusOrShift", "()I"⟩
abbrev cX6_takeName : ByteArray := prog_8_method_15_code
def yX6_takeName : MethodName := ⟨RX6, "takeName", "()I"⟩
abbrev cX6_takeMark : ByteArray := prog_8_method_16_code
def yX6_takeMark : MethodName := ⟨RX6, "takeMark", "()I"⟩
abbrev cX6_takeNumber : ByteArray := prog_8_method_17_code
def yX6_takeNumber : MethodName := ⟨RX6, "takeNumber", "()I"⟩
abbrev cX6_leastNumber : ByteArray := prog_8_method_18_code
def yX6_leastNumber : MethodName := ⟨RX6, "leastNumber", "()I"⟩
abbrev cX6_mostNumber : ByteArray := prog_8_method_19_code
def yX6_mostNumber : MethodName := ⟨RX6, "mostNumber", "()I"⟩
abbrev cX6_keepFeastNumber : ByteArray := prog_8_method_20_code
def yX6_keepFeastNumber : MethodName := ⟨RX6, "keepFeastNumber", "()I"⟩
abbrev cX6_keepOtherNumber : ByteArray := prog_8_method_21_code
def yX6_keepOtherNumber : MethodName := ⟨RX6, "keepOtherNumber", "()I"⟩
abbrev cX6_isBlank : ByteArray := prog_8_method_22_code
def yX6_isBlank : MethodName := ⟨RX6, "isBlank", "(I)Z"⟩
abbrev cX6_isLetter : ByteArray := prog_8_method_23_code
def yX6_isLetter : MethodName := ⟨RX6, "isLetter", "(I)Z"⟩
abbrev cX6_isDigit : ByteArray := prog_8_method_24_code
def yX6_isDigit : MethodName := ⟨RX6, "isDigit", "(I)Z"⟩
def RX7 : String := "SaintsRoad$Tape"
def TX7 : u_T := fun k => match k with
  | 0 => ("SaintsRoad$Tape", "bytes", "[B", true)
  | _ => ("SaintsRoad$Tape", "length", "I", false)
def tyX7 : Nat → FieldType := fun k => match k with
  | 0 => .array .byte
  | _ => .int
abbrev wsX70 : List Cond := u_ws RX7 TX7 2
theorem nmX7 : ∀ a, a < 2 → ∀ b, b < 2 → a ≠ b → (TX7 a).2.1 ≠ (TX7 b).2.1 := by decide +kernel
theorem tyX7_ok : ∀ k, k < 2 → parseFieldDescriptor (TX7 k).2.2.1 = some (tyX7 k) := by decide +kernel
abbrev cX7_init : ByteArray := prog_9_method_1_code
def yX7_init : MethodName := ⟨RX7, "<init>", "()V"⟩
abbrev cX7_addInt : ByteArray := prog_9_method_2_code
def yX7_addInt : MethodName := ⟨RX7, "addInt", "(I)V"⟩
abbrev cX7_byteAt : ByteArray := prog_9_method_3_code
def yX7_byteAt : MethodName := ⟨RX7, "byteAt", "(I)I"⟩
def RX8 : String := "SaintsRoad$Town"
def TX8 : u_T := fun k => match k with
  | 0 => ("SaintsRoad$Town", "processions", "[LSaintsRoad$Procession;", true)
  | 1 => ("SaintsRoad$Town", "streetCount", "I", false)
  | 2 => ("SaintsRoad$Town", "minutes", "[I", true)
  | _ => ("SaintsRoad$Town", "hindrances", "[I", true)
def tyX8 : Nat → FieldType := fun k => match k with
  | 0 => .array (.object "SaintsRoad$Procession")
  | 1 => .int
  | 2 => .array .int
  | _ => .array .int
abbrev wsX80 : List Cond := u_ws RX8 TX8 4
theorem nmX8 : ∀ a, a < 4 → ∀ b, b < 4 → a ≠ b → (TX8 a).2.1 ≠ (TX8 b).2.1 := by decide +kernel
theorem tyX8_ok : ∀ k, k < 4 → parseFieldDescriptor (TX8 k).2.2.1 = some (tyX8 k) := by decide +kernel
abbrev cX8_init : ByteArray := prog_10_method_1_code
def yX8_init : MethodName := ⟨RX8, "<init>", "()V"⟩
abbrev cX8_minutesBetween : ByteArray := prog_10_method_2_code
def yX8_minutesBetween : MethodName := ⟨RX8, "minutesBetween", "(II)I"⟩
abbrev cX8_setStreet : ByteArray := prog_10_method_3_code
def yX8_setStreet : MethodName := ⟨RX8, "setStreet", "(III)I"⟩
abbrev cX8_begunCount : ByteArray := prog_10_method_4_code
def yX8_begunCount : MethodName := ⟨RX8, "begunCount", "()I"⟩
abbrev cX8_firstFree : ByteArray := prog_10_method_5_code
def yX8_firstFree : MethodName := ⟨RX8, "firstFree", "(II)I"⟩
def RX9 : String := "SaintsRoad"
def TX9 : u_T := fun k => match k with
  | 0 => ("SaintsRoad", "tape", "LSaintsRoad$Tape;", true)
  | 1 => ("SaintsRoad", "reader", "LSaintsRoad$Reader;", true)
  | 2 => ("SaintsRoad", "places", "[LSaintsRoad$Place;", true)
  | 3 => ("SaintsRoad", "brotherhoods", "LSaintsRoad$Brotherhoods;", true)
  | 4 => ("SaintsRoad", "town", "LSaintsRoad$Town;", true)
  | _ => ("SaintsRoad", "spare", "LSaintsRoad$Calendar;", false)
def tyX9 : Nat → FieldType := fun k => match k with
  | 0 => .object "SaintsRoad$Tape"
  | 1 => .object "SaintsRoad$Reader"
  | 2 => .array (.object "SaintsRoad$Place")
  | 3 => .object "SaintsRoad$Brotherhoods"
  | 4 => .object "SaintsRoad$Town"
  | _ => .object "SaintsRoad$Calendar"
abbrev wsX90 : List Cond := u_ws RX9 TX9 6
theorem nmX9 : ∀ a, a < 6 → ∀ b, b < 6 → a ≠ b → (TX9 a).2.1 ≠ (TX9 b).2.1 := by decide +kernel
theorem tyX9_ok : ∀ k, k < 6 → parseFieldDescriptor (TX9 k).2.2.1 = some (tyX9 k) := by decide +kernel
abbrev cX9_init : ByteArray := prog_1_method_1_code
def yX9_init : MethodName := ⟨RX9, "<init>", "()V"⟩
abbrev cX9_feed : ByteArray := prog_1_method_2_code
def yX9_feed : MethodName := ⟨RX9, "feed", "(IIIII)I"⟩
abbrev cX9_end : ByteArray := prog_1_method_3_code
def yX9_end : MethodName := ⟨RX9, "end", "(I)I"⟩
abbrev cX9_calendar : ByteArray := prog_1_method_4_code
def yX9_calendar : MethodName := ⟨RX9, "calendar", "(I)I"⟩
abbrev cX9_fault : ByteArray := prog_1_method_5_code
def yX9_fault : MethodName := ⟨RX9, "fault", "(I)I"⟩
abbrev cX9_feast : ByteArray := prog_1_method_6_code
def yX9_feast : MethodName := ⟨RX9, "feast", "(III)I"⟩
abbrev cX9_easter : ByteArray := prog_1_method_7_code
def yX9_easter : MethodName := ⟨RX9, "easter", "(I)I"⟩
abbrev cX9_date : ByteArray := prog_1_method_8_code
def yX9_date : MethodName := ⟨RX9, "date", "(III)I"⟩
abbrev cX9_office : ByteArray := prog_1_method_9_code
def yX9_office : MethodName := ⟨RX9, "office", "(III)I"⟩
abbrev cX9_held : ByteArray := prog_1_method_10_code
def yX9_held : MethodName := ⟨RX9, "held", "(III)I"⟩
abbrev cX9_own : ByteArray := prog_1_method_11_code
def yX9_own : MethodName := ⟨RX9, "own", "(III)I"⟩
abbrev cX9_fast : ByteArray := prog_1_method_12_code
def yX9_fast : MethodName := ⟨RX9, "fast", "(III)I"⟩
abbrev cX9_wax : ByteArray := prog_1_method_13_code
def yX9_wax : MethodName := ⟨RX9, "wax", "(IIII)I"⟩
abbrev cX9_next : ByteArray := prog_1_method_14_code
def yX9_next : MethodName := ⟨RX9, "next", "(IIII)I"⟩
abbrev cX9_unlike : ByteArray := prog_1_method_15_code
def yX9_unlike : MethodName := ⟨RX9, "unlike", "(III)I"⟩
abbrev cX9_quarrel : ByteArray := prog_1_method_16_code
def yX9_quarrel : MethodName := ⟨RX9, "quarrel", "(IIZ)I"⟩
abbrev cX9_rota : ByteArray := prog_1_method_17_code
def yX9_rota : MethodName := ⟨RX9, "rota", "(IIIII)I"⟩
abbrev cX9_turn : ByteArray := prog_1_method_18_code
def yX9_turn : MethodName := ⟨RX9, "turn", "(II)I"⟩
abbrev cX9_carried : ByteArray := prog_1_method_19_code
def yX9_carried : MethodName := ⟨RX9, "carried", "(I)I"⟩
abbrev cX9_street : ByteArray := prog_1_method_20_code
def yX9_street : MethodName := ⟨RX9, "street", "(III)I"⟩
abbrev cX9_begin : ByteArray := prog_1_method_21_code
def yX9_begin : MethodName := ⟨RX9, "begin", "(IIII)I"⟩
abbrev cX9_goes : ByteArray := prog_1_method_22_code
def yX9_goes : MethodName := ⟨RX9, "goes", "(II)I"⟩
abbrev cX9_late : ByteArray := prog_1_method_23_code
def yX9_late : MethodName := ⟨RX9, "late", "(II)I"⟩
abbrev cX9_procession : ByteArray := prog_1_method_24_code
def yX9_procession : MethodName := ⟨RX9, "procession", "(II)I"⟩
abbrev cX9_meets : ByteArray := prog_1_method_25_code
def yX9_meets : MethodName := ⟨RX9, "meets", "()I"⟩
abbrev cX9_meeting : ByteArray := prog_1_method_26_code
def yX9_meeting : MethodName := ⟨RX9, "meeting", "(II)I"⟩
abbrev cX9_timed : ByteArray := prog_1_method_27_code
def yX9_timed : MethodName := ⟨RX9, "timed", "(II)I"⟩
abbrev cX9_count : ByteArray := prog_1_method_28_code
def yX9_count : MethodName := ⟨RX9, "count", "(I)I"⟩
abbrev cX9_carryAll : ByteArray := prog_1_method_29_code
def yX9_carryAll : MethodName := ⟨RX9, "carryAll", "(LSaintsRoad$Place;II)V"⟩
abbrev cX9_isFeast : ByteArray := prog_1_method_30_code
def yX9_isFeast : MethodName := ⟨RX9, "isFeast", "(II)Z"⟩
abbrev cX9_isLong : ByteArray := prog_1_method_31_code
def yX9_isLong : MethodName := ⟨RX9, "isLong", "(II)Z"⟩
abbrev cX9_isPlace : ByteArray := prog_1_method_32_code
def yX9_isPlace : MethodName := ⟨RX9, "isPlace", "(I)Z"⟩
abbrev cX9_isRank : ByteArray := prog_1_method_33_code
def yX9_isRank : MethodName := ⟨RX9, "isRank", "(I)Z"⟩
abbrev cX9_isBrotherhood : ByteArray := prog_1_method_34_code
def yX9_isBrotherhood : MethodName := ⟨RX9, "isBrotherhood", "(I)Z"⟩
abbrev cX9_isCorner : ByteArray := prog_1_method_35_code
def yX9_isCorner : MethodName := ⟨RX9, "isCorner", "(I)Z"⟩
abbrev cX9_isProcession : ByteArray := prog_1_method_36_code
def yX9_isProcession : MethodName := ⟨RX9, "isProcession", "(I)Z"⟩
abbrev cX9_isBeginning : ByteArray := prog_1_method_37_code
def yX9_isBeginning : MethodName := ⟨RX9, "isBeginning", "(I)Z"⟩
def RX10 : String := "SaintsRoadModel$Stop"
def TX10 : u_T := fun k => match k with
  | 0 => ("java/lang/Throwable", "cause", "Ljava/lang/Throwable;", false)
  | 1 => ("java/lang/Throwable", "stackTrace", "[Ljava/lang/StackTraceElement;", false)
  | 2 => ("java/lang/Throwable", "suppressedExceptions", "Ljava/util/List;", false)
  | 3 => ("java/lang/Throwable", "detailMessage", "Ljava/lang/String;", false)
  | 4 => ("java/lang/Throwable", "backtrace", "Ljava/lang/Object;", false)
  | _ => ("java/lang/Throwable", "depth", "I", false)
def tyX10 : Nat → FieldType := fun k => match k with
  | 0 => .object "java/lang/Throwable"
  | 1 => .array (.object "java/lang/StackTraceElement")
  | 2 => .object "java/util/List"
  | 3 => .object "java/lang/String"
  | 4 => .object "java/lang/Object"
  | _ => .int
abbrev wsX100 : List Cond := u_ws RX10 TX10 6
theorem nmX10 : ∀ a, a < 6 → ∀ b, b < 6 → a ≠ b → (TX10 a).2.1 ≠ (TX10 b).2.1 := by decide +kernel
theorem tyX10_ok : ∀ k, k < 6 → parseFieldDescriptor (TX10 k).2.2.1 = some (tyX10 k) := by decide +kernel
abbrev cX10_init : ByteArray := prog_13_method_1_code
def yX10_init : MethodName := ⟨RX10, "<init>", "()V"⟩
def RX11 : String := "SaintsRoadModel"
def TX11 : u_T := fun k => match k with
  | 0 => ("SaintsRoadModel", "feasts", "[I", true)
  | 1 => ("SaintsRoadModel", "yieldRank", "[I", true)
  | 2 => ("SaintsRoadModel", "yieldTimes", "[I", true)
  | 3 => ("SaintsRoadModel", "lent", "[I", true)
  | 4 => ("SaintsRoadModel", "wax", "[I", true)
  | 5 => ("SaintsRoadModel", "kind", "[I", true)
  | 6 => ("SaintsRoadModel", "one", "[I", true)
  | 7 => ("SaintsRoadModel", "two", "[I", true)
  | 8 => ("SaintsRoadModel", "rank", "[I", true)
  | 9 => ("SaintsRoadModel", "from", "[I", true)
  | 10 => ("SaintsRoadModel", "till", "[I", true)
  | 11 => ("SaintsRoadModel", "nameSize", "[I", true)
  | 12 => ("SaintsRoadModel", "vigil", "[Z", true)
  | 13 => ("SaintsRoadModel", "octave", "[Z", true)
  | 14 => ("SaintsRoadModel", "name", "[B", true)
  | 15 => ("SaintsRoadModel", "stop", "LSaintsRoadModel$Stop;", true)
  | 16 => ("SaintsRoadModel", "tape", "[B", true)
  | 17 => ("SaintsRoadModel", "taped", "I", false)
  | 18 => ("SaintsRoadModel", "size", "I", false)
  | 19 => ("SaintsRoadModel", "begins", "I", false)
  | 20 => ("SaintsRoadModel", "behind", "I", false)
  | 21 => ("SaintsRoadModel", "hand", "I", false)
  | 22 => ("SaintsRoadModel", "value", "I", false)
  | 23 => ("SaintsRoadModel", "fault", "I", false)
  | 24 => ("SaintsRoadModel", "faultAt", "I", false)
  | 25 => ("SaintsRoadModel", "hasYield", "Z", false)
  | 26 => ("SaintsRoadModel", "hasLent", "Z", false)
  | 27 => ("SaintsRoadModel", "hasWax", "[Z", true)
  | 28 => ("SaintsRoadModel", "waits", "[I", true)
  | 29 => ("SaintsRoadModel", "moves", "[I", true)
  | 30 => ("SaintsRoadModel", "heldOn", "[I", true)
  | 31 => ("SaintsRoadModel", "office", "[I", true)
  | 32 => ("SaintsRoadModel", "otherOffice", "[I", true)
  | 33 => ("SaintsRoadModel", "quarrels", "[Z", true)
  | 34 => ("SaintsRoadModel", "turnYear", "[I", true)
  | 35 => ("SaintsRoadModel", "turnDay", "[I", true)
  | 36 => ("SaintsRoadModel", "turnFeast", "[I", true)
  | 37 => ("SaintsRoadModel", "turnBy", "[I", true)
  | 38 => ("SaintsRoadModel", "carriedBy", "[I", true)
  | 39 => ("SaintsRoadModel", "lastTurn", "[I", true)
  | 40 => ("SaintsRoadModel", "turnsAll", "I", false)
  | 41 => ("SaintsRoadModel", "streets", "[I", true)
  | 42 => ("SaintsRoadModel", "stops", "[I", true)
  | 43 => ("SaintsRoadModel", "start", "[I", true)
  | 44 => ("SaintsRoadModel", "tail", "[I", true)
  | 45 => ("SaintsRoadModel", "corner", "[I", true)
  | _ => ("SaintsRoadModel", "after", "[I", true)
def tyX11 : Nat → FieldType := fun k => match k with
  | 0 => .array .int
  | 1 => .array .int
  | 2 => .array .int
  | 3 => .array .int
  | 4 => .array .int
  | 5 => .array .int
  | 6 => .array .int
  | 7 => .array .int
  | 8 => .array .int
  | 9 => .array .int
  | 10 => .array .int
  | 11 => .array .int
  | 12 => .array .boolean
  | 13 => .array .boolean
  | 14 => .array .byte
  | 15 => .object "SaintsRoadModel$Stop"
  | 16 => .array .byte
  | 17 => .int
  | 18 => .int
  | 19 => .int
  | 20 => .int
  | 21 => .int
  | 22 => .int
  | 23 => .int
  | 24 => .int
  | 25 => .boolean
  | 26 => .boolean
  | 27 => .array .boolean
  | 28 => .array .int
  | 29 => .array .int
  | 30 => .array .int
  | 31 => .array .int
  | 32 => .array .int
  | 33 => .array .boolean
  | 34 => .array .int
  | 35 => .array .int
  | 36 => .array .int
  | 37 => .array .int
  | 38 => .array .int
  | 39 => .array .int
  | 40 => .int
  | 41 => .array .int
  | 42 => .array .int
  | 43 => .array .int
  | 44 => .array .int
  | 45 => .array .int
  | _ => .array .int
abbrev wsX110 : List Cond := u_ws RX11 TX11 47
theorem nmX11 : ∀ a, a < 47 → ∀ b, b < 47 → a ≠ b → (TX11 a).2.1 ≠ (TX11 b).2.1 := by decide +kernel
theorem tyX11_ok : ∀ k, k < 47 → parseFieldDescriptor (TX11 k).2.2.1 = some (tyX11 k) := by decide +kernel
abbrev cX11_in : ByteArray := prog_12_method_1_code
def yX11_in : MethodName := ⟨RX11, "in", "(JJJ)Z"⟩
abbrev cX11_isLeap : ByteArray := prog_12_method_2_code
def yX11_isLeap : MethodName := ⟨RX11, "isLeap", "(I)Z"⟩
abbrev cX11_daysOf : ByteArray := prog_12_method_3_code
def yX11_daysOf : MethodName := ⟨RX11, "daysOf", "(I)I"⟩
abbrev cX11_monthDays : ByteArray := prog_12_method_4_code
def yX11_monthDays : MethodName := ⟨RX11, "monthDays", "(II)I"⟩
abbrev cX11_isYear : ByteArray := prog_12_method_5_code
def yX11_isYear : MethodName := ⟨RX11, "isYear", "(I)Z"⟩
abbrev cX11_isDay : ByteArray := prog_12_method_6_code
def yX11_isDay : MethodName := ⟨RX11, "isDay", "(II)Z"⟩
abbrev cX11_dayCount : ByteArray := prog_12_method_7_code
def yX11_dayCount : MethodName := ⟨RX11, "dayCount", "(II)I"⟩
abbrev cX11_weekday : ByteArray := prog_12_method_8_code
def yX11_weekday : MethodName := ⟨RX11, "weekday", "(II)I"⟩
abbrev cX11_dayOf : ByteArray := prog_12_method_9_code
def yX11_dayOf : MethodName := ⟨RX11, "dayOf", "(III)I"⟩
abbrev cX11_easterOf : ByteArray := prog_12_method_10_code
def yX11_easterOf : MethodName := ⟨RX11, "easterOf", "(I)I"⟩
abbrev cX11_easter : ByteArray := prog_12_method_11_code
def yX11_easter : MethodName := ⟨RX11, "easter", "(I)I"⟩
abbrev cX11_date : ByteArray := prog_12_method_12_code
def yX11_date : MethodName := ⟨RX11, "date", "(III)I"⟩
abbrev cX11_init : ByteArray := prog_12_method_13_code
def yX11_init : MethodName := ⟨RX11, "<init>", "()V"⟩
abbrev cX11_at : ByteArray := prog_12_method_14_code
def yX11_at : MethodName := ⟨RX11, "at", "(II)I"⟩
abbrev cX11_clear : ByteArray := prog_12_method_15_code
def yX11_clear : MethodName := ⟨RX11, "clear", "(I)V"⟩
abbrev cX11_become : ByteArray := prog_12_method_16_code
def yX11_become : MethodName := ⟨RX11, "become", "(II)V"⟩
abbrev cX11_wrong : ByteArray := prog_12_method_17_code
def yX11_wrong : MethodName := ⟨RX11, "wrong", "(I)LSaintsRoadModel$Stop;"⟩
abbrev cX11_byteAt : ByteArray := prog_12_method_18_code
def yX11_byteAt : MethodName := ⟨RX11, "byteAt", "(I)I"⟩
abbrev cX11_isLetter : ByteArray := prog_12_method_19_code
def yX11_isLetter : MethodName := ⟨RX11, "isLetter", "(I)Z"⟩
abbrev cX11_isDigit : ByteArray := prog_12_method_20_code
def yX11_isDigit : MethodName := ⟨RX11, "isDigit", "(I)Z"⟩
abbrev cX11_scan : ByteArray := prog_12_method_21_code
def yX11_scan : MethodName := ⟨RX11, "scan", "()V"⟩
abbrev cX11_is : ByteArray := prog_12_method_22_code
def yX11_is : MethodName := ⟨RX11, "is", "(Ljava/lang/String;)Z"⟩
abbrev cX11_isSign : ByteArray := prog_12_method_23_code
def yX11_isSign : MethodName := ⟨RX11, "isSign", "(I)Z"⟩
abbrev cX11_isQuoted : ByteArray := prog_12_method_24_code
def yX11_isQuoted : MethodName := ⟨RX11, "isQuoted", "()Z"⟩
abbrev cX11_need : ByteArray := prog_12_method_25_code
def yX11_need : MethodName := ⟨RX11, "need", "(Ljava/lang/String;)V"⟩
abbrev cX11_number : ByteArray := prog_12_method_26_code
def yX11_number : MethodName := ⟨RX11, "number", "(II)I"⟩
abbrev cX11_takeNumber : ByteArray := prog_12_method_27_code
def yX11_takeNumber : MethodName := ⟨RX11, "takeNumber", "(II)I"⟩
abbrev cX11_readCalendar : ByteArray := prog_12_method_28_code
def yX11_readCalendar : MethodName := ⟨RX11, "readCalendar", "()V"⟩
abbrev cX11_readLine : ByteArray := prog_12_method_29_code
def yX11_readLine : MethodName := ⟨RX11, "readLine", "()V"⟩
abbrev cX11_readFeast : ByteArray := prog_12_method_30_code
def yX11_readFeast : MethodName := ⟨RX11, "readFeast", "()V"⟩
abbrev cX11_isNamed : ByteArray := prog_12_method_31_code
def yX11_isNamed : MethodName := ⟨RX11, "isNamed", "(II)Z"⟩
abbrev cX11_feed : ByteArray := prog_12_method_32_code
def yX11_feed : MethodName := ⟨RX11, "feed", "(IIIII)I"⟩
abbrev cX11_lay : ByteArray := prog_12_method_33_code
def yX11_lay : MethodName := ⟨RX11, "lay", "(I)V"⟩
abbrev cX11_end : ByteArray := prog_12_method_34_code
def yX11_end : MethodName := ⟨RX11, "end", "(I)I"⟩
abbrev cX11_isPlace : ByteArray := prog_12_method_35_code
def yX11_isPlace : MethodName := ⟨RX11, "isPlace", "(I)Z"⟩
abbrev cX11_calendar : ByteArray := prog_12_method_36_code
def yX11_calendar : MethodName := ⟨RX11, "calendar", "(I)I"⟩
abbrev cX11_fault : ByteArray := prog_12_method_37_code
def yX11_fault : MethodName := ⟨RX11, "fault", "(I)I"⟩
abbrev cX11_isFeast : ByteArray := prog_12_method_38_code
def yX11_isFeast : MethodName := ⟨RX11, "isFeast", "(II)Z"⟩
abbrev cX11_feast : ByteArray := prog_12_method_39_code
def yX11_feast : MethodName := ⟨RX11, "feast", "(III)I"⟩
abbrev cX11_ownDay : ByteArray := prog_12_method_40_code
def yX11_ownDay : MethodName := ⟨RX11, "ownDay", "(III)I"⟩
abbrev cX11_lead : ByteArray := prog_12_method_41_code
def yX11_lead : MethodName := ⟨RX11, "lead", "(II)V"⟩
abbrev cX11_isPlaced : ByteArray := prog_12_method_42_code
def yX11_isPlaced : MethodName := ⟨RX11, "isPlaced", "(III)Z"⟩
abbrev cX11_office : ByteArray := prog_12_method_43_code
def yX11_office : MethodName := ⟨RX11, "office", "(III)I"⟩
abbrev cX11_held : ByteArray := prog_12_method_44_code
def yX11_held : MethodName := ⟨RX11, "held", "(III)I"⟩
abbrev cX11_own : ByteArray := prog_12_method_45_code
def yX11_own : MethodName := ⟨RX11, "own", "(III)I"⟩
abbrev cX11_isVigil : ByteArray := prog_12_method_46_code
def yX11_isVigil : MethodName := ⟨RX11, "isVigil", "(III)Z"⟩
abbrev cX11_fast : ByteArray := prog_12_method_47_code
def yX11_fast : MethodName := ⟨RX11, "fast", "(III)I"⟩
abbrev cX11_waxOf : ByteArray := prog_12_method_48_code
def yX11_waxOf : MethodName := ⟨RX11, "waxOf", "(II)I"⟩
abbrev cX11_wax : ByteArray := prog_12_method_49_code
def yX11_wax : MethodName := ⟨RX11, "wax", "(IIII)I"⟩
abbrev cX11_next : ByteArray := prog_12_method_50_code
def yX11_next : MethodName := ⟨RX11, "next", "(IIII)I"⟩
abbrev cX11_unlike : ByteArray := prog_12_method_51_code
def yX11_unlike : MethodName := ⟨RX11, "unlike", "(III)I"⟩
abbrev cX11_areLike : ByteArray := prog_12_method_52_code
def yX11_areLike : MethodName := ⟨RX11, "areLike", "(IIII)Z"⟩
abbrev cX11_isBrotherhood : ByteArray := prog_12_method_53_code
def yX11_isBrotherhood : MethodName := ⟨RX11, "isBrotherhood", "(I)Z"⟩
abbrev cX11_quarrel : ByteArray := prog_12_method_54_code
def yX11_quarrel : MethodName := ⟨RX11, "quarrel", "(IIZ)I"⟩
abbrev cX11_rota : ByteArray := prog_12_method_55_code
def yX11_rota : MethodName := ⟨RX11, "rota", "(IIIII)I"⟩
abbrev cX11_parts : ByteArray := prog_12_method_56_code
def yX11_parts : MethodName := ⟨RX11, "parts", "(II)Z"⟩
abbrev cX11_carrier : ByteArray := prog_12_method_57_code
def yX11_carrier : MethodName := ⟨RX11, "carrier", "(II)I"⟩
abbrev cX11_turn : ByteArray := prog_12_method_58_code
def yX11_turn : MethodName := ⟨RX11, "turn", "(II)I"⟩
abbrev cX11_carried : ByteArray := prog_12_method_59_code
def yX11_carried : MethodName := ⟨RX11, "carried", "(I)I"⟩
abbrev cX11_isCorner : ByteArray := prog_12_method_60_code
def yX11_isCorner : MethodName := ⟨RX11, "isCorner", "(I)Z"⟩
abbrev cX11_street : ByteArray := prog_12_method_61_code
def yX11_street : MethodName := ⟨RX11, "street", "(III)I"⟩
abbrev cX11_isWalk : ByteArray := prog_12_method_62_code
def yX11_isWalk : MethodName := ⟨RX11, "isWalk", "(I)Z"⟩
abbrev cX11_begin : ByteArray := prog_12_method_63_code
def yX11_begin : MethodName := ⟨RX11, "begin", "(IIII)I"⟩
abbrev cX11_goes : ByteArray := prog_12_method_64_code
def yX11_goes : MethodName := ⟨RX11, "goes", "(II)I"⟩
abbrev cX11_late : ByteArray := prog_12_method_65_code
def yX11_late : MethodName := ⟨RX11, "late", "(II)I"⟩
abbrev cX11_headAt : ByteArray := prog_12_method_66_code
def yX11_headAt : MethodName := ⟨RX11, "headAt", "(II)I"⟩
abbrev cX11_procession : ByteArray := prog_12_method_67_code
def yX11_procession : MethodName := ⟨RX11, "procession", "(II)I"⟩
abbrev cX11_meet : ByteArray := prog_12_method_68_code
def yX11_meet : MethodName := ⟨RX11, "meet", "(II)I"⟩
abbrev cX11_together : ByteArray := prog_12_method_69_code
def yX11_together : MethodName := ⟨RX11, "together", "(IIII)I"⟩
abbrev cX11_isGoing : ByteArray := prog_12_method_70_code
def yX11_isGoing : MethodName := ⟨RX11, "isGoing", "(I)Z"⟩
abbrev cX11_meets : ByteArray := prog_12_method_71_code
def yX11_meets : MethodName := ⟨RX11, "meets", "()I"⟩
abbrev cX11_meeting : ByteArray := prog_12_method_72_code
def yX11_meeting : MethodName := ⟨RX11, "meeting", "(II)I"⟩
abbrev cX11_timed : ByteArray := prog_12_method_73_code
def yX11_timed : MethodName := ⟨RX11, "timed", "(II)I"⟩
abbrev cX11_count : ByteArray := prog_12_method_74_code
def yX11_count : MethodName := ⟨RX11, "count", "(I)I"⟩
def RJ6 : String := "java/lang/Integer"
def TJ6 : u_T := fun k => match k with
  | _ => ("", "", "", false)
def tyJ6 : Nat → FieldType := fun k => match k with
  | _ => .int
abbrev wsJ60 : List Cond := u_ws RJ6 TJ6 0
theorem nmJ6 : ∀ a, a < 0 → ∀ b, b < 0 → a ≠ b → (TJ6 a).2.1 ≠ (TJ6 b).2.1 := by decide +kernel
theorem tyJ6_ok : ∀ k, k < 0 → parseFieldDescriptor (TJ6 k).2.2.1 = some (tyJ6 k) := by decide +kernel
abbrev cJ6_compare_7cf53 : ByteArray := prog_15_method_40_code
def yJ6_compare_7cf53 : MethodName := ⟨RJ6, "compare", "(II)I"⟩
def RJ9 : String := "java/lang/Math"
def TJ9 : u_T := fun k => match k with
  | _ => ("", "", "", false)
def tyJ9 : Nat → FieldType := fun k => match k with
  | _ => .int
abbrev wsJ90 : List Cond := u_ws RJ9 TJ9 0
theorem nmJ9 : ∀ a, a < 0 → ∀ b, b < 0 → a ≠ b → (TJ9 a).2.1 ≠ (TJ9 b).2.1 := by decide +kernel
theorem tyJ9_ok : ∀ k, k < 0 → parseFieldDescriptor (TJ9 k).2.2.1 = some (tyJ9 k) := by decide +kernel
abbrev cJ9_max_7cf53 : ByteArray := prog_16_method_65_code
def yJ9_max_7cf53 : MethodName := ⟨RJ9, "max", "(II)I"⟩
abbrev cJ9_min_7cf53 : ByteArray := prog_16_method_69_code
def yJ9_min_7cf53 : MethodName := ⟨RJ9, "min", "(II)I"⟩
def RJ0 : String := "java/lang/String"
def TJ0 : u_T := fun k => match k with
  | _ => ("", "", "", false)
def tyJ0 : Nat → FieldType := fun k => match k with
  | _ => .int
abbrev wsJ00 : List Cond := u_ws RJ0 TJ0 0
theorem nmJ0 : ∀ a, a < 0 → ∀ b, b < 0 → a ≠ b → (TJ0 a).2.1 ≠ (TJ0 b).2.1 := by decide +kernel
theorem tyJ0_ok : ∀ k, k < 0 → parseFieldDescriptor (TJ0 k).2.2.1 = some (tyJ0 k) := by decide +kernel
abbrev cJ0_length_8abf5 : ByteArray := prog_17_method_54_code
def yJ0_length_8abf5 : MethodName := ⟨RJ0, "length", "()I"⟩
abbrev cJ0_charAt_5068e : ByteArray := prog_17_method_56_code
def yJ0_charAt_5068e : MethodName := ⟨RJ0, "charAt", "(I)C"⟩
abbrev cJ0_coder_7d493 : ByteArray := prog_17_method_152_code
def yJ0_coder_7d493 : MethodName := ⟨RJ0, "coder", "()B"⟩
abbrev cJ0_isLatin1_aae02 : ByteArray := prog_17_method_154_code
def yJ0_isLatin1_aae02 : MethodName := ⟨RJ0, "isLatin1", "()Z"⟩
abbrev cJ0_checkIndex_df160 : ByteArray := prog_17_method_155_code
def yJ0_checkIndex_df160 : MethodName := ⟨RJ0, "checkIndex", "(II)V"⟩
def RJ1 : String := "java/lang/StringLatin1"
def TJ1 : u_T := fun k => match k with
  | _ => ("", "", "", false)
def tyJ1 : Nat → FieldType := fun k => match k with
  | _ => .int
abbrev wsJ10 : List Cond := u_ws RJ1 TJ1 0
theorem nmJ1 : ∀ a, a < 0 → ∀ b, b < 0 → a ≠ b → (TJ1 a).2.1 ≠ (TJ1 b).2.1 := by decide +kernel
theorem tyJ1_ok : ∀ k, k < 0 → parseFieldDescriptor (TJ1 k).2.2.1 = some (tyJ1 k) := by decide +kernel
abbrev cJ1_charAt_3b067 : ByteArray := prog_18_method_2_code
def yJ1_charAt_3b067 : MethodName := ⟨RJ1, "charAt", "([BI)C"⟩
def RJ2 : String := "java/lang/StringUTF16"
def TJ2 : u_T := fun k => match k with
  | _ => ("", "", "", false)
def tyJ2 : Nat → FieldType := fun k => match k with
  | _ => .int
abbrev wsJ20 : List Cond := u_ws RJ2 TJ2 0
theorem nmJ2 : ∀ a, a < 0 → ∀ b, b < 0 → a ≠ b → (TJ2 a).2.1 ≠ (TJ2 b).2.1 := by decide +kernel
theorem tyJ2_ok : ∀ k, k < 0 → parseFieldDescriptor (TJ2 k).2.2.1 = some (tyJ2 k) := by decide +kernel
abbrev cJ2_getChar_3b067 : ByteArray := prog_19_method_5_code
def yJ2_getChar_3b067 : MethodName := ⟨RJ2, "getChar", "([BI)C"⟩
abbrev cJ2_length_9d52b : ByteArray := prog_19_method_6_code
def yJ2_length_9d52b : MethodName := ⟨RJ2, "length", "([B)I"⟩
abbrev cJ2_charAt_3b067 : ByteArray := prog_19_method_83_code
def yJ2_charAt_3b067 : MethodName := ⟨RJ2, "charAt", "([BI)C"⟩
abbrev cJ2_checkIndex_2214a : ByteArray := prog_19_method_91_code
def yJ2_checkIndex_2214a : MethodName := ⟨RJ2, "checkIndex", "(I[B)V"⟩
def RJ7 : String := "java/util/Arrays"
def TJ7 : u_T := fun k => match k with
  | _ => ("", "", "", false)
def tyJ7 : Nat → FieldType := fun k => match k with
  | _ => .int
abbrev wsJ70 : List Cond := u_ws RJ7 TJ7 0
theorem nmJ7 : ∀ a, a < 0 → ∀ b, b < 0 → a ≠ b → (TJ7 a).2.1 ≠ (TJ7 b).2.1 := by decide +kernel
theorem tyJ7_ok : ∀ k, k < 0 → parseFieldDescriptor (TJ7 k).2.2.1 = some (tyJ7 k) := by decide +kernel
abbrev cJ7_fill_53178 : ByteArray := prog_21_method_103_code
def yJ7_fill_53178 : MethodName := ⟨RJ7, "fill", "([II)V"⟩
def RJ3 : String := "jdk/internal/util/Preconditions"
def TJ3 : u_T := fun k => match k with
  | _ => ("", "", "", false)
def tyJ3 : Nat → FieldType := fun k => match k with
  | _ => .int
abbrev wsJ30 : List Cond := u_ws RJ3 TJ3 0
theorem nmJ3 : ∀ a, a < 0 → ∀ b, b < 0 → a ≠ b → (TJ3 a).2.1 ≠ (TJ3 b).2.1 := by decide +kernel
theorem tyJ3_ok : ∀ k, k < 0 → parseFieldDescriptor (TJ3 k).2.2.1 = some (tyJ3 k) := by decide +kernel
abbrev cJ3_checkIndex_8e157 : ByteArray := prog_22_method_11_code
def yJ3_checkIndex_8e157 : MethodName := ⟨RJ3, "checkIndex", "(IILjava/util/function/BiFunction;)I"⟩
def RL : String := "SaintsRoadLaw"
abbrev cL_law : ByteArray := code
def yL_law : MethodName := ⟨RL, "law", "([I)Z"⟩
abbrev vwCl : List vw_C := [(RX0, TX0, 12), (RX1, TX1, 6), (RX3, TX3, 12), (RX4, TX4, 11), (RX5, TX5, 5), (RX6, TX6, 13), (RX7, TX7, 2), (RX8, TX8, 4), (RX9, TX9, 6), (RX10, TX10, 6), (RX11, TX11, 47)]
end
section
/-! numbers, references and longs as integers: what stands on the stack and in the locals -/
abbrev sv_T : Type := Int ⊕ (Int ⊕ Int)
abbrev sv_i (n : Int) : sv_T := .inl n
abbrev sv_a (z : Int) : sv_T := .inr (.inl z)
abbrev sv_l (n : Int) : sv_T := .inr (.inr n)
abbrev sv_r (q : Nat) : sv_T := .inr (.inl ((q : Int) + 1))
/-- a reference as a number: 0 is null, a + 1 the address a -/
def sv_rf : Int → Value
  | .ofNat 0 => .null
  | .ofNat (n + 1) => .ref n
  | .negSucc _ => .null
def sv_den : sv_T → Value
  | .inl n => .int (Int32.ofInt n)
  | .inr (.inl z) => sv_rf z
  | .inr (.inr n) => .long (Int64.ofInt n)
theorem sv_den_r (q : Nat) : sv_den (sv_r q) = .ref q := rfl
theorem sv_den_i (n : Int) : sv_den (sv_i n) = .int (Int32.ofInt n) := rfl
theorem sv_den_l (n : Int) : sv_den (sv_l n) = .long (Int64.ofInt n) := rfl
theorem sv_den_a (n : Int) : sv_den (sv_a n) = sv_rf n := rfl
theorem sv_rf_or (z : Int) : sv_rf z = .null ∨ ∃ a, sv_rf z = .ref a := by
  match z with
  | .ofNat 0 => exact Or.inl rfl
  | .ofNat (n + 1) => exact Or.inr ⟨n, rfl⟩
  | .negSucc _ => exact Or.inl rfl
def sv_two : sv_T → Bool
  | .inr (.inr _) => true
  | _ => false
theorem sv_rf_cat (z : Int) : (sv_rf z).category = 1 := by
  rcases sv_rf_or z with h | ⟨a, h⟩ <;> rw [h] <;> rfl
theorem sv_cat1 {v : sv_T} (h : sv_two v = false) : (sv_den v).category = 1 := by
  match v with
  | .inl n => rfl
  | .inr (.inl z) => exact sv_rf_cat z
  | .inr (.inr n) => cases h
theorem sv_cat2 {v : sv_T} (h : sv_two v = true) : (sv_den v).category = 2 := by
  match v with
  | .inl n => cases h
  | .inr (.inl z) => cases h
  | .inr (.inr n) => rfl
abbrev sv_in (n : Int) : Prop := -2147483648 ≤ n ∧ n < 2147483648
theorem sv_oi {n : Int} (h : sv_in n) : (Int32.ofInt n).toInt = n := by
  rw [Int32.toInt_ofInt, show Int32.size = 4294967296 from rfl]
  exact Int.bmod_eq_of_le (by have := h.1; omega) (by have := h.2; omega)
theorem sv_io (x : Int32) : Int32.ofInt x.toInt = x := Int32.ofInt_toInt x
theorem sv_ioin (x : Int32) : sv_in x.toInt := ⟨Int32.le_toInt x, Int32.toInt_lt x⟩
theorem sv_add (a b : Int) : Int32.ofInt a + Int32.ofInt b = Int32.ofInt (a + b) := (Int32.ofInt_add a b).symm
theorem sv_sub (a b : Int) : Int32.ofInt a - Int32.ofInt b = Int32.ofInt (a - b) := (Int32.ofInt_sub a b).symm
theorem sv_mul (a b : Int) : Int32.ofInt a * Int32.ofInt b = Int32.ofInt (a * b) := (Int32.ofInt_mul a b).symm
theorem sv_neg (a : Int) : -Int32.ofInt a = Int32.ofInt (-a) := (Int32.ofInt_neg a).symm
theorem sv_ladd (a b : Int) : Int64.ofInt a + Int64.ofInt b = Int64.ofInt (a + b) := (Int64.ofInt_add a b).symm
theorem sv_lsub (a b : Int) : Int64.ofInt a - Int64.ofInt b = Int64.ofInt (a - b) := (Int64.ofInt_sub a b).symm
theorem sv_lt {a b : Int} (ha : sv_in a) (hb : sv_in b) : Int32.ofInt a < Int32.ofInt b ↔ a < b := by
  rw [Int32.lt_iff_toInt_lt, sv_oi ha, sv_oi hb]
theorem sv_le {a b : Int} (ha : sv_in a) (hb : sv_in b) : Int32.ofInt a ≤ Int32.ofInt b ↔ a ≤ b := by
  rw [Int32.le_iff_toInt_le, sv_oi ha, sv_oi hb]
theorem sv_eq {a b : Int} (ha : sv_in a) (hb : sv_in b) : Int32.ofInt a = Int32.ofInt b ↔ a = b := by
  rw [← Int32.toInt_inj, sv_oi ha, sv_oi hb]
/-! the locals -/
abbrev sv_L : Type := List (Nat × sv_T)
def sv_lm (lv : sv_L) : List (Nat × Value) := lv.map (fun q => (q.1, sv_den q.2))
def sv_get (lv : sv_L) (i : Nat) : Option sv_T := match lv with
  | [] => none
  | q :: r => if q.1 = i then some q.2 else sv_get r i
theorem sv_get_mem {lv : sv_L} {i : Nat} {v : sv_T} (h : sv_get lv i = some v) : (i, v) ∈ lv := by
  induction lv with
  | nil => cases h
  | cons q r ih =>
    unfold sv_get at h
    split at h
    · next e => cases h; subst e; exact List.mem_cons_self
    · exact List.mem_cons_of_mem _ (ih h)
theorem sv_get_at {ls : Array Slot} {nL : Nat} {lv : sv_L} (hl : lv_has ls nL (sv_lm lv)) {i : Nat} {v : sv_T} (h : sv_get lv i = some v) : ls[i]? = some (.val (sv_den v)) :=
  hl.2.2 (i, sv_den v) (List.mem_map.mpr ⟨(i, v), sv_get_mem h, rfl⟩)
def sv_ins (i : Nat) (v : sv_T) : sv_L → sv_L
  | [] => [(i, v)]
  | q :: r => if q.1 < i then q :: sv_ins i v r else (i, v) :: q :: r
theorem sv_ins_mem {i : Nat} {v : sv_T} {lv : sv_L} {q : Nat × sv_T} (h : q ∈ sv_ins i v lv) : q = (i, v) ∨ q ∈ lv := by
  induction lv with
  | nil => exact Or.inl (List.mem_singleton.mp h)
  | cons p r ih =>
    unfold sv_ins at h
    split at h
    · rcases List.mem_cons.mp h with h | h
      · exact Or.inr (h ▸ List.mem_cons_self)
      · rcases ih h with h | h
        · exact Or.inl h
        · exact Or.inr (List.mem_cons_of_mem _ h)
    · rcases List.mem_cons.mp h with h | h
      · exact Or.inl h
      · exact Or.inr h
def sv_put (lv : sv_L) (i : Nat) (v : sv_T) : sv_L := sv_ins i v (lv.filter (fun q => !(q.1 == i) && !(q.1 + 1 == i && sv_two q.2)))
def sv_put2 (lv : sv_L) (i : Nat) (v : sv_T) : sv_L := sv_ins i v (lv.filter (fun q => !(q.1 == i) && (!(q.1 == i + 1) && !(q.1 + 1 == i && sv_two q.2))))
theorem sv_two_cat (v : sv_T) : ((sv_den v).category == 2) = sv_two v := by
  cases h : sv_two v with
  | true => rw [sv_cat2 h]; rfl
  | false => rw [sv_cat1 h]; rfl
theorem sv_put_ok {ls : Array Slot} {nL i : Nat} {lv : sv_L} {v : sv_T} (hl : lv_has ls nL ((i, sv_den v) :: (sv_lm lv).filter (fun q => !(q.1 == i) && !(q.1 + 1 == i && q.2.category == 2)))) : lv_has ls nL (sv_lm (sv_put lv i v)) := by
  refine ⟨hl.1, hl.2.1, fun q hq => hl.2.2 q ?_⟩
  obtain ⟨z, hz, rfl⟩ := List.mem_map.mp hq
  rcases sv_ins_mem hz with h | h
  · subst h; exact List.mem_cons_self
  · obtain ⟨h1, h2⟩ := List.mem_filter.mp h
    refine List.mem_cons_of_mem _ (List.mem_filter.mpr ⟨List.mem_map.mpr ⟨z, h1, rfl⟩, ?_⟩)
    simp only [sv_two_cat]
    exact h2
theorem sv_put2_ok {ls : Array Slot} {nL i : Nat} {lv : sv_L} {v : sv_T} (hl : lv_has ls nL ((i, sv_den v) :: (sv_lm lv).filter (fun q => !(q.1 == i) && (!(q.1 == i + 1) && !(q.1 + 1 == i && q.2.category == 2))))) : lv_has ls nL (sv_lm (sv_put2 lv i v)) := by
  refine ⟨hl.1, hl.2.1, fun q hq => hl.2.2 q ?_⟩
  obtain ⟨z, hz, rfl⟩ := List.mem_map.mp hq
  rcases sv_ins_mem hz with h | h
  · subst h; exact List.mem_cons_self
  · obtain ⟨h1, h2⟩ := List.mem_filter.mp h
    refine List.mem_cons_of_mem _ (List.mem_filter.mpr ⟨List.mem_map.mpr ⟨z, h1, rfl⟩, ?_⟩)
    simp only [sv_two_cat]
    exact h2
end
section
theorem sv_b8 {n : Int} (h : -128 ≤ n ∧ n ≤ 127) : (Int8.ofInt n).toInt32 = Int32.ofInt n := by
  rw [← Int32.toInt_inj, sv_oi ⟨by omega, by omega⟩, Int8.toInt_toInt32, Int8.toInt_ofInt, show Int8.size = 256 from rfl]
  exact Int.bmod_eq_of_le (by omega) (by omega)
theorem sv_b16 {n : Int} (h : -32768 ≤ n ∧ n ≤ 32767) : (Int16.ofInt n).toInt32 = Int32.ofInt n := by
  rw [← Int32.toInt_inj, sv_oi ⟨by omega, by omega⟩, Int16.toInt_toInt32, Int16.toInt_ofInt, show Int16.size = 65536 from rfl]
  exact Int.bmod_eq_of_le (by omega) (by omega)
theorem sv_lc : ∀ n : Fin 2, Int64.ofNat (n : Nat) = Int64.ofInt ((n : Nat) : Int) := by decide
/-! the judgement: from here, with these locals and this stack, over every heap of which Hp says what it says, the machine comes to Q -/
section SVV
variable {p : Program} {l : Launch} {e : Env} {R : Room} {s : State} {m : MethodId} {args : Array Value} {below : List Frame} {meth : Method} {c : Code} {cells slots : Nat} {Q : State → Prop}
variable {cc : ByteArray} {pc nL : Nat} {Hp : Heap → Prop} {A : Nat → Prop} {lv lv' : sv_L} {st st' rest : List sv_T}
def sv_V (p : Program) (l : Launch) (e : Env) (R : Room) (s : State) (m : MethodId) (args : Array Value) (below : List Frame) (meth : Method) (c : Code) (nL : Nat) (A : Nat → Prop) (cells slots : Nat) (Q : State → Prop) (Hp : Heap → Prop) (pc : Nat) (lv : sv_L) (st : List sv_T) : Prop :=
  ∀ (H : Heap) (locs : List Loc) (ls : Array Slot), Hp H → va_S A s.heap H locs → lv_has ls nL (sv_lm lv) → W p l e R s m args below meth c H locs cells slots Q (F0 m pc ls (st.map sv_den))
def sv_ex (i : Instr) (len nL : Nat) (lv : sv_L) (st : List sv_T) : Option (sv_L × List sv_T) := match i, len, st with
  | .iconst n, 1, st => some (lv, sv_i n :: st)
  | .bipush n, 2, st => if -128 ≤ n ∧ n ≤ 127 then some (lv, sv_i n :: st) else none
  | .sipush n, 3, st => if -32768 ≤ n ∧ n ≤ 32767 then some (lv, sv_i n :: st) else none
  | .lconst n, 1, st => some (lv, sv_l (n.val : Int) :: st)
  | .aconst_null, 1, st => some (lv, sv_a 0 :: st)
  | .iload_n k, 1, st => match sv_get lv k.val with | some (.inl x) => some (lv, .inl x :: st) | _ => none
  | .iload k, 2, st => match sv_get lv k with | some (.inl x) => some (lv, .inl x :: st) | _ => none
  | .lload_n k, 1, st => match sv_get lv k.val with | some (.inr (.inr x)) => some (lv, .inr (.inr x) :: st) | _ => none
  | .lload k, 2, st => match sv_get lv k with | some (.inr (.inr x)) => some (lv, .inr (.inr x) :: st) | _ => none
  | .aload_n k, 1, st => match sv_get lv k.val with | some (.inr (.inl x)) => some (lv, .inr (.inl x) :: st) | _ => none
  | .aload k, 2, st => match sv_get lv k with | some (.inr (.inl x)) => some (lv, .inr (.inl x) :: st) | _ => none
  | .istore_n k, 1, .inl x :: st => if k.val < nL then some (sv_put lv k.val (.inl x), st) else none
  | .istore k, 2, .inl x :: st => if k < nL then some (sv_put lv k (.inl x), st) else none
  | .lstore_n k, 1, .inr (.inr x) :: st => if k.val + 1 < nL then some (sv_put2 lv k.val (.inr (.inr x)), st) else none
  | .lstore k, 2, .inr (.inr x) :: st => if k + 1 < nL then some (sv_put2 lv k (.inr (.inr x)), st) else none
  | .astore_n k, 1, .inr (.inl x) :: st => if k.val < nL then some (sv_put lv k.val (.inr (.inl x)), st) else none
  | .astore k, 2, .inr (.inl x) :: st => if k < nL then some (sv_put lv k (.inr (.inl x)), st) else none
  | .iinc k n, 3, st => match sv_get lv k with | some (.inl x) => if k < nL then some (sv_put lv k (.inl (x + n)), st) else none | _ => none
  | .iadd, 1, .inl y :: .inl x :: st => some (lv, sv_i (x + y) :: st)
  | .isub, 1, .inl y :: .inl x :: st => some (lv, sv_i (x - y) :: st)
  | .imul, 1, .inl y :: .inl x :: st => some (lv, sv_i (x * y) :: st)
  | .ineg, 1, .inl x :: st => some (lv, sv_i (-x) :: st)
  | .ladd, 1, .inr (.inr y) :: .inr (.inr x) :: st => some (lv, sv_l (x + y) :: st)
  | .lsub, 1, .inr (.inr y) :: .inr (.inr x) :: st => some (lv, sv_l (x - y) :: st)
  | .iand, 1, .inl y :: .inl x :: st => some (lv, sv_i (Int32.ofInt x &&& Int32.ofInt y).toInt :: st)
  | .ior, 1, .inl y :: .inl x :: st => some (lv, sv_i (Int32.ofInt x ||| Int32.ofInt y).toInt :: st)
  | .ixor, 1, .inl y :: .inl x :: st => some (lv, sv_i (Int32.ofInt x ^^^ Int32.ofInt y).toInt :: st)
  | .ishl, 1, .inl y :: .inl x :: st => some (lv, sv_i (Int32.ofInt x <<< (Int32.ofInt y &&& 31)).toInt :: st)
  | .ishr, 1, .inl y :: .inl x :: st => some (lv, sv_i (Int32.ofInt x >>> (Int32.ofInt y &&& 31)).toInt :: st)
  | .i2b, 1, .inl x :: st => some (lv, sv_i (Int32.ofInt x).toInt8.toInt32.toInt :: st)
  | .dup, 1, v :: st => if sv_two v = false then some (lv, v :: v :: st) else none
  | .pop, 1, v :: st => if sv_two v = false then some (lv, st) else none
  | .dup_x1, 1, v :: w :: st => if sv_two v = false ∧ sv_two w = false then some (lv, v :: w :: v :: st) else none
  | .dup_x2, 1, v :: w :: z :: st => if sv_two v = false ∧ sv_two w = false ∧ sv_two z = false then some (lv, v :: w :: z :: v :: st) else none
  | .dup2, 1, v :: w :: st => if sv_two v = false ∧ sv_two w = false then some (lv, v :: w :: v :: w :: st) else none
  | _, _, _ => none
theorem sv_ex_ok (hx : p.tables.exec = Jvm.exec) (hb : c.code = cc) {i : Instr} {len : Nat} (hd : decode cc pc = .ok (i, len)) (he : sv_ex i len nL lv st = some (lv', st')) (k : sv_V p l e R s m args below meth c nL A cells slots Q Hp (pc + len) lv' st') : sv_V p l e R s m args below meth c nL A cells slots Q Hp pc lv st := by
  intro H locs ls hH hS hl
  unfold sv_ex at he
  split at he
  · cases he; exact lv_iconst hx hb hd rfl (k H locs ls hH hS hl)
  · split at he
    · next h => cases he; exact lv_bipush hx hb hd (sv_b8 h) (k H locs ls hH hS hl)
    · cases he
  · split at he
    · next h => cases he; exact lv_sipush hx hb hd (sv_b16 h) (k H locs ls hH hS hl)
    · cases he
  · cases he; exact lv_lconst hx hb hd (sv_lc _) (k H locs ls hH hS hl)
  · cases he; exact lv_null hx hb hd (k H locs ls hH hS hl)
  · split at he
    · next h => cases he; exact lv_iload_n hx hb hd rfl (sv_get_at hl h) (k H locs ls hH hS hl)
    · cases he
  · split at he
    · next h => cases he; exact lv_iload hx hb hd (sv_get_at hl h) (k H locs ls hH hS hl)
    · cases he
  · split at he
    · next h => cases he; exact lv_lload_n hx hb hd rfl (sv_get_at hl h) (k H locs ls hH hS hl)
    · cases he
  · split at he
    · next h => cases he; exact lv_lload hx hb hd (sv_get_at hl h) (k H locs ls hH hS hl)
    · cases he
  · split at he
    · next x h =>
      cases he
      have hk := k H locs ls hH hS hl
      have ha := sv_get_at hl h
      simp only [List.map_cons, sv_den] at hk ha
      rcases sv_rf_or x with e | ⟨a, e⟩ <;> rw [e] at hk ha
      · exact lv_aload_nN hx hb hd rfl ha hk
      · exact lv_aload_n hx hb hd rfl ha hk
    · cases he
  · split at he
    · next x h =>
      cases he
      have hk := k H locs ls hH hS hl
      have ha := sv_get_at hl h
      simp only [List.map_cons, sv_den] at hk ha
      rcases sv_rf_or x with e | ⟨a, e⟩ <;> rw [e] at hk ha
      · exact lv_aloadN hx hb hd ha hk
      · exact lv_aload hx hb hd ha hk
    · cases he
  · split at he
    · next h => cases he; exact lv_istore_n hx hb hd rfl hl h rfl (fun ls' hl' => k H locs ls' hH hS (sv_put_ok (v := .inl _) hl'))
    · cases he
  · split at he
    · next h => cases he; exact lv_istore hx hb hd hl h rfl (fun ls' hl' => k H locs ls' hH hS (sv_put_ok (v := .inl _) hl'))
    · cases he
  · split at he
    · next h => cases he; exact lv_lstore_n hx hb hd rfl hl h rfl (fun ls' hl' => k H locs ls' hH hS (sv_put2_ok (v := .inr (.inr _)) hl'))
    · cases he
  · split at he
    · next h => cases he; exact lv_lstore hx hb hd hl h rfl (fun ls' hl' => k H locs ls' hH hS (sv_put2_ok (v := .inr (.inr _)) hl'))
    · cases he
  · split at he
    · next x _ h =>
      cases he
      have hk := fun ls' hl' => k H locs ls' hH hS (sv_put_ok (v := .inr (.inl x)) hl')
      show W p l e R s m args below meth c H locs cells slots Q (F0 m pc ls (sv_rf x :: _))
      simp only [sv_den] at hk
      rcases sv_rf_or x with e | ⟨a, e⟩ <;> rw [e] at hk ⊢
      · exact lv_astore_nN hx hb hd rfl hl h rfl hk
      · exact lv_astore_n hx hb hd rfl hl h rfl hk
    · cases he
  · split at he
    · next x _ h =>
      cases he
      have hk := fun ls' hl' => k H locs ls' hH hS (sv_put_ok (v := .inr (.inl x)) hl')
      show W p l e R s m args below meth c H locs cells slots Q (F0 m pc ls (sv_rf x :: _))
      simp only [sv_den] at hk
      rcases sv_rf_or x with e | ⟨a, e⟩ <;> rw [e] at hk ⊢
      · exact lv_astoreN hx hb hd hl h rfl hk
      · exact lv_astore hx hb hd hl h rfl hk
    · cases he
  · split at he
    · next x h =>
      split at he
      · next h2 =>
        cases he
        obtain ⟨j, hj⟩ := List.getElem?_of_mem (List.mem_map.mpr ⟨_, sv_get_mem h, rfl⟩ : _ ∈ sv_lm lv)
        exact lv_iinc hx hb hd hl (k := j) hj (sv_add _ _) h2 rfl (fun ls' hl' => k H locs ls' hH hS (sv_put_ok (v := .inl _) hl'))
      · cases he
    · cases he
  · cases he; exact lv_iadd hx hb hd (by rw [sv_add]; exact k H locs ls hH hS hl)
  · cases he; exact lv_isub hx hb hd (by rw [sv_sub]; exact k H locs ls hH hS hl)
  · cases he; exact lv_imul hx hb hd (by rw [sv_mul]; exact k H locs ls hH hS hl)
  · cases he; exact lv_ineg hx hb hd (by rw [sv_neg]; exact k H locs ls hH hS hl)
  · cases he; exact lv_ladd hx hb hd (by rw [sv_ladd]; exact k H locs ls hH hS hl)
  · cases he; exact lv_lsub hx hb hd (by rw [sv_lsub]; exact k H locs ls hH hS hl)
  · cases he; refine lv_iand hx hb hd ?_; have hk := k H locs ls hH hS hl; simp only [List.map_cons, sv_den, sv_io] at hk; exact hk
  · cases he; refine lv_ior hx hb hd ?_; have hk := k H locs ls hH hS hl; simp only [List.map_cons, sv_den, sv_io] at hk; exact hk
  · cases he; refine lv_ixor hx hb hd ?_; have hk := k H locs ls hH hS hl; simp only [List.map_cons, sv_den, sv_io] at hk; exact hk
  · cases he; refine lv_ishl hx hb hd ?_; have hk := k H locs ls hH hS hl; simp only [List.map_cons, sv_den, sv_io] at hk; exact hk
  · cases he; refine lv_ishr hx hb hd ?_; have hk := k H locs ls hH hS hl; simp only [List.map_cons, sv_den, sv_io] at hk; exact hk
  · cases he; refine lv_i2b hx hb hd rfl ?_; have hk := k H locs ls hH hS hl; simp only [List.map_cons, sv_den, sv_io] at hk; exact hk
  · split at he
    · next h => cases he; exact lv_dup hx hb hd (sv_cat1 h) (k H locs ls hH hS hl)
    · cases he
  · split at he
    · next h => cases he; exact lv_pop hx hb hd (sv_cat1 h) (k H locs ls hH hS hl)
    · cases he
  · split at he
    · next h => cases he; exact lv_dup_x1 hx hb hd (sv_cat1 h.1) (sv_cat1 h.2) (k H locs ls hH hS hl)
    · cases he
  · split at he
    · next h => cases he; exact lv_dup_x2 hx hb hd (sv_cat1 h.1) (sv_cat1 h.2.1) (sv_cat1 h.2.2) (k H locs ls hH hS hl)
    · cases he
  · split at he
    · next h => cases he; exact lv_dup2_11 hx hb hd (sv_cat1 h.1) (sv_cat1 h.2) (k H locs ls hH hS hl)
    · cases he
  · cases he
end SVV
end
section
/-! stretches of plain instructions, jumps, branches, ends -/
def sv_cd (cc : ByteArray) : Nat → List (Instr × Nat) → Bool
  | _, [] => true
  | pc, (i, n) :: r => decide (decode cc pc = .ok (i, n)) && sv_cd cc (pc + n) r
def sv_len : List (Instr × Nat) → Nat
  | [] => 0
  | (_, n) :: r => n + sv_len r
def sv_run (nL : Nat) : List (Instr × Nat) → sv_L → List sv_T → Option (sv_L × List sv_T)
  | [], lv, st => some (lv, st)
  | (i, n) :: r, lv, st => match sv_ex i n nL lv st with
    | some q => sv_run nL r q.1 q.2
    | none => none
/-- what an int comparison says of two numbers -/
def sv_cmp : ClassFile.Cond → Int → Int → Prop
  | .eq, x, y => x = y
  | .ne, x, y => x ≠ y
  | .lt, x, y => x < y
  | .ge, x, y => y ≤ x
  | .gt, x, y => y < x
  | .le, x, y => x ≤ y
section SVG
variable {p : Program} {l : Launch} {e : Env} {R : Room} {s : State} {m : MethodId} {args : Array Value} {below : List Frame} {meth : Method} {c : Code} {cells slots : Nat} {Q : State → Prop}
variable {cc : ByteArray} {pc nL : Nat} {Hp : Heap → Prop} {A : Nat → Prop} {lv lv' : sv_L} {st st' rest : List sv_T}
theorem sv_go (hx : p.tables.exec = Jvm.exec) (hb : c.code = cc) (is : List (Instr × Nat)) {pc' : Nat} (hd : sv_cd cc pc is = true) (hp : pc + sv_len is = pc') (he : sv_run nL is lv st = some (lv', st')) (k : sv_V p l e R s m args below meth c nL A cells slots Q Hp pc' lv' st') : sv_V p l e R s m args below meth c nL A cells slots Q Hp pc lv st := by
  induction is generalizing pc lv st with
  | nil => cases he; subst hp; exact k
  | cons q r ih =>
    obtain ⟨i, n⟩ := q
    simp only [sv_cd, Bool.and_eq_true, decide_eq_true_eq] at hd
    unfold sv_run at he
    split at he
    · next q1 h1 => exact sv_ex_ok hx hb hd.1 h1 (ih hd.2 (by rw [← hp]; simp only [sv_len]; omega) he)
    · cases he
theorem sv_goto (hx : p.tables.exec = Jvm.exec) (hb : c.code = cc) {off : Int} {tgt : Nat} (hd : decode cc pc = .ok (.goto off, 3)) (ht : (pc : Int) + off = (tgt : Int)) (k : sv_V p l e R s m args below meth c nL A cells slots Q Hp tgt lv st) : sv_V p l e R s m args below meth c nL A cells slots Q Hp pc lv st :=
  fun H locs ls hH hS hl => lv_goto hx hb hd ht (k H locs ls hH hS hl)
theorem sv_icmp (hx : p.tables.exec = Jvm.exec) (hb : c.code = cc) {cnd : ClassFile.Cond} {off : Int} {tgt : Nat} {x y : Int} (hd : decode cc pc = .ok (.if_icmp cnd off, 3)) (ht : (pc : Int) + off = (tgt : Int)) (h1 : sv_in x) (h2 : sv_in y)
    (kt : sv_cmp cnd x y → sv_V p l e R s m args below meth c nL A cells slots Q Hp tgt lv rest) (kf : ¬ sv_cmp cnd x y → sv_V p l e R s m args below meth c nL A cells slots Q Hp (pc + 3) lv rest) : sv_V p l e R s m args below meth c nL A cells slots Q Hp pc lv (.inl y :: .inl x :: rest) := by
  intro H locs ls hH hS hl
  cases cnd with
  | eq => exact lv_icmp_eq hx hb hd ht (fun h => kt ((sv_eq h1 h2).mp h) H locs ls hH hS hl) (fun h => kf (fun q => h ((sv_eq h1 h2).mpr q)) H locs ls hH hS hl)
  | ne => exact lv_icmp_ne hx hb hd ht (fun h => kt (fun q => h ((sv_eq h1 h2).mpr q)) H locs ls hH hS hl) (fun h => kf (fun q => q ((sv_eq h1 h2).mp h)) H locs ls hH hS hl)
  | lt => exact lv_icmp_lt hx hb hd ht (fun h => kt ((sv_lt h1 h2).mp h) H locs ls hH hS hl) (fun h => kf (fun q => h ((sv_lt h1 h2).mpr q)) H locs ls hH hS hl)
  | ge => exact lv_icmp_ge hx hb hd ht (fun h => kt ((sv_le h2 h1).mp h) H locs ls hH hS hl) (fun h => kf (fun q => h ((sv_le h2 h1).mpr q)) H locs ls hH hS hl)
  | gt => exact lv_icmp_gt hx hb hd ht (fun h => kt ((sv_lt h2 h1).mp h) H locs ls hH hS hl) (fun h => kf (fun q => h ((sv_lt h2 h1).mpr q)) H locs ls hH hS hl)
  | le => exact lv_icmp_le hx hb hd ht (fun h => kt ((sv_le h1 h2).mp h) H locs ls hH hS hl) (fun h => kf (fun q => h ((sv_le h1 h2).mpr q)) H locs ls hH hS hl)
theorem sv_z0 : Int32.ofInt 0 = 0 := rfl
theorem sv_if (hx : p.tables.exec = Jvm.exec) (hb : c.code = cc) {cnd : ClassFile.Cond} {off : Int} {tgt : Nat} {x : Int} (hd : decode cc pc = .ok (.ifCond cnd off, 3)) (ht : (pc : Int) + off = (tgt : Int)) (h1 : sv_in x)
    (kt : sv_cmp cnd x 0 → sv_V p l e R s m args below meth c nL A cells slots Q Hp tgt lv rest) (kf : ¬ sv_cmp cnd x 0 → sv_V p l e R s m args below meth c nL A cells slots Q Hp (pc + 3) lv rest) : sv_V p l e R s m args below meth c nL A cells slots Q Hp pc lv (.inl x :: rest) := by
  intro H locs ls hH hS hl
  have h2 : sv_in 0 := ⟨by decide, by decide⟩
  cases cnd with
  | eq => exact lv_if_eq hx hb hd ht (fun h => kt ((sv_eq h1 h2).mp h) H locs ls hH hS hl) (fun h => kf (fun q => h ((sv_eq h1 h2).mpr q)) H locs ls hH hS hl)
  | ne => exact lv_if_ne hx hb hd ht (fun h => kt (fun q => h ((sv_eq h1 h2).mpr q)) H locs ls hH hS hl) (fun h => kf (fun q => q ((sv_eq h1 h2).mp h)) H locs ls hH hS hl)
  | lt => exact lv_if_lt hx hb hd ht (fun h => kt ((sv_lt h1 h2).mp h) H locs ls hH hS hl) (fun h => kf (fun q => h ((sv_lt h1 h2).mpr q)) H locs ls hH hS hl)
  | ge => exact lv_if_ge hx hb hd ht (fun h => kt ((sv_le h2 h1).mp h) H locs ls hH hS hl) (fun h => kf (fun q => h ((sv_le h2 h1).mpr q)) H locs ls hH hS hl)
  | gt => exact lv_if_gt hx hb hd ht (fun h => kt ((sv_lt h2 h1).mp h) H locs ls hH hS hl) (fun h => kf (fun q => h ((sv_lt h2 h1).mpr q)) H locs ls hH hS hl)
  | le => exact lv_if_le hx hb hd ht (fun h => kt ((sv_le h1 h2).mp h) H locs ls hH hS hl) (fun h => kf (fun q => h ((sv_le h1 h2).mpr q)) H locs ls hH hS hl)
theorem sv_ifnull (hx : p.tables.exec = Jvm.exec) (hb : c.code = cc) {off : Int} {tgt : Nat} {z : Int} (hd : decode cc pc = .ok (.ifnull off, 3)) (ht : (pc : Int) + off = (tgt : Int)) (hz : 0 ≤ z)
    (kt : z = 0 → sv_V p l e R s m args below meth c nL A cells slots Q Hp tgt lv rest) (kf : 0 < z → sv_V p l e R s m args below meth c nL A cells slots Q Hp (pc + 3) lv rest) : sv_V p l e R s m args below meth c nL A cells slots Q Hp pc lv (.inr (.inl z) :: rest) := by
  intro H locs ls hH hS hl
  match z, hz with
  | .ofNat 0, _ => exact lv_ifnullN hx hb hd ht (kt rfl H locs ls hH hS hl)
  | .ofNat (n + 1), _ => exact lv_ifnull hx hb hd (kf (by simp only [Int.ofNat_eq_natCast]; omega) H locs ls hH hS hl)
theorem sv_ifnonnull (hx : p.tables.exec = Jvm.exec) (hb : c.code = cc) {off : Int} {tgt : Nat} {z : Int} (hd : decode cc pc = .ok (.ifnonnull off, 3)) (ht : (pc : Int) + off = (tgt : Int)) (hz : 0 ≤ z)
    (kt : 0 < z → sv_V p l e R s m args below meth c nL A cells slots Q Hp tgt lv rest) (kf : z = 0 → sv_V p l e R s m args below meth c nL A cells slots Q Hp (pc + 3) lv rest) : sv_V p l e R s m args below meth c nL A cells slots Q Hp pc lv (.inr (.inl z) :: rest) := by
  intro H locs ls hH hS hl
  match z, hz with
  | .ofNat 0, _ => exact lv_ifnonnullN hx hb hd (kf rfl H locs ls hH hS hl)
  | .ofNat (n + 1), _ => exact lv_ifnonnull hx hb hd ht (kt (by simp only [Int.ofNat_eq_natCast]; omega) H locs ls hH hS hl)
/-- the same place with other words: numbers that are equal, fewer locals, another heap's word -/
theorem sv_same {st2 : List sv_T} {lv2 : sv_L} (h1 : st = st2) (h2 : lv = lv2) (k : sv_V p l e R s m args below meth c nL A cells slots Q Hp pc lv2 st2) : sv_V p l e R s m args below meth c nL A cells slots Q Hp pc lv st := by subst h1; subst h2; exact k
theorem sv_heap {Hp2 : Heap → Prop} (h : ∀ H, Hp H → Hp2 H) (k : sv_V p l e R s m args below meth c nL A cells slots Q Hp2 pc lv st) : sv_V p l e R s m args below meth c nL A cells slots Q Hp pc lv st :=
  fun H locs ls hH hS hl => k H locs ls (h H hH) hS hl
theorem sv_drop {lv2 : sv_L} (h : ∀ q ∈ lv2, q ∈ lv) (k : sv_V p l e R s m args below meth c nL A cells slots Q Hp pc lv2 st) : sv_V p l e R s m args below meth c nL A cells slots Q Hp pc lv st :=
  fun H locs ls hH hS hl => k H locs ls hH hS ⟨hl.1, hl.2.1, fun q hq => by obtain ⟨z, hz, e⟩ := List.mem_map.mp hq; exact hl.2.2 q (List.mem_map.mpr ⟨z, h z hz, e⟩)⟩
theorem sv_tdiv_in {x y : Int} (h1 : sv_in x) (h2 : 0 < y) : sv_in (x.tdiv y) := by
  have b1 := Int.natAbs_tdiv_le_natAbs x y
  have h3 := h1.1
  have h4 := h1.2
  rcases Int.le_total 0 x with h | h
  · have b2 : 0 ≤ x.tdiv y := Int.tdiv_nonneg h (by omega)
    exact ⟨by omega, by omega⟩
  · have b2 : 0 ≤ (-x).tdiv y := Int.tdiv_nonneg (by omega) (by omega)
    rw [Int.neg_tdiv] at b2
    exact ⟨by omega, by omega⟩
/-- division by a number that isn't 0, of numbers in range -/
theorem sv_idiv (hx : p.tables.exec = Jvm.exec) (hb : c.code = cc) {x y : Int} (hd : decode cc pc = .ok (.idiv, 1)) (h1 : sv_in x) (h2 : 0 < y) (h3 : y < 2147483648)
    (k : sv_V p l e R s m args below meth c nL A cells slots Q Hp (pc + 1) lv (sv_i (x.tdiv y) :: rest)) : sv_V p l e R s m args below meth c nL A cells slots Q Hp pc lv (.inl y :: .inl x :: rest) := by
  intro H locs ls hH hS hl
  have hy : (Int32.ofInt y).toInt = y := sv_oi ⟨by omega, h3⟩
  refine lv_idiv hx hb hd (fun q => ?_) ?_
  · have := congrArg Int32.toInt q
    rw [hy, Int32.toInt_zero] at this
    omega
  · have hq : Int32.ofInt x / Int32.ofInt y = Int32.ofInt (x.tdiv y) := by
      rw [← Int32.toInt_inj, Int32.toInt_div_of_ne_right _ _ (by intro q; have := congrArg Int32.toInt q; rw [hy] at this; revert this; simp; omega), hy, sv_oi h1]
      rw [sv_oi (sv_tdiv_in h1 h2)]
    rw [hq]
    exact k H locs ls hH hS hl
theorem sv_irem (hx : p.tables.exec = Jvm.exec) (hb : c.code = cc) {x y : Int} (hd : decode cc pc = .ok (.irem, 1)) (h1 : sv_in x) (h2 : 0 < y) (h3 : y < 2147483648)
    (k : sv_V p l e R s m args below meth c nL A cells slots Q Hp (pc + 1) lv (sv_i (x.tmod y) :: rest)) : sv_V p l e R s m args below meth c nL A cells slots Q Hp pc lv (.inl y :: .inl x :: rest) := by
  intro H locs ls hH hS hl
  have hy : (Int32.ofInt y).toInt = y := sv_oi ⟨by omega, h3⟩
  refine lv_irem hx hb hd (fun q => ?_) ?_
  · have := congrArg Int32.toInt q
    rw [hy, Int32.toInt_zero] at this
    omega
  · have hq : Int32.ofInt x / Int32.ofInt y = Int32.ofInt (x.tdiv y) := by
      rw [← Int32.toInt_inj, Int32.toInt_div_of_ne_right _ _ (by intro q; have := congrArg Int32.toInt q; rw [hy] at this; revert this; simp; omega), hy, sv_oi h1]
      rw [sv_oi (sv_tdiv_in h1 h2)]
    rw [hq, sv_mul, sv_sub, show x - x.tdiv y * y = x.tmod y by have := Int.mul_tdiv_add_tmod x y; rw [Int.mul_comm] at this; omega]
    exact k H locs ls hH hS hl
end SVG
end
section
/-! the kinds of cells, and what a store says of a heap -/
def sv_isNest : Cond → Bool
  | .fieldLinkNest .. => true
  | .methodLinkNest .. => true
  | _ => false
def sv_nest : List Cond := lw_tbl.filter (fun w => sv_isNest w)
def lw_good : List Cond := lw_tbl.filter (fun w => goodWord w)
theorem sv_mem {w : Cond} (i : Nat) (h : lw_tbl[i]? = some w) (hg : goodWord w = true) : w ∈ lw_good := List.mem_filter.mpr ⟨List.mem_of_getElem? h, hg⟩
theorem sv_memN {w : Cond} (i : Nat) (h : lw_tbl[i]? = some w) (hg : sv_isNest w = true) : w ∈ sv_nest := List.mem_filter.mpr ⟨List.mem_of_getElem? h, hg⟩
theorem sv_goodIn {w : Cond} (h : w ∈ lw_good) : GoodIn lw_good (w :: lw_good) := by
  intro x hx
  have hx' : x ∈ lw_good := by
    rcases List.mem_cons.mp hx with e | e
    · rw [e]; exact h
    · exact e
  exact ⟨hx', good_of_word (List.mem_filter.mp hx').2⟩
def sv_ft (ci k : Nat) : FieldType := match ci with
  | 0 => tyX0 k | 1 => tyX1 k | 2 => tyX3 k | 3 => tyX4 k | 4 => tyX5 k | 5 => tyX6 k | 6 => tyX7 k | 7 => tyX8 k | 8 => tyX9 k | 9 => tyX10 k | _ => tyX11 k
/-- a kind: an object of a class (by its place in vwCl), or an array of a type and a length -/
def sv_kT : Nat → Option (Nat ⊕ (FieldType × Nat))
  | 1 => some (.inl 8) | 2 => some (.inl 6) | 3 => some (.inl 5) | 4 => some (.inl 3) | 5 => some (.inl 0) | 6 => some (.inl 7) | 7 => some (.inl 1) | 8 => some (.inl 2) | 9 => some (.inl 4) | 10 => some (.inl 10) | 11 => some (.inl 9)
  | 20 => some (.inr (.byte, 4000)) | 21 => some (.inr (.object "SaintsRoad$Place", 4)) | 22 => some (.inr (.object "SaintsRoad$Feast", 60)) | 23 => some (.inr (.int, 9))
  | 24 => some (.inr (.int, 60)) | 25 => some (.inr (.int, 366)) | 26 => some (.inr (.int, 60)) | 27 => some (.inr (.int, 60)) | 28 => some (.inr (.int, 60)) | 29 => some (.inr (.int, 60))
  | 30 => some (.inr (.int, 10)) | 31 => some (.inr (.int, 10)) | 32 => some (.inr (.int, 10)) | 33 => some (.inr (.int, 600)) | 34 => some (.inr (.int, 600)) | 35 => some (.inr (.int, 600)) | 36 => some (.inr (.int, 600))
  | 37 => some (.inr (.object "SaintsRoad$Procession", 12)) | 38 => some (.inr (.int, 400)) | 39 => some (.inr (.int, 1442)) | 40 => some (.inr (.int, 12)) | 41 => some (.inr (.int, 12))
  | 60 => some (.inr (.int, 5)) | 61 => some (.inr (.int, 5)) | 62 => some (.inr (.int, 5)) | 63 => some (.inr (.int, 5)) | 64 => some (.inr (.int, 45))
  | 65 => some (.inr (.int, 300)) | 66 => some (.inr (.int, 300)) | 67 => some (.inr (.int, 300)) | 68 => some (.inr (.int, 300)) | 69 => some (.inr (.int, 300)) | 70 => some (.inr (.int, 300)) | 71 => some (.inr (.int, 300))
  | 72 => some (.inr (.boolean, 300)) | 73 => some (.inr (.boolean, 300)) | 74 => some (.inr (.byte, 3600)) | 76 => some (.inr (.byte, 4000)) | 87 => some (.inr (.boolean, 9))
  | 88 => some (.inr (.int, 60)) | 89 => some (.inr (.int, 60)) | 90 => some (.inr (.int, 60)) | 91 => some (.inr (.int, 366)) | 92 => some (.inr (.int, 366)) | 93 => some (.inr (.boolean, 100))
  | 94 => some (.inr (.int, 600)) | 95 => some (.inr (.int, 600)) | 96 => some (.inr (.int, 600)) | 97 => some (.inr (.int, 600)) | 98 => some (.inr (.int, 10)) | 99 => some (.inr (.int, 10))
  | 101 => some (.inr (.int, 400)) | 102 => some (.inr (.int, 12)) | 103 => some (.inr (.int, 12)) | 104 => some (.inr (.int, 12)) | 105 => some (.inr (.int, 144)) | 106 => some (.inr (.int, 144))
  | _ => none
/-- a number in a field or an array of a type: the value -/
def sv_dv : FieldType → Int → Value
  | .object _, z => sv_rf z
  | .array _, z => sv_rf z
  | .long, z => .long (Int64.ofInt z)
  | _, z => .int (Int32.ofInt z)
def sv_of : FieldType → Int → sv_T
  | .object _, z => sv_a z
  | .array _, z => sv_a z
  | .long, z => sv_l z
  | _, z => sv_i z
theorem sv_of_den (t : FieldType) (z : Int) : sv_den (sv_of t z) = sv_dv t z := by cases t <;> rfl
def sv_rg : FieldType → Int → Prop
  | .object _, z => 0 ≤ z
  | .array _, z => 0 ≤ z
  | .long, z => -9223372036854775808 ≤ z ∧ z < 9223372036854775808
  | .boolean, z => 0 ≤ z ∧ z ≤ 1
  | .byte, z => -128 ≤ z ∧ z ≤ 127
  | _, z => sv_in z
/-- what the numbers of a store are within -/
def sv_ok (ty : Nat → Nat) (σ : Nat → Nat → Int) : Prop := ∀ a : Nat, match sv_kT (ty a) with
  | none => True
  | some (.inl ci) => ∀ (r : vw_C), vwCl[ci]? = some r → ∀ k, k < r.2.2 → sv_rg (sv_ft ci k) (σ a k)
  | some (.inr (t, n)) => ∀ i, i < n → sv_rg t (σ a i)
abbrev sv_G : Type := va_G × (FieldType → ClassId) × Nat × Nat × (Nat → Nat) × (Nat → Nat)
def sv_cell (g : sv_G) (a : Nat) (K : Option (Nat ⊕ (FieldType × Nat))) (f : Nat → Int) (H : Heap) : Prop := match K with
  | none => True
  | some (.inl ci) => ∃ r : vw_C, vwCl[ci]? = some r ∧ t_OB a (g.1.1 ci) r.2.2 (g.1.2 ci) H (fun k => sv_dv (sv_ft ci k) (f k))
  | some (.inr (t, n)) => H[a]? = some (arrV (g.2.1 t) n (fun i => sv_dv t (f i)))
def sv_H (g : sv_G) (ty : Nat → Nat) (σ : Nat → Nat → Int) (H : Heap) : Prop := ∀ a : Nat, sv_cell g a (sv_kT (ty a)) (σ a) H
theorem sv_cell.kept {g : sv_G} {a : Nat} {K : Option (Nat ⊕ (FieldType × Nat))} {f : Nat → Int} {H H1 : Heap} (h : sv_cell g a K f H) (hq : H1[a]? = H[a]?) : sv_cell g a K f H1 := by
  match K, h with
  | none, _ => exact trivial
  | some (.inl ci), ⟨r, h1, h2⟩ => exact ⟨r, h1, h2.kept hq⟩
  | some (.inr (t, n)), h => exact hq.trans h
def sv_up (σ : Nat → Nat → Int) (a k : Nat) (z : Int) : Nat → Nat → Int := fun a' k' => if a' = a ∧ k' = k then z else σ a' k'
theorem sv_up_s (σ : Nat → Nat → Int) (a k : Nat) (z : Int) : sv_up σ a k z a k = z := if_pos ⟨rfl, rfl⟩
theorem sv_up_a {σ : Nat → Nat → Int} {a k a' k' : Nat} {z : Int} (h : a' ≠ a) : sv_up σ a k z a' k' = σ a' k' := if_neg (fun q => h q.1)
theorem sv_up_k {σ : Nat → Nat → Int} {a k a' k' : Nat} {z : Int} (h : k' ≠ k) : sv_up σ a k z a' k' = σ a' k' := if_neg (fun q => h q.2)
theorem sv_up_row {σ : Nat → Nat → Int} {a k a' : Nat} {z : Int} (h : a' ≠ a) : sv_up σ a k z a' = σ a' := funext fun _ => sv_up_a h
theorem sv_ok_up {ty : Nat → Nat} {σ : Nat → Nat → Int} (h : sv_ok ty σ) {a k : Nat} {z : Int} (hz : match sv_kT (ty a) with | none => True | some (.inl ci) => sv_rg (sv_ft ci k) z | some (.inr (t, _)) => sv_rg t z) : sv_ok ty (sv_up σ a k z) := by
  intro b
  have hb := h b
  by_cases e : b = a
  · subst e
    revert hb hz
    cases hk : sv_kT (ty b) with
    | none => exact fun _ _ => trivial
    | some q =>
      match q with
      | .inl ci =>
        intro hb hz r hr j hj
        by_cases e2 : j = k
        · subst e2; rw [sv_up_s]; exact hz
        · rw [sv_up_k e2]; exact hb r hr j hj
      | .inr (t, n) =>
        intro hb hz j hj
        by_cases e2 : j = k
        · subst e2; rw [sv_up_s]; exact hz
        · rw [sv_up_k e2]; exact hb j hj
  · rw [sv_up_row e]
    exact hb
set_option maxRecDepth 100000 in
theorem sv_ws_in : ∀ w ∈ wsX00 ++ wsX10 ++ wsX30 ++ wsX40 ++ wsX50 ++ wsX60 ++ wsX70 ++ wsX80 ++ wsX90 ++ wsX100 ++ wsX110, w ∈ lw_good := by decide +kernel
/-- each class: its words, its fields' names, its fields' types -/
theorem sv_cls {ci : Nat} {r : vw_C} (h : vwCl[ci]? = some r) : (∀ w ∈ u_ws r.1 r.2.1 r.2.2, w ∈ lw_good) ∧ (∀ a, a < r.2.2 → ∀ b, b < r.2.2 → a ≠ b → (r.2.1 a).2.1 ≠ (r.2.1 b).2.1) ∧ ∀ k, k < r.2.2 → parseFieldDescriptor (r.2.1 k).2.2.1 = some (sv_ft ci k) := by
  match ci, h with
  | 0, h => cases h; exact ⟨fun w hw => sv_ws_in w (by simp only [List.mem_append]; exact Or.inl (Or.inl (Or.inl (Or.inl (Or.inl (Or.inl (Or.inl (Or.inl (Or.inl (Or.inl hw)))))))))), nmX0, tyX0_ok⟩
  | 1, h => cases h; exact ⟨fun w hw => sv_ws_in w (by simp only [List.mem_append]; exact Or.inl (Or.inl (Or.inl (Or.inl (Or.inl (Or.inl (Or.inl (Or.inl (Or.inl (Or.inr hw)))))))))), nmX1, tyX1_ok⟩
  | 2, h => cases h; exact ⟨fun w hw => sv_ws_in w (by simp only [List.mem_append]; exact Or.inl (Or.inl (Or.inl (Or.inl (Or.inl (Or.inl (Or.inl (Or.inl (Or.inr hw))))))))), nmX3, tyX3_ok⟩
  | 3, h => cases h; exact ⟨fun w hw => sv_ws_in w (by simp only [List.mem_append]; exact Or.inl (Or.inl (Or.inl (Or.inl (Or.inl (Or.inl (Or.inl (Or.inr hw)))))))), nmX4, tyX4_ok⟩
  | 4, h => cases h; exact ⟨fun w hw => sv_ws_in w (by simp only [List.mem_append]; exact Or.inl (Or.inl (Or.inl (Or.inl (Or.inl (Or.inl (Or.inr hw))))))), nmX5, tyX5_ok⟩
  | 5, h => cases h; exact ⟨fun w hw => sv_ws_in w (by simp only [List.mem_append]; exact Or.inl (Or.inl (Or.inl (Or.inl (Or.inl (Or.inr hw)))))), nmX6, tyX6_ok⟩
  | 6, h => cases h; exact ⟨fun w hw => sv_ws_in w (by simp only [List.mem_append]; exact Or.inl (Or.inl (Or.inl (Or.inl (Or.inr hw))))), nmX7, tyX7_ok⟩
  | 7, h => cases h; exact ⟨fun w hw => sv_ws_in w (by simp only [List.mem_append]; exact Or.inl (Or.inl (Or.inl (Or.inr hw)))), nmX8, tyX8_ok⟩
  | 8, h => cases h; exact ⟨fun w hw => sv_ws_in w (by simp only [List.mem_append]; exact Or.inl (Or.inl (Or.inr hw))), nmX9, tyX9_ok⟩
  | 9, h => cases h; exact ⟨fun w hw => sv_ws_in w (by simp only [List.mem_append]; exact Or.inl (Or.inr hw)), nmX10, tyX10_ok⟩
  | 10, h => cases h; exact ⟨fun w hw => sv_ws_in w (by simp only [List.mem_append]; exact Or.inr hw), nmX11, tyX11_ok⟩
  | n + 11, h => simp [vwCl] at h
end
section
/-! the context of a walk, and the rows that read and write the store -/
def sv_tys (aC : FieldType → ClassId) : List (ClassId × FieldType) := [(aC .int, .int), (aC .byte, .byte), (aC .boolean, .boolean), (aC (.object "SaintsRoad$Feast"), .object "SaintsRoad$Feast"), (aC (.object "SaintsRoad$Place"), .object "SaintsRoad$Place"), (aC (.object "SaintsRoad$Procession"), .object "SaintsRoad$Procession")]
def sv_mon (k : Nat) : Value := .int ([31, 29, 31, 30, 31, 30, 31, 31, 30, 31, 30, 31].getD k 0)
def sv_mst (k : Nat) : Value := .int ([0, 31, 59, 90, 120, 151, 181, 212, 243, 273, 304, 334].getD k 0)
/-- the literals: their classes, entries, texts; their lengths -/
def sq_L : List (String × Nat × String) := [("SaintsRoad$Reader", 105, "fixed"), ("SaintsRoad$Reader", 107, "moved"), ("SaintsRoad$Reader", 109, "sunday"), ("SaintsRoad$Reader", 111, "rank"), ("SaintsRoad$Reader", 113, "vigil"), ("SaintsRoad$Reader", 115, "octave"), ("SaintsRoad$Reader", 117, "from"), ("SaintsRoad$Reader", 119, "till"), ("SaintsRoad$Reader", 121, "yield"), ("SaintsRoad$Reader", 123, "wax"), ("SaintsRoad$Reader", 125, "lent"), ("SaintsRoad$Reader", 127, ""), ("SaintsRoadModel", 221, "yield"), ("SaintsRoadModel", 224, "lent"), ("SaintsRoadModel", 223, "wax"), ("SaintsRoadModel", 206, "fixed"), ("SaintsRoadModel", 212, "moved"), ("SaintsRoadModel", 214, "sunday"), ("SaintsRoadModel", 216, "rank"), ("SaintsRoadModel", 217, "vigil"), ("SaintsRoadModel", 218, "octave"), ("SaintsRoadModel", 219, "from"), ("SaintsRoadModel", 220, "till")]
def sq_n (i : Nat) : Nat := ([5, 5, 6, 4, 5, 6, 4, 4, 5, 3, 4, 0, 5, 4, 3, 5, 5, 6, 4, 5, 6, 4, 4] : List Nat).getD i 0
theorem sq_n_in (i : Nat) : sq_n i ≤ 12 := by
  by_cases h : i < 23
  · have key : ∀ j : Nat, j < 23 → sq_n j ≤ 12 := by decide +kernel
    exact key i h
  · have e : sq_n i = 0 := by
      unfold sq_n
      rw [List.getD_eq_getElem?_getD, List.getElem?_eq_none (by simp; omega)]
      rfl
    omega
/-- the strings, and the two statics that their methods read -/
def sv_KS (g : sv_G) (A : Nat → Prop) (U : State) : Prop :=
  (∀ i : Nat, i < 23 → (∀ q : String × Nat × String, sq_L[i]? = some q → vk_R q.1 q.2.1 q.2.2 (g.2.2.2.2.1 i) U) ∧ va_O "java/lang/String" (g.2.2.2.2.1 i) A U U.heap ∧ va_OF "java/lang/String" "coder" "B" (.int 0) (g.2.2.2.2.1 i) A U U.heap ∧ va_OF "java/lang/String" "value" "[B" (.ref (g.2.2.2.2.2 i)) (g.2.2.2.2.1 i) A U U.heap ∧ ∃ f : Nat → Int32, va_T .byte (g.2.2.2.2.2 i) (sq_n i) (fun j => .int (f j)) A U U.heap) ∧
  va_Z "java/lang/String" "COMPACT_STRINGS" "Z" (.int 1) A U U.heap ∧ va_Zq "jdk/internal/util/Preconditions" "SIOOBE_FORMATTER" "Ljava/util/function/BiFunction;" A U U.heap
theorem sv_KS.warm {g : sv_G} {A : Nat → Prop} {s U : State} (h : sv_KS g A s) (hW : s.WarmedH U.vm) (hq : ∀ a : Nat, a < s.heap.size → ¬ A a → U.heap[a]? = s.heap[a]?) : sv_KS g A U :=
  ⟨fun i hi => ⟨fun q e => ((h.1 i hi).1 q e).warm hW, (va_O.moved hW.alike (h.1 i hi).2.1).kept hq, (va_OF.moved hW.alike (h.1 i hi).2.2.1).kept hq, (va_OF.moved hW.alike (h.1 i hi).2.2.2.1).kept hq, (h.1 i hi).2.2.2.2.imp fun f hf => (va_T.moved hW.alike hf).kept hq⟩, (va_Z.moved hW.alike h.2.1).kept hq, (va_Zq.moved hW.alike h.2.2).kept hq⟩
theorem sv_KS.calling {g : sv_G} {A : Nat → Prop} {U : State} {gf : JFrame} {mk : MethodId} {a : Array Value} (h : sv_KS g A U) : sv_KS g A (U.calling gf mk a) :=
  ⟨fun i hi => ⟨fun q e => vk_R.same (u := U) (U := U.calling gf mk a) rfl ((h.1 i hi).1 q e), va_O.moved (u := U) (U := U.calling gf mk a) (Vm.Alike.refl U.vm) (h.1 i hi).2.1, va_OF.moved (u := U) (U := U.calling gf mk a) (Vm.Alike.refl U.vm) (h.1 i hi).2.2.1, va_OF.moved (u := U) (U := U.calling gf mk a) (Vm.Alike.refl U.vm) (h.1 i hi).2.2.2.1, (h.1 i hi).2.2.2.2.imp fun f hf => va_T.moved (u := U) (U := U.calling gf mk a) (Vm.Alike.refl U.vm) hf⟩, va_Z.moved (u := U) (U := U.calling gf mk a) (Vm.Alike.refl U.vm) h.2.1, va_Zq.moved (u := U) (U := U.calling gf mk a) (Vm.Alike.refl U.vm) h.2.2⟩
/-- the machine's tables, and the two static tables of months -/
def sv_K (g : sv_G) (A : Nat → Prop) (U : State) : Prop := va_K g.1 vwCl (sv_tys g.2.1) U ∧ (∀ w ∈ sv_nest, va_Nw w U) ∧
  (va_Z "SaintsRoad$Days" "MONTH_AT_MOST" "[I" (.ref g.2.2.1) A U U.heap ∧ va_T .int g.2.2.1 12 sv_mon A U U.heap) ∧ va_Z "SaintsRoad$Days" "MONTH_START" "[I" (.ref g.2.2.2.1) A U U.heap ∧ va_T .int g.2.2.2.1 12 sv_mst A U U.heap ∧ sv_KS g A U
theorem sv_nestW {w : Cond} (hw : sv_isNest w = true) {s U : State} (hW : s.WarmedH U.vm) (h : va_Nw w s) : va_Nw w U := by
  cases w <;> first | exact va_Nw.warmF hW h | exact va_Nw.warmM hW h | cases hw
theorem sv_nestS {w : Cond} (hw : sv_isNest w = true) {s U : State} (hW : s.vm = U.vm) (h : va_Nw w s) : va_Nw w U := by
  cases w <;> first | exact va_Nw.same rfl hW h | cases hw
theorem sv_K.warm {g : sv_G} {A : Nat → Prop} {s U : State} (h : sv_K g A s) (hW : s.WarmedH U.vm) (hq : ∀ a : Nat, a < s.heap.size → ¬ A a → U.heap[a]? = s.heap[a]?) : sv_K g A U :=
  ⟨va_K.moved hW.alike h.1, fun w hw => sv_nestW (List.mem_filter.mp hw).2 hW (h.2.1 w hw), ⟨(va_Z.moved hW.alike h.2.2.1.1).kept hq, (va_T.moved hW.alike h.2.2.1.2).kept hq⟩, (va_Z.moved hW.alike h.2.2.2.1).kept hq, (va_T.moved hW.alike h.2.2.2.2.1).kept hq, h.2.2.2.2.2.warm hW hq⟩
theorem sv_K.calling {g : sv_G} {A : Nat → Prop} {U : State} {gf : JFrame} {mk : MethodId} {a : Array Value} (h : sv_K g A U) : sv_K g A (U.calling gf mk a) :=
  ⟨va_K.moved (u := U) (U := U.calling gf mk a) (Vm.Alike.refl U.vm) h.1, fun w hw => sv_nestS (s := U) (U := U.calling gf mk a) (List.mem_filter.mp hw).2 rfl (h.2.1 w hw), ⟨va_Z.moved (u := U) (U := U.calling gf mk a) (Vm.Alike.refl U.vm) h.2.2.1.1, va_T.moved (u := U) (U := U.calling gf mk a) (Vm.Alike.refl U.vm) h.2.2.1.2⟩, va_Z.moved (u := U) (U := U.calling gf mk a) (Vm.Alike.refl U.vm) h.2.2.2.1, va_T.moved (u := U) (U := U.calling gf mk a) (Vm.Alike.refl U.vm) h.2.2.2.2.1, h.2.2.2.2.2.calling⟩
def sv_C (g : sv_G) (A : Nat → Prop) (own : String) (cc : ByteArray) (nL : Nat) (p : Program) (s : State) (m : MethodId) (args : Array Value) (meth : Method) (c : Code) : Prop :=
  p.tables.exec = Jvm.exec ∧ c.code = cc ∧ c.maxLocals = nL ∧ s.vm.findClass own = some m.cls ∧ (∀ w ∈ lw_good, w.before args s = true) ∧ sv_K g A s ∧ meth.locks = false
section SVR
variable {p : Program} {l : Launch} {e : Env} {R : Room} {s : State} {m : MethodId} {args : Array Value} {below : List Frame} {meth : Method} {c : Code} {cells slots : Nat} {Q : State → Prop}
variable {cc : ByteArray} {pc nL : Nat} {A : Nat → Prop} {lv lv' : sv_L} {st st' rest : List sv_T} {g : sv_G} {own : String} {ty : Nat → Nat} {σ : Nat → Nat → Int}
theorem sv_gf (C : sv_C g A own cc nL p s m args meth c) {a ci k index : Nat} {r : vw_C} {v : sv_T} (hd : decode cc pc = .ok (.getfield index, 3)) (hk : sv_kT (ty a) = some (.inl ci)) (hr : vwCl[ci]? = some r) (hkn : k < r.2.2) (hw : Cond.fieldLink own index (r.2.1 k).1 (r.2.1 k).2.1 (r.2.1 k).2.2.1 ∈ lw_good) (hv : sv_of (sv_ft ci k) (σ a k) = v)
    (kk : sv_V p l e R s m args below meth c nL A cells slots Q (sv_H g ty σ) (pc + 3) lv (v :: rest)) : sv_V p l e R s m args below meth c nL A cells slots Q (sv_H g ty σ) pc lv (sv_r a :: rest) := by
  intro H locs ls hH hS hl
  obtain ⟨hx, hb, hml, hown, hts, hK, hlk⟩ := C
  have h1 := hH a
  rw [hk] at h1
  obtain ⟨r', hr', cell, q1, q2, q3, q4⟩ := h1
  cases hr.symm.trans hr'
  obtain ⟨hS', hfc, kC, hkC, hkind⟩ := hK.1.1 ci _ hr
  obtain ⟨cf, kf, fi, f, hi, hsl⟩ := hS' k hkn
  refine W.getf hx hb hown (hts _ hw) hi (u_facts hfc hkC (u_lays hts (sv_cls hr).1 hkn) hi).1 q1 (by rw [q3]; exact fun h => by cases h) (v := sv_den v) ?_ rfl rfl hd (kk H locs ls hH hS hl)
  rw [hsl, q4 k hkn, ← hv, sv_of_den]
/-- what the machine may store in a field: a number in its type's range -/
theorem sv_nar {t : FieldType} {z : Int} (ht : t = .int ∨ t = .boolean ∨ t = .byte ∨ t = .long ∨ (∃ n, t = .object n) ∨ ∃ x, t = .array x) (h : sv_rg t z) : narrow t (sv_dv t z) = sv_dv t z ∧ fits t (sv_dv t z) = true := by
  rcases ht with rfl | rfl | rfl | rfl | ⟨n, rfl⟩ | ⟨x, rfl⟩
  · exact ⟨rfl, rfl⟩
  · have : z = 0 ∨ z = 1 := by have := h.1; have := h.2; omega
    rcases this with rfl | rfl <;> exact ⟨by decide, by decide⟩
  · have hb : (Int32.ofInt z).toInt8.toInt32 = Int32.ofInt z := by
      rw [← Int32.toInt_inj, Int8.toInt_toInt32, Int32.toInt_toInt8, sv_oi ⟨by have := h.1; omega, by have := h.2; omega⟩]
      exact Int.bmod_eq_of_le (by have := h.1; omega) (by have := h.2; omega)
    have e1 := pk_nb (Int32.ofInt z)
    have e2 := pk_fb (Int32.ofInt z)
    rw [hb] at e1 e2
    exact ⟨e1, e2⟩
  · exact ⟨rfl, rfl⟩
  · rcases sv_rf_or z with e | ⟨a, e⟩ <;> simp only [sv_dv, e] <;> exact ⟨rfl, rfl⟩
  · rcases sv_rf_or z with e | ⟨a, e⟩ <;> simp only [sv_dv, e] <;> exact ⟨rfl, rfl⟩
theorem sv_H_up {H H' : Heap} {a ci k : Nat} {r : vw_C} {z : Int} (hH : sv_H g ty σ H) (hk : sv_kT (ty a) = some (.inl ci)) (hr : vwCl[ci]? = some r) (hn : t_OB a (g.1.1 ci) r.2.2 (g.1.2 ci) H' (updV (fun j => sv_dv (sv_ft ci j) (σ a j)) k (sv_dv (sv_ft ci k) z))) (e3 : ∀ q, q ≠ a → H'[q]? = H[q]?) : sv_H g ty (sv_up σ a k z) H' := by
  intro b
  by_cases e : b = a
  · subst e
    rw [hk]
    refine ⟨r, hr, hn.to fun j hj => ?_⟩
    by_cases e2 : j = k
    · subst e2; simp [updV, sv_up_s]
    · simp [updV, e2, sv_up_k e2]
  · rw [sv_up_row e]
    exact (hH b).kept (e3 b e)
theorem sv_pf (C : sv_C g A own cc nL p s m args meth c) {a ci k index : Nat} {r : vw_C} {v : sv_T} {z : Int} (hd : decode cc pc = .ok (.putfield index, 3)) (hk : sv_kT (ty a) = some (.inl ci)) (hr : vwCl[ci]? = some r) (hkn : k < r.2.2) (hfin : (r.2.1 k).2.2.2 = false) (hw : Cond.fieldLink own index (r.2.1 k).1 (r.2.1 k).2.1 (r.2.1 k).2.2.1 ∈ lw_good) (hv : sv_of (sv_ft ci k) z = v)
    (ht : sv_ft ci k = .int ∨ sv_ft ci k = .boolean ∨ sv_ft ci k = .byte ∨ sv_ft ci k = .long ∨ (∃ n, sv_ft ci k = .object n) ∨ ∃ x, sv_ft ci k = .array x) (hz : sv_rg (sv_ft ci k) z) (hA : A a) (hok : sv_ok ty σ)
    (kk : sv_ok ty (sv_up σ a k z) → sv_V p l e R s m args below meth c nL A cells slots Q (sv_H g ty (sv_up σ a k z)) (pc + 3) lv rest) : sv_V p l e R s m args below meth c nL A cells slots Q (sv_H g ty σ) pc lv (v :: sv_r a :: rest) := by
  intro H locs ls hH hS hl
  obtain ⟨hx, hb, hml, hown, hts, hK, hlk⟩ := C
  have h1 := hH a
  rw [hk] at h1
  obtain ⟨r', hr', cell, q1, q2, q3, q4⟩ := h1
  cases hr.symm.trans hr'
  obtain ⟨cw, cn, ct⟩ := sv_cls hr
  have hap := va_apart (own := own) hts cw (sv_ft ci) ct cn hK.1 hr
  obtain ⟨hS', hfc, kC, hkC, hkind⟩ := hK.1.1 ci _ hr
  obtain ⟨cf, kf, fi, f, hi, hsl⟩ := hS' k hkn
  have hlay := hts _ (cw _ (u_in_lay hkn))
  unfold u_lay at hlay
  rw [if_neg (by rw [hfin]; decide)] at hlay
  have hst := (u_facts hfc hkC (u_lays hts cw hkn) hi).1
  obtain ⟨n1, n2⟩ := sv_nar ht hz
  have h6 := u_store hfc hkC hkind hlay hi (ct k hkn) n1 n2
  subst hv
  rw [List.map_cons, sv_of_den]
  refine W.putK hx hb (f := f) ⟨hown, hts _ hw, ⟨_, _, _, hi⟩, hst⟩ (by rw [q2]; exact h6) q1 q3 (by rw [hsl]; exact k2_hasslot (q4 k hkn)) rfl rfl hd fun H' e1 e2 e3 => ?_
  rw [hsl] at e1 ⊢
  exact kk (sv_ok_up hok (by rw [hk]; exact hz)) H' _ ls (sv_H_up hH hk hr ⟨_, e1, q2, q3, t_set q4 hap hkn _⟩ e3) (hS.put e2 e3 hA) hl
/-- an array's element -/
theorem sv_idx {i : Int} {n : Nat} (h0 : 0 ≤ i) (h1 : i < n) (hn : n < 2147483648) : vp_in (Int32.ofInt i) n ∧ (Int32.ofInt i).toNatClampNeg = i.toNat := by
  have e : (Int32.ofInt i).toInt = i := sv_oi ⟨by omega, by omega⟩
  refine ⟨vp_in_iff.mpr ⟨by rw [e]; exact h0, by rw [e]; exact h1⟩, ?_⟩
  rw [← Int32.toNat_toInt, e]
theorem sv_isA {t : FieldType} {U : State} (h : sv_K g A U) (ht : t = .int ∨ t = .byte ∨ t = .boolean ∨ t = .object "SaintsRoad$Feast" ∨ t = .object "SaintsRoad$Place" ∨ t = .object "SaintsRoad$Procession") (n : Nat) (f : Nat → Value) : U.isArrayOf (arrV (g.2.1 t) n f) t := by
  rcases ht with rfl | rfl | rfl | rfl | rfl | rfl
  · exact (h.1.2 0 _ rfl).1 n f
  · exact (h.1.2 1 _ rfl).1 n f
  · exact (h.1.2 2 _ rfl).1 n f
  · exact (h.1.2 3 _ rfl).1 n f
  · exact (h.1.2 4 _ rfl).1 n f
  · exact (h.1.2 5 _ rfl).1 n f
theorem sv_rd {a n : Nat} {t : FieldType} {H : Heap} {i : Int} (hH : sv_H g ty σ H) (hk : sv_kT (ty a) = some (.inr (t, n))) (h0 : 0 ≤ i) (h1 : i < n) (hn : n < 2147483648) :
    H[a]? = some (arrV (g.2.1 t) n (fun i => sv_dv t (σ a i))) ∧ ¬ (Int32.ofInt i < 0 ∨ (arrV (g.2.1 t) n (fun i => sv_dv t (σ a i))).slots.size ≤ (Int32.ofInt i).toNatClampNeg) ∧ (arrV (g.2.1 t) n (fun i => sv_dv t (σ a i))).slots[(Int32.ofInt i).toNatClampNeg]? = some (sv_dv t (σ a i.toNat)) := by
  have h2 := hH a
  rw [hk] at h2
  obtain ⟨e1, e2⟩ := sv_idx h0 h1 hn
  refine ⟨h2, by rw [arrV_size]; exact e1, ?_⟩
  rw [e2, arrV_read _ _ (by omega)]
theorem sv_ia (C : sv_C g A own cc nL p s m args meth c) {a n : Nat} {i : Int} (hd : decode cc pc = .ok (.iaload, 1)) (hk : sv_kT (ty a) = some (.inr (.int, n))) (hn : n < 2147483648) (h0 : 0 ≤ i) (h1 : i < n)
    (kk : sv_V p l e R s m args below meth c nL A cells slots Q (sv_H g ty σ) (pc + 1) lv (sv_i (σ a i.toNat) :: rest)) : sv_V p l e R s m args below meth c nL A cells slots Q (sv_H g ty σ) pc lv (.inl i :: sv_r a :: rest) := by
  intro H locs ls hH hS hl
  obtain ⟨hx, hb, hml, hown, hts, hK, hlk⟩ := C
  obtain ⟨e1, e2, e3⟩ := sv_rd hH hk h0 h1 hn
  exact W.iald hx hb e1 (sv_isA hK (Or.inl rfl) _ _) (fun q => by cases q) e2 e3 rfl rfl hd (kk H locs ls hH hS hl)
theorem sv_ba (C : sv_C g A own cc nL p s m args meth c) {a n : Nat} {i : Int} (hd : decode cc pc = .ok (.baload, 1)) (hk : sv_kT (ty a) = some (.inr (.byte, n))) (hn : n < 2147483648) (h0 : 0 ≤ i) (h1 : i < n)
    (kk : sv_V p l e R s m args below meth c nL A cells slots Q (sv_H g ty σ) (pc + 1) lv (sv_i (σ a i.toNat) :: rest)) : sv_V p l e R s m args below meth c nL A cells slots Q (sv_H g ty σ) pc lv (.inl i :: sv_r a :: rest) := by
  intro H locs ls hH hS hl
  obtain ⟨hx, hb, hml, hown, hts, hK, hlk⟩ := C
  obtain ⟨e1, e2, e3⟩ := sv_rd hH hk h0 h1 hn
  exact W.bald hx hb e1 (sv_isA hK (Or.inr (Or.inl rfl)) _ _) (fun q => by cases q) e2 e3 rfl rfl hd (kk H locs ls hH hS hl)
theorem sv_za (C : sv_C g A own cc nL p s m args meth c) {a n : Nat} {i : Int} (hd : decode cc pc = .ok (.baload, 1)) (hk : sv_kT (ty a) = some (.inr (.boolean, n))) (hn : n < 2147483648) (h0 : 0 ≤ i) (h1 : i < n)
    (kk : sv_V p l e R s m args below meth c nL A cells slots Q (sv_H g ty σ) (pc + 1) lv (sv_i (σ a i.toNat) :: rest)) : sv_V p l e R s m args below meth c nL A cells slots Q (sv_H g ty σ) pc lv (.inl i :: sv_r a :: rest) := by
  intro H locs ls hH hS hl
  obtain ⟨hx, hb, hml, hown, hts, hK, hlk⟩ := C
  obtain ⟨e1, e2, e3⟩ := sv_rd hH hk h0 h1 hn
  exact W.zald hx hb e1 (sv_isA hK (Or.inr (Or.inr (Or.inl rfl))) _ _) (fun q => by cases q) e2 e3 rfl rfl hd (kk H locs ls hH hS hl)
theorem sv_aa (C : sv_C g A own cc nL p s m args meth c) {a n : Nat} {i : Int} {N : String} (hN : N = "SaintsRoad$Feast" ∨ N = "SaintsRoad$Place" ∨ N = "SaintsRoad$Procession") (hd : decode cc pc = .ok (.aaload, 1)) (hk : sv_kT (ty a) = some (.inr (.object N, n))) (hn : n < 2147483648) (h0 : 0 ≤ i) (h1 : i < n)
    (kk : sv_V p l e R s m args below meth c nL A cells slots Q (sv_H g ty σ) (pc + 1) lv (sv_a (σ a i.toNat) :: rest)) : sv_V p l e R s m args below meth c nL A cells slots Q (sv_H g ty σ) pc lv (.inl i :: sv_r a :: rest) := by
  intro H locs ls hH hS hl
  obtain ⟨hx, hb, hml, hown, hts, hK, hlk⟩ := C
  obtain ⟨e1, e2, e3⟩ := sv_rd hH hk h0 h1 hn
  exact W.aald hx hb e1 (sv_isA hK (by rcases hN with rfl | rfl | rfl <;> simp) _ _) rfl (fun q => by cases q) e2 e3 rfl rfl hd (kk H locs ls hH hS hl)
theorem sv_al (C : sv_C g A own cc nL p s m args meth c) {a n : Nat} {t : FieldType} (ht : t = .int ∨ t = .byte ∨ t = .boolean ∨ t = .object "SaintsRoad$Feast" ∨ t = .object "SaintsRoad$Place" ∨ t = .object "SaintsRoad$Procession") (hd : decode cc pc = .ok (.arraylength, 1)) (hk : sv_kT (ty a) = some (.inr (t, n)))
    (kk : sv_V p l e R s m args below meth c nL A cells slots Q (sv_H g ty σ) (pc + 1) lv (sv_i (n : Int) :: rest)) : sv_V p l e R s m args below meth c nL A cells slots Q (sv_H g ty σ) pc lv (sv_r a :: rest) := by
  intro H locs ls hH hS hl
  obtain ⟨hx, hb, hml, hown, hts, hK, hlk⟩ := C
  have h2 := hH a
  rw [hk] at h2
  exact W.alen (n := Int32.ofInt n) hx hb h2 (sv_isA hK ht _ _) (by rw [arrV_size]; rfl) rfl rfl hd (kk H locs ls hH hS hl)
theorem sv_H_st {H H' : Heap} {a n j : Nat} {t : FieldType} {z : Int} (hH : sv_H g ty σ H) (hk : sv_kT (ty a) = some (.inr (t, n))) (e1 : H'[a]? = some ((arrV (g.2.1 t) n (fun i => sv_dv t (σ a i))).setSlot j (sv_dv t z))) (e3 : ∀ q, q ≠ a → H'[q]? = H[q]?) : sv_H g ty (sv_up σ a j z) H' := by
  intro b
  by_cases e : b = a
  · subst e
    rw [hk]
    show H'[b]? = _
    rw [e1, arrV_store]
    congr 2
    funext q
    by_cases e2 : q = j
    · subst e2; simp [updV, sv_up_s]
    · simp [updV, e2, sv_up_k e2]
  · rw [sv_up_row e]
    exact (hH b).kept (e3 b e)
theorem sv_is (C : sv_C g A own cc nL p s m args meth c) {a n : Nat} {i z : Int} (hd : decode cc pc = .ok (.iastore, 1)) (hk : sv_kT (ty a) = some (.inr (.int, n))) (hn : n < 2147483648) (h0 : 0 ≤ i) (h1 : i < n) (hz : sv_in z) (hA : A a) (hok : sv_ok ty σ)
    (kk : sv_ok ty (sv_up σ a i.toNat z) → sv_V p l e R s m args below meth c nL A cells slots Q (sv_H g ty (sv_up σ a i.toNat z)) (pc + 1) lv rest) : sv_V p l e R s m args below meth c nL A cells slots Q (sv_H g ty σ) pc lv (.inl z :: .inl i :: sv_r a :: rest) := by
  intro H locs ls hH hS hl
  obtain ⟨hx, hb, hml, hown, hts, hK, hlk⟩ := C
  obtain ⟨e1, e2, e3⟩ := sv_rd hH hk h0 h1 hn
  refine W.iast hx hb e1 (sv_isA hK (Or.inl rfl) _ _) (fun q => by cases q) e2 rfl rfl hd fun H' f1 f2 f3 => ?_
  rw [(sv_idx h0 h1 hn).2] at f1 ⊢
  exact kk (sv_ok_up hok (by rw [hk]; exact hz)) H' _ ls (sv_H_st hH hk f1 f3) (hS.put f2 f3 hA) hl
theorem sv_bs (C : sv_C g A own cc nL p s m args meth c) {a n : Nat} {i z : Int} (hd : decode cc pc = .ok (.bastore, 1)) (hk : sv_kT (ty a) = some (.inr (.byte, n))) (hn : n < 2147483648) (h0 : 0 ≤ i) (h1 : i < n) (hz : -128 ≤ z ∧ z ≤ 127) (hA : A a) (hok : sv_ok ty σ)
    (kk : sv_ok ty (sv_up σ a i.toNat z) → sv_V p l e R s m args below meth c nL A cells slots Q (sv_H g ty (sv_up σ a i.toNat z)) (pc + 1) lv rest) : sv_V p l e R s m args below meth c nL A cells slots Q (sv_H g ty σ) pc lv (.inl z :: .inl i :: sv_r a :: rest) := by
  intro H locs ls hH hS hl
  obtain ⟨hx, hb, hml, hown, hts, hK, hlk⟩ := C
  obtain ⟨e1, e2, e3⟩ := sv_rd hH hk h0 h1 hn
  refine W.bast hx hb e1 (sv_isA hK (Or.inr (Or.inl rfl)) _ _) (fun q => by cases q) e2 rfl rfl hd fun H' f1 f2 f3 => ?_
  rw [(sv_idx h0 h1 hn).2, show narrow .byte (.int (Int32.ofInt z)) = sv_dv .byte z from (sv_nar (t := .byte) (by simp) hz).1] at f1
  rw [(sv_idx h0 h1 hn).2]
  exact kk (sv_ok_up hok (by rw [hk]; exact hz)) H' _ ls (sv_H_st hH hk f1 f3) (hS.put f2 f3 hA) hl
theorem sv_zs (C : sv_C g A own cc nL p s m args meth c) {a n : Nat} {i z : Int} (hd : decode cc pc = .ok (.bastore, 1)) (hk : sv_kT (ty a) = some (.inr (.boolean, n))) (hn : n < 2147483648) (h0 : 0 ≤ i) (h1 : i < n) (hz : 0 ≤ z ∧ z ≤ 1) (hA : A a) (hok : sv_ok ty σ)
    (kk : sv_ok ty (sv_up σ a i.toNat z) → sv_V p l e R s m args below meth c nL A cells slots Q (sv_H g ty (sv_up σ a i.toNat z)) (pc + 1) lv rest) : sv_V p l e R s m args below meth c nL A cells slots Q (sv_H g ty σ) pc lv (.inl z :: .inl i :: sv_r a :: rest) := by
  intro H locs ls hH hS hl
  obtain ⟨hx, hb, hml, hown, hts, hK, hlk⟩ := C
  obtain ⟨e1, e2, e3⟩ := sv_rd hH hk h0 h1 hn
  refine W.zast hx hb e1 (sv_isA hK (Or.inr (Or.inr (Or.inl rfl))) _ _) (fun q => by cases q) e2 rfl rfl hd fun H' f1 f2 f3 => ?_
  rw [(sv_idx h0 h1 hn).2, show narrow .boolean (.int (Int32.ofInt z)) = sv_dv .boolean z from (sv_nar (t := .boolean) (by simp) hz).1] at f1
  rw [(sv_idx h0 h1 hn).2]
  exact kk (sv_ok_up hok (by rw [hk]; exact hz)) H' _ ls (sv_H_st hH hk f1 f3) (hS.put f2 f3 hA) hl
end SVR
end
section
/-! contracts over the store, entry, calls, ends -/
def sv_ret : List sv_T → Option Value
  | [] => none
  | v :: _ => some (sv_den v)
def sv_P (g : sv_G) (A : Nat → Prop) (ty : Nat → Nat) (σ : Nat → Nat → Int) (av : List sv_T) : Array Value → State → Prop := va_Pc (av.map sv_den) (fun U => sv_H g ty σ U.heap ∧ sv_K g A U)
def sv_Q (g : sv_G) (A : Nat → Prop) (ty : Nat → Nat) (po : List sv_T → (Nat → Nat → Int) → Prop) : Array Value → State → Outcome → State → Prop := fun _ st oc t =>
  ∃ (r : List sv_T) (σ' : Nat → Nat → Int), oc = .returned (sv_ret r) ∧ r.length ≤ 1 ∧ po r σ' ∧ sv_ok ty σ' ∧ sv_H g ty σ' t.heap ∧ va_F A st t
/-- a method's contract: with these arguments over this store it returns, and then po holds of the answer and the store; no cell is made -/
def sv_M (l : Launch) (y : MethodName) (cc : ByteArray) (n : Nat) (ret : Option FieldType) (rm : Room) (g : sv_G) (A : Nat → Prop) (ty : Nat → Nat) (σ : Nat → Nat → Int) (av : List sv_T) (po : List sv_T → (Nat → Nat → Int) → Prop) : Prop :=
  Met l y (Cond.code y cc n ret :: lw_good) rm (sv_P g A ty σ av) (sv_Q g A ty po) 0 0 A
def sv_E (p : Program) (l : Launch) (e : Env) (R : Room) (s : State) (m : MethodId) (args : Array Value) (below : List Frame) (meth : Method) (c : Code) (nL : Nat) (g : sv_G) (A : Nat → Prop) (ty : Nat → Nat) (po : List sv_T → (Nat → Nat → Int) → Prop) (σ : Nat → Nat → Int) (pc : Nat) (lv : sv_L) (st : List sv_T) : Prop :=
  sv_V p l e R s m args below meth c nL A 0 0 (MQ below (sv_Q g A ty po) args s 0 0 A) (sv_H g ty σ) pc lv st
def sv_av : Nat → List sv_T → sv_L
  | _, [] => []
  | i, v :: r => (i, v) :: sv_av (if sv_two v then i + 2 else i + 1) r
theorem sv_av_eq (i : Nat) (av : List sv_T) : lv_args i (av.map sv_den) = sv_lm (sv_av i av) := by
  induction av generalizing i with
  | nil => rfl
  | cons v r ih =>
    simp only [List.map_cons, lv_args, sv_av, sv_lm]
    rw [ih]
    cases h : sv_two v with
    | true => simp [sv_cat2 h, sv_lm]
    | false => simp [sv_cat1 h, sv_lm]
theorem sv_enter {l : Launch} {y : MethodName} {cc : ByteArray} {n : Nat} {ret : Option FieldType} {fr lo : Nat} {g : sv_G} {A : Nat → Prop} {ty : Nat → Nat} {σ : Nat → Nat → Int} {av : List sv_T} {po : List sv_T → (Nat → Nat → Int) → Prop} (hy : plainName y.cls = true) (hn : (lg_sl (av.map sv_den)).length ≤ n)
    (body : ∀ p e s m args below meth c, sv_C g A y.cls cc n p s m args meth c → meth.sig.returnType = ret → sv_E p l e { frames := fr, cells := 0, slots := 0, locals := lo } s m args below meth c n g A ty po σ 0 (sv_av 0 av) []) : sv_M l y cc n ret { frames := fr, cells := 0, slots := 0, locals := lo } g A ty σ av po := by
  refine Met.ofW (cc := cc) (maxL := n) (ret := ret) hy rfl ?_
  intro p e s m args below meth c s₁ B hml hv
  obtain ⟨rfl, hH, hK⟩ := hv
  have hts := atoms_spec (ws := Cond.code y cc n ret :: lw_good) B.pre
  have hown : s.vm.findClass y.cls = some m.cls := findClass_of_methodNamed B.named
  have hl := lv_entry (av.map sv_den) (n := n) hn
  rw [lg_entry_eq]
  rw [sv_av_eq] at hl
  exact body p e s m _ below meth c ⟨B.exec, B.bytes, hml, hown, fun w hw => hts w (List.mem_cons_of_mem _ hw), hK, B.notSynchronized⟩ B.returns s.heap [] _ hH va_S.rf hl
section SVC
variable {p : Program} {l : Launch} {e : Env} {R : Room} {s : State} {m : MethodId} {args : Array Value} {below : List Frame} {meth : Method} {c : Code} {cells slots : Nat} {Q : State → Prop}
variable {cc : ByteArray} {pc nL : Nat} {A : Nat → Prop} {lv lv' : sv_L} {st st' rest : List sv_T} {g : sv_G} {own : String} {ty : Nat → Nat} {σ : Nat → Nat → Int} {po : List sv_T → (Nat → Nat → Int) → Prop}
theorem sv_qq {H : Heap} {locs : List Loc} {r : List sv_T} (hok : sv_ok ty σ) (hr : r.length ≤ 1) (hpo : po r σ) (hH : sv_H g ty σ H) (hS : va_S A s.heap H locs) (t : State) (ht : t.heap = H) : sv_Q g A ty po args s (.returned (sv_ret r)) t :=
  ⟨r, σ, rfl, hr, hpo, hok, by rw [ht]; exact hH, hS.F ht⟩
theorem sv_iret (C : sv_C g A own cc nL p s m args meth c) (hr : meth.sig.returnType = some .int) {x : Int} (hd : decode cc pc = .ok (.ireturn, 1)) (hok : sv_ok ty σ) (hpo : po [sv_i x] σ) : sv_E p l e R s m args below meth c nL g A ty po σ pc lv [sv_i x] :=
  fun H locs ls hH hS hl => W.iret C.1 C.2.1 hr (fun t ht _ => sv_qq (r := [sv_i x]) hok (Nat.le_refl 1) hpo hH hS t ht) hS.2.2 hd C.2.2.2.2.2.2
theorem sv_zret (C : sv_C g A own cc nL p s m args meth c) (hr : meth.sig.returnType = some .boolean) {x : Int} (hx : x = 0 ∨ x = 1) (hd : decode cc pc = .ok (.ireturn, 1)) (hok : sv_ok ty σ) (hpo : po [sv_i x] σ) : sv_E p l e R s m args below meth c nL g A ty po σ pc lv [sv_i x] :=
  fun H locs ls hH hS hl => W.zret C.1 C.2.1 hr (by rcases hx with rfl | rfl <;> decide) (fun t ht _ => sv_qq (r := [sv_i x]) hok (Nat.le_refl 1) hpo hH hS t ht) hS.2.2 hd C.2.2.2.2.2.2
theorem sv_vret (C : sv_C g A own cc nL p s m args meth c) (hr : meth.sig.returnType = none) (hd : decode cc pc = .ok (.return_, 1)) (hok : sv_ok ty σ) (hpo : po [] σ) : sv_E p l e R s m args below meth c nL g A ty po σ pc lv [] :=
  fun H locs ls hH hS hl => W.vret C.1 C.2.1 hr (fun t ht _ => sv_qq (r := []) hok (Nat.zero_le 1) hpo hH hS t ht) hS.2.2 hd C.2.2.2.2.2.2
theorem sv_aret (C : sv_C g A own cc nL p s m args meth c) {rt : FieldType} (hr : meth.sig.returnType = some rt) (hrt : (∃ n, rt = .object n) ∨ ∃ t, rt = .array t) {z : Int} (hd : decode cc pc = .ok (.areturn, 1)) (hok : sv_ok ty σ) (hpo : po [sv_a z] σ) : sv_E p l e R s m args below meth c nL g A ty po σ pc lv [sv_a z] :=
  fun H locs ls hH hS hl => W.aret C.1 C.2.1 hr hrt (sv_rf_or z) (fun t ht _ => sv_qq (r := [sv_a z]) hok (Nat.le_refl 1) hpo hH hS t ht) hS.2.2 hd C.2.2.2.2.2.2
theorem sv_Pblind {av : List sv_T} : FrameBlind (sv_P g A ty σ av) := fun a U gf mk q => ⟨q.1, q.2.1, q.2.2.calling⟩
theorem sv_Pat {H : Heap} {locs : List Loc} {av : List sv_T} (hK : sv_K g A s) (hH : sv_H g ty σ H) (hS : va_S A s.heap H locs) (U : State) (hU : U.heap = H) (hW : s.WarmedH U.vm) : sv_P g A ty σ av (av.map sv_den).toArray U :=
  ⟨rfl, by rw [hU]; exact hH, hK.warm hW (fun a h1 h2 => by rw [hU]; exact hS.2.1 a h1 h2)⟩
theorem sv_cont {mc0 : Nat} {lv : sv_L} {pc0 : Nat} {H : Heap} {locs : List Loc} {ls : Array Slot} {av : Array Value} {po' : List sv_T → (Nat → Nat → Int) → Prop} {st0 : List Value} (hr : va_Run p l e R s m args below meth c H locs cells slots 0 0 (F0 m pc ls st0) (rest.map sv_den) (sv_Q g A ty po' av) A) (hS : va_S A s.heap H locs) (hl : lv_has ls nL (sv_lm lv))
    (kk : ∀ (r : List sv_T) (σ' : Nat → Nat → Int), po' r σ' → sv_ok ty σ' → sv_V p l e R s m args below meth c nL A cells slots Q (sv_H g ty σ') (pc + 3) lv (r ++ rest)) : W p l e R s m args below meth c H locs cells slots Q (F0 m pc ls st0) := by
  intro T hT X
  obtain ⟨v, st₀, t, T', L, h0, X', hL, e1, e2, ⟨r, σ', hv, hlen, hp, hok, hH', hz, hk⟩, stp⟩ := hr T hT X
  rw [h0] at hz hk
  have hv' : v = sv_ret r := Outcome.returned.inj hv
  have hS' : va_S A s.heap T'.heap (locs ++ L) := ⟨Nat.le_trans hS.1 (by rw [e1]; exact hz), fun q h1 h2 => by rw [e1, hk q (Nat.lt_of_lt_of_le h1 hS.1) h2]; exact hS.2.1 q h1 h2, fun q hq => by
    rcases List.mem_append.mp hq with h | h
    · exact hS.2.2 q h
    · exact hL q h⟩
  obtain ⟨t2, a1, b1⟩ := kk r σ' hp hok T'.heap (locs ++ L) ls (by rw [e1]; exact hH') hS' hl T' rfl X'
  refine ⟨t2, stp t2 ?_, b1⟩
  have hst : v.toList ++ rest.map sv_den = (r ++ rest).map sv_den := by
    rw [hv', List.map_append]
    match r, hlen with
    | [], _ => rfl
    | [x], _ => rfl
  show Steps p.tables e below (T'.setTop (F0 m (pc + 3) ls (v.toList ++ rest.map sv_den))) t2
  rw [hst]
  exact a1
/-- the words of a call: the code, the class's start, the name's form -/
abbrev sv_cb (R : Room) (y : MethodName) (bytes : ByteArray) (n : Nat) (ret : Option FieldType) (fr lo k : Nat) : Prop := Cond.code y bytes n ret ∈ lw_good ∧ Cond.initialized y.cls ∈ lw_good ∧ (y.cls ≠ "java/lang/invoke/MethodHandle" ∧ y.cls ≠ "java/lang/invoke/VarHandle" ∧ (parseMethodDescriptor y.desc).map (fun d => d.parameters.length) = some k) ∧ fr + 1 ≤ R.frames ∧ 8 + (n + 11) + lo ≤ R.locals
theorem sv_cB (C : sv_C g A own cc nL p s m args meth c) {y : MethodName} {bytes : ByteArray} {n : Nat} {ret : Option FieldType} {fr lo k index : Nat} (hb : sv_cb R y bytes n ret fr lo k) (hl : Cond.methodLink own index y ∈ lw_good) : CallB R s args own index y bytes n ret (Cond.code y bytes n ret :: lw_good) { frames := fr, cells := 0, slots := 0, locals := lo } 0 0 k :=
  callB_of k C.2.2.2.2.1 (sv_goodIn hb.1) rfl rfl rfl (C.2.2.2.2.1 _ hb.2.1) (C.2.2.2.2.1 _ hl) hb.2.2.1 ⟨hb.2.2.2.1, hb.2.2.2.2⟩
theorem sv_cN (C : sv_C g A own cc nL p s m args meth c) {y : MethodName} {bytes : ByteArray} {n : Nat} {ret : Option FieldType} {fr lo k index : Nat} {host : String} (hb : sv_cb R y bytes n ret fr lo k) (hl : Cond.methodLinkNest own index y host ∈ sv_nest) : va_CN R s args own index y host bytes n ret (Cond.code y bytes n ret :: lw_good) { frames := fr, cells := 0, slots := 0, locals := lo } 0 0 k :=
  va_cnB k C.2.2.2.2.1 (sv_goodIn hb.1) rfl rfl rfl (C.2.2.2.2.2.1.2.1 _ hl) (C.2.2.2.2.1 _ hb.2.1) hb.2.2.1 ⟨hb.2.2.2.1, hb.2.2.2.2⟩
theorem sv_rcv (C : sv_C g A own cc nL p s m args meth c) {a ci : Nat} {r : vw_C} {H : Heap} (hH : sv_H g ty σ H) (hk : sv_kT (ty a) = some (.inl ci)) (hr : vwCl[ci]? = some r) : ∃ cellB : Cell, H[a]? = some cellB ∧ cellB.vm.isStatics = false ∧ s.vm.findClass r.1 = some cellB.cls := by
  have h1 := hH a
  rw [hk] at h1
  obtain ⟨r', hr', cell, q1, q2, q3, q4⟩ := h1
  cases hr.symm.trans hr'
  obtain ⟨hS', hfc, kC, hkC, hkind⟩ := C.2.2.2.2.2.1.1.1 ci _ hr
  exact ⟨cell, q1, by rw [q3]; rfl, by rw [q2]; exact hfc⟩
theorem sv_room {ls : Array Slot} {st0 : List Value} (h : (rest.map fun v => (sv_den v).category).sum ≤ 8) : 2 * (F0 m pc ls st0).monitorRoom + ((rest.map sv_den).map fun v => v.category).sum ≤ 8 :=
  lv_room (by rw [List.map_map]; exact h)
/-- a call of an instance method of the receiver's own class -/
theorem sv_cv (C : sv_C g A own cc nL p s m args meth c) {y : MethodName} {bytes : ByteArray} {n : Nat} {ret : Option FieldType} {fr lo k index a ci : Nat} {r : vw_C} {as : List sv_T} {po' : List sv_T → (Nat → Nat → Int) → Prop} (hd : decode cc pc = .ok (.invokevirtual index, 3)) (hM : sv_M l y bytes n ret { frames := fr, cells := 0, slots := 0, locals := lo } g A ty σ (sv_r a :: as) po') (hb : sv_cb R y bytes n ret fr lo k) (hl : Cond.methodLink own index y ∈ lw_good) (hi : Cond.instanceMethod y ∈ lw_good) (hs : Cond.selects r.1 y y ∈ lw_good) (hk : sv_kT (ty a) = some (.inl ci)) (hr : vwCl[ci]? = some r) (hn : as.length = k) (hst : st = as.reverse ++ sv_r a :: rest) (hrm : (rest.map fun v => (sv_den v).category).sum ≤ 8) (hcs : cells ≤ R.cells ∧ slots ≤ R.slots)
    (kk : ∀ (r : List sv_T) (σ' : Nat → Nat → Int), po' r σ' → sv_ok ty σ' → sv_V p l e R s m args below meth c nL A cells slots Q (sv_H g ty σ') (pc + 3) lv (r ++ rest)) : sv_V p l e R s m args below meth c nL A cells slots Q (sv_H g ty σ) pc lv st := by
  intro H locs ls hH hS hll
  subst hst
  refine sv_cont (mc0 := 0) (pc0 := 0) (va_runV (b := a) (As := as.map sv_den) ⟨C.1, C.2.1, C.2.2.1, C.2.2.2.1, C.2.2.2.2.1⟩ hM ⟨sv_cB C hb hl, C.2.2.2.2.1 _ hi, C.2.2.2.2.1 _ hs⟩ ⟨sv_Pblind, sv_rcv C hH hk hr, fun U hU hW => sv_Pat (av := sv_r a :: as) C.2.2.2.2.2.1 hH hS U hU hW⟩ rfl (by rw [List.length_map]; exact hn) hll.1 (by simp [sv_den_r]) (sv_room hrm) hd hcs) hS hll kk
theorem sv_cs (C : sv_C g A own cc nL p s m args meth c) {y : MethodName} {bytes : ByteArray} {n : Nat} {ret : Option FieldType} {fr lo k index : Nat} {as : List sv_T} {po' : List sv_T → (Nat → Nat → Int) → Prop} (hd : decode cc pc = .ok (.invokestatic index, 3)) (hM : sv_M l y bytes n ret { frames := fr, cells := 0, slots := 0, locals := lo } g A ty σ as po') (hb : sv_cb R y bytes n ret fr lo k) (hl : Cond.methodLink own index y ∈ lw_good) (hi : Cond.static y ∈ lw_good) (hn : as.length = k) (hst : st = as.reverse ++ rest) (hrm : (rest.map fun v => (sv_den v).category).sum ≤ 8) (hcs : cells ≤ R.cells ∧ slots ≤ R.slots)
    (kk : ∀ (r : List sv_T) (σ' : Nat → Nat → Int), po' r σ' → sv_ok ty σ' → sv_V p l e R s m args below meth c nL A cells slots Q (sv_H g ty σ') (pc + 3) lv (r ++ rest)) : sv_V p l e R s m args below meth c nL A cells slots Q (sv_H g ty σ) pc lv st := by
  intro H locs ls hH hS hll
  subst hst
  refine sv_cont (mc0 := 0) (pc0 := 0) (va_runS (As := as.map sv_den) ⟨C.1, C.2.1, C.2.2.1, C.2.2.2.1, C.2.2.2.2.1⟩ hM ⟨sv_cB C hb hl, C.2.2.2.2.1 _ hi⟩ ⟨sv_Pblind, fun U hU hW => sv_Pat C.2.2.2.2.2.1 hH hS U hU hW⟩ rfl (by rw [List.length_map]; exact hn) hll.1 (by simp) (sv_room hrm) hd hcs) hS hll kk
theorem sv_csN (C : sv_C g A own cc nL p s m args meth c) {y : MethodName} {bytes : ByteArray} {n : Nat} {ret : Option FieldType} {fr lo k index : Nat} {host : String} {as : List sv_T} {po' : List sv_T → (Nat → Nat → Int) → Prop} (hd : decode cc pc = .ok (.invokestatic index, 3)) (hM : sv_M l y bytes n ret { frames := fr, cells := 0, slots := 0, locals := lo } g A ty σ as po') (hb : sv_cb R y bytes n ret fr lo k) (hl : Cond.methodLinkNest own index y host ∈ sv_nest) (hi : Cond.static y ∈ lw_good) (hn : as.length = k) (hst : st = as.reverse ++ rest) (hrm : (rest.map fun v => (sv_den v).category).sum ≤ 8) (hcs : cells ≤ R.cells ∧ slots ≤ R.slots)
    (kk : ∀ (r : List sv_T) (σ' : Nat → Nat → Int), po' r σ' → sv_ok ty σ' → sv_V p l e R s m args below meth c nL A cells slots Q (sv_H g ty σ') (pc + 3) lv (r ++ rest)) : sv_V p l e R s m args below meth c nL A cells slots Q (sv_H g ty σ) pc lv st := by
  intro H locs ls hH hS hll
  subst hst
  refine sv_cont (mc0 := 0) (pc0 := 0) (va_runSN (As := as.map sv_den) ⟨C.1, C.2.1, C.2.2.1, C.2.2.2.1, C.2.2.2.2.1⟩ hM ⟨sv_cN C hb hl, C.2.2.2.2.1 _ hi, trivial⟩ ⟨sv_Pblind, fun U hU hW => sv_Pat C.2.2.2.2.2.1 hH hS U hU hW⟩ rfl (by rw [List.length_map]; exact hn) hll.1 (by simp) (sv_room hrm) hd hcs) hS hll kk
/-- the two tables of months -/
theorem sv_tab {i : Int} {f : Nat → Value} {t : Nat} {z : Int} (C : sv_C g A own cc nL p s m args meth c) (hT : va_T .int t 12 f A s s.heap) (hd : decode cc pc = .ok (.iaload, 1)) (h0 : 0 ≤ i) (h1 : i < 12) (hv : f i.toNat = .int (Int32.ofInt z)) {Hp : Heap → Prop}
    (kk : sv_V p l e R s m args below meth c nL A cells slots Q Hp (pc + 1) lv (sv_i z :: rest)) : sv_V p l e R s m args below meth c nL A cells slots Q Hp pc lv (.inl i :: sv_r t :: rest) := by
  intro H locs ls hH hS hl
  obtain ⟨e1, e2⟩ := sv_idx (n := 12) h0 h1 (by decide)
  exact va_ti C.1 C.2.1 hT hS e1 (v := .int (Int32.ofInt z)) (by rw [e2]; exact hv) hd (kk H locs ls hH hS hl)
theorem sv_gs1 (C : sv_C g A own cc nL p s m args meth c) {index : Nat} (hd : decode cc pc = .ok (.getstatic index, 3)) (hw : Cond.fieldLink own index "SaintsRoad$Days" "MONTH_AT_MOST" "[I" ∈ lw_good) {Hp : Heap → Prop}
    (kk : sv_V p l e R s m args below meth c nL A cells slots Q Hp (pc + 3) lv (sv_r g.2.2.1 :: st)) : sv_V p l e R s m args below meth c nL A cells slots Q Hp pc lv st :=
  fun H locs ls hH hS hl => va_gets C.1 C.2.1 C.2.2.2.2.2.1.2.2.1.1 hS C.2.2.2.1 (C.2.2.2.2.1 _ hw) (fun _ h => h) hd (kk H locs ls hH hS hl)
theorem sv_gs2 (C : sv_C g A own cc nL p s m args meth c) {index : Nat} (hd : decode cc pc = .ok (.getstatic index, 3)) (hw : Cond.fieldLink own index "SaintsRoad$Days" "MONTH_START" "[I" ∈ lw_good) {Hp : Heap → Prop}
    (kk : sv_V p l e R s m args below meth c nL A cells slots Q Hp (pc + 3) lv (sv_r g.2.2.2.1 :: st)) : sv_V p l e R s m args below meth c nL A cells slots Q Hp pc lv st :=
  fun H locs ls hH hS hl => va_gets C.1 C.2.1 C.2.2.2.2.2.1.2.2.2.1 hS C.2.2.2.1 (C.2.2.2.2.1 _ hw) (fun _ h => h) hd (kk H locs ls hH hS hl)
end SVC
end
section
/-! branches whose way is known, longs, answers that are true or false -/
def sv_bo (P : Prop) (r : List sv_T) : Prop := (P ∧ r = [sv_i 1]) ∨ (¬ P ∧ r = [sv_i 0])
def sv_sg (z x y : Int) : Prop := (-1 ≤ z ∧ z ≤ 1) ∧ (z < 0 ↔ x < y) ∧ (z = 0 ↔ x = y) ∧ (0 < z ↔ y < x)
abbrev sv_in64 (n : Int) : Prop := -9223372036854775808 ≤ n ∧ n < 9223372036854775808
theorem sv_ol {n : Int} (h : sv_in64 n) : (Int64.ofInt n).toInt = n := by
  rw [Int64.toInt_ofInt, show Int64.size = 18446744073709551616 from rfl]
  exact Int.bmod_eq_of_le (by have := h.1; omega) (by have := h.2; omega)
section SVB
variable {p : Program} {l : Launch} {e : Env} {R : Room} {s : State} {m : MethodId} {args : Array Value} {below : List Frame} {meth : Method} {c : Code} {cells slots : Nat} {Q : State → Prop}
variable {cc : ByteArray} {pc nL : Nat} {Hp : Heap → Prop} {A : Nat → Prop} {lv lv' : sv_L} {st st' rest : List sv_T} {g : sv_G} {own : String}
theorem sv_icmp_t (hx : p.tables.exec = Jvm.exec) (hb : c.code = cc) {cnd : ClassFile.Cond} {off : Int} {tgt : Nat} {x y : Int} (hd : decode cc pc = .ok (.if_icmp cnd off, 3)) (ht : (pc : Int) + off = (tgt : Int)) (h1 : sv_in x) (h2 : sv_in y) (h : sv_cmp cnd x y)
    (kt : sv_V p l e R s m args below meth c nL A cells slots Q Hp tgt lv rest) : sv_V p l e R s m args below meth c nL A cells slots Q Hp pc lv (.inl y :: .inl x :: rest) := sv_icmp hx hb hd ht h1 h2 (fun _ => kt) (fun q => absurd h q)
theorem sv_icmp_f (hx : p.tables.exec = Jvm.exec) (hb : c.code = cc) {cnd : ClassFile.Cond} {off : Int} {tgt : Nat} {x y : Int} (hd : decode cc pc = .ok (.if_icmp cnd off, 3)) (ht : (pc : Int) + off = (tgt : Int)) (h1 : sv_in x) (h2 : sv_in y) (h : ¬ sv_cmp cnd x y)
    (kf : sv_V p l e R s m args below meth c nL A cells slots Q Hp (pc + 3) lv rest) : sv_V p l e R s m args below meth c nL A cells slots Q Hp pc lv (.inl y :: .inl x :: rest) := sv_icmp hx hb hd ht h1 h2 (fun q => absurd q h) (fun _ => kf)
theorem sv_if_t (hx : p.tables.exec = Jvm.exec) (hb : c.code = cc) {cnd : ClassFile.Cond} {off : Int} {tgt : Nat} {x : Int} (hd : decode cc pc = .ok (.ifCond cnd off, 3)) (ht : (pc : Int) + off = (tgt : Int)) (h1 : sv_in x) (h : sv_cmp cnd x 0)
    (kt : sv_V p l e R s m args below meth c nL A cells slots Q Hp tgt lv rest) : sv_V p l e R s m args below meth c nL A cells slots Q Hp pc lv (.inl x :: rest) := sv_if hx hb hd ht h1 (fun _ => kt) (fun q => absurd h q)
theorem sv_if_f (hx : p.tables.exec = Jvm.exec) (hb : c.code = cc) {cnd : ClassFile.Cond} {off : Int} {tgt : Nat} {x : Int} (hd : decode cc pc = .ok (.ifCond cnd off, 3)) (ht : (pc : Int) + off = (tgt : Int)) (h1 : sv_in x) (h : ¬ sv_cmp cnd x 0)
    (kf : sv_V p l e R s m args below meth c nL A cells slots Q Hp (pc + 3) lv rest) : sv_V p l e R s m args below meth c nL A cells slots Q Hp pc lv (.inl x :: rest) := sv_if hx hb hd ht h1 (fun q => absurd q h) (fun _ => kf)
theorem sv_i2l (hx : p.tables.exec = Jvm.exec) (hb : c.code = cc) {x : Int} (hd : decode cc pc = .ok (.i2l, 1)) (h1 : sv_in x) (k : sv_V p l e R s m args below meth c nL A cells slots Q Hp (pc + 1) lv (sv_l x :: rest)) : sv_V p l e R s m args below meth c nL A cells slots Q Hp pc lv (.inl x :: rest) := by
  intro H locs ls hH hS hl
  refine lv_i2l hx hb hd (v := Int64.ofInt x) ?_ (k H locs ls hH hS hl)
  rw [← Int64.toInt_inj, Int32.toInt_toInt64, sv_oi h1, sv_ol ⟨by have := h1.1; omega, by have := h1.2; omega⟩]
theorem sv_lcmp (hx : p.tables.exec = Jvm.exec) (hb : c.code = cc) {x y : Int} (hd : decode cc pc = .ok (.lcmp, 1)) (h1 : sv_in64 x) (h2 : sv_in64 y) (k : ∀ z : Int, sv_sg z x y → sv_V p l e R s m args below meth c nL A cells slots Q Hp (pc + 1) lv (sv_i z :: rest)) : sv_V p l e R s m args below meth c nL A cells slots Q Hp pc lv (.inr (.inr y) :: .inr (.inr x) :: rest) := by
  intro H locs ls hH hS hl
  have l1 : Int64.ofInt x < Int64.ofInt y ↔ x < y := by rw [Int64.lt_iff_toInt_lt, sv_ol h1, sv_ol h2]
  have l2 : Int64.ofInt x = Int64.ofInt y ↔ x = y := by rw [← Int64.toInt_inj, sv_ol h1, sv_ol h2]
  have l3 : Int64.ofInt y < Int64.ofInt x ↔ y < x := by rw [Int64.lt_iff_toInt_lt, sv_ol h1, sv_ol h2]
  refine W.lcmp hx hb hd ?_
  rcases Int.lt_trichotomy x y with h | h | h
  · have e1 : lg_cmp (Int64.ofInt x) (Int64.ofInt y) = Int32.ofInt (-1) := by
      have a1 : ¬ Int64.ofInt y < Int64.ofInt x := fun q => by have := l3.mp q; omega
      have a2 : ¬ Int64.ofInt x = Int64.ofInt y := fun q => by have := l2.mp q; omega
      simp only [lg_cmp, if_neg a1, if_neg a2]; rfl
    rw [e1]
    exact k (-1) ⟨⟨by omega, by omega⟩, ⟨fun _ => h, fun _ => by omega⟩, ⟨fun q => by omega, fun q => by omega⟩, ⟨fun q => by omega, fun q => by omega⟩⟩ H locs ls hH hS hl
  · have e1 : lg_cmp (Int64.ofInt x) (Int64.ofInt y) = Int32.ofInt 0 := by
      have a1 : ¬ Int64.ofInt y < Int64.ofInt x := fun q => by have := l3.mp q; omega
      simp only [lg_cmp, if_neg a1, if_pos (l2.mpr h)]; rfl
    rw [e1]
    exact k 0 ⟨⟨by omega, by omega⟩, ⟨fun q => by omega, fun q => by omega⟩, ⟨fun _ => h, fun _ => by omega⟩, ⟨fun q => by omega, fun q => by omega⟩⟩ H locs ls hH hS hl
  · have e1 : lg_cmp (Int64.ofInt x) (Int64.ofInt y) = Int32.ofInt 1 := by
      simp only [lg_cmp, if_pos (l3.mpr h)]; rfl
    rw [e1]
    exact k 1 ⟨⟨by omega, by omega⟩, ⟨fun q => by omega, fun q => by omega⟩, ⟨fun q => by omega, fun q => by omega⟩, ⟨fun _ => h, fun _ => by omega⟩⟩ H locs ls hH hS hl
/-- division of numbers that aren't below 0 -/
theorem sv_idivP (hx : p.tables.exec = Jvm.exec) (hb : c.code = cc) {x y : Int} (hd : decode cc pc = .ok (.idiv, 1)) (h1 : 0 ≤ x ∧ x < 2147483648) (h2 : 0 < y ∧ y < 2147483648)
    (k : sv_V p l e R s m args below meth c nL A cells slots Q Hp (pc + 1) lv (sv_i (x / y) :: rest)) : sv_V p l e R s m args below meth c nL A cells slots Q Hp pc lv (.inl y :: .inl x :: rest) :=
  sv_idiv hx hb hd ⟨by omega, by omega⟩ h2.1 h2.2 (by rw [Int.tdiv_eq_ediv_of_nonneg h1.1]; exact k)
theorem sv_iremP (hx : p.tables.exec = Jvm.exec) (hb : c.code = cc) {x y : Int} (hd : decode cc pc = .ok (.irem, 1)) (h1 : 0 ≤ x ∧ x < 2147483648) (h2 : 0 < y ∧ y < 2147483648)
    (k : sv_V p l e R s m args below meth c nL A cells slots Q Hp (pc + 1) lv (sv_i (x % y) :: rest)) : sv_V p l e R s m args below meth c nL A cells slots Q Hp pc lv (.inl y :: .inl x :: rest) :=
  sv_irem hx hb hd ⟨by omega, by omega⟩ h2.1 h2.2 (by rw [Int.tmod_eq_emod_of_nonneg h1.1]; exact k)
theorem sv_ldc2 (C : sv_C g A own cc nL p s m args meth c) {index : Nat} {z : Int} {v : Int64} (hd : decode cc pc = .ok (.ldc2_w index, 3)) (hw : Cond.constantLong own index v ∈ lw_good) (hv : Int64.ofInt z = v) (k : sv_V p l e R s m args below meth c nL A cells slots Q Hp (pc + 3) lv (sv_l z :: st)) : sv_V p l e R s m args below meth c nL A cells slots Q Hp pc lv st := by
  intro H locs ls hH hS hl
  subst hv
  exact lv_ldc2 C.1 C.2.1 C.2.2.2.1 (C.2.2.2.2.1 _ hw) hd (k H locs ls hH hS hl)
theorem sv_ldc (C : sv_C g A own cc nL p s m args meth c) {index : Nat} {z : Int} {v : Int32} (hd : decode cc pc = .ok (.ldc index, 2)) (hw : Cond.constant own index v ∈ lw_good) (hv : Int32.ofInt z = v) (k : sv_V p l e R s m args below meth c nL A cells slots Q Hp (pc + 2) lv (sv_i z :: st)) : sv_V p l e R s m args below meth c nL A cells slots Q Hp pc lv st := by
  intro H locs ls hH hS hl
  subst hv
  exact lv_ldc C.1 C.2.1 C.2.2.2.1 (C.2.2.2.2.1 _ hw) hd (k H locs ls hH hS hl)
theorem sv_ldc_w (C : sv_C g A own cc nL p s m args meth c) {index : Nat} {z : Int} {v : Int32} (hd : decode cc pc = .ok (.ldc_w index, 3)) (hw : Cond.constant own index v ∈ lw_good) (hv : Int32.ofInt z = v) (k : sv_V p l e R s m args below meth c nL A cells slots Q Hp (pc + 3) lv (sv_i z :: st)) : sv_V p l e R s m args below meth c nL A cells slots Q Hp pc lv st := by
  intro H locs ls hH hS hl
  subst hv
  exact lv_ldcw C.1 C.2.1 C.2.2.2.1 (C.2.2.2.2.1 _ hw) hd (k H locs ls hH hS hl)
end SVB
/-- fewer locals, by their places -/
theorem sv_pick {p : Program} {l : Launch} {e : Env} {R : Room} {s : State} {m : MethodId} {args : Array Value} {below : List Frame} {meth : Method} {c : Code} {cells slots : Nat} {Q : State → Prop} {pc nL : Nat} {Hp : Heap → Prop} {A : Nat → Prop} {lv lv2 : sv_L} {st : List sv_T} (is : List Nat) (h : is.filterMap (fun i => lv[i]?) = lv2)
    (k : sv_V p l e R s m args below meth c nL A cells slots Q Hp pc lv2 st) : sv_V p l e R s m args below meth c nL A cells slots Q Hp pc lv st :=
  sv_drop (fun q hq => by rw [← h] at hq; obtain ⟨i, -, hi⟩ := List.mem_filterMap.mp hq; exact List.mem_of_getElem? hi) k
end
section
/-! the reckoning of days, as numbers -/
def dy_lp (y : Int) : Int := if y % 4 = 0 then 1 else 0
theorem dy_lp1 {y : Int} (h : y % 4 = 0) : dy_lp y = 1 := if_pos h
theorem dy_lp0 {y : Int} (h : ¬ y % 4 = 0) : dy_lp y = 0 := if_neg h
theorem dy_lp_in (y : Int) : 0 ≤ dy_lp y ∧ dy_lp y ≤ 1 := by
  unfold dy_lp; split <;> omega
def dy_wd (y d : Int) : Int := (6 + (365 * (y - 1) + (y - 1) / 4) + d) % 7
theorem dy_wd_in (y d : Int) : 0 ≤ dy_wd y d ∧ dy_wd y d ≤ 6 := by
  unfold dy_wd; omega
/-- the first day of a month in a year of 365 days -/
def dy_st (k : Int) : Int := if k ≤ 1 then 0 else if k = 2 then 31 else if k = 3 then 59 else if k = 4 then 90 else if k = 5 then 120 else if k = 6 then 151 else if k = 7 then 181 else if k = 8 then 212 else if k = 9 then 243 else if k = 10 then 273 else if k = 11 then 304 else if k = 12 then 334 else 365
/-- a month's days -/
def dy_md (y k : Int) : Int := if k = 2 then 28 + dy_lp y else if k = 4 ∨ k = 6 ∨ k = 9 ∨ k = 11 then 30 else 31
theorem dy_st_tab {k : Int} (h1 : 1 ≤ k) (h2 : k ≤ 12) : sv_mst (k - 1).toNat = .int (Int32.ofInt (dy_st k)) := by
  obtain ⟨j, hj, rfl⟩ : ∃ j : Nat, j < 12 ∧ k = j + 1 := ⟨(k - 1).toNat, by omega, by omega⟩
  rw [show ((j : Int) + 1 - 1).toNat = j by omega]
  have key : ∀ j : Nat, j < 12 → sv_mst j = .int (Int32.ofInt (dy_st ((j : Int) + 1))) := by decide +kernel
  exact key j hj
theorem dy_st_in (k : Int) : 0 ≤ dy_st k ∧ dy_st k ≤ 365 := by
  unfold dy_st; omega
/-- the first day of a month; of a thirteenth: the year's length -/
def dy_ms (y k : Int) : Int := dy_st k + (if 2 < k then dy_lp y else 0)
theorem dy_ms_in (y k : Int) : 0 ≤ dy_ms y k ∧ dy_ms y k ≤ 366 := by
  unfold dy_ms
  have h1 := dy_st_in k
  have h2 := dy_lp_in y
  split <;> omega
theorem dy_md_in (y k : Int) : 28 ≤ dy_md y k ∧ dy_md y k ≤ 31 := by
  unfold dy_md
  have h2 := dy_lp_in y
  split <;> (try split) <;> omega
theorem dy_ms1 (y : Int) : dy_ms y 1 = 0 := rfl
theorem dy_ms3 (y : Int) : dy_ms y 3 = 59 + dy_lp y := rfl
theorem dy_ms13 (y : Int) : dy_ms y 13 = 365 + dy_lp y := rfl
theorem dy_ms_s {y k : Int} (h1 : 1 ≤ k) (h2 : k ≤ 12) : dy_ms y (k + 1) = dy_ms y k + dy_md y k := by
  unfold dy_ms dy_md dy_st
  have h3 := dy_lp_in y
  omega
theorem dy_ms_mono {y : Int} : ∀ (n : Nat) {a b : Int}, 1 ≤ a → a ≤ b → b ≤ 13 → b - a ≤ n → dy_ms y a ≤ dy_ms y b := by
  intro n
  induction n with
  | zero => intro a b h1 h2 h3 h4; have : a = b := by omega
            subst this; exact Int.le_refl _
  | succ n ih =>
    intro a b h1 h2 h3 h4
    by_cases h : a = b
    · subst h; exact Int.le_refl _
    · have := ih (a := a) (b := b - 1) h1 (by omega) (by omega) (by omega)
      have e := dy_ms_s (y := y) (k := b - 1) (by omega) (by omega)
      rw [show b - 1 + 1 = b by omega] at e
      have := dy_md_in y (b - 1)
      omega
/-- the month of a day is one -/
theorem dy_mo_uniq {y d a b : Int} (h1 : 1 ≤ a ∧ a ≤ 12) (h2 : 1 ≤ b ∧ b ≤ 12) (h3 : dy_ms y a ≤ d) (h4 : d < dy_ms y (a + 1)) (h5 : dy_ms y b ≤ d) (h6 : d < dy_ms y (b + 1)) : a = b := by
  rcases Int.lt_trichotomy a b with h | h | h
  · have := dy_ms_mono (y := y) 20 (a := a + 1) (b := b) (by omega) (by omega) (by omega) (by omega)
    omega
  · exact h
  · have := dy_ms_mono (y := y) 20 (a := b + 1) (b := a) (by omega) (by omega) (by omega) (by omega)
    omega
def dy_ea (y : Int) : Int := dy_ms y 3 + 20 + (19 * (y % 19) + 15) % 30 + 7 - dy_wd y (dy_ms y 3 + 20 + (19 * (y % 19) + 15) % 30)
theorem dy_ea_in (y : Int) : 80 ≤ dy_ea y ∧ dy_ea y ≤ 120 := by
  unfold dy_ea
  have h1 := dy_wd_in y (dy_ms y 3 + 20 + (19 * (y % 19) + 15) % 30)
  rw [dy_ms3] at h1 ⊢
  have h2 := dy_lp_in y
  omega
theorem dy_wd_sh (y a j : Int) : dy_wd y (a + j) = (dy_wd y a + j) % 7 := by
  unfold dy_wd; omega
end
section
/-! what stays of a store, and what its cells are within -/
def sv_off (L : List Nat) (ty : Nat → Nat) (σ σ' : Nat → Nat → Int) : Prop := ∀ a k, ty a ∉ L → σ' a k = σ a k
theorem sv_off.rf {L : List Nat} {ty : Nat → Nat} {σ : Nat → Nat → Int} : sv_off L ty σ σ := fun _ _ _ => rfl
theorem sv_off.up {L : List Nat} {ty : Nat → Nat} {σ0 σ : Nat → Nat → Int} (h : sv_off L ty σ0 σ) {a k : Nat} {z : Int} (hk : ty a ∈ L) : sv_off L ty σ0 (sv_up σ a k z) := fun b j hb => by
  have e : b ≠ a := fun e => hb (by rw [e]; exact hk)
  rw [sv_up_a e]
  exact h b j hb
theorem sv_off.tr {L L2 : List Nat} {ty : Nat → Nat} {σ0 σ σ' : Nat → Nat → Int} (h : sv_off L ty σ0 σ) (h2 : sv_off L2 ty σ σ') (hs : ∀ x ∈ L2, x ∈ L) : sv_off L ty σ0 σ' := fun b j hb => (h2 b j (fun q => hb (hs _ q))).trans (h b j hb)
theorem sv_off.at {L : List Nat} {ty : Nat → Nat} {σ σ' : Nat → Nat → Int} (h : sv_off L ty σ σ') {a k K : Nat} (ha : ty a = K) (hK : K ∉ L) : σ' a k = σ a k := h a k (by rw [ha]; exact hK)
abbrev sv_Sp : Type := Nat → Nat → Option ((Int × Int) ⊕ (Nat × Bool))
def sv_sat (ty : Nat → Nat) : Option ((Int × Int) ⊕ (Nat × Bool)) → Int → Prop
  | none, _ => True
  | some (.inl (lo, hi)), z => lo ≤ z ∧ z ≤ hi
  | some (.inr (K, nl)), z => (nl = true ∧ z = 0) ∨ ∃ q : Nat, z = (q : Int) + 1 ∧ ty q = K
def sv_inv (sp : sv_Sp) (ty : Nat → Nat) (σ : Nat → Nat → Int) : Prop := ∀ a k, sv_sat ty (sp (ty a) k) (σ a k)
theorem sv_inv.ref {sp : sv_Sp} {ty : Nat → Nat} {σ : Nat → Nat → Int} (h : sv_inv sp ty σ) {a k Ka K : Nat} (ha : ty a = Ka) (hs : sp Ka k = some (.inr (K, false))) : ∃ q : Nat, σ a k = (q : Int) + 1 ∧ ty q = K := by
  have h1 := h a k
  rw [ha, hs] at h1
  rcases h1 with ⟨h2, -⟩ | h2
  · cases h2
  · exact h2
theorem sv_inv.num {sp : sv_Sp} {ty : Nat → Nat} {σ : Nat → Nat → Int} (h : sv_inv sp ty σ) {a k Ka : Nat} {lo hi : Int} (ha : ty a = Ka) (hs : sp Ka k = some (.inl (lo, hi))) : lo ≤ σ a k ∧ σ a k ≤ hi := by
  have h1 := h a k
  rw [ha, hs] at h1
  exact h1
theorem sv_inv.up {sp : sv_Sp} {ty : Nat → Nat} {σ : Nat → Nat → Int} (h : sv_inv sp ty σ) {a k : Nat} {z : Int} (hz : sv_sat ty (sp (ty a) k) z) : sv_inv sp ty (sv_up σ a k z) := by
  intro b j
  by_cases e : b = a ∧ j = k
  · rw [e.1, e.2, sv_up_s]; exact hz
  · rw [show sv_up σ a k z b j = σ b j from if_neg e]; exact h b j
theorem sv_ne {ty : Nat → Nat} {a b Ka Kb : Nat} (ha : ty a = Ka) (hb : ty b = Kb) (h : Ka ≠ Kb) : a ≠ b := fun e => h (by rw [← ha, ← hb, e])
/-- the numbers of a field or an element, by the type -/
theorem sv_ok.num {ty : Nat → Nat} {σ : Nat → Nat → Int} (h : sv_ok ty σ) {a k ci : Nat} {r : vw_C} (hk : sv_kT (ty a) = some (.inl ci)) (hr : vwCl[ci]? = some r) (hn : k < r.2.2) : sv_rg (sv_ft ci k) (σ a k) := by
  have h1 := h a
  rw [hk] at h1
  exact h1 r hr k hn
theorem sv_ok.el {ty : Nat → Nat} {σ : Nat → Nat → Int} (h : sv_ok ty σ) {a k n : Nat} {t : FieldType} (hk : sv_kT (ty a) = some (.inr (t, n))) (hn : k < n) : sv_rg t (σ a k) := by
  have h1 := h a
  rw [hk] at h1
  exact h1 k hn
/-- where references lead, and what numbers are within -/
def sp_1 : sv_Sp
  | 1, 0 => some (.inr (2, false))
  | 1, 1 => some (.inr (3, false))
  | 1, 2 => some (.inr (21, false))
  | 1, 3 => some (.inr (5, false))
  | 1, 4 => some (.inr (6, false))
  | 1, 5 => some (.inr (7, false))
  | 2, 0 => some (.inr (20, false))
  | 2, 1 => some (.inl (0, 4000))
  | 3, 2 => some (.inr (2, true))
  | 3, 3 => some (.inr (7, true))
  | 3, 4 => some (.inr (8, true))
  | 3, 5 => some (.inl (0, 22))
  | 3, 6 => some (.inl (0, 4000))
  | 3, 7 => some (.inl (0, 20))
  | 3, 8 => some (.inl (0, 4000))
  | 3, 12 => some (.inl (0, 8))
  | 4, 0 => some (.inr (24, false))
  | 4, 1 => some (.inr (25, false))
  | 4, 2 => some (.inr (7, false))
  | 4, 3 => some (.inr (26, false))
  | 4, 4 => some (.inr (27, false))
  | 4, 5 => some (.inr (28, false))
  | 4, 6 => some (.inr (29, false))
  | 4, 7 => some (.inl (0, 60))
  | 4, 8 => some (.inl (0, 365))
  | 4, 9 => some (.inl (0, 60))
  | 4, 10 => some (.inl (0, 2000))
  | 5, 0 => some (.inr (30, false))
  | 5, 2 => some (.inl (0, 7320))
  | 5, 3 => some (.inr (31, false))
  | 5, 4 => some (.inr (32, false))
  | 5, 5 => some (.inr (33, false))
  | 5, 6 => some (.inr (34, false))
  | 5, 7 => some (.inr (35, false))
  | 5, 8 => some (.inr (36, false))
  | 5, 10 => some (.inl (-1, 9))
  | 6, 0 => some (.inr (37, false))
  | 6, 2 => some (.inr (38, false))
  | 6, 3 => some (.inr (39, false))
  | 7, 0 => some (.inr (22, false))
  | 7, 1 => some (.inr (23, false))
  | 7, 2 => some (.inl (0, 60))
  | 9, 0 => some (.inl (0, 12))
  | 9, 1 => some (.inl (0, 1440))
  | 9, 2 => some (.inr (40, false))
  | 9, 3 => some (.inr (41, false))
  | 9, 4 => some (.inl (0, 30))
  | 10, 0 => some (.inr (60, false))
  | 10, 1 => some (.inr (61, false))
  | 10, 2 => some (.inr (62, false))
  | 10, 3 => some (.inr (63, false))
  | 10, 4 => some (.inr (64, false))
  | 10, 5 => some (.inr (65, false))
  | 10, 6 => some (.inr (66, false))
  | 10, 7 => some (.inr (67, false))
  | 10, 8 => some (.inr (68, false))
  | 10, 9 => some (.inr (69, false))
  | 10, 10 => some (.inr (70, false))
  | 10, 11 => some (.inr (71, false))
  | 10, 12 => some (.inr (72, false))
  | 10, 13 => some (.inr (73, false))
  | 10, 14 => some (.inr (74, false))
  | 10, 15 => some (.inr (11, false))
  | 10, 16 => some (.inr (76, false))
  | 10, 17 => some (.inl (0, 4000))
  | 10, 18 => some (.inl (0, 4000))
  | 10, 19 => some (.inl (0, 4000))
  | 10, 20 => some (.inl (0, 4000))
  | 10, 21 => some (.inl (0, 4))
  | 10, 27 => some (.inr (87, false))
  | 10, 28 => some (.inr (88, false))
  | 10, 29 => some (.inr (89, false))
  | 10, 30 => some (.inr (90, false))
  | 10, 31 => some (.inr (91, false))
  | 10, 32 => some (.inr (92, false))
  | 10, 33 => some (.inr (93, false))
  | 10, 34 => some (.inr (94, false))
  | 10, 35 => some (.inr (95, false))
  | 10, 36 => some (.inr (96, false))
  | 10, 37 => some (.inr (97, false))
  | 10, 38 => some (.inr (98, false))
  | 10, 39 => some (.inr (99, false))
  | 10, 40 => some (.inl (0, 7320))
  | 10, 41 => some (.inr (101, false))
  | 10, 42 => some (.inr (102, false))
  | 10, 43 => some (.inr (103, false))
  | 10, 44 => some (.inr (104, false))
  | 10, 45 => some (.inr (105, false))
  | 10, 46 => some (.inr (106, false))
  | 21, k => if k < 4 then some (.inr (4, false)) else none
  | 22, k => if k < 60 then some (.inr (8, false)) else none
  | 25, _ => some (.inl (-1, 59))
  | 28, _ => some (.inl (0, 59))
  | 29, _ => some (.inl (0, 59))
  | 37, k => if k < 12 then some (.inr (9, false)) else none
  | 38, _ => some (.inl (0, 60))
  | 40, _ => some (.inl (0, 19))
  | 60, _ => some (.inl (0, 60))
  | 66, _ => some (.inl (-90, 90))
  | 67, _ => some (.inl (0, 31))
  | 68, _ => some (.inl (0, 8))
  | 71, _ => some (.inl (0, 12))
  | 91, _ => some (.inl (-79, 59))
  | 92, _ => some (.inl (-79, 59))
  | 101, _ => some (.inl (0, 60))
  | 102, _ => some (.inl (0, 12))
  | 103, _ => some (.inl (0, 1440))
  | 104, _ => some (.inl (0, 30))
  | 105, _ => some (.inl (0, 19))
  | _, _ => none
/-- the same inside the reading of a text -/
def sp_r : sv_Sp
  | 1, 0 => some (.inr (2, false))
  | 1, 1 => some (.inr (3, false))
  | 1, 2 => some (.inr (21, false))
  | 1, 3 => some (.inr (5, false))
  | 1, 4 => some (.inr (6, false))
  | 1, 5 => some (.inr (7, false))
  | 2, 0 => some (.inr (20, false))
  | 2, 1 => some (.inl (0, 4000))
  | 3, 2 => some (.inr (2, false))
  | 3, 3 => some (.inr (7, false))
  | 3, 4 => some (.inr (8, false))
  | 3, 5 => some (.inl (0, 22))
  | 3, 6 => some (.inl (0, 4000))
  | 3, 7 => some (.inl (0, 20))
  | 3, 8 => some (.inl (0, 4000))
  | 3, 12 => some (.inl (0, 8))
  | 4, 0 => some (.inr (24, false))
  | 4, 1 => some (.inr (25, false))
  | 4, 2 => some (.inr (7, false))
  | 4, 3 => some (.inr (26, false))
  | 4, 4 => some (.inr (27, false))
  | 4, 5 => some (.inr (28, false))
  | 4, 6 => some (.inr (29, false))
  | 4, 7 => some (.inl (0, 60))
  | 4, 8 => some (.inl (0, 365))
  | 4, 9 => some (.inl (0, 60))
  | 4, 10 => some (.inl (0, 2000))
  | 5, 0 => some (.inr (30, false))
  | 5, 2 => some (.inl (0, 7320))
  | 5, 3 => some (.inr (31, false))
  | 5, 4 => some (.inr (32, false))
  | 5, 5 => some (.inr (33, false))
  | 5, 6 => some (.inr (34, false))
  | 5, 7 => some (.inr (35, false))
  | 5, 8 => some (.inr (36, false))
  | 5, 10 => some (.inl (-1, 9))
  | 6, 0 => some (.inr (37, false))
  | 6, 2 => some (.inr (38, false))
  | 6, 3 => some (.inr (39, false))
  | 7, 0 => some (.inr (22, false))
  | 7, 1 => some (.inr (23, false))
  | 7, 2 => some (.inl (0, 60))
  | 9, 0 => some (.inl (0, 12))
  | 9, 1 => some (.inl (0, 1440))
  | 9, 2 => some (.inr (40, false))
  | 9, 3 => some (.inr (41, false))
  | 9, 4 => some (.inl (0, 30))
  | 10, 0 => some (.inr (60, false))
  | 10, 1 => some (.inr (61, false))
  | 10, 2 => some (.inr (62, false))
  | 10, 3 => some (.inr (63, false))
  | 10, 4 => some (.inr (64, false))
  | 10, 5 => some (.inr (65, false))
  | 10, 6 => some (.inr (66, false))
  | 10, 7 => some (.inr (67, false))
  | 10, 8 => some (.inr (68, false))
  | 10, 9 => some (.inr (69, false))
  | 10, 10 => some (.inr (70, false))
  | 10, 11 => some (.inr (71, false))
  | 10, 12 => some (.inr (72, false))
  | 10, 13 => some (.inr (73, false))
  | 10, 14 => some (.inr (74, false))
  | 10, 15 => some (.inr (11, false))
  | 10, 16 => some (.inr (76, false))
  | 10, 17 => some (.inl (0, 4000))
  | 10, 18 => some (.inl (0, 4000))
  | 10, 19 => some (.inl (0, 4000))
  | 10, 20 => some (.inl (0, 4000))
  | 10, 21 => some (.inl (0, 4))
  | 10, 27 => some (.inr (87, false))
  | 10, 28 => some (.inr (88, false))
  | 10, 29 => some (.inr (89, false))
  | 10, 30 => some (.inr (90, false))
  | 10, 31 => some (.inr (91, false))
  | 10, 32 => some (.inr (92, false))
  | 10, 33 => some (.inr (93, false))
  | 10, 34 => some (.inr (94, false))
  | 10, 35 => some (.inr (95, false))
  | 10, 36 => some (.inr (96, false))
  | 10, 37 => some (.inr (97, false))
  | 10, 38 => some (.inr (98, false))
  | 10, 39 => some (.inr (99, false))
  | 10, 40 => some (.inl (0, 7320))
  | 10, 41 => some (.inr (101, false))
  | 10, 42 => some (.inr (102, false))
  | 10, 43 => some (.inr (103, false))
  | 10, 44 => some (.inr (104, false))
  | 10, 45 => some (.inr (105, false))
  | 10, 46 => some (.inr (106, false))
  | 21, k => if k < 4 then some (.inr (4, false)) else none
  | 22, k => if k < 60 then some (.inr (8, false)) else none
  | 25, _ => some (.inl (-1, 59))
  | 28, _ => some (.inl (0, 59))
  | 29, _ => some (.inl (0, 59))
  | 37, k => if k < 12 then some (.inr (9, false)) else none
  | 38, _ => some (.inl (0, 60))
  | 40, _ => some (.inl (0, 19))
  | 60, _ => some (.inl (0, 60))
  | 66, _ => some (.inl (-90, 90))
  | 67, _ => some (.inl (0, 31))
  | 68, _ => some (.inl (0, 8))
  | 71, _ => some (.inl (0, 12))
  | 91, _ => some (.inl (-79, 59))
  | 92, _ => some (.inl (-79, 59))
  | 101, _ => some (.inl (0, 60))
  | 102, _ => some (.inl (0, 12))
  | 103, _ => some (.inl (0, 1440))
  | 104, _ => some (.inl (0, 30))
  | 105, _ => some (.inl (0, 19))
  | _, _ => none
end
section
set_option maxHeartbeats 4000000 in
set_option maxRecDepth 100000 in
/-- Arrays.fill(b, v): every element of b is v, nothing else changes -/
theorem ct_fill (l : Launch) (g : sv_G) (A : Nat → Prop) (ty : Nat → Nat) (σ : Nat → Nat → Int) (hok : sv_ok ty σ) (b n : Nat) (hk : sv_kT (ty b) = some (.inr (.int, n))) (hn : n < 2147483647) (hA : A b) (v : Int) (hv : sv_in v) : sv_M l yJ7_fill_53178 cJ7_fill_53178 4 none { frames := 0, cells := 0, slots := 0, locals := 0 } g A ty σ [sv_r b, sv_i v] (fun r σ' => r = [] ∧ (∀ a, a ≠ b → ∀ k, σ' a k = σ a k) ∧ (∀ i : Nat, i < n → σ' b i = v) ∧ ∀ i : Nat, n ≤ i → σ' b i = σ b i) := by
  refine sv_enter (by decide) (Nat.le_of_ble_eq_true rfl) ?_
  intro p e s m args below meth c C hr
  have C : sv_C g A RJ7 cJ7_fill_53178 4 p s m args meth c := C
  have hr : meth.sig.returnType = none := hr
  refine sv_same (st2 := []) (lv2 := [(0, sv_r b), (1, sv_i v)]) rfl rfl ?_
  refine sv_go C.1 C.2.1 [(.iconst 0, 1), (.istore_n 2, 1), (.aload_n 0, 1)] (pc' := 3) (by decide +kernel) rfl (lv' := [(0, sv_r b), (1, sv_i v), (2, sv_i 0)]) (st' := [sv_r b]) rfl ?_
  refine sv_al C (t := .int) (Or.inl rfl) (by decide +kernel) hk ?_
  refine sv_go C.1 C.2.1 [(.istore_n 3, 1)] (pc' := 5) (by decide +kernel) rfl (lv' := [(0, sv_r b), (1, sv_i v), (2, sv_i 0), (3, sv_i (n : Int))]) (st' := []) rfl ?_
  have L1 : ∀ (j : Nat) (X : Int) (σ1 : Nat → Nat → Int), sv_ok ty σ1 → (0 ≤ X ∧ X ≤ n) → (∀ a, a ≠ b → ∀ k, σ1 a k = σ a k) → (∀ i : Nat, (i : Int) < X → σ1 b i = v) → (∀ i : Nat, n ≤ i → σ1 b i = σ b i) → (n : Int) - X < j → sv_E p l e { frames := 0, cells := 0, slots := 0, locals := 0 } s m args below meth c 4 g A ty (fun r σ' => r = [] ∧ (∀ a, a ≠ b → ∀ k, σ' a k = σ a k) ∧ (∀ i : Nat, i < n → σ' b i = v) ∧ ∀ i : Nat, n ≤ i → σ' b i = σ b i) σ1 5 [(0, sv_r b), (1, sv_i v), (2, sv_i X), (3, sv_i (n : Int))] [] := by
    intro j
    induction j with
    | zero => intro X σ1 hok1 hX hO hE hR hmu; exact absurd hmu (by omega)
    | succ j ih =>
      intro X σ1 hok1 hX hO hE hR hmu
      refine sv_go C.1 C.2.1 [(.iload_n 2, 1), (.iload_n 3, 1)] (pc' := 7) (by decide +kernel) rfl (lv' := [(0, sv_r b), (1, sv_i v), (2, sv_i X), (3, sv_i (n : Int))]) (st' := [sv_i (n : Int), sv_i X]) rfl ?_
      refine sv_icmp C.1 C.2.1 (cnd := .ge) (off := 13) (tgt := 20) (by decide +kernel) (by decide) ⟨by omega, by omega⟩ ⟨by omega, by omega⟩ (fun (h1 : (n : Int) ≤ X) => ?_) (fun (h1 : ¬ ((n : Int) ≤ X)) => ?_)
      · exact sv_vret C hr (by decide +kernel) hok1 ⟨rfl, hO, fun i hi => hE i (by omega), hR⟩
      · refine sv_go C.1 C.2.1 [(.aload_n 0, 1), (.iload_n 2, 1), (.iload_n 1, 1)] (pc' := 13) (by decide +kernel) rfl (lv' := [(0, sv_r b), (1, sv_i v), (2, sv_i X), (3, sv_i (n : Int))]) (st' := [sv_i v, sv_i X, sv_r b]) rfl ?_
        refine sv_is C (n := n) (by decide +kernel) hk (by omega) (by omega) (by omega) hv hA hok1 (fun hok2 => ?_)
        refine sv_go C.1 C.2.1 [(.iinc 2 1, 3)] (pc' := 17) (by decide +kernel) rfl (lv' := [(0, sv_r b), (1, sv_i v), (2, sv_i (X + 1)), (3, sv_i (n : Int))]) (st' := []) rfl ?_
        refine sv_goto C.1 C.2.1 (off := (-12)) (tgt := 5) (by decide +kernel) (by decide) ?_
        refine ih (X + 1) _ hok2 (by omega) (fun a ha k => by rw [sv_up_a ha]; exact hO a ha k) (fun i hi => ?_) (fun i hi => ?_) (by omega)
        · by_cases e : i = X.toNat
          · subst e; exact sv_up_s _ _ _ _
          · rw [sv_up_k e]; exact hE i (by omega)
        · rw [sv_up_k (by omega)]; exact hR i hi
  exact L1 (n + 1) 0 σ hok (by omega) (fun _ _ _ => rfl) (fun i hi => absurd hi (by omega)) (fun _ _ => rfl) (by omega)
end
section
theorem mw_in : Cond.initialized "java/lang/Math" ∈ lw_good := sv_mem 91 (by decide +kernel) rfl
theorem mw_min_co : Cond.code Lib.Math.min.name Lib.Math.min.code 2 (some .int) ∈ lw_good := sv_mem 806 (by decide +kernel) rfl
theorem mw_min_st : Cond.static Lib.Math.min.name ∈ lw_good := sv_mem 805 (by decide +kernel) rfl
theorem mw_max_co : Cond.code Lib.Math.max.name Lib.Math.max.code 2 (some .int) ∈ lw_good := sv_mem 798 (by decide +kernel) rfl
theorem mw_max_st : Cond.static Lib.Math.max.name ∈ lw_good := sv_mem 797 (by decide +kernel) rfl
section SVM
variable {p : Program} {l : Launch} {e : Env} {R : Room} {s : State} {m : MethodId} {args : Array Value} {below : List Frame} {meth : Method} {c : Code} {cells slots : Nat} {Q : State → Prop}
variable {cc : ByteArray} {pc nL : Nat} {Hp : Heap → Prop} {A : Nat → Prop} {lv : sv_L} {rest : List sv_T} {g : sv_G} {own : String}
theorem sv_min (C : sv_C g A own cc nL p s m args meth c) {index : Nat} {x y : Int} (hd : decode cc pc = .ok (.invokestatic index, 3)) (hl : Cond.methodLink own index Lib.Math.min.name ∈ lw_good) (h1 : sv_in x) (h2 : sv_in y) (hf : 1 ≤ R.frames) (hlo : (rest.map fun v => (sv_den v).category).sum + 13 ≤ R.locals) (hcs : cells ≤ R.cells ∧ slots ≤ R.slots)
    (kk : sv_V p l e R s m args below meth c nL A cells slots Q Hp (pc + 3) lv (sv_i (if y < x then y else x) :: rest)) : sv_V p l e R s m args below meth c nL A cells slots Q Hp pc lv (.inl y :: .inl x :: rest) := by
  intro H locs ls hH hS hll
  refine va_mmin C.1 C.2.1 (C.2.2.1.trans hll.1.symm) C.2.2.2.1 (C.2.2.2.2.1 _ hl) (C.2.2.2.2.1 _ mw_min_st) (C.2.2.2.2.1 _ mw_in) (C.2.2.2.2.1 _ mw_min_co) hf (by rw [List.map_map]; exact hlo) hcs.1 hcs.2 hd ?_
  have e1 : (if Int32.ofInt y < Int32.ofInt x then Int32.ofInt y else Int32.ofInt x) = Int32.ofInt (if y < x then y else x) := by
    by_cases q : y < x
    · rw [if_pos q, if_pos ((sv_lt h2 h1).mpr q)]
    · rw [if_neg q, if_neg (fun z => q ((sv_lt h2 h1).mp z))]
  rw [e1]
  exact kk H locs ls hH hS hll
theorem sv_max (C : sv_C g A own cc nL p s m args meth c) {index : Nat} {x y : Int} (hd : decode cc pc = .ok (.invokestatic index, 3)) (hl : Cond.methodLink own index Lib.Math.max.name ∈ lw_good) (h1 : sv_in x) (h2 : sv_in y) (hf : 1 ≤ R.frames) (hlo : (rest.map fun v => (sv_den v).category).sum + 13 ≤ R.locals) (hcs : cells ≤ R.cells ∧ slots ≤ R.slots)
    (kk : sv_V p l e R s m args below meth c nL A cells slots Q Hp (pc + 3) lv (sv_i (if x < y then y else x) :: rest)) : sv_V p l e R s m args below meth c nL A cells slots Q Hp pc lv (.inl y :: .inl x :: rest) := by
  intro H locs ls hH hS hll
  refine va_mmax C.1 C.2.1 (C.2.2.1.trans hll.1.symm) C.2.2.2.1 (C.2.2.2.2.1 _ hl) (C.2.2.2.2.1 _ mw_max_st) (C.2.2.2.2.1 _ mw_in) (C.2.2.2.2.1 _ mw_max_co) hf (by rw [List.map_map]; exact hlo) hcs.1 hcs.2 hd ?_
  have e1 : (if Int32.ofInt x < Int32.ofInt y then Int32.ofInt y else Int32.ofInt x) = Int32.ofInt (if x < y then y else x) := by
    by_cases q : x < y
    · rw [if_pos q, if_pos ((sv_lt h1 h2).mpr q)]
    · rw [if_neg q, if_neg (fun z => q ((sv_lt h1 h2).mp z))]
  rw [e1]
  exact kk H locs ls hH hS hll
end SVM
end
section
section SVW
variable {p : Program} {l : Launch} {e : Env} {R : Room} {s : State} {m : MethodId} {args : Array Value} {below : List Frame} {meth : Method} {c : Code} {cells slots : Nat} {Q : State → Prop}
variable {cc : ByteArray} {pc nL : Nat} {Hp : Heap → Prop} {A : Nat → Prop} {lv : sv_L} {rest : List sv_T}
theorem sv_tsI (hx : p.tables.exec = Jvm.exec) (hb : c.code = cc) {dflt lo hi : Int} {offs : Array Int} {len : Nat} {x off : Int} {tgt : Nat} (hd : decode cc pc = .ok (.tableswitch dflt lo hi offs, len)) (k : Int) (hk : x = k) (h : (-2147483648 ≤ k ∧ k < 2147483648) ∧ lo ≤ k ∧ k ≤ hi) (ho : offs[(k - lo).toNat]? = some off) (ht : (pc : Int) + off = (tgt : Int))
    (kk : sv_V p l e R s m args below meth c nL A cells slots Q Hp tgt lv rest) : sv_V p l e R s m args below meth c nL A cells slots Q Hp pc lv (.inl x :: rest) := by
  subst hk
  intro H locs ls hH hS hl
  refine lv_tableIn hx hb hd (by rw [sv_oi h.1]; omega) (by rw [sv_oi h.1]; omega) (by rw [sv_oi h.1]; exact ho) ht (kk H locs ls hH hS hl)
theorem sv_tsO (hx : p.tables.exec = Jvm.exec) (hb : c.code = cc) {dflt lo hi : Int} {offs : Array Int} {len : Nat} {x : Int} {tgt : Nat} (hd : decode cc pc = .ok (.tableswitch dflt lo hi offs, len)) (h1 : sv_in x) (h : x < lo ∨ hi < x) (ht : (pc : Int) + dflt = (tgt : Int))
    (kk : sv_V p l e R s m args below meth c nL A cells slots Q Hp tgt lv rest) : sv_V p l e R s m args below meth c nL A cells slots Q Hp pc lv (.inl x :: rest) :=
  fun H locs ls hH hS hl => lv_tableOut hx hb hd (by rw [sv_oi h1]; exact h) ht (kk H locs ls hH hS hl)
theorem sv_los {l : List (Int × Int)} {d x : Int} (h : ∀ q ∈ l, x ≠ q.1) : Op.lookupswitch.offset l d x = d := by
  induction l with
  | nil => rfl
  | cons q r ih =>
    obtain ⟨a, o⟩ := q
    rw [Op.lookupswitch.offset_cons, if_neg (fun e => h (a, o) List.mem_cons_self e.symm)]
    exact ih fun q hq => h q (List.mem_cons_of_mem _ hq)
theorem sv_lsI (hx : p.tables.exec = Jvm.exec) (hb : c.code = cc) {dflt : Int} {ps : Array (Int × Int)} {len : Nat} {x off : Int} {tgt : Nat} (hd : decode cc pc = .ok (.lookupswitch dflt ps, len)) (hp : (ps.toList.zip (ps.toList.drop 1)).all (fun (a, next) => a.1 < next.1) = true) (k : Int) (hk : x = k) (h : sv_in k) (ho : Op.lookupswitch.offset ps.toList dflt k = off) (ht : (pc : Int) + off = (tgt : Int))
    (kk : sv_V p l e R s m args below meth c nL A cells slots Q Hp tgt lv rest) : sv_V p l e R s m args below meth c nL A cells slots Q Hp pc lv (.inl x :: rest) := by
  subst hk
  exact fun H locs ls hH hS hl => lv_lookup hx hb hd hp (by rw [sv_oi h]; exact ho) ht (kk H locs ls hH hS hl)
theorem sv_lsO (hx : p.tables.exec = Jvm.exec) (hb : c.code = cc) {dflt : Int} {ps : Array (Int × Int)} {len : Nat} {x : Int} {tgt : Nat} (hd : decode cc pc = .ok (.lookupswitch dflt ps, len)) (hp : (ps.toList.zip (ps.toList.drop 1)).all (fun (a, next) => a.1 < next.1) = true) (h : sv_in x) (hn : ∀ q ∈ ps.toList, x ≠ q.1) (ht : (pc : Int) + dflt = (tgt : Int))
    (kk : sv_V p l e R s m args below meth c nL A cells slots Q Hp tgt lv rest) : sv_V p l e R s m args below meth c nL A cells slots Q Hp pc lv (.inl x :: rest) :=
  fun H locs ls hH hS hl => lv_lookup hx hb hd hp (by rw [sv_oi h]; exact sv_los hn) ht (kk H locs ls hH hS hl)
end SVW
end
section
/-! rows for safety walks: numbers that may be too large, reads by the store's spec -/
theorem sv_wr (x : Int) : ∃ w : Int, (-2147483648 ≤ w ∧ w ≤ 2147483647) ∧ Int32.ofInt x = Int32.ofInt w :=
  ⟨(Int32.ofInt x).toInt, ⟨Int32.le_toInt _, by have := Int32.toInt_lt (Int32.ofInt x); omega⟩, (sv_io _).symm⟩
theorem sv_ioin2 (x : Int32) : -2147483648 ≤ x.toInt ∧ x.toInt ≤ 2147483647 := ⟨Int32.le_toInt x, by have := Int32.toInt_lt x; omega⟩
theorem sv_andr (x : Int) (m : Int) (h0 : 0 ≤ m) (h1 : m < 2147483648) : 0 ≤ (Int32.ofInt x &&& Int32.ofInt m).toInt ∧ (Int32.ofInt x &&& Int32.ofInt m).toInt ≤ m := by
  have hm : (Int32.ofInt m).toBitVec.toNat = m.toNat := by
    rw [show (Int32.ofInt m).toBitVec = BitVec.ofInt 32 m from rfl, BitVec.toNat_ofInt]
    omega
  have hle : ((Int32.ofInt x).toBitVec &&& (Int32.ofInt m).toBitVec).toNat ≤ m.toNat := by
    rw [BitVec.toNat_and, hm]
    exact Nat.and_le_right
  have e : (Int32.ofInt x &&& Int32.ofInt m).toInt = ((Int32.ofInt x).toBitVec &&& (Int32.ofInt m).toBitVec).toInt := by
    rw [← Int32.toInt_toBitVec, Int32.toBitVec_and]
  rw [e, BitVec.toInt_eq_toNat_of_lt (by omega)]
  omega
theorem sv_by (x : Int32) : -128 ≤ x.toInt8.toInt32.toInt ∧ x.toInt8.toInt32.toInt ≤ 127 := by
  rw [Int8.toInt_toInt32]
  have h1 := Int8.le_toInt x.toInt8
  have h2 := Int8.toInt_lt x.toInt8
  omega
theorem sv_boF {r : List sv_T} (h : sv_bo False r) : r = [sv_i 0] := by
  rcases h with ⟨h, -⟩ | ⟨-, h⟩
  · exact h.elim
  · exact h
theorem sv_tmodr (x c : Int) (hc : 0 < c) (hx : -2147483648 ≤ x ∧ x ≤ 2147483647) : ∃ w : Int, x.tmod c = w ∧ (-(c - 1) ≤ w ∧ w ≤ c - 1) := by
  have := tmod_bounds (a := x) hc
  exact ⟨_, rfl, by omega, by omega⟩
theorem sv_tdivr (x c : Int) (hc : 0 < c) (hx : -2147483648 ≤ x ∧ x ≤ 2147483647) : ∃ w : Int, x.tdiv c = w ∧ (-2147483648 ≤ w ∧ w ≤ 2147483647) := by
  have := sv_tdiv_in (x := x) (y := c) ⟨hx.1, by omega⟩ hc
  exact ⟨_, rfl, this.1, by have := this.2; omega⟩
theorem sv_rdn {sp : sv_Sp} {ty : Nat → Nat} {σ : Nat → Nat → Int} (h : sv_inv sp ty σ) {a k K : Nat} {lo hi : Int} (ha : ty a = K) (hs : sp K k = some (.inl (lo, hi))) : ∃ v : Int, σ a k = v ∧ (lo ≤ v ∧ v ≤ hi) := ⟨_, rfl, h.num ha hs⟩
theorem sv_rdz {sp : sv_Sp} {ty : Nat → Nat} {σ : Nat → Nat → Int} (h : sv_inv sp ty σ) {a k Ka K : Nat} (ha : ty a = Ka) (hs : sp Ka k = some (.inr (K, true))) : ∃ z : Int, σ a k = z ∧ (z = 0 ∨ ∃ q : Nat, z = (q : Int) + 1 ∧ ty q = K) := by
  have h1 := h a k
  rw [ha, hs] at h1
  rcases h1 with ⟨-, h2⟩ | h2
  · exact ⟨_, rfl, Or.inl h2⟩
  · exact ⟨_, rfl, Or.inr h2⟩
theorem sv_rdk {ty : Nat → Nat} {σ : Nat → Nat → Int} (h : sv_ok ty σ) {a k ci : Nat} {r : vw_C} (hk : sv_kT (ty a) = some (.inl ci)) (hr : vwCl[ci]? = some r) (hn : k < r.2.2) (ht : sv_ft ci k = .int) : ∃ v : Int, σ a k = v ∧ (-2147483648 ≤ v ∧ v ≤ 2147483647) := by
  have h1 := h.num hk hr hn
  rw [ht] at h1
  exact ⟨_, rfl, h1.1, by have := h1.2; omega⟩
theorem sv_rdkz {ty : Nat → Nat} {σ : Nat → Nat → Int} (h : sv_ok ty σ) {a k ci : Nat} {r : vw_C} (hk : sv_kT (ty a) = some (.inl ci)) (hr : vwCl[ci]? = some r) (hn : k < r.2.2) (ht : sv_ft ci k = .boolean) : ∃ v : Int, σ a k = v ∧ (0 ≤ v ∧ v ≤ 1) := by
  have h1 := h.num hk hr hn
  rw [ht] at h1
  exact ⟨_, rfl, h1⟩
theorem sv_rdl {ty : Nat → Nat} {σ : Nat → Nat → Int} (h : sv_ok ty σ) {a k ci : Nat} {r : vw_C} (hk : sv_kT (ty a) = some (.inl ci)) (hr : vwCl[ci]? = some r) (hn : k < r.2.2) (ht : sv_ft ci k = .long) : ∃ v : Int, σ a k = v ∧ sv_in64 v := by
  have h1 := h.num hk hr hn
  rw [ht] at h1
  exact ⟨_, rfl, h1⟩
theorem sv_rde {ty : Nat → Nat} {σ : Nat → Nat → Int} (h : sv_ok ty σ) {a k n : Nat} (hk : sv_kT (ty a) = some (.inr (.int, n))) (hn : k < n) : ∃ v : Int, σ a k = v ∧ (-2147483648 ≤ v ∧ v ≤ 2147483647) := by
  have h1 : sv_in (σ a k) := h.el hk hn
  exact ⟨_, rfl, h1.1, by have := h1.2; omega⟩
theorem sv_rdeb {ty : Nat → Nat} {σ : Nat → Nat → Int} (h : sv_ok ty σ) {a k n : Nat} (hk : sv_kT (ty a) = some (.inr (.byte, n))) (hn : k < n) : ∃ v : Int, σ a k = v ∧ (-128 ≤ v ∧ v ≤ 127) := ⟨_, rfl, h.el hk hn⟩
theorem sv_rdez {ty : Nat → Nat} {σ : Nat → Nat → Int} (h : sv_ok ty σ) {a k n : Nat} (hk : sv_kT (ty a) = some (.inr (.boolean, n))) (hn : k < n) : ∃ v : Int, σ a k = v ∧ (0 ≤ v ∧ v ≤ 1) := ⟨_, rfl, h.el hk hn⟩
theorem sv_monz {i : Int} (h0 : 0 ≤ i) (h1 : i < 12) : ∃ z : Int, sv_mon i.toNat = .int (Int32.ofInt z) ∧ (29 ≤ z ∧ z ≤ 31) := by
  have h : ∀ n : Nat, n < 12 → ∃ z : Int, sv_mon n = .int (Int32.ofInt z) ∧ (29 ≤ z ∧ z ≤ 31) := by
    intro n hn
    match n, hn with
    | 0, _ => exact ⟨31, rfl, by decide⟩
    | 1, _ => exact ⟨29, rfl, by decide⟩
    | 2, _ => exact ⟨31, rfl, by decide⟩
    | 3, _ => exact ⟨30, rfl, by decide⟩
    | 4, _ => exact ⟨31, rfl, by decide⟩
    | 5, _ => exact ⟨30, rfl, by decide⟩
    | 6, _ => exact ⟨31, rfl, by decide⟩
    | 7, _ => exact ⟨31, rfl, by decide⟩
    | 8, _ => exact ⟨30, rfl, by decide⟩
    | 9, _ => exact ⟨31, rfl, by decide⟩
    | 10, _ => exact ⟨30, rfl, by decide⟩
    | 11, _ => exact ⟨31, rfl, by decide⟩
    | n + 12, hn => omega
  exact h i.toNat (by omega)
theorem sv_mstz {i : Int} (h0 : 0 ≤ i) (h1 : i < 12) : ∃ z : Int, sv_mst i.toNat = .int (Int32.ofInt z) ∧ (0 ≤ z ∧ z ≤ 334) := by
  have h : ∀ n : Nat, n < 12 → ∃ z : Int, sv_mst n = .int (Int32.ofInt z) ∧ (0 ≤ z ∧ z ≤ 334) := by
    intro n hn
    match n, hn with
    | 0, _ => exact ⟨0, rfl, by decide⟩
    | 1, _ => exact ⟨31, rfl, by decide⟩
    | 2, _ => exact ⟨59, rfl, by decide⟩
    | 3, _ => exact ⟨90, rfl, by decide⟩
    | 4, _ => exact ⟨120, rfl, by decide⟩
    | 5, _ => exact ⟨151, rfl, by decide⟩
    | 6, _ => exact ⟨181, rfl, by decide⟩
    | 7, _ => exact ⟨212, rfl, by decide⟩
    | 8, _ => exact ⟨243, rfl, by decide⟩
    | 9, _ => exact ⟨273, rfl, by decide⟩
    | 10, _ => exact ⟨304, rfl, by decide⟩
    | 11, _ => exact ⟨334, rfl, by decide⟩
    | n + 12, hn => omega
  exact h i.toNat (by omega)
theorem sv_inv.fill {sp : sv_Sp} {ty : Nat → Nat} {σ σ' : Nat → Nat → Int} {b n : Nat} {v : Int} (h : sv_inv sp ty σ) (hs : ∀ k, sv_sat ty (sp (ty b) k) v) (h1 : ∀ a, a ≠ b → ∀ k, σ' a k = σ a k) (h2 : ∀ i : Nat, i < n → σ' b i = v) (h3 : ∀ i : Nat, n ≤ i → σ' b i = σ b i) : sv_inv sp ty σ' := by
  intro a k
  by_cases e : a = b
  · subst e
    by_cases q : k < n
    · rw [h2 k q]; exact hs k
    · rw [h3 k (by omega)]; exact h a k
  · rw [h1 a e k]; exact h a k
/-- what stays: all but the kinds of L and the fields of W -/
def sv_ofx (W : List (Nat × Nat)) (L : List Nat) (ty : Nat → Nat) (σ σ' : Nat → Nat → Int) : Prop := ∀ a k, ty a ∉ L → (ty a, k) ∉ W → σ' a k = σ a k
theorem sv_ofx.rf {W : List (Nat × Nat)} {L : List Nat} {ty : Nat → Nat} {σ : Nat → Nat → Int} : sv_ofx W L ty σ σ := fun _ _ _ _ => rfl
theorem sv_ofx.up {W : List (Nat × Nat)} {L : List Nat} {ty : Nat → Nat} {σ0 σ : Nat → Nat → Int} (h : sv_ofx W L ty σ0 σ) {a k : Nat} {z : Int} (hk : ty a ∈ L ∨ (ty a, k) ∈ W) : sv_ofx W L ty σ0 (sv_up σ a k z) := fun b j hb hw => by
  rw [show sv_up σ a k z b j = σ b j from if_neg (fun e => by
    rcases hk with hk | hk
    · exact hb (by rw [e.1]; exact hk)
    · exact hw (by rw [e.1, e.2]; exact hk))]
  exact h b j hb hw
theorem sv_ofx.tr {W W2 : List (Nat × Nat)} {L L2 : List Nat} {ty : Nat → Nat} {σ0 σ σ' : Nat → Nat → Int} (h : sv_ofx W L ty σ0 σ) (h2 : sv_ofx W2 L2 ty σ σ') (hl : ∀ x ∈ L2, x ∈ L) (hw : ∀ x ∈ W2, x ∈ W) : sv_ofx W L ty σ0 σ' := fun b j hb hv => (h2 b j (fun q => hb (hl _ q)) (fun q => hv (hw _ q))).trans (h b j hb hv)
theorem sv_ofx.at {W : List (Nat × Nat)} {L : List Nat} {ty : Nat → Nat} {σ σ' : Nat → Nat → Int} (h : sv_ofx W L ty σ σ') {a k K : Nat} (ha : ty a = K) (hK : K ∉ L) (hW : (K, k) ∉ W) : σ' a k = σ a k := h a k (by rw [ha]; exact hK) (by rw [ha]; exact hW)
theorem sv_ofx.atA {W : List (Nat × Nat)} {L : List Nat} {ty : Nat → Nat} {σ σ' : Nat → Nat → Int} (h : sv_ofx W L ty σ σ') {a k K : Nat} (ha : ty a = K) (hK : K ∉ L) (hW : ∀ q ∈ W, q.1 ≠ K) : σ' a k = σ a k := h a k (by rw [ha]; exact hK) (fun q => hW _ q ha)
theorem sv_ofx.fill {W : List (Nat × Nat)} {L : List Nat} {ty : Nat → Nat} {σ0 σ σ' : Nat → Nat → Int} {b : Nat} (h : sv_ofx W L ty σ0 σ) (hb : ty b ∈ L) (h1 : ∀ a, a ≠ b → ∀ k, σ' a k = σ a k) : sv_ofx W L ty σ0 σ' := fun a k ha hw => by
  rw [h1 a (fun e => ha (by rw [e]; exact hb)) k]; exact h a k ha hw
section SVSF
variable {p : Program} {l : Launch} {e : Env} {R : Room} {s : State} {m : MethodId} {args : Array Value} {below : List Frame} {meth : Method} {c : Code} {cells slots : Nat} {Q : State → Prop}
variable {cc : ByteArray} {pc nL : Nat} {Hp : Heap → Prop} {A : Nat → Prop} {lv : sv_L} {st rest : List sv_T}
theorem sv_sameD {st2 : List sv_T} {lv2 : sv_L} (h1 : st.map sv_den = st2.map sv_den) (h2 : sv_lm lv = sv_lm lv2) (k : sv_V p l e R s m args below meth c nL A cells slots Q Hp pc lv2 st2) : sv_V p l e R s m args below meth c nL A cells slots Q Hp pc lv st := by
  intro H locs ls hH hS hl
  rw [h1]
  rw [h2] at hl
  exact k H locs ls hH hS hl
theorem sv_w64 (x : Int64) : sv_in64 x.toInt := ⟨Int64.le_toInt x, Int64.toInt_lt x⟩
theorem sv_l2i (hx : p.tables.exec = Jvm.exec) (hb : c.code = cc) {x : Int} (hd : decode cc pc = .ok (.l2i, 1)) (k : ∀ w : Int, (-2147483648 ≤ w ∧ w ≤ 2147483647) → sv_V p l e R s m args below meth c nL A cells slots Q Hp (pc + 1) lv (sv_i w :: rest)) : sv_V p l e R s m args below meth c nL A cells slots Q Hp pc lv (sv_l x :: rest) := by
  intro H locs ls hH hS hl
  refine lv_l2i hx hb hd rfl ?_
  have := k _ (sv_ioin2 (Int64.ofInt x).toInt32) H locs ls hH hS hl
  rw [List.map_cons, sv_den_i, sv_io] at this
  exact this
theorem sv_land (hx : p.tables.exec = Jvm.exec) (hb : c.code = cc) {x y : Int} (hd : decode cc pc = .ok (.land, 1)) (k : ∀ w : Int, sv_in64 w → sv_V p l e R s m args below meth c nL A cells slots Q Hp (pc + 1) lv (sv_l w :: rest)) : sv_V p l e R s m args below meth c nL A cells slots Q Hp pc lv (sv_l y :: sv_l x :: rest) := by
  intro H locs ls hH hS hl
  refine lv_land hx hb hd ?_
  have := k _ (sv_w64 (Int64.ofInt x &&& Int64.ofInt y)) H locs ls hH hS hl
  rw [List.map_cons, sv_den_l, Int64.ofInt_toInt] at this
  exact this
theorem sv_lor (hx : p.tables.exec = Jvm.exec) (hb : c.code = cc) {x y : Int} (hd : decode cc pc = .ok (.lor, 1)) (k : ∀ w : Int, sv_in64 w → sv_V p l e R s m args below meth c nL A cells slots Q Hp (pc + 1) lv (sv_l w :: rest)) : sv_V p l e R s m args below meth c nL A cells slots Q Hp pc lv (sv_l y :: sv_l x :: rest) := by
  intro H locs ls hH hS hl
  refine lv_lor hx hb hd ?_
  have := k _ (sv_w64 (Int64.ofInt x ||| Int64.ofInt y)) H locs ls hH hS hl
  rw [List.map_cons, sv_den_l, Int64.ofInt_toInt] at this
  exact this
theorem sv_lshl (hx : p.tables.exec = Jvm.exec) (hb : c.code = cc) {x y : Int} (hd : decode cc pc = .ok (.lshl, 1)) (k : ∀ w : Int, sv_in64 w → sv_V p l e R s m args below meth c nL A cells slots Q Hp (pc + 1) lv (sv_l w :: rest)) : sv_V p l e R s m args below meth c nL A cells slots Q Hp pc lv (sv_i y :: sv_l x :: rest) := by
  intro H locs ls hH hS hl
  refine lv_lshl hx hb hd rfl ?_
  have := k _ (sv_w64 (Int64.ofInt x <<< ((Int32.ofInt y).toInt64 &&& 63))) H locs ls hH hS hl
  rw [List.map_cons, sv_den_l, Int64.ofInt_toInt] at this
  exact this
theorem sv_lshr (hx : p.tables.exec = Jvm.exec) (hb : c.code = cc) {x y : Int} (hd : decode cc pc = .ok (.lshr, 1)) (k : ∀ w : Int, sv_in64 w → sv_V p l e R s m args below meth c nL A cells slots Q Hp (pc + 1) lv (sv_l w :: rest)) : sv_V p l e R s m args below meth c nL A cells slots Q Hp pc lv (sv_i y :: sv_l x :: rest) := by
  intro H locs ls hH hS hl
  refine lv_lshr hx hb hd rfl ?_
  have := k _ (sv_w64 (Int64.ofInt x >>> ((Int32.ofInt y).toInt64 &&& 63))) H locs ls hH hS hl
  rw [List.map_cons, sv_den_l, Int64.ofInt_toInt] at this
  exact this
end SVSF
end
section
/-! strings: the literals, String.length, String.charAt -/
section SVST
variable {p : Program} {l : Launch} {e : Env} {R : Room} {s : State} {m : MethodId} {args : Array Value} {below : List Frame} {meth : Method} {c : Code} {cells slots : Nat} {Q : State → Prop}
variable {cc : ByteArray} {pc nL : Nat} {A : Nat → Prop} {lv lv' : sv_L} {st st' rest : List sv_T} {g : sv_G} {own : String} {ty : Nat → Nat} {σ : Nat → Nat → Int} {Hp : Heap → Prop}
theorem sv_S0 (C : sv_C g A own cc nL p s m args meth c) : sv_KS g A s := C.2.2.2.2.2.1.2.2.2.2.2
theorem sq_ldc (C : sv_C g A own cc nL p s m args meth c) {index : Nat} {tx : String} (i : Nat) (hi : i < 23) (hq : sq_L[i]? = some (own, index, tx)) (hd : decode cc pc = .ok (.ldc index, 2)) (k : sv_V p l e R s m args below meth c nL A cells slots Q Hp (pc + 2) lv (sv_r (g.2.2.2.2.1 i) :: st)) : sv_V p l e R s m args below meth c nL A cells slots Q Hp pc lv st :=
  fun H locs ls hH hS hl => va_ldcS C.1 C.2.1 C.2.2.2.1 (((sv_S0 C).1 i hi).1 _ hq) hd (k H locs ls hH hS hl)
theorem sq_gfv (C : sv_C g A own cc nL p s m args meth c) {index i : Nat} (hi : i < 23) (hd : decode cc pc = .ok (.getfield index, 3)) (hw : Cond.fieldLink own index "java/lang/String" "value" "[B" ∈ lw_good) (k : sv_V p l e R s m args below meth c nL A cells slots Q Hp (pc + 3) lv (sv_r (g.2.2.2.2.2 i) :: rest)) : sv_V p l e R s m args below meth c nL A cells slots Q Hp pc lv (sv_r (g.2.2.2.2.1 i) :: rest) :=
  fun H locs ls hH hS hl => vk_getf C.1 C.2.1 ((sv_S0 C).1 i hi).2.2.2.1 hS C.2.2.2.1 (C.2.2.2.2.1 _ hw) (fun _ h => h) hd (k H locs ls hH hS hl)
theorem sq_gfc (C : sv_C g A own cc nL p s m args meth c) {index i : Nat} (hi : i < 23) (hd : decode cc pc = .ok (.getfield index, 3)) (hw : Cond.fieldLink own index "java/lang/String" "coder" "B" ∈ lw_good) (k : sv_V p l e R s m args below meth c nL A cells slots Q Hp (pc + 3) lv (sv_i 0 :: rest)) : sv_V p l e R s m args below meth c nL A cells slots Q Hp pc lv (sv_r (g.2.2.2.2.1 i) :: rest) :=
  fun H locs ls hH hS hl => vk_getf C.1 C.2.1 ((sv_S0 C).1 i hi).2.2.1 hS C.2.2.2.1 (C.2.2.2.2.1 _ hw) (fun _ h => h) hd (k H locs ls hH hS hl)
theorem sq_gs (C : sv_C g A own cc nL p s m args meth c) {index : Nat} (hd : decode cc pc = .ok (.getstatic index, 3)) (hw : Cond.fieldLink own index "java/lang/String" "COMPACT_STRINGS" "Z" ∈ lw_good) (k : sv_V p l e R s m args below meth c nL A cells slots Q Hp (pc + 3) lv (sv_i 1 :: st)) : sv_V p l e R s m args below meth c nL A cells slots Q Hp pc lv st :=
  fun H locs ls hH hS hl => va_gets C.1 C.2.1 (sv_S0 C).2.1 hS C.2.2.2.1 (C.2.2.2.2.1 _ hw) (fun _ h => h) hd (k H locs ls hH hS hl)
theorem sq_gq (C : sv_C g A own cc nL p s m args meth c) {index : Nat} (hd : decode cc pc = .ok (.getstatic index, 3)) (hw : Cond.fieldLink own index "jdk/internal/util/Preconditions" "SIOOBE_FORMATTER" "Ljava/util/function/BiFunction;" ∈ lw_good) (kk : ∀ z : Int, sv_V p l e R s m args below meth c nL A cells slots Q Hp (pc + 3) lv (sv_a z :: st)) : sv_V p l e R s m args below meth c nL A cells slots Q Hp pc lv st := by
  rcases (sv_S0 C).2.2 with h | ⟨t, h⟩
  · exact fun H locs ls hH hS hl => va_gets C.1 C.2.1 h hS C.2.2.2.1 (C.2.2.2.2.1 _ hw) (fun _ h => h) hd (kk 0 H locs ls hH hS hl)
  · intro H locs ls hH hS hl
    have hk := kk ((t : Int) + 1) H locs ls hH hS hl
    rw [List.map_cons, show sv_den (sv_a ((t : Int) + 1)) = .ref t from rfl] at hk
    exact va_gets C.1 C.2.1 h hS C.2.2.2.1 (C.2.2.2.2.1 _ hw) (fun _ h => h) hd hk
theorem sq_len (C : sv_C g A own cc nL p s m args meth c) {i : Nat} (hi : i < 23) (hd : decode cc pc = .ok (.arraylength, 1)) (k : sv_V p l e R s m args below meth c nL A cells slots Q Hp (pc + 1) lv (sv_i (sq_n i : Int) :: rest)) : sv_V p l e R s m args below meth c nL A cells slots Q Hp pc lv (sv_r (g.2.2.2.2.2 i) :: rest) := by
  intro H locs ls hH hS hl
  obtain ⟨f, hf⟩ := ((sv_S0 C).1 i hi).2.2.2.2
  exact va_tlen C.1 C.2.1 hf hS rfl hd (k H locs ls hH hS hl)
theorem sq_ba (C : sv_C g A own cc nL p s m args meth c) {i : Nat} (hi : i < 23) {j : Int} (h0 : 0 ≤ j) (h1 : j < sq_n i) (hd : decode cc pc = .ok (.baload, 1)) (k : ∀ z : Int, (-2147483648 ≤ z ∧ z ≤ 2147483647) → sv_V p l e R s m args below meth c nL A cells slots Q Hp (pc + 1) lv (sv_i z :: rest)) : sv_V p l e R s m args below meth c nL A cells slots Q Hp pc lv (.inl j :: sv_r (g.2.2.2.2.2 i) :: rest) := by
  intro H locs ls hH hS hl
  obtain ⟨f, hf⟩ := ((sv_S0 C).1 i hi).2.2.2.2
  have hn := sq_n_in i
  obtain ⟨e1, e2⟩ := sv_idx (n := sq_n i) h0 h1 (by omega)
  have hk := k (f j.toNat).toInt (sv_ioin2 _) H locs ls hH hS hl
  rw [List.map_cons, sv_den_i, sv_io] at hk
  exact va_tb C.1 C.2.1 hf hS e1 (v := .int (f j.toNat)) (by rw [e2]) hd hk
theorem sq_i2c (hx : p.tables.exec = Jvm.exec) (hb : c.code = cc) {x : Int} (h : 0 ≤ x ∧ x ≤ 255) (hd : decode cc pc = .ok (.i2c, 1)) (k : sv_V p l e R s m args below meth c nL A cells slots Q Hp (pc + 1) lv (sv_i x :: rest)) : sv_V p l e R s m args below meth c nL A cells slots Q Hp pc lv (.inl x :: rest) := by
  intro H locs ls hH hS hl
  refine lv_i2c hx hb hd (v := Int32.ofInt x) ?_ (k H locs ls hH hS hl)
  have key : ∀ n : Nat, n < 256 → ((Int32.ofInt (n : Int)).toUInt32 % 65536).toInt32 = Int32.ofInt (n : Int) := by decide +kernel
  have := key x.toNat (by omega)
  rw [show ((x.toNat : Nat) : Int) = x by omega] at this
  exact this
theorem sq_recv (C : sv_C g A own cc nL p s m args meth c) {i : Nat} (hi : i < 23) {H : Heap} {locs : List Loc} (hS : va_S A s.heap H locs) : ∃ cell : Cell, H[g.2.2.2.2.1 i]? = some cell ∧ cell.vm.isStatics = false ∧ s.vm.findClass "java/lang/String" = some cell.cls := by
  obtain ⟨cell, h1, h2, h3, -⟩ := ((sv_S0 C).1 i hi).2.1.kept hS.2.1
  exact ⟨cell, h1, h2, h3⟩
/-- a call of a method of String -/
theorem sq_cv (C : sv_C g A own cc nL p s m args meth c) {y : MethodName} {bytes : ByteArray} {n : Nat} {ret : Option FieldType} {fr lo k index i : Nat} (hi0 : i < 23) {as : List sv_T} {po' : List sv_T → (Nat → Nat → Int) → Prop} (hd : decode cc pc = .ok (.invokevirtual index, 3)) (hM : sv_M l y bytes n ret { frames := fr, cells := 0, slots := 0, locals := lo } g A ty σ (sv_r (g.2.2.2.2.1 i) :: as) po') (hb : sv_cb R y bytes n ret fr lo k) (hl : Cond.methodLink own index y ∈ lw_good) (hi : Cond.instanceMethod y ∈ lw_good) (hs : Cond.selects "java/lang/String" y y ∈ lw_good) (hn : as.length = k) (hst : st = as.reverse ++ sv_r (g.2.2.2.2.1 i) :: rest) (hrm : (rest.map fun v => (sv_den v).category).sum ≤ 8) (hcs : cells ≤ R.cells ∧ slots ≤ R.slots)
    (kk : ∀ (r : List sv_T) (σ' : Nat → Nat → Int), po' r σ' → sv_ok ty σ' → sv_V p l e R s m args below meth c nL A cells slots Q (sv_H g ty σ') (pc + 3) lv (r ++ rest)) : sv_V p l e R s m args below meth c nL A cells slots Q (sv_H g ty σ) pc lv st := by
  intro H locs ls hH hS hll
  subst hst
  refine sv_cont (mc0 := 0) (pc0 := 0) (va_runV (b := g.2.2.2.2.1 i) (As := as.map sv_den) ⟨C.1, C.2.1, C.2.2.1, C.2.2.2.1, C.2.2.2.2.1⟩ hM ⟨sv_cB C hb hl, C.2.2.2.2.1 _ hi, C.2.2.2.2.1 _ hs⟩ ⟨sv_Pblind, sq_recv C hi0 hS, fun U hU hW => sv_Pat (av := sv_r (g.2.2.2.2.1 i) :: as) C.2.2.2.2.2.1 hH hS U hU hW⟩ rfl (by rw [List.length_map]; exact hn) hll.1 (by simp [sv_den_r]) (sv_room hrm) hd hcs) hS hll kk
variable {po : List sv_T → (Nat → Nat → Int) → Prop}
theorem sq_nret (C : sv_C g A own cc nL p s m args meth c) {t : FieldType} (hr : meth.sig.returnType = some t) {x : Int} (hx : narrow t (.int (Int32.ofInt x)) = .int (Int32.ofInt x)) (hd : decode cc pc = .ok (.ireturn, 1)) (hok : sv_ok ty σ) (hpo : po [sv_i x] σ) : sv_E p l e R s m args below meth c nL g A ty po σ pc lv [sv_i x] :=
  fun H locs ls hH hS hl => W.zret C.1 C.2.1 hr hx (fun t ht _ => sv_qq (r := [sv_i x]) hok (Nat.le_refl 1) hpo hH hS t ht) hS.2.2 hd C.2.2.2.2.2.2
end SVST
theorem fl_J0_9 : Cond.fieldLink RJ0 9 "java/lang/String" "value" "[B" ∈ lw_good := sv_mem 1513 (by decide +kernel) rfl
theorem fl_J0_15 : Cond.fieldLink RJ0 15 "java/lang/String" "coder" "B" ∈ lw_good := sv_mem 1514 (by decide +kernel) rfl
theorem fl_J0_38 : Cond.fieldLink RJ0 38 "java/lang/String" "COMPACT_STRINGS" "Z" ∈ lw_good := sv_mem 501 (by decide +kernel) rfl
theorem fl_J0_1053 : Cond.fieldLink RJ0 1053 "jdk/internal/util/Preconditions" "SIOOBE_FORMATTER" "Ljava/util/function/BiFunction;" ∈ lw_good := sv_mem 517 (by decide +kernel) rfl
theorem ml_J0_335 : Cond.methodLink RJ0 335 yJ0_coder_7d493 ∈ lw_good := sv_mem 497 (by decide +kernel) rfl
theorem ml_J0_492 : Cond.methodLink RJ0 492 yJ0_isLatin1_aae02 ∈ lw_good := sv_mem 507 (by decide +kernel) rfl
theorem ml_J0_495 : Cond.methodLink RJ0 495 yJ1_charAt_3b067 ∈ lw_good := sv_mem 511 (by decide +kernel) rfl
theorem ml_J1_9 : Cond.methodLink RJ1 9 yJ0_checkIndex_df160 ∈ lw_good := sv_mem 514 (by decide +kernel) rfl
theorem ml_J0_1059 : Cond.methodLink RJ0 1059 yJ3_checkIndex_8e157 ∈ lw_good := sv_mem 519 (by decide +kernel) rfl
theorem co_J0_length_8abf5 : Cond.code yJ0_length_8abf5 cJ0_length_8abf5 1 (some .int) ∈ lw_good := sv_mem 496 (by decide +kernel) rfl
theorem im_J0_length_8abf5 : Cond.instanceMethod yJ0_length_8abf5 ∈ lw_good := sv_mem 494 (by decide +kernel) rfl
theorem se_J0_length_8abf5 : Cond.selects RJ0 yJ0_length_8abf5 yJ0_length_8abf5 ∈ lw_good := sv_mem 495 (by decide +kernel) rfl
theorem co_J0_charAt_5068e : Cond.code yJ0_charAt_5068e cJ0_charAt_5068e 2 (some .char) ∈ lw_good := sv_mem 506 (by decide +kernel) rfl
theorem im_J0_charAt_5068e : Cond.instanceMethod yJ0_charAt_5068e ∈ lw_good := sv_mem 504 (by decide +kernel) rfl
theorem se_J0_charAt_5068e : Cond.selects RJ0 yJ0_charAt_5068e yJ0_charAt_5068e ∈ lw_good := sv_mem 505 (by decide +kernel) rfl
theorem co_J0_coder_7d493 : Cond.code yJ0_coder_7d493 cJ0_coder_7d493 1 (some .byte) ∈ lw_good := sv_mem 500 (by decide +kernel) rfl
theorem im_J0_coder_7d493 : Cond.instanceMethod yJ0_coder_7d493 ∈ lw_good := sv_mem 498 (by decide +kernel) rfl
theorem se_J0_coder_7d493 : Cond.selects RJ0 yJ0_coder_7d493 yJ0_coder_7d493 ∈ lw_good := sv_mem 499 (by decide +kernel) rfl
theorem co_J0_isLatin1_aae02 : Cond.code yJ0_isLatin1_aae02 cJ0_isLatin1_aae02 1 (some .boolean) ∈ lw_good := sv_mem 510 (by decide +kernel) rfl
theorem im_J0_isLatin1_aae02 : Cond.instanceMethod yJ0_isLatin1_aae02 ∈ lw_good := sv_mem 508 (by decide +kernel) rfl
theorem se_J0_isLatin1_aae02 : Cond.selects RJ0 yJ0_isLatin1_aae02 yJ0_isLatin1_aae02 ∈ lw_good := sv_mem 509 (by decide +kernel) rfl
theorem co_J0_checkIndex_df160 : Cond.code yJ0_checkIndex_df160 cJ0_checkIndex_df160 2 none ∈ lw_good := sv_mem 516 (by decide +kernel) rfl
theorem st_J0_checkIndex_df160 : Cond.static yJ0_checkIndex_df160 ∈ lw_good := sv_mem 515 (by decide +kernel) rfl
theorem co_J1_charAt_3b067 : Cond.code yJ1_charAt_3b067 cJ1_charAt_3b067 2 (some .char) ∈ lw_good := sv_mem 513 (by decide +kernel) rfl
theorem st_J1_charAt_3b067 : Cond.static yJ1_charAt_3b067 ∈ lw_good := sv_mem 512 (by decide +kernel) rfl
theorem co_J3_checkIndex_8e157 : Cond.code yJ3_checkIndex_8e157 cJ3_checkIndex_8e157 3 (some .int) ∈ lw_good := sv_mem 521 (by decide +kernel) rfl
theorem st_J3_checkIndex_8e157 : Cond.static yJ3_checkIndex_8e157 ∈ lw_good := sv_mem 520 (by decide +kernel) rfl
theorem in_J0 : Cond.initialized RJ0 ∈ lw_good := sv_mem 86 (by decide +kernel) rfl
theorem in_J1 : Cond.initialized RJ1 ∈ lw_good := sv_mem 87 (by decide +kernel) rfl
theorem in_J3 : Cond.initialized RJ3 ∈ lw_good := sv_mem 88 (by decide +kernel) rfl
set_option maxHeartbeats 4000000 in
set_option maxRecDepth 100000 in
theorem sq_coder (l : Launch) (g : sv_G) (A : Nat → Prop) (ty : Nat → Nat) (σ : Nat → Nat → Int) (hok : sv_ok ty σ) (i : Nat) (hi : i < 23) : sv_M l yJ0_coder_7d493 cJ0_coder_7d493 1 (some .byte) { frames := 0, cells := 0, slots := 0, locals := 0 } g A ty σ [sv_r (g.2.2.2.2.1 i)] (fun r σ' => σ = σ' ∧ r = [sv_i 0]) := by
  refine sv_enter (by decide) (Nat.le_of_ble_eq_true rfl) ?_
  intro p e s m args below meth c C hr
  have C : sv_C g A RJ0 cJ0_coder_7d493 1 p s m args meth c := C
  refine sv_same (st2 := []) (lv2 := [(0, sv_r (g.2.2.2.2.1 i))]) rfl rfl ?_
  refine sq_gs C (index := 38) (by decide +kernel) fl_J0_38 ?_
  refine sv_if_f C.1 C.2.1 (cnd := .eq) (off := 10) (tgt := 13) (by decide +kernel) (by decide) ⟨by omega, by omega⟩ (show ¬ ((1 : Int) = 0) by omega) ?_
  refine sv_go C.1 C.2.1 [(.aload_n 0, 1)] (pc' := 7) (by decide +kernel) rfl (lv' := [(0, sv_r (g.2.2.2.2.1 i))]) (st' := [sv_r (g.2.2.2.2.1 i)]) rfl ?_
  refine sq_gfc C hi (index := 15) (by decide +kernel) fl_J0_15 ?_
  refine sv_goto C.1 C.2.1 (off := 4) (tgt := 14) (by decide +kernel) (by decide) ?_
  exact sq_nret C (t := .byte) hr (by decide) (by decide +kernel) hok ⟨rfl, rfl⟩
set_option maxHeartbeats 4000000 in
set_option maxRecDepth 100000 in
theorem sq_isLatin1 (l : Launch) (g : sv_G) (A : Nat → Prop) (ty : Nat → Nat) (σ : Nat → Nat → Int) (hok : sv_ok ty σ) (i : Nat) (hi : i < 23) : sv_M l yJ0_isLatin1_aae02 cJ0_isLatin1_aae02 1 (some .boolean) { frames := 0, cells := 0, slots := 0, locals := 0 } g A ty σ [sv_r (g.2.2.2.2.1 i)] (fun r σ' => σ = σ' ∧ r = [sv_i 1]) := by
  refine sv_enter (by decide) (Nat.le_of_ble_eq_true rfl) ?_
  intro p e s m args below meth c C hr
  have C : sv_C g A RJ0 cJ0_isLatin1_aae02 1 p s m args meth c := C
  refine sv_same (st2 := []) (lv2 := [(0, sv_r (g.2.2.2.2.1 i))]) rfl rfl ?_
  refine sq_gs C (index := 38) (by decide +kernel) fl_J0_38 ?_
  refine sv_if_f C.1 C.2.1 (cnd := .eq) (off := 14) (tgt := 17) (by decide +kernel) (by decide) ⟨by omega, by omega⟩ (show ¬ ((1 : Int) = 0) by omega) ?_
  refine sv_go C.1 C.2.1 [(.aload_n 0, 1)] (pc' := 7) (by decide +kernel) rfl (lv' := [(0, sv_r (g.2.2.2.2.1 i))]) (st' := [sv_r (g.2.2.2.2.1 i)]) rfl ?_
  refine sq_gfc C hi (index := 15) (by decide +kernel) fl_J0_15 ?_
  refine sv_if_f C.1 C.2.1 (cnd := .ne) (off := 7) (tgt := 17) (by decide +kernel) (by decide) ⟨by omega, by omega⟩ (show ¬ ((0 : Int) ≠ 0) by omega) ?_
  refine sv_go C.1 C.2.1 [(.iconst 1, 1)] (pc' := 14) (by decide +kernel) rfl (lv' := [(0, sv_r (g.2.2.2.2.1 i))]) (st' := [sv_i 1]) rfl ?_
  refine sv_goto C.1 C.2.1 (off := 4) (tgt := 18) (by decide +kernel) (by decide) ?_
  exact sv_zret C hr (Or.inr rfl) (by decide +kernel) hok ⟨rfl, rfl⟩
set_option maxHeartbeats 4000000 in
set_option maxRecDepth 100000 in
/-- String.length() of a literal -/
theorem sq_length (l : Launch) (g : sv_G) (A : Nat → Prop) (ty : Nat → Nat) (σ : Nat → Nat → Int) (hok : sv_ok ty σ) (i : Nat) (hi : i < 23) : sv_M l yJ0_length_8abf5 cJ0_length_8abf5 1 (some .int) { frames := 1, cells := 0, slots := 0, locals := 20 } g A ty σ [sv_r (g.2.2.2.2.1 i)] (fun r σ' => σ = σ' ∧ r = [sv_i (sq_n i : Int)]) := by
  refine sv_enter (by decide) (Nat.le_of_ble_eq_true rfl) ?_
  intro p e s m args below meth c C hr
  have C : sv_C g A RJ0 cJ0_length_8abf5 1 p s m args meth c := C
  have hr : meth.sig.returnType = (some .int) := hr
  refine sv_same (st2 := []) (lv2 := [(0, sv_r (g.2.2.2.2.1 i))]) rfl rfl ?_
  refine sv_go C.1 C.2.1 [(.aload_n 0, 1)] (pc' := 1) (by decide +kernel) rfl (lv' := [(0, sv_r (g.2.2.2.2.1 i))]) (st' := [sv_r (g.2.2.2.2.1 i)]) rfl ?_
  refine sq_gfv C hi (index := 9) (by decide +kernel) fl_J0_9 ?_
  refine sq_len C hi (by decide +kernel) ?_
  refine sv_go C.1 C.2.1 [(.aload_n 0, 1)] (pc' := 6) (by decide +kernel) rfl (lv' := [(0, sv_r (g.2.2.2.2.1 i))]) (st' := [sv_r (g.2.2.2.2.1 i), sv_i (sq_n i : Int)]) rfl ?_
  refine sq_cv C hi (index := 335) (k := 0) (as := []) (rest := [sv_i (sq_n i : Int)]) (by decide +kernel) (sq_coder l g A ty σ hok i hi) ⟨co_J0_coder_7d493, in_J0, ⟨by decide, by decide, by decide +kernel⟩, Nat.le_of_ble_eq_true rfl, Nat.le_of_ble_eq_true rfl⟩ ml_J0_335 im_J0_coder_7d493 se_J0_coder_7d493 rfl rfl (Nat.le_of_ble_eq_true rfl) ⟨Nat.zero_le _, Nat.zero_le _⟩ (fun r σ1 hp hok1 => ?_)
  obtain ⟨rfl, rfl⟩ := hp
  refine sv_same (st2 := [sv_i 0, sv_i (sq_n i : Int)]) (lv2 := [(0, sv_r (g.2.2.2.2.1 i))]) rfl rfl ?_
  refine sv_go C.1 C.2.1 [(.ishr, 1)] (pc' := 10) (by decide +kernel) rfl (lv' := [(0, sv_r (g.2.2.2.2.1 i))]) (st' := [sv_i (Int32.ofInt (sq_n i : Int) >>> (Int32.ofInt 0 &&& 31)).toInt]) rfl ?_
  have hsh : (Int32.ofInt (sq_n i : Int) >>> (Int32.ofInt 0 &&& 31)).toInt = (sq_n i : Int) := by
    have key : ∀ n : Nat, n < 13 → (Int32.ofInt (n : Int) >>> (Int32.ofInt 0 &&& 31)).toInt = (n : Int) := by decide +kernel
    exact key _ (by have := sq_n_in i; omega)
  refine sv_same (st2 := [sv_i (sq_n i : Int)]) (lv2 := [(0, sv_r (g.2.2.2.2.1 i))]) (by rw [hsh]) rfl ?_
  exact sv_iret C hr (by decide +kernel) hok1 ⟨rfl, rfl⟩
set_option maxHeartbeats 4000000 in
set_option maxRecDepth 100000 in
theorem sq_pc (l : Launch) (g : sv_G) (A : Nat → Prop) (ty : Nat → Nat) (σ : Nat → Nat → Int) (hok : sv_ok ty σ) (j n : Int) (hj : 0 ≤ j ∧ j < n) (hn : n ≤ 12) (z : Int) : sv_M l yJ3_checkIndex_8e157 cJ3_checkIndex_8e157 3 (some .int) { frames := 0, cells := 0, slots := 0, locals := 0 } g A ty σ [sv_i j, sv_i n, sv_a z] (fun r σ' => σ = σ' ∧ r = [sv_i j]) := by
  refine sv_enter (by decide) (by rcases sv_rf_or z with h | ⟨a, h⟩ <;> simp only [List.map_cons, List.map_nil, sv_den_a, sv_den_i, h] <;> exact Nat.le_of_ble_eq_true rfl) ?_
  intro p e s m args below meth c C hr
  have C : sv_C g A RJ3 cJ3_checkIndex_8e157 3 p s m args meth c := C
  have hr : meth.sig.returnType = (some .int) := hr
  refine sv_same (st2 := []) (lv2 := [(0, sv_i j), (1, sv_i n), (2, sv_a z)]) rfl rfl ?_
  refine sv_go C.1 C.2.1 [(.iload_n 0, 1)] (pc' := 1) (by decide +kernel) rfl (lv' := [(0, sv_i j), (1, sv_i n), (2, sv_a z)]) (st' := [sv_i j]) rfl ?_
  refine sv_if_f C.1 C.2.1 (cnd := .lt) (off := 8) (tgt := 9) (by decide +kernel) (by decide) ⟨by omega, by omega⟩ (show ¬ (j < 0) by omega) ?_
  refine sv_go C.1 C.2.1 [(.iload_n 0, 1), (.iload_n 1, 1)] (pc' := 6) (by decide +kernel) rfl (lv' := [(0, sv_i j), (1, sv_i n), (2, sv_a z)]) (st' := [sv_i n, sv_i j]) rfl ?_
  refine sv_icmp_t C.1 C.2.1 (cnd := .lt) (off := 10) (tgt := 16) (by decide +kernel) (by decide) ⟨by omega, by omega⟩ ⟨by omega, by omega⟩ (show j < n by omega) ?_
  refine sv_go C.1 C.2.1 [(.iload_n 0, 1)] (pc' := 17) (by decide +kernel) rfl (lv' := [(0, sv_i j), (1, sv_i n), (2, sv_a z)]) (st' := [sv_i j]) rfl ?_
  exact sv_iret C hr (by decide +kernel) hok ⟨rfl, rfl⟩
set_option maxHeartbeats 4000000 in
set_option maxRecDepth 100000 in
theorem sq_ci (l : Launch) (g : sv_G) (A : Nat → Prop) (ty : Nat → Nat) (σ : Nat → Nat → Int) (hok : sv_ok ty σ) (j n : Int) (hj : 0 ≤ j ∧ j < n) (hn : n ≤ 12) : sv_M l yJ0_checkIndex_df160 cJ0_checkIndex_df160 2 none { frames := 1, cells := 0, slots := 0, locals := 22 } g A ty σ [sv_i j, sv_i n] (fun r σ' => σ = σ' ∧ r = []) := by
  refine sv_enter (by decide) (Nat.le_of_ble_eq_true rfl) ?_
  intro p e s m args below meth c C hr
  have C : sv_C g A RJ0 cJ0_checkIndex_df160 2 p s m args meth c := C
  have hr : meth.sig.returnType = none := hr
  refine sv_same (st2 := []) (lv2 := [(0, sv_i j), (1, sv_i n)]) rfl rfl ?_
  refine sv_go C.1 C.2.1 [(.iload_n 0, 1), (.iload_n 1, 1)] (pc' := 2) (by decide +kernel) rfl (lv' := [(0, sv_i j), (1, sv_i n)]) (st' := [sv_i n, sv_i j]) rfl ?_
  refine sq_gq C (index := 1053) (by decide +kernel) fl_J0_1053 (fun z => ?_)
  refine sv_cs C (index := 1059) (k := 3) (as := [sv_i j, sv_i n, sv_a z]) (rest := []) (by decide +kernel) (sq_pc l g A ty σ hok j n hj hn z) ⟨co_J3_checkIndex_8e157, in_J3, ⟨by decide, by decide, by decide +kernel⟩, Nat.le_of_ble_eq_true rfl, Nat.le_of_ble_eq_true rfl⟩ ml_J0_1059 st_J3_checkIndex_8e157 rfl rfl (Nat.le_of_ble_eq_true rfl) ⟨Nat.zero_le _, Nat.zero_le _⟩ (fun r σ1 hp hok1 => ?_)
  obtain ⟨rfl, rfl⟩ := hp
  refine sv_same (st2 := [sv_i j]) (lv2 := [(0, sv_i j), (1, sv_i n)]) rfl rfl ?_
  refine sv_go C.1 C.2.1 [(.pop, 1)] (pc' := 9) (by decide +kernel) rfl (lv' := [(0, sv_i j), (1, sv_i n)]) (st' := []) rfl ?_
  exact sv_vret C hr (by decide +kernel) hok1 ⟨rfl, rfl⟩
set_option maxHeartbeats 4000000 in
set_option maxRecDepth 100000 in
theorem sq_ch1 (l : Launch) (g : sv_G) (A : Nat → Prop) (ty : Nat → Nat) (σ : Nat → Nat → Int) (hok : sv_ok ty σ) (i : Nat) (hi : i < 23) (j : Int) (hj : 0 ≤ j ∧ j < sq_n i) : sv_M l yJ1_charAt_3b067 cJ1_charAt_3b067 2 (some .char) { frames := 2, cells := 0, slots := 0, locals := 43 } g A ty σ [sv_r (g.2.2.2.2.2 i), sv_i j] (fun r σ' => σ = σ' ∧ ∃ rv : Int, r = [sv_i rv] ∧ (0 ≤ rv ∧ rv ≤ 255)) := by
  refine sv_enter (by decide) (Nat.le_of_ble_eq_true rfl) ?_
  intro p e s m args below meth c C hr
  have C : sv_C g A RJ1 cJ1_charAt_3b067 2 p s m args meth c := C
  have hn := sq_n_in i
  refine sv_same (st2 := []) (lv2 := [(0, sv_r (g.2.2.2.2.2 i)), (1, sv_i j)]) rfl rfl ?_
  refine sv_go C.1 C.2.1 [(.iload_n 1, 1), (.aload_n 0, 1)] (pc' := 2) (by decide +kernel) rfl (lv' := [(0, sv_r (g.2.2.2.2.2 i)), (1, sv_i j)]) (st' := [sv_r (g.2.2.2.2.2 i), sv_i j]) rfl ?_
  refine sq_len C hi (by decide +kernel) ?_
  refine sv_cs C (index := 9) (k := 2) (as := [sv_i j, sv_i (sq_n i : Int)]) (rest := []) (by decide +kernel) (sq_ci l g A ty σ hok j (sq_n i : Int) hj (by omega)) ⟨co_J0_checkIndex_df160, in_J0, ⟨by decide, by decide, by decide +kernel⟩, Nat.le_of_ble_eq_true rfl, Nat.le_of_ble_eq_true rfl⟩ ml_J1_9 st_J0_checkIndex_df160 rfl rfl (Nat.le_of_ble_eq_true rfl) ⟨Nat.zero_le _, Nat.zero_le _⟩ (fun r σ1 hp hok1 => ?_)
  obtain ⟨rfl, rfl⟩ := hp
  refine sv_same (st2 := []) (lv2 := [(0, sv_r (g.2.2.2.2.2 i)), (1, sv_i j)]) rfl rfl ?_
  refine sv_go C.1 C.2.1 [(.aload_n 0, 1), (.iload_n 1, 1)] (pc' := 8) (by decide +kernel) rfl (lv' := [(0, sv_r (g.2.2.2.2.2 i)), (1, sv_i j)]) (st' := [sv_i j, sv_r (g.2.2.2.2.2 i)]) rfl ?_
  refine sq_ba C hi hj.1 hj.2 (by decide +kernel) (fun z hz => ?_)
  refine sv_go C.1 C.2.1 [(.sipush 255, 3), (.iand, 1)] (pc' := 13) (by decide +kernel) rfl (lv' := [(0, sv_r (g.2.2.2.2.2 i)), (1, sv_i j)]) (st' := [sv_i (Int32.ofInt z &&& Int32.ofInt 255).toInt]) rfl ?_
  have hb := sv_andr z 255 (by decide) (by decide)
  generalize (Int32.ofInt z &&& Int32.ofInt 255).toInt = w at hb ⊢
  refine sq_i2c C.1 C.2.1 hb (by decide +kernel) ?_
  refine sq_nret C (t := .char) hr ?_ (by decide +kernel) hok1 ⟨rfl, w, rfl, hb⟩
  have key : ∀ n : Nat, n < 256 → narrow .char (.int (Int32.ofInt (n : Int))) = .int (Int32.ofInt (n : Int)) := by decide +kernel
  have := key w.toNat (by omega)
  rw [show ((w.toNat : Nat) : Int) = w by omega] at this
  exact this
set_option maxHeartbeats 4000000 in
set_option maxRecDepth 100000 in
/-- String.charAt(j) of a literal -/
theorem sq_charAt (l : Launch) (g : sv_G) (A : Nat → Prop) (ty : Nat → Nat) (σ : Nat → Nat → Int) (hok : sv_ok ty σ) (i : Nat) (hi : i < 23) (j : Int) (hj : 0 ≤ j ∧ j < sq_n i) : sv_M l yJ0_charAt_5068e cJ0_charAt_5068e 2 (some .char) { frames := 3, cells := 0, slots := 0, locals := 64 } g A ty σ [sv_r (g.2.2.2.2.1 i), sv_i j] (fun r σ' => σ = σ' ∧ ∃ rv : Int, r = [sv_i rv] ∧ (0 ≤ rv ∧ rv ≤ 255)) := by
  refine sv_enter (by decide) (Nat.le_of_ble_eq_true rfl) ?_
  intro p e s m args below meth c C hr
  have C : sv_C g A RJ0 cJ0_charAt_5068e 2 p s m args meth c := C
  refine sv_same (st2 := []) (lv2 := [(0, sv_r (g.2.2.2.2.1 i)), (1, sv_i j)]) rfl rfl ?_
  refine sv_go C.1 C.2.1 [(.aload_n 0, 1)] (pc' := 1) (by decide +kernel) rfl (lv' := [(0, sv_r (g.2.2.2.2.1 i)), (1, sv_i j)]) (st' := [sv_r (g.2.2.2.2.1 i)]) rfl ?_
  refine sq_cv C hi (index := 492) (k := 0) (as := []) (rest := []) (by decide +kernel) (sq_isLatin1 l g A ty σ hok i hi) ⟨co_J0_isLatin1_aae02, in_J0, ⟨by decide, by decide, by decide +kernel⟩, Nat.le_of_ble_eq_true rfl, Nat.le_of_ble_eq_true rfl⟩ ml_J0_492 im_J0_isLatin1_aae02 se_J0_isLatin1_aae02 rfl rfl (Nat.le_of_ble_eq_true rfl) ⟨Nat.zero_le _, Nat.zero_le _⟩ (fun r σ1 hp hok1 => ?_)
  obtain ⟨rfl, rfl⟩ := hp
  refine sv_same (st2 := [sv_i 1]) (lv2 := [(0, sv_r (g.2.2.2.2.1 i)), (1, sv_i j)]) rfl rfl ?_
  refine sv_if_f C.1 C.2.1 (cnd := .eq) (off := 12) (tgt := 16) (by decide +kernel) (by decide) ⟨by omega, by omega⟩ (show ¬ ((1 : Int) = 0) by omega) ?_
  refine sv_go C.1 C.2.1 [(.aload_n 0, 1)] (pc' := 8) (by decide +kernel) rfl (lv' := [(0, sv_r (g.2.2.2.2.1 i)), (1, sv_i j)]) (st' := [sv_r (g.2.2.2.2.1 i)]) rfl ?_
  refine sq_gfv C hi (index := 9) (by decide +kernel) fl_J0_9 ?_
  refine sv_go C.1 C.2.1 [(.iload_n 1, 1)] (pc' := 12) (by decide +kernel) rfl (lv' := [(0, sv_r (g.2.2.2.2.1 i)), (1, sv_i j)]) (st' := [sv_i j, sv_r (g.2.2.2.2.2 i)]) rfl ?_
  refine sv_cs C (index := 495) (k := 2) (as := [sv_r (g.2.2.2.2.2 i), sv_i j]) (rest := []) (by decide +kernel) (sq_ch1 l g A ty σ hok1 i hi j hj) ⟨co_J1_charAt_3b067, in_J1, ⟨by decide, by decide, by decide +kernel⟩, Nat.le_of_ble_eq_true rfl, Nat.le_of_ble_eq_true rfl⟩ ml_J0_495 st_J1_charAt_3b067 rfl rfl (Nat.le_of_ble_eq_true rfl) ⟨Nat.zero_le _, Nat.zero_le _⟩ (fun r σ2 hp hok2 => ?_)
  obtain ⟨rfl, w, rfl, hb⟩ := hp
  refine sv_same (st2 := [sv_i w]) (lv2 := [(0, sv_r (g.2.2.2.2.1 i)), (1, sv_i j)]) rfl rfl ?_
  refine sq_nret C (t := .char) hr ?_ (by decide +kernel) hok2 ⟨rfl, w, rfl, hb⟩
  have key : ∀ n : Nat, n < 256 → narrow .char (.int (Int32.ofInt (n : Int))) = .int (Int32.ofInt (n : Int)) := by decide +kernel
  have := key w.toNat (by omega)
  rw [show ((w.toNat : Nat) : Int) = w by omega] at this
  exact this
end
section
/-! methods that may throw: contracts, ends, calls, a catch -/
def st_FE (first t : State) (L : List Loc) : Prop := first.WarmedH t.vm ∧ first.sameButNew ({ t with vm := first.vm } : State) L 0 0
def st_TM (l : Launch) (y : MethodName) (ws : List Cond) (rm : Room) (Pc : Array Value → State → Prop) (Qc : Array Value → State → Outcome → State → Prop) (free : Addr → Prop) : Prop :=
  MetFree l y (headSpec ws rm) Pc (fun _ _ _ _ _ => True) (fun a st o t => Qc a st o t ∧ ∃ L, st_FE st t L ∧ ∀ q ∈ L, free q.base)
def st_TQ (below : List Frame) (Qc : Array Value → State → Outcome → State → Prop) (a : Array Value) (s : State) (free : Addr → Prop) : State → Prop := fun t =>
  ∃ o, t.status = .running ∧ Ended t below o ∧ Qc a s o t ∧ ∃ L, st_FE s t L ∧ ∀ q ∈ L, free q.base
def st_Q (g : sv_G) (A : Nat → Prop) (ty : Nat → Nat) (po : List sv_T → (Nat → Nat → Int) → Prop) (pt : Nat → (Nat → Nat → Int) → Prop) : Array Value → State → Outcome → State → Prop := fun a st oc t =>
  sv_Q g A ty po a st oc t ∨ ∃ (x : Nat) (σ' : Nat → Nat → Int), oc = .threw x ∧ pt x σ' ∧ sv_ok ty σ' ∧ sv_H g ty σ' t.heap ∧ va_F A st t
/-- a contract: it returns and po holds, or it throws x and pt holds -/
def st_M (l : Launch) (y : MethodName) (cc : ByteArray) (n : Nat) (ret : Option FieldType) (rm : Room) (g : sv_G) (A : Nat → Prop) (ty : Nat → Nat) (σ : Nat → Nat → Int) (av : List sv_T) (po : List sv_T → (Nat → Nat → Int) → Prop) (pt : Nat → (Nat → Nat → Int) → Prop) : Prop :=
  st_TM l y (Cond.code y cc n ret :: lw_good) rm (sv_P g A ty σ av) (st_Q g A ty po pt) A
def st_E (p : Program) (l : Launch) (e : Env) (R : Room) (s : State) (m : MethodId) (args : Array Value) (below : List Frame) (meth : Method) (c : Code) (nL : Nat) (g : sv_G) (A : Nat → Prop) (ty : Nat → Nat) (po : List sv_T → (Nat → Nat → Int) → Prop) (pt : Nat → (Nat → Nat → Int) → Prop) (σ : Nat → Nat → Int) (pc : Nat) (lv : sv_L) (st : List sv_T) : Prop :=
  sv_V p l e R s m args below meth c nL A 0 0 (st_TQ below (st_Q g A ty po pt) args s A) (sv_H g ty σ) pc lv st
/-- x is being thrown at pc -/
def st_VT (p : Program) (l : Launch) (e : Env) (R : Room) (s : State) (m : MethodId) (args : Array Value) (below : List Frame) (meth : Method) (c : Code) (nL : Nat) (A : Nat → Prop) (cells slots : Nat) (Q : State → Prop) (Hp : Heap → Prop) (pc : Nat) (lv : sv_L) (st : List sv_T) (x : Nat) : Prop :=
  ∀ (H : Heap) (locs : List Loc) (ls : Array Slot), Hp H → va_S A s.heap H locs → lv_has ls nL (sv_lm lv) → ∀ T : State, T.heap = H → Stand p l e R s m args below meth c T locs cells slots → ∃ t, Steps p.tables e below ((T.setTop (F0 m pc ls (st.map sv_den))).pushFrame (.throwing x)) t ∧ Q t
theorem st_enter {l : Launch} {y : MethodName} {cc : ByteArray} {n : Nat} {ret : Option FieldType} {fr lo : Nat} {g : sv_G} {A : Nat → Prop} {ty : Nat → Nat} {σ : Nat → Nat → Int} {av : List sv_T} {po : List sv_T → (Nat → Nat → Int) → Prop} {pt : Nat → (Nat → Nat → Int) → Prop} (hy : plainName y.cls = true) (hn : (lg_sl (av.map sv_den)).length ≤ n)
    (body : ∀ p e s m args below meth c, sv_C g A y.cls cc n p s m args meth c → meth.sig.returnType = ret → c.exceptionTable.isEmpty = true → st_E p l e { frames := fr, cells := 0, slots := 0, locals := lo } s m args below meth c n g A ty po pt σ 0 (sv_av 0 av) []) : st_M l y cc n ret { frames := fr, cells := 0, slots := 0, locals := lo } g A ty σ av po pt := by
  unfold st_M st_TM
  refine MetFree.of_bodyS (code := cc) (maxLocals := n) (ret := ret) hy ?_ ?_
  · intro args s m h hn
    obtain ⟨meth, c, h1, h2, h3, h4, h5, h6, -, -⟩ := Cond.code_spec hn (atoms_spec (ws := Cond.code y cc n ret :: lw_good) h _ List.mem_cons_self)
    exact ⟨meth, c, h1, h2, h3, h4, h5, h6⟩
  · intro p e s m args below meth c s₁ B hml hP _
    have hh0 : s₁.heap = s.heap := by rw [B.state]; rfl
    obtain ⟨rfl, hH, hK⟩ := hP
    have hts := atoms_spec (ws := Cond.code y cc n ret :: lw_good) B.pre
    have hown : s.vm.findClass y.cls = some m.cls := findClass_of_methodNamed B.named
    have hl := lv_entry (av.map sv_den) (n := n) hn
    have hE := B.noHandlers (hts _ List.mem_cons_self)
    rw [sv_av_eq] at hl
    have K := body p e s m _ below meth c ⟨B.exec, B.bytes, hml, hown, fun w hw => hts w (List.mem_cons_of_mem _ hw), hK, B.notSynchronized⟩ B.returns hE s.heap [] _ hH va_S.rf hl
    rw [List.map_nil, ← lg_entry_eq] at K
    obtain ⟨t, a1, o, b1, b2, b3⟩ := K s₁ hh0 (Stand.of_body B)
    exact ⟨t, o, a1, b1, b2, b3⟩
theorem st_noh {c : Code} (h : c.exceptionTable.isEmpty = true) (pc : Nat) : ∀ x ∈ c.exceptionTable.toList, covers x pc = false := by
  have h0 : c.exceptionTable.size = 0 := by simpa [Array.isEmpty] using h
  have h1 : c.exceptionTable.toList = [] := List.eq_nil_of_length_eq_zero (by simpa using h0)
  intro x hx
  rw [h1] at hx
  cases hx
section STT
variable {p : Program} {l : Launch} {e : Env} {R : Room} {s : State} {m : MethodId} {args : Array Value} {below : List Frame} {meth : Method} {c : Code} {cells slots : Nat} {Q : State → Prop}
variable {cc : ByteArray} {pc nL : Nat} {A : Nat → Prop} {lv lv' : sv_L} {st st' rest : List sv_T} {g : sv_G} {own : String} {ty : Nat → Nat} {σ : Nat → Nat → Int} {po : List sv_T → (Nat → Nat → Int) → Prop} {pt : Nat → (Nat → Nat → Int) → Prop}
/-- an end by a return -/
theorem st_of (k : sv_E p l e R s m args below meth c nL g A ty po σ pc lv st) : st_E p l e R s m args below meth c nL g A ty po pt σ pc lv st := by
  intro H locs ls h1 h2 h3 T hT X
  obtain ⟨t, a1, o, b1, b2, b3, L, ⟨-, b4, b5⟩, b6⟩ := k H locs ls h1 h2 h3 T hT X
  exact ⟨t, a1, o, b1, b2, Or.inl b3, L, ⟨b4, b5⟩, b6⟩
/-- an end by a throw -/
theorem st_throw (C : sv_C g A own cc nL p s m args meth c) (hE : c.exceptionTable.isEmpty = true) {x : Nat} (hd : decode cc pc = .ok (.athrow, 1)) (hok : sv_ok ty σ) (hpt : pt x σ) : st_E p l e R s m args below meth c nL g A ty po pt σ pc lv (sv_r x :: rest) := by
  intro H locs ls hH hS hl T hT X
  obtain ⟨h1, h2, h3, h4, h5⟩ := X.athrowLeaves C.1 (g := F0 m pc ls ((sv_r x :: rest).map sv_den)) rfl rfl rfl (st_noh hE pc) (a := x) (rest := rest.map sv_den) (by simp [sv_den_r]) (by rw [C.2.1]; exact hd) C.2.2.2.2.2.2
  exact ⟨_, h1, .threw x, h2, h3, Or.inr ⟨x, σ, rfl, hpt, hok, by show sv_H g ty σ T.heap; rw [hT]; exact hH, hS.F hT⟩, locs, ⟨h4, h5⟩, hS.2.2⟩
/-- a callee's throw goes through -/
theorem st_out (C : sv_C g A own cc nL p s m args meth c) (hE : c.exceptionTable.isEmpty = true) {x : Nat} (hok : sv_ok ty σ) (hpt : pt x σ) : st_VT p l e R s m args below meth c nL A 0 0 (st_TQ below (st_Q g A ty po pt) args s A) (sv_H g ty σ) pc lv rest x := by
  intro H locs ls hH hS hl T hT X
  obtain ⟨h1, h2, h3, h4, h5⟩ := X.leaveThrown x (g := F0 m pc ls (rest.map sv_den)) rfl rfl rfl (st_noh hE pc) C.2.2.2.2.2.2
  exact ⟨_, h1, .threw x, h2, h3, Or.inr ⟨x, σ, rfl, hpt, hok, by show sv_H g ty σ T.heap; rw [hT]; exact hH, hS.F hT⟩, locs, ⟨h4, h5⟩, hS.2.2⟩
/-- a callee that may throw, at a call -/
theorem st_back {y : MethodName} {ws : List Cond} {rm : Room} {Pc : Array Value → State → Prop} {Qc : Array Value → State → Outcome → State → Prop} {free : Addr → Prop} {bytes : ByteArray} {maxL len W9 : Nat} {ret : Option FieldType}
    (hM : st_TM l y ws rm Pc Qc free) (hblind : FrameBlind Pc) (hrc : rm.cells = 0) (hrs : rm.slots = 0) (hframes : rm.frames + 1 ≤ R.frames) (hlocals : W9 + (maxL + 11) + rm.locals ≤ R.locals)
    (hws : ∀ w ∈ ws, ∀ a' U, s.WarmedH U.vm → w.before a' U = true) (hcode : Cond.code y bytes maxL ret ∈ ws) (hinit : ∀ a' U, s.WarmedH U.vm → (Cond.initialized y.cls).before a' U = true)
    {U : State} {Ls : List Loc} {c0 s0 : Nat} {gf : JFrame} {ig : Instr} {mk : MethodId} {a : Array Value} (X : Stand p l e R s m args below meth c U Ls c0 s0) (hg : gf.method = m) (hsize : gf.locals.size = c.maxLocals) (hdg : decode c.code gf.pc = .ok (ig, len))
    (hW : 2 * gf.monitorRoom + (gf.stack.map fun v => v.category).sum ≤ W9) (hn : U.methodNamed? y = some mk) (h4 : c0 ≤ R.cells) (h5 : s0 ≤ R.slots) (hp : Pc a U) :
    ∃ (o : Outcome) (t T' : State) (L : List Loc), Stand p l e R s m args below meth c T' (Ls ++ L) c0 s0 ∧ T'.heap = t.heap ∧ T'.vm = t.vm ∧ (∀ q ∈ L, free q.base) ∧ Qc a (U.calling gf mk a) o t ∧
      (∀ v, o = .returned v → Steps p.tables e below (doInvoke e (U.setTop gf) [] mk a).1 (T'.setTop { gf with pc := gf.pc + len, stack := v.toList ++ gf.stack })) ∧
      ∀ x, o = .threw x → Steps p.tables e below (doInvoke e (U.setTop gf) [] mk a).1 ((T'.setTop gf).pushFrame (.throwing x)) := by
  obtain ⟨methY, cY, hmY, hcY, -, hlY, -, -, -, -⟩ := Cond.code_spec hn (hws _ hcode a U X.warmed)
  obtain ⟨kY, hkY, -⟩ := className_of_methodNamed hn
  have hinitY : kY.init = .initialized := Cond.initialized_spec (findClass_of_methodNamed hn) hkY (hinit a U X.warmed)
  have h : At U gf.method c below := by rw [hg]; exact X.here
  have happ : (headSpec ws rm).appliesLoose y e.platform (U.calling gf mk a) = true :=
    Spec.appliesLoose_calling (g := gf) h hdg hn hkY hinitY
      (X.room_calling (g := gf) (R' := (headSpec ws rm).room) hsize hmY hcY hframes (by rw [hlY]; exact Nat.le_trans (by show _ ≤ W9 + (maxL + 11) + rm.locals; show 2 * gf.monitorRoom + (gf.stack.map fun v => v.category).sum + (maxL + 11) + rm.locals ≤ _; omega) hlocals) (by show c0 + rm.cells ≤ _; rw [hrc]; exact h4) (by show s0 + rm.slots ≤ _; rw [hrs]; exact h5)) (atoms_intro fun w hw => hws w hw _ _ X.warmed)
  obtain ⟨mid, hmid⟩ := h.above
  have hfr : (U.setTop gf).frames = (.java gf :: mid) ++ below := by rw [State.frames_setTop' gf h.top, hmid]; rfl
  obtain ⟨o, s₂, hsteps, -, hend, hq0⟩ := Steps.callFree hM p X.admits X.cas X.clock (acts := []) hfr happ (hblind _ _ gf mk hp) trivial
  have hq1 : Qc a (U.calling gf mk a) o s₂ ∧ ∃ L, st_FE (U.calling gf mk a) s₂ L ∧ ∀ q ∈ L, free q.base := hq0
  obtain ⟨hq, L, ⟨hW₂, e2, q2, q3, q4, q5, q6⟩, hL⟩ := hq1
  rw [State.frames_setTop' gf h.top] at hend
  have e3 : s₂ = ({ (U.calling gf mk a).setFrames s₂.frames with heap := s₂.heap, slotsUsed := s₂.slotsUsed } : State).setVm s₂.vm := by
    have : s₂ = ({ s₂ with vm := (U.calling gf mk a).vm } : State).setVm s₂.vm := rfl
    rw [e2] at this
    exact this
  have hW' : U.WarmedH s₂.vm := hW₂
  obtain ⟨g₀, hg0⟩ := Option.isSome_iff_exists.mp h.top
  obtain ⟨r, hr⟩ := State.topJava?_eq_some.mp hg0
  have hr' : (({ U with heap := s₂.heap, slotsUsed := s₂.slotsUsed } : State).setVm s₂.vm).frames = .java g₀ :: r := hr
  have hsame : U.sameButNew ({ U with heap := s₂.heap, slotsUsed := s₂.slotsUsed } : State) L 0 0 := by
    refine ⟨?_, q2, q3, q4, q5, q6⟩
    obtain ⟨t, ht, -⟩ := State.frames_cons hr
    show ({ U with heap := s₂.heap, slotsUsed := s₂.slotsUsed } : State) = { U.setFrames U.frames with heap := s₂.heap, slotsUsed := s₂.slotsUsed }
    rw [State.setFrames_self ht]
  subst hg
  refine ⟨o, s₂, (({ U with heap := s₂.heap, slotsUsed := s₂.slotsUsed } : State).setVm s₂.vm), L, ⟨X.admits, X.cas, X.clock, X.frames, X.room, X.hears, X.method, X.code, (X.here.setHeapUsed s₂.heap s₂.slotsUsed).setVm hW'.alike, X.tail, State.WarmedH.trans X.warmed hW', X.limits, X.bytes, X.same.trans (hsame.setVm s.vm)⟩, rfl, rfl, hL, hq, fun v hv => ?_, fun x hx => ?_⟩
  · subst hv
    obtain ⟨c₂, i₂, len₂, hc₂, hd₂, hf₂⟩ := hend
    have hcc : c₂ = c := by
      have h1 : s₂.code? gf.method = U.code? gf.method := by
        rw [State.code?_eq, State.code?_eq, hW'.alike.method?]
      exact Option.some.inj (hc₂.symm.trans (h1.trans h.code))
    subst hcc
    have hlen : len₂ = len := by rw [hdg] at hd₂; cases hd₂; rfl
    subst hlen
    have hs₂ : s₂ = (({ U with heap := s₂.heap, slotsUsed := s₂.slotsUsed } : State).setVm s₂.vm).setTop { gf with pc := gf.pc + len₂, stack := v.toList ++ gf.stack } := by
      refine e3.trans ?_
      rw [hf₂, State.calling_eq h.top, State.setFrames_setFrames, State.setTop_of_frames _ hr', hr]
      rfl
    rw [← hs₂]
    exact hsteps
  · subst hx
    have hf₂ : s₂.frames = .throwing x :: .java gf :: U.frames.tail := hend
    have hs₂ : s₂ = ((({ U with heap := s₂.heap, slotsUsed := s₂.slotsUsed } : State).setVm s₂.vm).setTop gf).pushFrame (.throwing x) := by
      refine e3.trans ?_
      rw [hf₂, State.calling_eq h.top, State.setFrames_setFrames, State.pushFrame, State.frames_setTop _ hr', State.setTop_of_frames _ hr', State.setFrames_setFrames, hr]
      rfl
    rw [← hs₂]
    exact hsteps
/-- a call of an instance method that may throw -/
theorem st_cv (C : sv_C g A own cc nL p s m args meth c) {y : MethodName} {bytes : ByteArray} {n : Nat} {ret : Option FieldType} {fr lo k index a ci : Nat} {r : vw_C} {as : List sv_T} {po' : List sv_T → (Nat → Nat → Int) → Prop} {pt' : Nat → (Nat → Nat → Int) → Prop} (hd : decode cc pc = .ok (.invokevirtual index, 3)) (hM : st_M l y bytes n ret { frames := fr, cells := 0, slots := 0, locals := lo } g A ty σ (sv_r a :: as) po' pt') (hb : sv_cb R y bytes n ret fr lo k) (hl : Cond.methodLink own index y ∈ lw_good) (hi : Cond.instanceMethod y ∈ lw_good) (hs : Cond.selects r.1 y y ∈ lw_good) (hk : sv_kT (ty a) = some (.inl ci)) (hr : vwCl[ci]? = some r) (hn : as.length = k) (hst : st = as.reverse ++ sv_r a :: rest) (hrm : (rest.map fun v => (sv_den v).category).sum ≤ 8) (hcs : cells ≤ R.cells ∧ slots ≤ R.slots)
    (kk : ∀ (r : List sv_T) (σ' : Nat → Nat → Int), po' r σ' → sv_ok ty σ' → sv_V p l e R s m args below meth c nL A cells slots Q (sv_H g ty σ') (pc + 3) lv (r ++ rest))
    (kt : ∀ (x : Nat) (σ' : Nat → Nat → Int), pt' x σ' → sv_ok ty σ' → st_VT p l e R s m args below meth c nL A cells slots Q (sv_H g ty σ') pc lv rest x) : sv_V p l e R s m args below meth c nL A cells slots Q (sv_H g ty σ) pc lv st := by
  intro H locs ls hH hS hll T hT X
  subst hst
  have hts := C.2.2.2.2.1
  obtain ⟨hco, hini, hnm, hfr, hlo⟩ := hb
  obtain ⟨cellB, hcB, hoB, hclB⟩ := sv_rcv C hH hk hr
  obtain ⟨mk, methM, hnamed, hmethM, hstM, habM⟩ := Cond.instanceMethod_spec (hts _ hi)
  obtain ⟨methM', cM, hmethM', -, -, -, -, -, -, hsigM⟩ := Cond.code_spec hnamed (hts _ hco)
  cases hmethM.symm.trans hmethM'
  obtain ⟨c2, r2, m2, q1, q2, q3, q4, kP, hkP, hkPi⟩ := Cond.selects_spec (hts _ hs)
  cases hclB.symm.trans q1
  cases (State.methodFound?_of_named hnamed ⟨hnm.1, hnm.2.1⟩).symm.trans q2
  cases hnamed.symm.trans q3
  have hselP : selectMethod e.platform s.vm cellB.cls mk = .method mk := by rw [Launch.admits_selectMethod X.admits]; exact q4
  obtain ⟨vm₁, X₁, hstep₁⟩ := X.invokevirtual C.1 C.2.2.2.1 (hts _ hl) hnamed hmethM hstM hkP hkPi ⟨hnm.1, hnm.2.1⟩ (a := a) (cell := cellB) (by rw [hT]; exact hcB)
    (fun z h => by rw [h] at hoB; cases hoB) hselP hmethM habM hkP hkPi (g := F0 m pc ls ((as.reverse ++ sv_r a :: rest).map sv_den)) rfl (argsL := as.map sv_den) (rest := rest.map sv_den) (by rw [List.length_map, hn]; have h2 := hnm.2.2; rw [hsigM] at h2; exact (Option.some.inj h2).symm) (by simp [sv_den_r]) (by rw [C.2.1]; exact hd)
  obtain ⟨o, t, T', L, X', e1, e2, hL, hq, sv, sx⟩ := st_back (gf := F0 m pc ls (rest.map sv_den)) (ig := .invokevirtual index) (len := 3) (W9 := 8) (mk := mk) (bytes := bytes) (maxL := n) (ret := ret) hM sv_Pblind rfl rfl hfr hlo (pay_in hts (sv_goodIn hco)) List.mem_cons_self (fun a' U hW => word_at hW (Or.inl (by first | rfl | simp [Cond.onTables, Cond.keeps, Cond.steady])) (hts _ hini)) X₁ rfl (hll.1.trans C.2.2.1.symm) (by rw [C.2.1]; exact hd) (sv_room hrm) (X₁.named hnamed) hcs.1 hcs.2 (sv_Pat (av := sv_r a :: as) C.2.2.2.2.2.1 hH hS (T.setVm vm₁) hT X₁.warmed)
  have st0 : ∀ tg, Steps p.tables e below (doInvoke e ((T.setVm vm₁).setTop (F0 m pc ls (rest.map sv_den))) [] mk (Value.ref a :: as.map sv_den).toArray).1 tg → Steps p.tables e below (T.setTop (F0 m pc ls ((as.reverse ++ sv_r a :: rest).map sv_den))) tg := fun tg h => hstep₁ _ fun acts => by rw [doInvoke_state]; exact h
  have hS' : va_F A ((T.setVm vm₁).calling (F0 m pc ls (rest.map sv_den)) mk (Value.ref a :: as.map sv_den).toArray) t → va_S A s.heap T'.heap (locs ++ L) := fun ⟨hz, hk⟩ => ⟨Nat.le_trans hS.1 (by rw [e1, ← hT]; exact hz), fun q h1 h2 => by rw [e1, hk q (by show q < T.heap.size; rw [hT]; exact Nat.lt_of_lt_of_le h1 hS.1) h2]; show T.heap[q]? = _; rw [hT]; exact hS.2.1 q h1 h2, fun q hq => by
    rcases List.mem_append.mp hq with h | h
    · exact hS.2.2 q h
    · exact hL q h⟩
  rcases hq with ⟨rv, σ', ho, hlen, hp, hok, hH', hF⟩ | ⟨x, σ', ho, hp, hok, hH', hF⟩
  · obtain ⟨t2, a1, b1⟩ := kk rv σ' hp hok T'.heap (locs ++ L) ls (by rw [e1]; exact hH') (hS' hF) hll T' rfl X'
    refine ⟨t2, st0 _ ((sv _ ho).trans ?_), b1⟩
    have hstk : (sv_ret rv).toList ++ rest.map sv_den = (rv ++ rest).map sv_den := by
      rw [List.map_append]
      match rv, hlen with
      | [], _ => rfl
      | [x], _ => rfl
    show Steps p.tables e below (T'.setTop (F0 m (pc + 3) ls ((sv_ret rv).toList ++ rest.map sv_den))) t2
    rw [hstk]
    exact a1
  · obtain ⟨t2, a1, b1⟩ := kt x σ' hp hok T'.heap (locs ++ L) ls (by rw [e1]; exact hH') (hS' hF) hll T' rfl X'
    exact ⟨t2, st0 _ ((sx _ ho).trans a1), b1⟩
end STT
/-! a catch in the method itself, its class's entry cold or warm -/
def st_finds (e : Env) (s : State) (f : JFrame) (a : Addr) (h : Handler) (vm' : Vm) : Prop :=
  ∀ (Q : Handler → Pre) (E : CtlPost) (d : Bool) (acts : List Action), wp (findHandler f a) Q E e d acts s ↔ Q h d acts (s.setVm vm')
theorem st_find {e : Env} {s : State} {f : JFrame} {a : Addr} {meth : Method} {code : Code} (hm : s.vm.method? f.method = some meth) (hc : meth.code = some code) (x : ExceptionTableEntry) (hsplit : code.exceptionTable.toList = [x]) (hx : covers x f.pc = true) (h0 : x.catchType ≠ 0) {c : ClassId} {cell : Cell}
    (hl : s.vm.ClassLinks e.platform f.method.cls x.catchType c) (hcell : s.heap[a]? = some cell) (hobj : ∀ k, cell.vm ≠ .statics k) (hk : ∃ k, s.vm.classes[cell.cls]? = some k) (hcl : ∃ k, s.vm.classes[c]? = some k) (hfit : s.vm.assignable cell.cls c = true) :
    st_finds e s f a (.found x.handlerPc) (s.vm.noted f.method.cls x.catchType (.cls c)) := by
  intro Q E d acts
  rw [Jvm.W.findHandler_eq hm hc, hsplit]
  simp only [covers] at hx
  obtain ⟨ha, ht⟩ := (resolveClass_links e.toSetting hl).op (op := VmOp.resolveClass f.method.cls x.catchType) rfl
  have hal : s.vm.Alike (s.vm.noted f.method.cls x.catchType (.cls c)) := (Vm.Alike.refl s.vm).noted _ _ _
  obtain ⟨k1, hk1⟩ := hk
  obtain ⟨k2, hk2⟩ := hcl
  obtain ⟨k1', hk1', -⟩ := hal.2.2 _ _ hk1
  obtain ⟨k2', hk2', -⟩ := hal.2.2 _ _ hk2
  have hfit' : (s.vm.noted f.method.cls x.catchType (.cls c)).assignable cell.cls c = true := by rw [hal.assignable]; exact hfit
  simp [findHandler.go, hx, h0, ha, ht, hcell, hobj, hk1', hk2', hfit', VmOp.dirties, VmOp.acts]
theorem st_stepC {e : Env} {s : State} {a : Addr} {f : JFrame} {r : List Frame} {pc : Nat} {vm' : Vm} (hfind : st_finds e s f a (.found pc) vm') :
    (stepThrowing e s a (.java f :: r)).Is ((s.setVm vm').setFrames (.java { f with pc := pc, stack := [.ref a] } :: r)) [] := by
  simp only [stepThrowing, searchFrame, vmDo]
  generalize hr : Sem.go _ e false [] s = res
  obtain ⟨as, rfl, ha⟩ := Sem.eq_ok_of hr (a := Handler.found pc) (s' := s.setVm vm') (acts' := []) (by simp [hfind _ _ _ _])
  exact ⟨rfl, ha⟩
theorem st_setF (u : State) (vm' : Vm) (F G : List Frame) : ((u.setFrames F).setVm vm').setFrames G = (u.setVm vm').setFrames G := by
  have h1 : (u.setFrames F).setVm vm' = (u.setVm vm').setFrames F := rfl
  rw [h1, State.setFrames_setFrames]
theorem st_stepsC {tb : Tables} {e : Env} {s target : State} {g : JFrame} {c : Code} {below : List Frame} {a : Addr} (h : At s g.method c below) {pc : Nat} {vm' : Vm}
    (hfind : st_finds e ((s.setTop g).pushFrame (.throwing a)) g a (.found pc) vm') (hrest : Steps tb e below ((s.setVm vm').setTop { g with pc := pc, stack := [.ref a] }) target) :
    Steps tb e below ((s.setTop g).pushFrame (.throwing a)) target := by
  obtain ⟨hgo, hw⟩ := h.throwing a
  refine Steps.head hgo hw ?_
  rw [stepThread_throwing (frames_entered h.top _), (st_stepC (s := (s.setTop g).pushFrame (.throwing a)) hfind).1]
  obtain ⟨g₀, hg⟩ := Option.isSome_iff_exists.mp h.top
  obtain ⟨r, hr⟩ := State.topJava?_eq_some.mp hg
  have hr' : (s.setVm vm').frames = .java g₀ :: r := hr
  rw [State.setTop_of_frames _ hr'] at hrest
  rw [hr, List.tail_cons, State.pushFrame, st_setF, State.setTop_of_frames _ hr, st_setF]
  exact hrest
section STC
variable {p : Program} {l : Launch} {e : Env} {R : Room} {s : State} {m : MethodId} {args : Array Value} {below : List Frame} {meth : Method} {c : Code} {cells slots : Nat} {Q : State → Prop}
variable {cc : ByteArray} {pc nL : Nat} {A : Nat → Prop} {lv : sv_L} {rest : List sv_T} {g : sv_G} {own : String} {ty : Nat → Nat} {σ : Nat → Nat → Int}
theorem st_caught (C : sv_C g A own cc nL p s m args meth c) {x ci : Nat} {r : vw_C} {en : ExceptionTableEntry} (hT : c.exceptionTable.toList = [en]) (hx : covers en pc = true) (h0 : en.catchType ≠ 0) (hl : Cond.classLink own en.catchType r.1 ∈ lw_good) (hk : sv_kT (ty x) = some (.inl ci)) (hr : vwCl[ci]? = some r)
    (kk : sv_V p l e R s m args below meth c nL A cells slots Q (sv_H g ty σ) en.handlerPc lv [sv_r x]) : st_VT p l e R s m args below meth c nL A cells slots Q (sv_H g ty σ) pc lv rest x := by
  intro H locs ls hH hS hll T hT' X
  obtain ⟨cellB, hcB, hoB, hclB⟩ := sv_rcv C hH hk hr
  have hpl : e.platform.magicAccessors = ({} : Platform).magicAccessors := by rw [X.admits.platform]
  obtain ⟨c', hc', hcl⟩ := Cond.classLink_spec C.2.2.2.1 (C.2.2.2.2.1 _ hl) e.platform hpl
  cases hclB.symm.trans hc'
  obtain ⟨dk, _, _, kt, hd, _, _, _, _, hkt, _, hopen⟩ := hcl.here
  have hcl₀ := X.warmed.classLinks hcl
  have hW' : s.WarmedH (T.vm.noted m.cls en.catchType (.cls cellB.cls)) := X.warmed.noted hd hopen (State.rightAt_cls hcl)
  have hal := X.warmed.alike
  obtain ⟨kt', hkt', -⟩ := hal.2.2 _ _ hkt
  obtain ⟨t, a1, b1⟩ := kk H locs ls hH hS hll (T.setVm (T.vm.noted m.cls en.catchType (.cls cellB.cls))) hT' (X.noted hW')
  refine ⟨t, ?_, b1⟩
  exact st_stepsC X.here (st_find (s := (T.setTop (F0 m pc ls (rest.map sv_den))).pushFrame (.throwing x)) (f := F0 m pc ls (rest.map sv_den)) (meth := meth) (code := c) X.method' X.code en hT hx h0 (c := cellB.cls) (cell := cellB) hcl₀ (by show T.heap[x]? = _; rw [hT']; exact hcB) (VmData.ne_statics_of hoB) ⟨kt', hkt'⟩ ⟨kt', hkt'⟩ (va_asg _ _)) a1
end STC
end
